/-! LM, part 28: calls by contracts; a method checked node by node -/
def aK (o : Nat) (i : Instr) (st : List SE) : Option (Nat × List SE × List SE) :=
  let go (x kind : Nat) : Option (Nat × List SE × List SE) := match (MTC o).find? (fun q => q.1 == x) with
    | some q => match MTB q.2.1 with
      | some M =>
        if M.2.2.2.2.2.1 ≤ st.length ∧ acat (st.drop M.2.2.2.2.2.1) ≤ 8 ∧ acat (st.take M.2.2.2.2.2.1) ≤ M.2.2.1 ∧ M.2.2.2.2.2.2.1 = (if kind = 1 then 1 else 0) then
          if kind = 1 then (if q.2.2.1 = 0 then some (q.2.1, (st.take M.2.2.2.2.2.1).reverse, st.drop M.2.2.2.2.2.1) else none)
          else match (st.take M.2.2.2.2.2.1).reverse with
            | e :: _ => match cellsOf e with
              | some cs => if cs.all (fun a => isO NC a M.2.2.2.2.1) && (if kind = 2 then M.1.name == "<init>" else !(M.1.name == "<init>") && q.2.2.1 == 0) then some (q.2.1, (st.take M.2.2.2.2.2.1).reverse, st.drop M.2.2.2.2.2.1) else none
              | none => none
            | _ => none
        else none
      | none => none
    | none => none
  match i with
  | .invokevirtual x => go x 0
  | .invokestatic x => go x 1
  | .invokespecial x => go x 2
  | _ => none
set_option maxHeartbeats 4000000 in
theorem aK_ok {ls : LL} {h : LH} {o : Nat} {i : Instr} {ast : List SE} {st : List LV} {k : Nat} {aas ar : List SE} (ha : aK o i ast = some (k, aas, ar)) (hs : gS ls h ast st) : ∃ as rest, lmK o NC i st = some (k, as, rest) ∧ gS ls h aas as ∧ gS ls h ar rest := by
  have hlen := gS_len hs
  have key : ∀ (x kind : Nat), (match (MTC o).find? (fun q => q.1 == x) with
    | some q => match MTB q.2.1 with
      | some M =>
        if M.2.2.2.2.2.1 ≤ ast.length ∧ acat (ast.drop M.2.2.2.2.2.1) ≤ 8 ∧ acat (ast.take M.2.2.2.2.2.1) ≤ M.2.2.1 ∧ M.2.2.2.2.2.2.1 = (if kind = 1 then 1 else 0) then
          if kind = 1 then (if q.2.2.1 = 0 then some (q.2.1, (ast.take M.2.2.2.2.2.1).reverse, ast.drop M.2.2.2.2.2.1) else none)
          else match (ast.take M.2.2.2.2.2.1).reverse with
            | e :: _ => match cellsOf e with
              | some cs => if cs.all (fun a => isO NC a M.2.2.2.2.1) && (if kind = 2 then M.1.name == "<init>" else !(M.1.name == "<init>") && q.2.2.1 == 0) then some (q.2.1, (ast.take M.2.2.2.2.2.1).reverse, ast.drop M.2.2.2.2.2.1) else none
              | none => none
            | _ => none
        else none
      | none => none
    | none => none) = some (k, aas, ar) → ∃ as rest, (match (MTC o).find? (fun q => q.1 == x) with
    | some q => match MTB q.2.1 with
      | some M =>
        let np := M.2.2.2.2.2.1
        let st1 := M.2.2.2.2.2.2.1
        if np ≤ st.length ∧ lcat (st.drop np) ≤ 8 ∧ (lent ((st.take np).reverse)).length ≤ M.2.2.1 ∧ st1 = (if kind = 1 then 1 else 0) then
          let as := (st.take np).reverse
          if kind = 1 then (if q.2.2.1 = 0 then some (q.2.1, as, st.drop np) else none)
          else match as with
            | .inr (.inr a) :: _ => if isO NC a M.2.2.2.2.1 && (if kind = 2 then M.1.name == "<init>" else !(M.1.name == "<init>") && q.2.2.1 == 0) then some (q.2.1, as, st.drop np) else none
            | _ => none
        else none
      | none => none
    | none => none) = some (k, as, rest) ∧ gS ls h aas as ∧ gS ls h ar rest := by
    intro x kind hk
    split at hk
    · next q hq =>
      split at hk
      · next M hM =>
        by_cases hc : M.2.2.2.2.2.1 ≤ ast.length ∧ acat (ast.drop M.2.2.2.2.2.1) ≤ 8 ∧ acat (ast.take M.2.2.2.2.2.1) ≤ M.2.2.1 ∧ M.2.2.2.2.2.2.1 = (if kind = 1 then 1 else 0)
        · rw [if_pos hc] at hk
          obtain ⟨c1, c2, c3, c4⟩ := hc
          obtain ⟨t1, t2⟩ := gS_take M.2.2.2.2.2.1 hs
          have t3 := gS_rev t1
          have hc2 : M.2.2.2.2.2.1 ≤ st.length ∧ lcat (st.drop M.2.2.2.2.2.1) ≤ 8 ∧ (lent ((st.take M.2.2.2.2.2.1).reverse)).length ≤ M.2.2.1 ∧ M.2.2.2.2.2.2.1 = (if kind = 1 then 1 else 0) := by
            refine ⟨by omega, by rw [acat_ok t2]; exact c2, ?_, c4⟩
            rw [lent_cat]
            have : lcat (st.take M.2.2.2.2.2.1).reverse = lcat (st.take M.2.2.2.2.2.1) := by
              unfold lcat
              rw [List.map_reverse, List.sum_reverse]
            rw [this, acat_ok t1]
            exact c3
          simp only
          rw [if_pos hc2]
          by_cases hk1 : kind = 1
          · rw [if_pos hk1] at hk ⊢
            split at hk
            · next h0 =>
              cases some_i hk
              rw [if_pos h0]
              exact ⟨_, _, rfl, t3, t2⟩
            · cases hk
          · rw [if_neg hk1] at hk ⊢
            split at hk
            · next e er he =>
              split at hk
              · next cs hcs =>
                by_cases hO : (cs.all (fun a => isO NC a M.2.2.2.2.1) && (if kind = 2 then M.1.name == "<init>" else !(M.1.name == "<init>") && q.2.2.1 == 0)) = true
                · rw [if_pos hO] at hk
                  cases some_i hk
                  have t4 := t3
                  rw [he] at t4
                  obtain ⟨v, s, hv, g1, -, hs1⟩ := gS_c t4
                  obtain ⟨a, rfl, a1, a2⟩ := cellsOf_ok hcs g1
                  have hO2 : (isO NC a M.2.2.2.2.1 && (if kind = 2 then M.1.name == "<init>" else !(M.1.name == "<init>") && q.2.2.1 == 0)) = true := by
                    rw [Bool.and_eq_true] at hO ⊢
                    exact ⟨List.all_eq_true.mp hO.1 a a2, hO.2⟩
                  rw [hv]
                  simp only
                  rw [if_pos hO2, ← hv]
                  exact ⟨_, _, rfl, t3, t2⟩
                · rw [if_neg hO] at hk
                  cases hk
              · cases hk
            · cases hk
        · rw [if_neg hc] at hk
          cases hk
      · cases hk
    · cases hk
  unfold aK at ha
  unfold lmK
  cases i with
  | invokevirtual x => exact key x 0 ha
  | invokestatic x => exact key x 1 ha
  | invokespecial x => exact key x 2 ha
  | _ => simp only at ha; cases ha
/-- a contract: method, depth, arguments, cases (answer, whence it is, what the arguments then are, what places then hold), what may change, what places hold before -/
abbrev CS : Type := Option AV × PV × List (Nat × AV) × FA
abbrev SM : Type := Nat × Nat × List AV × List CS × BX × FA
def gAr : List AV → List LV → Prop
  | [], [] => True
  | a :: as, v :: vs => gV a v ∧ gAr as vs
  | _, _ => False
def resOk (c : CS) (r : Option LV) (h : LH) (as : List LV) : Prop := (match c.1, r with
  | none, none => True
  | some a, some v => gV a v ∧ (c.2.1.1 = 0 ∨ (c.2.1.1 = 2 ∧ gP [] h c.2.1 v))
  | _, _ => False) ∧ (∀ q ∈ c.2.2.1, ∃ v, as[q.1]? = some v ∧ gV q.2 v) ∧ gF h c.2.2.2
def SMok (xs : Nat → Int) (xl : Nat) (INV : LH → Prop) (S : SM) : Prop := ∀ (M : LM_M) (as : List LV) (h : LH), MTB S.1 = some M → INV h → gAr S.2.2.1 as → gF h S.2.2.2.2.2 → (lent as).length ≤ M.2.2.1 → Rn xs xl S.2.1 M 0 (lpad M.2.2.1 (lent as)) [] h (fun r h' => INV h' ∧ frm S.2.2.2.2.1 h h' ∧ ∃ c ∈ S.2.2.2.1, resOk c r h' as)
/-- a node: place, state, measure, where it goes, which contract (or case) -/
abbrev ND : Type := Nat × AS × Int × List Int × List Nat × Nat
def bxIn (bs : BX) (b : Int × Int × Int × Int) : Bool := bs.any (fun c => decide (c.1 ≤ b.1) && decide (b.2.1 ≤ c.2.1) && decide (c.2.2.1 ≤ b.2.2.1) && decide (b.2.2.2 ≤ c.2.2.2))
theorem bxIn_ok {bs : BX} {b : Int × Int × Int × Int} (h : bxIn bs b = true) {a i : Int} (hn : inBx bs a i = false) : inBx [b] a i = false := by
  unfold bxIn at h
  rw [List.any_eq_true] at h
  obtain ⟨c, c1, c2⟩ := h
  simp only [Bool.and_eq_true, decide_eq_true_eq] at c2
  unfold inBx at hn ⊢
  rw [List.any_eq_false] at hn
  have h2 := hn c c1
  simp only [Bool.and_eq_true, decide_eq_true_eq] at h2
  simp only [List.any_cons, List.any_nil, Bool.or_false]
  apply Bool.eq_false_iff.mpr
  intro q
  simp only [Bool.and_eq_true, decide_eq_true_eq] at q
  exact h2 (by omega)
theorem bxAll_ok {bs cs : BX} (h : cs.all (bxIn bs) = true) {a i : Int} (hn : inBx bs a i = false) : inBx cs a i = false := by
  unfold inBx
  rw [List.any_eq_false]
  intro c hc hq
  have h1 := bxIn_ok (List.all_eq_true.mp h c hc) hn
  unfold inBx at h1
  simp only [List.any_cons, List.any_nil, Bool.or_false] at h1
  rw [h1] at hq
  cases hq
theorem frm_tr {bs cs : BX} {h0 h h' : LH} (h1 : frm bs h0 h) (h2 : frm cs h h') (hc : cs.all (bxIn bs) = true) : frm bs h0 h' := fun a i hn => (h2 a i (bxAll_ok hc hn)).trans (h1 a i hn)
