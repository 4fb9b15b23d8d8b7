/-! LM, part 15: calls, and the whole run -/
theorem M_facts {M : LM_M} (h : chkY M = true) :
    (if M.2.2.2.2.2.2.1 = 1 then Cond.static M.1 else Cond.instanceMethod M.1) ∈ ZB ∧ (M.2.2.2.2.2.2.1 ≠ 1 → M.1.name ≠ "<init>" → Cond.selects M.1.cls M.1 M.1 ∈ ZB) ∧ M.1.cls = onm M.2.2.2.2.1 ∧ plainName M.1.cls = true ∧ (M.1.cls ≠ "java/lang/invoke/MethodHandle" ∧ M.1.cls ≠ "java/lang/invoke/VarHandle" ∧ (parseMethodDescriptor M.1.desc).map (fun d => d.parameters.length) = some (M.2.2.2.2.2.1 - (if M.2.2.2.2.2.2.1 = 1 then 0 else 1))) ∧ M.2.2.1 ≤ 40 ∧ M.2.2.2.2.1 < 17 ∧ (M.2.2.2.2.2.2.1 ≠ 1 → 1 ≤ M.2.2.2.2.2.1 ∧ M.2.2.2.2.1 < 13) ∧ (M.1.name = "<init>" → M.2.2.2.1 = none) := by
  unfold chkY at h
  simp only [Bool.and_eq_true, Bool.or_eq_true, decide_eq_true_eq, beq_iff_eq, Bool.not_eq_true', beq_eq_false_iff_ne, ne_eq] at h
  obtain ⟨⟨⟨⟨⟨⟨⟨⟨⟨⟨⟨⟨h1, h2⟩, h3⟩, h4⟩, h5⟩, h6⟩, h7⟩, h8⟩, h9⟩, h10⟩, h11⟩, h12⟩, h13⟩ := h
  refine ⟨inT_in h1, fun n1 n2 => ?_, h3, h4, ⟨h5, h6, h7⟩, h8, h9, fun n1 => ⟨h10.resolve_left n1, h12.resolve_left n1⟩, fun n1 => h13.resolve_left (fun q => q n1)⟩
  have h2 := (h2.resolve_left (fun q => q.elim n1 n2))
  unfold selIn at h2
  split at h2
  · split at h2
    · next q hq =>
      have e : q.1 = M.1 := by simpa using h2
      refine List.mem_filter.mpr ⟨List.mem_append_left _ ?_, rfl⟩
      unfold k2_sels
      refine List.mem_map.mpr ⟨q, List.mem_of_getElem? hq, ?_⟩
      rw [e]
    · cases h2
  · exact inT_in h2
theorem lmK_of {o n : Nat} {i : Instr} {st : List LV} {k : Nat} {as rest : List LV} (h : lmK o n i st = some (k, as, rest)) :
    ∃ (x : Nat) (q : Nat × Nat × Nat × Nat) (M : LM_M), q ∈ MTC o ∧ q.1 = x ∧ q.2.1 = k ∧ MTB k = some M ∧ st = as.reverse ++ rest ∧ as.length = M.2.2.2.2.2.1 ∧ lcat rest ≤ 8 ∧ (lent as).length ≤ M.2.2.1 ∧
      ((i = .invokestatic x ∧ M.2.2.2.2.2.2.1 = 1 ∧ q.2.2.1 = 0) ∨ (i = .invokevirtual x ∧ M.2.2.2.2.2.2.1 = 0 ∧ q.2.2.1 = 0 ∧ M.1.name ≠ "<init>" ∧ ∃ a As, as = .inr (.inr a) :: As ∧ isO n a M.2.2.2.2.1 = true) ∨ (i = .invokespecial x ∧ M.2.2.2.2.2.2.1 = 0 ∧ M.1.name = "<init>" ∧ ∃ a As, as = .inr (.inr a) :: As ∧ isO n a M.2.2.2.2.1 = true)) := by
  have key : ∀ (x kind : Nat), (match (MTC o).find? (fun q => q.1 == x) with
    | some q => match MTB q.2.1 with
      | some M =>
        let np := M.2.2.2.2.2.1
        let st1 := M.2.2.2.2.2.2.1
        if np ≤ st.length ∧ lcat (st.drop np) ≤ 8 ∧ (lent ((st.take np).reverse)).length ≤ M.2.2.1 ∧ st1 = (if kind = 1 then 1 else 0) then
          let as := (st.take np).reverse
          if kind = 1 then (if q.2.2.1 = 0 then some (q.2.1, as, st.drop np) else none)
          else match as with
            | .inr (.inr a) :: _ => if isO n a M.2.2.2.2.1 && (if kind = 2 then M.1.name == "<init>" else !(M.1.name == "<init>") && q.2.2.1 == 0) then some (q.2.1, as, st.drop np) else none
            | _ => none
        else none
      | none => none
    | none => none) = some (k, as, rest) →
    ∃ (q : Nat × Nat × Nat × Nat) (M : LM_M), q ∈ MTC o ∧ q.1 = x ∧ q.2.1 = k ∧ MTB k = some M ∧ st = as.reverse ++ rest ∧ as.length = M.2.2.2.2.2.1 ∧ lcat rest ≤ 8 ∧ (lent as).length ≤ M.2.2.1 ∧
      ((kind = 1 ∧ M.2.2.2.2.2.2.1 = 1 ∧ q.2.2.1 = 0) ∨ (kind ≠ 1 ∧ kind ≠ 2 ∧ M.2.2.2.2.2.2.1 = 0 ∧ q.2.2.1 = 0 ∧ M.1.name ≠ "<init>" ∧ ∃ a As, as = .inr (.inr a) :: As ∧ isO n a M.2.2.2.2.1 = true) ∨ (kind = 2 ∧ M.2.2.2.2.2.2.1 = 0 ∧ M.1.name = "<init>" ∧ ∃ a As, as = .inr (.inr a) :: As ∧ isO n a M.2.2.2.2.1 = true)) := by
    intro x kind hk
    split at hk
    · next q hq =>
      obtain ⟨q1, q2⟩ := find_of hq
      split at hk
      · next M hM =>
        simp only at hk
        by_cases hc : M.2.2.2.2.2.1 ≤ st.length ∧ lcat (st.drop M.2.2.2.2.2.1) ≤ 8 ∧ (lent ((st.take M.2.2.2.2.2.1).reverse)).length ≤ M.2.2.1 ∧ M.2.2.2.2.2.2.1 = (if kind = 1 then 1 else 0)
        · rw [if_pos hc] at hk
          obtain ⟨c1, c2, c3, c4⟩ := hc
          have hst : st = (st.take M.2.2.2.2.2.1).reverse.reverse ++ st.drop M.2.2.2.2.2.1 := by rw [List.reverse_reverse, List.take_append_drop]
          have hln : (st.take M.2.2.2.2.2.1).reverse.length = M.2.2.2.2.2.1 := by rw [List.length_reverse, List.length_take]; omega
          split at hk
          · next hk1 =>
            split at hk
            · next hq0 =>
              cases hk
              rw [if_pos hk1] at c4
              exact ⟨q, M, q1, q2, rfl, hM, hst, hln, c2, c3, Or.inl ⟨hk1, c4, hq0⟩⟩
            · cases hk
          · next hk1 =>
            rw [if_neg hk1] at c4
            split at hk
            · next a As has =>
              by_cases hO : (isO n a M.2.2.2.2.1 && (if kind = 2 then M.1.name == "<init>" else !(M.1.name == "<init>") && q.2.2.1 == 0)) = true
              · rw [if_pos hO] at hk
                simp only [Bool.and_eq_true] at hO
                cases hk
                refine ⟨q, M, q1, q2, rfl, hM, hst, hln, c2, c3, Or.inr ?_⟩
                by_cases hk2 : kind = 2
                · rw [if_pos hk2] at hO
                  exact Or.inr ⟨hk2, c4, by simpa using hO.2, a, As, has, hO.1⟩
                · rw [if_neg hk2] at hO
                  simp only [Bool.and_eq_true, Bool.not_eq_true', beq_eq_false_iff_ne, ne_eq, beq_iff_eq] at hO
                  exact Or.inl ⟨hk1, hk2, c4, hO.2.2, hO.2.1, a, As, has, hO.1⟩
              · rw [if_neg hO] at hk
                cases hk
            · cases hk
        · rw [if_neg hc] at hk
          cases hk
      · cases hk
    · cases hk
  unfold lmK at h
  cases i with
  | invokevirtual x =>
    obtain ⟨q, M, h1, h2, h3, h4, h5, h6, h7, h8, h9⟩ := key x 0 h
    refine ⟨x, q, M, h1, h2, h3, h4, h5, h6, h7, h8, Or.inr (Or.inl ?_)⟩
    rcases h9 with z | z | z
    · exact absurd z.1 (by omega)
    · exact ⟨rfl, z.2.2⟩
    · exact absurd z.1 (by omega)
  | invokestatic x =>
    obtain ⟨q, M, h1, h2, h3, h4, h5, h6, h7, h8, h9⟩ := key x 1 h
    refine ⟨x, q, M, h1, h2, h3, h4, h5, h6, h7, h8, Or.inl ?_⟩
    rcases h9 with z | z | z
    · exact ⟨rfl, z.2⟩
    · exact absurd rfl z.1
    · exact absurd z.1 (by omega)
  | invokespecial x =>
    obtain ⟨q, M, h1, h2, h3, h4, h5, h6, h7, h8, h9⟩ := key x 2 h
    refine ⟨x, q, M, h1, h2, h3, h4, h5, h6, h7, h8, Or.inr (Or.inr ?_)⟩
    rcases h9 with z | z | z
    · exact absurd z.1 (by omega)
    · exact absurd rfl z.2.1
    · exact ⟨rfl, z.2⟩
  | _ => simp only at h; cases h
/-- what a run says of the machine -/
def SIM (l : Launch) (B b sA xl : Nat) (xs : Nat → Int) (D : va_G) (cA : Nat → ClassId) (X : State → Prop) (f : Nat) : Prop :=
  ∀ (d : Nat) (M : LM_M) (pc : Nat) (ls : LL) (st : List LV) (n : Nat) (h : LH) (r : Option LV) (n' : Nat) (h' : LH), lmRun xs xl f d M pc ls st n h = some (r, n', h') → okS st → okL ls → okH h → okN h → okF n h →
  ∀ (p : Program) (e : Env) (R : Room) (s : State) (m : MethodId) (args : Array Value) (below : List Frame) (meth : Method) (c : Code) (H : Heap) (locs : List Loc) (cells slots : Nat) (Q : State → Prop) (sl : Array Slot) (n0 : Nat),
    p.tables.exec = Jvm.exec → c.code = M.2.1 → c.maxLocals = M.2.2.1 → s.vm.findClass (onm M.2.2.2.2.1) = some m.cls → (∀ w ∈ ZB, w.before args s = true) → zK D cA b xl xs X s → ((M.1.name == "<init>") = true → meth.name = "<init>") → (d + 8 ≤ R.frames ∧ 64 * d + 512 ≤ R.locals) →
    lvR B b sA sl M.2.2.1 ls → va_P D zcl (zws B b sA cA n h) H → va_S (zA B) s.heap H locs → s.heap.size = B + 1 + n0 → n0 ≤ n → cells = n - n0 → cells + (n' - n) ≤ R.cells → slots + (ssum n' - ssum n) ≤ R.slots →
    (∀ (H1 : Heap) (locs1 : List Loc) (sl1 : Array Slot) (pc1 : Nat) (i : Instr) (len : Nat) (st1 : List LV), decode M.2.1 pc1 = .ok (i, len) → ilen i len = true → lmR M.2.2.2.1 i st1 = some r → okS st1 → okH h' → okN h' → okF n' h' → va_P D zcl (zws B b sA cA n' h') H1 → va_S (zA B) s.heap H1 locs1 →
      W p l e R s m args below meth c H1 locs1 (cells + (n' - n)) (slots + (ssum n' - ssum n)) Q (F0 m pc1 sl1 (st1.map (cv B b sA)))) →
    W p l e R s m args below meth c H locs cells slots Q (F0 m pc sl (st.map (cv B b sA)))
def zQ (B b sA : Nat) (D : va_G) (cA : Nat → ClassId) (r : Option LV) (n' : Nat) (h' : LH) : Array Value → State → Outcome → State → Prop := fun _ st oc t =>
  (oc = .returned (r.map (cv B b sA)) ∧ va_P D zcl (zws B b sA cA n' h') t.heap ∧ okH h' ∧ okN h' ∧ okF n' h' ∧ ∀ v, r = some v → okV v) ∧ va_F (zA B) st t
section SR
variable {l : Launch} {B b sA xl : Nat} {xs : Nat → Int} {D : va_G} {cA : Nat → ClassId} {X : State → Prop}
set_option maxHeartbeats 4000000 in
theorem met_of {f : Nat} (ih : SIM l B b sA xl xs D cA X f) {d k : Nat} {M : LM_M} (hM : MTB k = some M) {as : List LV} {n : Nat} {h : LH} {r : Option LV} {n' : Nat} {h' : LH} (hr : lmRun xs xl f d M 0 (lpad M.2.2.1 (lent as)) [] n h = some (r, n', h')) (hlen : (lent as).length ≤ M.2.2.1) (has : okS as) (hh : okH h) (hN : okN h) (hF : okF n h) :
    Met l M.1 (Cond.code M.1 M.2.1 M.2.2.1 M.2.2.2.1 :: ZB) (rmD d (n' - n) (ssum n' - ssum n)) (va_Pc (as.map (cv B b sA)) (fun U => U.heap.size = B + 1 + n ∧ va_P D zcl (zws B b sA cA n h) U.heap ∧ zK D cA b xl xs X U)) (zQ B b sA D cA r n' h') (n' - n) (ssum n' - ssum n) (zA B) := by
  obtain ⟨k1, k2⟩ := MTB_ok hM
  obtain ⟨m1, m2, m3, m4, m5, m6, m7, m8, m9⟩ := M_facts k1
  refine Met.ofW (cc := M.2.1) (maxL := M.2.2.1) (ret := M.2.2.2.1) m4 rfl ?_
  intro p e s m args below meth c s₁ Bd hml hv
  obtain ⟨rfl, hsz, hP, hZ⟩ := hv
  have hx := Bd.exec
  have hb := Bd.bytes
  have hrt := Bd.returns
  have hts0 := atoms_spec (ws := Cond.code M.1 M.2.1 M.2.2.1 M.2.2.2.1 :: ZB) Bd.pre
  have hts : ∀ w ∈ ZB, w.before (as.map (cv B b sA)).toArray s = true := fun w hw => hts0 w (List.mem_cons_of_mem _ hw)
  have hown : s.vm.findClass M.1.cls = some m.cls := findClass_of_methodNamed Bd.named
  rw [m3] at hown
  have hlocks := Bd.notSynchronized
  have hnm : meth.name = M.1.name := (name_of_methodNamed Bd.named Bd.method).1
  rw [lg_entry_eq]
  have hlv := lvR_entry B b sA hlen
  generalize (lg_sl (as.map (cv B b sA)) ++ List.replicate (M.2.2.1 - (lg_sl (as.map (cv B b sA))).length) Slot.unset).toArray = sl at hlv ⊢
  refine ih d M 0 _ [] n h r n' h' hr (fun v hv => by cases hv) (lent_okL has _) hh hN hF p e _ s m _ below meth c s.heap [] 0 0 _ sl n hx hb hml hown hts hZ (fun q => by rw [hnm]; simpa using q) ⟨Nat.le_refl _, Nat.le_refl _⟩ hlv hP va_S.rf hsz (Nat.le_refl _) (by omega) (by show 0 + (n' - n) ≤ n' - n; omega) (by show 0 + (ssum n' - ssum n) ≤ ssum n' - ssum n; omega) ?_
  intro H1 locs1 sl1 pc1 i len st1 d1 d2 d3 d4 d5 d6 d7 d8 d9
  rw [Nat.zero_add, Nat.zero_add]
  have QQ : ∀ (v : Option LV), r = v → (∀ w, v = some w → okV w) → ∀ t : State, t.heap = H1 → s.WarmedH t.vm → zQ B b sA D cA r n' h' (as.map (cv B b sA)).toArray s (.returned (v.map (cv B b sA))) t := fun v e1 e2 t ht hW => ⟨⟨by rw [e1], by rw [ht]; exact d8, d5, d6, d7, fun w hw => e2 w (e1 ▸ hw)⟩, d9.F ht⟩
  cases i with
  | return_ =>
    simp only [lmR] at d3
    split at d3
    · split at d3
      · next hn =>
        cases some_i d3
        have e1 : len = 1 := by simpa [ilen] using d2
        subst e1
        exact W.vret hx hb (by rw [hrt, hn]) (QQ none rfl (fun w hw => by cases hw)) d9.2.2 d1
      · cases d3
    · cases d3
  | ireturn =>
    simp only [lmR] at d3
    split at d3
    · next x =>
      have e1 : len = 1 := by simpa [ilen] using d2
      subst e1
      have hx1 : i32 x := (okS_c d4).1
      split at d3
      · next hn =>
        cases some_i d3
        exact W.iret hx hb (by rw [hrt, hn]) (QQ (some (.inl x)) rfl (fun w hw => by cases hw; exact hx1)) d9.2.2 d1
      · split at d3
        · next hn =>
          cases some_i d3
          refine W.zret hx hb (by rw [hrt, hn.1]) ?_ (QQ (some (.inl x)) rfl (fun w hw => by cases hw; exact hx1)) d9.2.2 d1
          rcases hn.2 with rfl | rfl <;> rfl
        · cases d3
    · cases d3
  | lreturn =>
    simp only [lmR] at d3
    split at d3
    · next x =>
      have e1 : len = 1 := by simpa [ilen] using d2
      subst e1
      have hx1 : i64 x := (okS_c d4).1
      split at d3
      · next hn =>
        cases some_i d3
        exact W.lret hx hb (by rw [hrt, hn]) (QQ (some (.inr (.inl x))) rfl (fun w hw => by cases hw; exact hx1)) d9.2.2 d1
      · cases d3
    · cases d3
  | _ => simp only [lmR] at d3; cases d3
end SR
