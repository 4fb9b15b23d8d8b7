/-! LM, part 22: gets and puts by bounds -/
abbrev BX : Type := List (Int × Int × Int × Int)
def inBx (bs : BX) (a i : Int) : Bool := bs.any (fun b => decide (b.1 ≤ a) && decide (a ≤ b.2.1) && decide (b.2.2.1 ≤ i) && decide (i ≤ b.2.2.2))
def frm (bs : BX) (h h' : LH) : Prop := ∀ a i : Int, inBx bs a i = false → rd h' a i = rd h a i
def killS (bs : BX) (st : List SE) : List SE := st.map (fun e => if (e.2.1 = 2 ∨ e.2.1 = 4) ∧ inBx bs e.2.2.1 e.2.2.2.1 = true then (e.1, pv0) else e)
def killF (bs : BX) (fa : FA) : FA := fa.filter (fun q => !(inBx bs q.1 q.2.1))
theorem killS_ok {bs : BX} {ls : LL} {h h' : LH} (hf : frm bs h h') : ∀ {ast : List SE} {st : List LV}, gS ls h ast st → gS ls h' (killS bs ast) st
  | [], [], _ => trivial
  | e :: r, v :: s, hs => by
    have ih := killS_ok hf hs.2
    refine ⟨?_, ih⟩
    show gV (if (e.2.1 = 2 ∨ e.2.1 = 4) ∧ inBx bs e.2.2.1 e.2.2.2.1 = true then (e.1, pv0) else e).1 v ∧ gP ls h' (if (e.2.1 = 2 ∨ e.2.1 = 4) ∧ inBx bs e.2.2.1 e.2.2.2.1 = true then (e.1, pv0) else e).2 v
    split
    · exact ⟨hs.1.1, trivial⟩
    · next hn =>
      refine ⟨hs.1.1, ?_⟩
      have hp := hs.1.2
      unfold gP at hp ⊢
      split at hp
      · trivial
      · exact hp
      · next e2 =>
        have hb : inBx bs e.2.2.1 e.2.2.2.1 = false := by
          cases hq : inBx bs e.2.2.1 e.2.2.2.1
          · rfl
          · exact absurd ⟨Or.inl e2, hq⟩ hn
        rw [hf _ _ hb]
        exact hp
      · exact hp
      · next e2 =>
        have hb : inBx bs e.2.2.1 e.2.2.2.1 = false := by
          cases hq : inBx bs e.2.2.1 e.2.2.2.1
          · rfl
          · exact absurd ⟨Or.inr e2, hq⟩ hn
        rw [hf _ _ hb]
        exact hp
      · cases hp
  | [], _ :: _, hs => by cases hs
  | _ :: _, [], hs => by cases hs
theorem killF_ok {bs : BX} {h h' : LH} (hf : frm bs h h') {fa : FA} (hg : gF h fa) : gF h' (killF bs fa) := by
  intro q hq
  unfold killF at hq
  obtain ⟨h1, h2⟩ := List.mem_filter.mp hq
  have h3 : inBx bs q.1 q.2.1 = false := by simpa using h2
  have := hg q h1
  unfold hval at this ⊢
  rw [hf _ _ h3]
  exact this
def cellsOf (e : SE) : Option (List Int) := if e.1.1 = 2 ∧ vcount e.1 ≤ 64 then some (vlist e.1) else none
theorem cellsOf_ok {e : SE} {cs : List Int} (h : cellsOf e = some cs) {v : LV} (hv : gV e.1 v) : ∃ a, v = .inr (.inr a) ∧ inV e.1 a ∧ a ∈ cs := by
  unfold cellsOf at h
  split at h
  · next hk =>
    cases some_i h
    obtain ⟨a, rfl, ha⟩ := gV_r hv hk.1
    exact ⟨a, rfl, ha, vlist_ok ha⟩
  · cases h
def splitR (r : AV × PV) (rest : List SE) : List (List SE) := if r.1.1 = 2 ∧ r.1.2.2.2 ≠ 0 ∧ r.1.2.2.1 = r.1.2.1 + (r.1.2.2.2 : Int) then [((2, r.1.2.1, r.1.2.1, 0), r.2) :: rest, ((2, r.1.2.2.1, r.1.2.2.1, 0), r.2) :: rest] else [r :: rest]
theorem splitR_ok {ls : LL} {h : LH} {r : AV × PV} {rest : List SE} {v : LV} {s : List LV} (h1 : gV r.1 v) (h2 : gP ls h r.2 v) (h3 : gS ls h rest s) : ∃ q ∈ splitR r rest, gS ls h q (v :: s) := by
  unfold splitR
  split
  · next hk =>
    obtain ⟨x, rfl, hx⟩ := gV_r h1 hk.1
    have hx2 := vlist_ok hx
    unfold vlist vcount at hx2
    rw [if_neg hk.2.1, List.mem_map] at hx2
    obtain ⟨k, k1, k2⟩ := hx2
    have hp : (0 : Int) < (r.1.2.2.2 : Int) := by have := hk.2.1; omega
    rw [hk.2.2, show r.1.2.1 + (r.1.2.2.2 : Int) - r.1.2.1 = (r.1.2.2.2 : Int) by omega, Int.ediv_self (by omega)] at k1
    simp only [List.mem_range] at k1
    have hk2 : k = 0 ∨ k = 1 := by omega
    rcases hk2 with rfl | rfl
    · refine ⟨_, List.mem_cons_self, ⟨⟨rfl, by show r.1.2.1 ≤ x; omega, by show x ≤ r.1.2.1; omega, by show _ ∣ x - r.1.2.1; rw [show x - r.1.2.1 = 0 by omega]; exact Int.dvd_zero _⟩, h2⟩, h3⟩
    · have e : x = r.1.2.2.1 := by rw [hk.2.2, ← k2]; simp
      refine ⟨_, List.mem_cons_of_mem _ List.mem_cons_self, ⟨⟨rfl, by show r.1.2.2.1 ≤ x; omega, by show x ≤ r.1.2.2.1; omega, by show _ ∣ x - r.1.2.2.1; rw [show x - r.1.2.2.1 = 0 by omega]; exact Int.dvd_zero _⟩, h2⟩, h3⟩
  · exact ⟨_, List.mem_cons_self, ⟨h1, h2⟩, h3⟩
def arrOk (cs : List Int) (k : Nat) (ix : AV) : Bool := cs.all (fun a => isA NC a k && decide (ix.2.2.1 < ((lay a.toNat).2.2 : Int))) && decide (0 ≤ ix.2.1) && ix.1 == 0
theorem arrOk_ok {cs : List Int} {k : Nat} {ix : AV} (h : arrOk cs k ix = true) {a i : Int} (ha : a ∈ cs) (hi : inV ix i) : isA NC a k = true ∧ inA a i = true ∧ valid a i := by
  unfold arrOk at h
  simp only [Bool.and_eq_true, decide_eq_true_eq] at h
  have h1 := List.all_eq_true.mp h.1.1 a ha
  simp only [Bool.and_eq_true, decide_eq_true_eq] at h1
  obtain ⟨g1, g2, g3⟩ := isA_of h1.1
  obtain ⟨i1, i2, -⟩ := hi
  refine ⟨h1.1, ?_, g1, g2, by omega, by omega⟩
  unfold inA
  simp only [Bool.and_eq_true, decide_eq_true_eq]
  omega
theorem arrOk_k {cs : List Int} {k : Nat} {ix : AV} (h : arrOk cs k ix = true) : ix.1 = 0 := by
  unfold arrOk at h
  simp only [Bool.and_eq_true, beq_iff_eq] at h
  exact h.2
def aLen (a : Int) : AV := (0, ((lay a.toNat).2.2 : Int), ((lay a.toNat).2.2 : Int), 0)
def aG (o : Nat) (i : Instr) (st : List SE) (fa : FA) : Option (List (List SE)) := match i with
  | .getfield x => match st with
    | e :: r => match cellsOf e with
      | some cs => match fld o x with
        | some (c, k) => if cs.all (fun a => isO NC a c) then (ldC cs (0, (k : Int), (k : Int), 0) fa).map (fun q => splitR q r) else none
        | none => none
      | none => none
    | _ => none
  | .iaload => match st with
    | ix :: e :: r => match cellsOf e with
      | some cs => if arrOk cs 1 ix.1 then (ldC cs ix.1 fa).map (fun q => [q :: r]) else none
      | none => none
    | _ => none
  | .laload => match st with
    | ix :: e :: r => match cellsOf e with
      | some cs => if arrOk cs 2 ix.1 then (ldC cs ix.1 fa).map (fun q => [q :: r]) else none
      | none => none
    | _ => none
  | .baload => match st with
    | ix :: e :: r => match cellsOf e with
      | some cs => if arrOk cs 3 ix.1 || arrOk cs 4 ix.1 then (ldC cs ix.1 fa).map (fun q => [q :: r]) else none
      | none => none
    | _ => none
  | .aaload => match st with
    | ix :: e :: r => match cellsOf e with
      | some cs => if arrOk cs 5 ix.1 then (ldC cs ix.1 fa).map (fun q => [q :: r]) else none
      | none => none
    | _ => none
  | .arraylength => match st with
    | e :: r => match cellsOf e with
      | some cs => if cs.all (fun a => isA NC a 1) then (joinL (cs.map aLen)).map (fun q => [(q, pv0) :: r]) else none
      | none => none
    | _ => none
  | _ => none
theorem valid_O {o x c k : Nat} {a : Int} (hf : fld o x = some (c, k)) (hO : isO NC a c = true) : valid a k := by
  obtain ⟨g1, g2, g3, g4⟩ := isO_of hO
  obtain ⟨C, T, N, hc, hk, -⟩ := fld_of hf
  have hN : (lay a.toNat).2.2 = N := by
    have := lay_obj g3
    rw [g4, hc] at this
    exact (Option.some.inj this).symm
  exact ⟨g1, g2, by omega, by rw [hN]; omega⟩
theorem pt (k : Nat) : inV (0, (k : Int), (k : Int), 0) (k : Int) := ⟨Int.le_refl _, Int.le_refl _, by rw [Int.sub_self]; exact Int.dvd_zero _⟩
section GP
variable {INV : LH → Prop} {prot : Int → Int → Int → Bool} {ls : LL} {h : LH} {xs : Nat → Int} {xl : Nat}
set_option maxHeartbeats 4000000 in
theorem aG_ok (hI : INVok INV prot) (hh : INV h) {fa : FA} (hf : gF h fa) {o : Nat} {i : Instr} {ast : List SE} {L : List (List SE)} {st : List LV} (ha : aG o i ast fa = some L) (hs : gS ls h ast st) : ∃ st', lmG o NC xs xl i st h = some st' ∧ ∃ q ∈ L, gS ls h q st' := by
  have arr : ∀ (kd : Nat) (ix e : SE) (r : List SE) (cs : List Int) (L : List (List SE)), ast = ix :: e :: r → cellsOf e = some cs → arrOk cs kd ix.1 = true → (ldC cs ix.1 fa).map (fun q => [q :: r]) = some L →
      ∃ (j a : Int) (s : List LV), st = .inl j :: .inr (.inr a) :: s ∧ isA NC a kd = true ∧ inA a j = true ∧ 1 ≤ a ∧ ∃ q ∈ L, gS ls h q (hval h a j :: s) := by
    intro kd ix e r cs L e1 e2 e3 e4
    subst e1
    obtain ⟨v, s1, rfl, g1, -, hs1⟩ := gS_c hs
    obtain ⟨w, s, rfl, g2, -, hs2⟩ := gS_c hs1
    obtain ⟨j, rfl, j1, j2⟩ := gV_i g1 (arrOk_k e3)
    obtain ⟨a, rfl, a1, a2⟩ := cellsOf_ok e2 g2
    obtain ⟨b1, b2, b3⟩ := arrOk_ok e3 a2 j2
    rw [Option.map_eq_some_iff] at e4
    obtain ⟨q, q1, rfl⟩ := e4
    obtain ⟨c1, c2⟩ := ldC_ok hI hh hf (ls := ls) q1 a2 j2 b3
    exact ⟨j, a, s, rfl, b1, b2, b3.1, _, List.mem_singleton.mpr rfl, ⟨c1, c2⟩, hs2⟩
  cases i with
  | getfield x =>
    simp only [aG] at ha
    split at ha
    · next e r =>
      split at ha
      · next cs hc =>
        split at ha
        · next c k hfl =>
          split at ha
          · next hO =>
            rw [Option.map_eq_some_iff] at ha
            obtain ⟨q, q1, rfl⟩ := ha
            obtain ⟨v, s, rfl, g1, -, hs1⟩ := gS_c hs
            obtain ⟨a, rfl, a1, a2⟩ := cellsOf_ok hc g1
            have hO2 := List.all_eq_true.mp hO a a2
            obtain ⟨b1, b2, b3, b4⟩ := isO_of hO2
            obtain ⟨c1, c2⟩ := ldC_ok hI hh hf (ls := ls) q1 a2 (pt k) (valid_O hfl hO2)
            refine ⟨mkv (fkd c k) (rd h a k) :: s, by simp only [lmG]; rw [hfl]; simp only; rw [if_pos hO2], ?_⟩
            have e1 : hval h a k = mkv (fkd c k) (rd h a k) := by unfold hval; rw [lkd_o b3 b4]
            rw [e1] at c1 c2
            exact splitR_ok c1 c2 hs1
          · cases ha
        · cases ha
      · cases ha
    · cases ha
  | iaload =>
    simp only [aG] at ha
    split at ha
    · next ix e r =>
      split at ha
      · next cs hc =>
        split at ha
        · next hO =>
          obtain ⟨j, a, s, rfl, b1, b2, b3, b4⟩ := arr 1 ix e r cs L rfl hc hO ha
          have e1 : hval h a j = .inl (rd h a j) := by unfold hval; rw [lkd_1 (isA_of b1).2.2]; rfl
          rw [e1] at b4
          exact ⟨_, by simp only [lmG]; rw [if_neg (by omega), if_pos (by rw [b1, b2]; rfl)], b4⟩
        · cases ha
      · cases ha
    · cases ha
  | laload =>
    simp only [aG] at ha
    split at ha
    · next ix e r =>
      split at ha
      · next cs hc =>
        split at ha
        · next hO =>
          obtain ⟨j, a, s, rfl, b1, b2, b3, b4⟩ := arr 2 ix e r cs L rfl hc hO ha
          have e1 : hval h a j = .inr (.inl (rd h a j)) := by unfold hval; rw [lkd_2 (isA_of b1).2.2]; rfl
          rw [e1] at b4
          exact ⟨_, by simp only [lmG]; rw [if_pos (by rw [b1, b2]; rfl)], b4⟩
        · cases ha
      · cases ha
    · cases ha
  | baload =>
    simp only [aG] at ha
    split at ha
    · next ix e r =>
      split at ha
      · next cs hc =>
        split at ha
        · next hO =>
          rw [Bool.or_eq_true] at hO
          rcases hO with hO | hO
          · obtain ⟨j, a, s, rfl, b1, b2, b3, b4⟩ := arr 3 ix e r cs L rfl hc hO ha
            have e1 : hval h a j = .inl (rd h a j) := by unfold hval; rw [lkd_3 (isA_of b1).2.2]; rfl
            rw [e1] at b4
            exact ⟨_, by simp only [lmG]; rw [if_pos (by rw [b1, b2]; rfl)], b4⟩
          · obtain ⟨j, a, s, rfl, b1, b2, b3, b4⟩ := arr 4 ix e r cs L rfl hc hO ha
            have e1 : hval h a j = .inl (rd h a j) := by unfold hval; rw [lkd_4 (isA_of b1).2.2]; rfl
            rw [e1] at b4
            exact ⟨_, by simp only [lmG]; rw [if_pos (by rw [b1, b2, Bool.or_true]; rfl)], b4⟩
        · cases ha
      · cases ha
    · cases ha
  | aaload =>
    simp only [aG] at ha
    split at ha
    · next ix e r =>
      split at ha
      · next cs hc =>
        split at ha
        · next hO =>
          obtain ⟨j, a, s, rfl, b1, b2, b3, b4⟩ := arr 5 ix e r cs L rfl hc hO ha
          have e1 : hval h a j = .inr (.inr (rd h a j)) := by unfold hval; rw [lkd_5 (isA_of b1).2.2]; rfl
          rw [e1] at b4
          exact ⟨_, by simp only [lmG]; rw [if_pos (by rw [b1, b2]; rfl)], b4⟩
        · cases ha
      · cases ha
    · cases ha
  | arraylength =>
    simp only [aG] at ha
    split at ha
    · next e r =>
      split at ha
      · next cs hc =>
        split at ha
        · next hO =>
          rw [Option.map_eq_some_iff] at ha
          obtain ⟨q, q1, rfl⟩ := ha
          obtain ⟨v, s, rfl, g1, -, hs1⟩ := gS_c hs
          obtain ⟨a, rfl, a1, a2⟩ := cellsOf_ok hc g1
          have hO2 := List.all_eq_true.mp hO a a2
          obtain ⟨b1, b2, b3⟩ := isA_of hO2
          have hl := lay_len a.toNat
          refine ⟨.inl ((lay a.toNat).2.2 : Int) :: s, by simp only [lmG]; rw [if_neg (by omega), if_pos hO2], _, List.mem_singleton.mpr rfl, gS_p ?_ hs1⟩
          exact joinL_ok q1 (aLen a) (List.mem_map.mpr ⟨a, a2, rfl⟩) ⟨rfl, by unfold i32; omega, Int.le_refl _, Int.le_refl _, by unfold aLen; simp⟩
        · cases ha
      · cases ha
    · cases ha
  | _ => simp only [aG] at ha; cases ha
end GP
