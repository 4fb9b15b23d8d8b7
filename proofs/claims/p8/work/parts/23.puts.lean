/-! LM, part 23: puts, constants, arraycopy, Math by bounds -/
def kOk (k : Nat) (v : AV) : Bool := match k with
  | 0 => v.1 == 0
  | 1 => v.1 == 1
  | 2 => v.1 == 2 && decide (0 ≤ v.2.1)
  | 3 => v.1 == 0 && decide (0 ≤ v.2.1) && decide (v.2.2.1 ≤ 1)
  | _ => false
theorem kOk_ok {k : Nat} {a : AV} {v : LV} (h : kOk k a = true) (hv : gV a v) : ∃ z, okk k v = some z ∧ v = mkv k z := by
  match k, h with
  | 0, h =>
    obtain ⟨x, rfl, -⟩ := gV_i hv (by simpa [kOk] using h)
    exact ⟨x, rfl, rfl⟩
  | 1, h =>
    obtain ⟨x, rfl, -⟩ := gV_l hv (by simpa [kOk] using h)
    exact ⟨x, rfl, rfl⟩
  | 2, h =>
    simp only [kOk, Bool.and_eq_true, beq_iff_eq, decide_eq_true_eq] at h
    obtain ⟨x, rfl, hx⟩ := gV_r hv h.1
    exact ⟨x, by simp only [okk]; rw [if_pos (by have := hx.1; omega)], rfl⟩
  | 3, h =>
    simp only [kOk, Bool.and_eq_true, beq_iff_eq, decide_eq_true_eq] at h
    obtain ⟨x, rfl, -, hx⟩ := gV_i hv h.1.1
    exact ⟨x, by simp only [okk]; rw [if_pos (by have := hx.1; have := hx.2.1; omega)], rfl⟩
  | k + 4, h => cases h
/-- puts: the cells, the places, the value, the rest -/
def aP (o : Nat) (i : Instr) (st : List SE) : Option (AV × AV × AV × List SE) := match i with
  | .putfield x => match st with
    | v :: e :: r => match cellsOf e with
      | some cs => match fld o x with
        | some (c, k) => if cs.all (fun a => isO NC a c) && !(fin c k) && kOk (fkd c k) v.1 then some (e.1, (0, (k : Int), (k : Int), 0), v.1, r) else none
        | none => none
      | none => none
    | _ => none
  | .iastore => match st with
    | v :: ix :: e :: r => match cellsOf e with
      | some cs => if arrOk cs 1 ix.1 && v.1.1 == 0 then some (e.1, ix.1, v.1, r) else none
      | none => none
    | _ => none
  | .lastore => match st with
    | v :: ix :: e :: r => match cellsOf e with
      | some cs => if arrOk cs 2 ix.1 && v.1.1 == 1 then some (e.1, ix.1, v.1, r) else none
      | none => none
    | _ => none
  | .bastore => match st with
    | v :: ix :: e :: r => match cellsOf e with
      | some cs => if v.1.1 == 0 && ((arrOk cs 3 ix.1 && decide (-128 ≤ v.1.2.1) && decide (v.1.2.2.1 ≤ 127)) || (arrOk cs 4 ix.1 && decide (0 ≤ v.1.2.1) && decide (v.1.2.2.1 ≤ 1))) then some (e.1, ix.1, v.1, r) else none
      | none => none
    | _ => none
  | _ => none
section PP
variable {INV : LH → Prop} {prot : Int → Int → Int → Bool} {ls : LL} {h : LH}
set_option maxHeartbeats 4000000 in
theorem aP_ok {o : Nat} {ini : Bool} {i : Instr} {ast : List SE} {ea ix va : AV} {r : List SE} {st : List LV} (ha : aP o i ast = some (ea, ix, va, r)) (hs : gS ls h ast st) :
    ∃ (a j z : Int) (s : List LV), lmP o NC ini i st h = some (s, wr h a j z) ∧ inV ea a ∧ inV ix j ∧ valid a j ∧ gV va (mkv (lkd a j) z) ∧ gS ls h r s := by
  have arr : ∀ (kd : Nat) (v ix e : SE) (r : List SE) (cs : List Int), ast = v :: ix :: e :: r → cellsOf e = some cs → arrOk cs kd ix.1 = true →
      ∃ (w : LV) (j a : Int) (s : List LV), st = w :: .inl j :: .inr (.inr a) :: s ∧ gV v.1 w ∧ isA NC a kd = true ∧ inA a j = true ∧ valid a j ∧ inV e.1 a ∧ inV ix.1 j ∧ gS ls h r s := by
    intro kd v ix e r cs e1 e2 e3
    subst e1
    obtain ⟨w, s1, rfl, g1, -, hs1⟩ := gS_c hs
    obtain ⟨w2, s2, rfl, g2, -, hs2⟩ := gS_c hs1
    obtain ⟨w3, s, rfl, g3, -, hs3⟩ := gS_c hs2
    obtain ⟨j, rfl, j1, j2⟩ := gV_i g2 (arrOk_k e3)
    obtain ⟨a, rfl, a1, a2⟩ := cellsOf_ok e2 g3
    obtain ⟨b1, b2, b3⟩ := arrOk_ok e3 a2 j2
    exact ⟨w, j, a, s, rfl, g1, b1, b2, b3, a1, j2, hs3⟩
  cases i with
  | putfield x =>
    simp only [aP] at ha
    split at ha
    · next v e r =>
      split at ha
      · next cs hc =>
        split at ha
        · next c k hfl =>
          split at ha
          · next hO =>
            simp only [Bool.and_eq_true, Bool.not_eq_true'] at hO
            cases some_i ha
            obtain ⟨w, s1, rfl, g1, -, hs1⟩ := gS_c hs
            obtain ⟨w2, s, rfl, g2, -, hs2⟩ := gS_c hs1
            obtain ⟨a, rfl, a1, a2⟩ := cellsOf_ok hc g2
            have hO2 := List.all_eq_true.mp hO.1.1 a a2
            obtain ⟨b1, b2, b3, b4⟩ := isO_of hO2
            obtain ⟨z, z1, z2⟩ := kOk_ok hO.2 g1
            refine ⟨a, k, z, s, ?_, a1, pt k, valid_O hfl hO2, ?_, hs2⟩
            · simp only [lmP]
              rw [hfl]
              simp only
              rw [if_pos (by rw [hO2, hO.1.2]; rfl), z1]
              rfl
            · rw [lkd_o b3 b4, ← z2]
              exact g1
          · cases ha
        · cases ha
      · cases ha
    · cases ha
  | iastore =>
    simp only [aP] at ha
    split at ha
    · next v ix e r =>
      split at ha
      · next cs hc =>
        split at ha
        · next hO =>
          simp only [Bool.and_eq_true, beq_iff_eq] at hO
          cases some_i ha
          obtain ⟨w, j, a, s, rfl, g1, b1, b2, b3, b4, b5, b6⟩ := arr 1 v _ e _ cs rfl hc hO.1
          obtain ⟨x, rfl, x1, x2⟩ := gV_i g1 hO.2
          exact ⟨a, j, x, s, by simp only [lmP]; rw [if_pos (by rw [b1, b2]; rfl)], b4, b5, b3, by rw [lkd_1 (isA_of b1).2.2]; exact g1, b6⟩
        · cases ha
      · cases ha
    · cases ha
  | lastore =>
    simp only [aP] at ha
    split at ha
    · next v ix e r =>
      split at ha
      · next cs hc =>
        split at ha
        · next hO =>
          simp only [Bool.and_eq_true, beq_iff_eq] at hO
          cases some_i ha
          obtain ⟨w, j, a, s, rfl, g1, b1, b2, b3, b4, b5, b6⟩ := arr 2 v _ e _ cs rfl hc hO.1
          obtain ⟨x, rfl, x1, x2⟩ := gV_l g1 hO.2
          exact ⟨a, j, x, s, by simp only [lmP]; rw [if_pos (by rw [b1, b2]; rfl)], b4, b5, b3, by rw [lkd_2 (isA_of b1).2.2]; exact g1, b6⟩
        · cases ha
      · cases ha
    · cases ha
  | bastore =>
    simp only [aP] at ha
    split at ha
    · next v ix e r =>
      split at ha
      · next cs hc =>
        split at ha
        · next hO =>
          simp only [Bool.and_eq_true, Bool.or_eq_true, beq_iff_eq, decide_eq_true_eq] at hO
          cases some_i ha
          rcases hO.2 with q | q
          · obtain ⟨w, j, a, s, rfl, g1, b1, b2, b3, b4, b5, b6⟩ := arr 3 v _ e _ cs rfl hc q.1.1
            obtain ⟨x, rfl, x1, x2⟩ := gV_i g1 hO.1
            have y1 := x2.1
            have y2 := x2.2.1
            have hx : (-128 ≤ x ∧ x ≤ 127) := by omega
            exact ⟨a, j, x, s, by simp only [lmP]; rw [if_pos (by rw [b1, b2, decide_eq_true hx]; rfl)], b4, b5, b3, by rw [lkd_3 (isA_of b1).2.2]; exact g1, b6⟩
          · obtain ⟨w, j, a, s, rfl, g1, b1, b2, b3, b4, b5, b6⟩ := arr 4 v _ e _ cs rfl hc q.1.1
            obtain ⟨x, rfl, x1, x2⟩ := gV_i g1 hO.1
            have y1 := x2.1
            have y2 := x2.2.1
            have hx : (x = 0 ∨ x = 1) := by omega
            exact ⟨a, j, x, s, by simp only [lmP]; rw [if_pos (by rw [b1, b2, decide_eq_true hx, Bool.and_true, Bool.or_true]; rfl)], b4, b5, b3, by rw [lkd_4 (isA_of b1).2.2]; exact g1, b6⟩
        · cases ha
      · cases ha
    · cases ha
  | _ => simp only [aP] at ha; cases ha
/-- a put keeps the invariant, and changes one place -/
def stOk (prot : Int → Int → Int → Bool) (ea ix va : AV) : Bool := decide (vcount ea ≤ 64) && (vlist ea).all (fun a => fitR a ix va && !(prot a ix.2.1 ix.2.2.1))
theorem stOk_ok (hI : INVok INV prot) (hh : INV h) {ea ix va : AV} (hk : stOk prot ea ix va = true) {a j z : Int} (ha : inV ea a) (hj : inV ix j) (hv : valid a j) (hz : gV va (mkv (lkd a j) z)) : INV (wr h a j z) := by
  unfold stOk at hk
  simp only [Bool.and_eq_true] at hk
  have h1 := List.all_eq_true.mp hk.2 a (vlist_ok ha)
  simp only [Bool.and_eq_true, Bool.not_eq_true'] at h1
  exact hI.2.1 h hh a j z hv (hI.2.2 _ _ _ _ h1.2 hj.1 hj.2.1) (fitR_ok h1.1 hj hz)
def boxOf (ea ix : AV) : Int × Int × Int × Int := (ea.2.1, ea.2.2.1, ix.2.1, ix.2.2.1)
theorem frm_wr {ea ix : AV} {a j z : Int} (ha : inV ea a) (hj : inV ix j) : frm [boxOf ea ix] h (wr h a j z) := by
  intro b i hb
  rw [rd_wr, if_neg]
  rintro ⟨rfl, rfl⟩
  unfold inBx boxOf at hb
  simp only [List.any_cons, List.any_nil, Bool.or_false, Bool.and_eq_false_iff, decide_eq_false_iff_not] at hb
  obtain ⟨a1, a2, -⟩ := ha
  obtain ⟨j1, j2, -⟩ := hj
  omega
def setF (ea ix va : AV) (fa : FA) : FA := if ea.2.2.2 = 0 ∧ ix.2.2.2 = 0 then (ea.2.1, ix.2.1, va) :: killF [boxOf ea ix] fa else killF [boxOf ea ix] fa
theorem setF_ok {ea ix va : AV} {a j z : Int} (ha : inV ea a) (hj : inV ix j) (hz : gV va (mkv (lkd a j) z)) {fa : FA} (hf : gF h fa) : gF (wr h a j z) (setF ea ix va fa) := by
  have h1 := killF_ok (frm_wr (z := z) (h := h) ha hj) hf
  unfold setF
  split
  · next h0 =>
    intro q hq
    rcases List.mem_cons.mp hq with rfl | hq
    · have e1 := inV_c ha h0.1
      have e2 := inV_c hj h0.2
      unfold hval
      simp only
      rw [← e1, ← e2, rd_wr, if_pos ⟨rfl, rfl⟩]
      exact hz
    · exact h1 q hq
  · exact h1
end PP
-- constants
def aC (o : Nat) (i : Instr) : Option AV := match i with
  | .ldc x => if o = 7 ∧ x = 19 then none else ((CT o).find? (fun q => q.1 == x)).map (fun q => (0, q.2.1, q.2.1, 0))
  | .ldc_w x => ((CT o).find? (fun q => q.1 == x)).map (fun q => (0, q.2.1, q.2.1, 0))
  | .ldc2_w x => ((CLT o).find? (fun q => q.1 == x)).map (fun q => (1, q.2.1, q.2.1, 0))
  | _ => none
theorem aC_ok {o : Nat} {i : Instr} {a : AV} (h : aC o i = some a) : ∃ v, lmC o i = some v ∧ gV a v := by
  cases i with
  | ldc x =>
    simp only [aC] at h
    split at h
    · cases h
    · next hn =>
      rw [Option.map_eq_some_iff] at h
      obtain ⟨q, h1, rfl⟩ := h
      obtain ⟨-, h5⟩ := all17 CT chkC CT_ok17 CT_nil (find_of h1).1
      simp only [chkC, Bool.and_eq_true, decide_eq_true_eq] at h5
      exact ⟨.inl q.2.1, by simp only [lmC]; rw [if_neg hn, h1]; rfl, rfl, h5.2, Int.le_refl _, Int.le_refl _, by simp⟩
  | ldc_w x =>
    simp only [aC] at h
    rw [Option.map_eq_some_iff] at h
    obtain ⟨q, h1, rfl⟩ := h
    obtain ⟨-, h5⟩ := all17 CT chkC CT_ok17 CT_nil (find_of h1).1
    simp only [chkC, Bool.and_eq_true, decide_eq_true_eq] at h5
    exact ⟨.inl q.2.1, by simp only [lmC]; rw [h1]; rfl, rfl, h5.2, Int.le_refl _, Int.le_refl _, by simp⟩
  | ldc2_w x =>
    simp only [aC] at h
    rw [Option.map_eq_some_iff] at h
    obtain ⟨q, h1, rfl⟩ := h
    obtain ⟨-, h5⟩ := all17 CLT chkL CLT_ok17 CLT_nil (find_of h1).1
    simp only [chkL, Bool.and_eq_true, decide_eq_true_eq] at h5
    exact ⟨.inr (.inl q.2.1), by simp only [lmC]; rw [h1]; rfl, rfl, h5.2, Int.le_refl _, Int.le_refl _, by simp⟩
  | _ => simp only [aC] at h; cases h
