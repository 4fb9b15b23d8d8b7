/-! LM, part 50: more rows: switches, arraycopy, Math.min -/
section RW2
variable {xs : Nat → Int} {xl d : Nat} {M : LM_M} {pc p' : Nat} {ls : LL} {st : List LV} {h : LH} {Q : Option LV → LH → Prop}
theorem R_swj {df lo hi x v f : Int} {offs : Array Int} {len : Nat} (hd : decode M.2.1 pc = .ok (.tableswitch df lo hi offs, len)) (hx : x = v) (hv : ¬ (v < lo ∨ hi < v)) (ho : offs[(v - lo).toNat]? = some f) (hp : (pc : Int) + f = (p' : Int)) (k : Rn xs xl d M p' ls st h Q) : Rn xs xl d M pc ls (.inl x :: st) h Q := by
  subst hx
  refine R_J hd rfl rfl ?_ hp k
  simp only [lmJ]
  rw [if_neg hv, ho]
theorem R_swd {df lo hi x : Int} {offs : Array Int} {len : Nat} (hd : decode M.2.1 pc = .ok (.tableswitch df lo hi offs, len)) (hv : x < lo ∨ hi < x) (hp : (pc : Int) + df = (p' : Int)) (k : Rn xs xl d M p' ls st h Q) : Rn xs xl d M pc ls (.inl x :: st) h Q := by
  refine R_J hd rfl rfl ?_ hp k
  simp only [lmJ]
  rw [if_pos hv]
theorem R_Q {i : Instr} {st' : List LV} {h' : LH} {x : Nat} (hi : i = .invokestatic x) (hd : decode M.2.1 pc = .ok (i, 3)) (hn : noM M.2.2.2.2.1 x = true) (e : lmQ M.2.2.2.2.1 NC i st h = some (st', h')) (hp : pc + 3 = p') (k : Rn xs xl d M p' ls st' h' Q) : Rn xs xl d M pc ls st h Q := by
  subst hp
  subst hi
  exact Rn.step hd rfl (cls_R rfl _ _) (noM_ok hn) (lmI_Q rfl e) k
theorem R_acopy {x n m : Nat} {a b sp dp ln : Int} (hd : decode M.2.1 pc = .ok (.invokestatic x, 3)) (hn : noM M.2.2.2.2.1 x = true) (hq : ((PTC M.2.2.2.2.1).find? (fun q => q.1 == x)).map (fun q => q.2.1) = some 1) (ha : isA NC a 1 = true) (hb : isA NC b 1 = true) (la : (lay a.toNat).2.2 = n) (lb : (lay b.toNat).2.2 = m) (hs : 0 ≤ sp ∧ 0 ≤ dp ∧ 0 ≤ ln ∧ sp + ln ≤ (n : Int) ∧ dp + ln ≤ (m : Int)) (hc : lcat st ≤ 8) (hp : pc + 3 = p') (k : Rn xs xl d M p' ls st (cpyL h a sp b dp ln.toNat ++ h) Q) : Rn xs xl d M pc ls (.inl ln :: .inl dp :: .inr (.inr b) :: .inl sp :: .inr (.inr a) :: st) h Q := by
  refine R_Q rfl hd hn ?_ hp k
  simp only [lmQ]
  rw [Option.map_eq_some_iff] at hq
  obtain ⟨q, q1, q2⟩ := hq
  rw [q1]
  simp only
  rw [if_pos q2, if_pos]
  simp only [Bool.and_eq_true, decide_eq_true_eq]
  rw [la, lb]
  exact ⟨⟨⟨ha, hb⟩, hs⟩, hc⟩
theorem R_X {i : Instr} {st' : List LV} {x : Nat} (hi : i = .invokestatic x) (hd : decode M.2.1 pc = .ok (i, 3)) (hn : noM M.2.2.2.2.1 x = true) (hq : lmQ M.2.2.2.2.1 NC i st h = none) (e : lmX M.2.2.2.2.1 i st = some st') (hp : pc + 3 = p') (k : Rn xs xl d M p' ls st' h Q) : Rn xs xl d M pc ls st h Q := by
  subst hp
  subst hi
  exact Rn.step hd rfl (cls_R rfl _ _) (noM_ok hn) (lmI_X rfl hq e) k
theorem R_min {x : Nat} {a b : Int} (hd : decode M.2.1 pc = .ok (.invokestatic x, 3)) (hn : noM M.2.2.2.2.1 x = true) (hq : ((PTC M.2.2.2.2.1).find? (fun q => q.1 == x)).map (fun q => q.2.1) = some 4) (hc : lcat st ≤ 8) (hp : pc + 3 = p') (k : Rn xs xl d M p' ls (.inl (if b < a then b else a) :: st) h Q) : Rn xs xl d M pc ls (.inl b :: .inl a :: st) h Q := by
  rw [Option.map_eq_some_iff] at hq
  obtain ⟨q, q1, q2⟩ := hq
  refine R_X rfl hd hn ?_ ?_ hp k
  · simp only [lmQ]
    rw [q1]
    simp only
    rw [if_neg (by omega)]
  · simp only [lmX]
    rw [q1]
    simp only
    rw [if_pos hc, if_pos q2]
end RW2
