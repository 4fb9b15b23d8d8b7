/-! LM, part 34: rows, an instruction each, for methods by hand -/
section RW
variable {xs : Nat → Int} {xl d : Nat} {M : LM_M} {pc p' : Nat} {ls ls' : LL} {st : List LV} {h : LH} {Q : Option LV → LH → Prop}
theorem R_A {i : Instr} {len : Nat} {st' : List LV} (hd : decode M.2.1 pc = .ok (i, len)) (hc : icls i = 1) (hl : ilen i len = true) (e : lmA i st = some st') (hp : pc + len = p') (k : Rn xs xl d M p' ls st' h Q) : Rn xs xl d M pc ls st h Q := by
  subst hp
  obtain ⟨r1, r2⟩ := cls_noRK (i := i) (by omega) (by omega)
  exact Rn.step hd hl (r1 _ _) (r2 _ _ _) (lmI_A e) k
theorem R_ic {v : Int} (hd : decode M.2.1 pc = .ok (.iconst v, 1)) (hv : -1 ≤ v ∧ v ≤ 5) (hp : pc + 1 = p') (k : Rn xs xl d M p' ls (.inl v :: st) h Q) : Rn xs xl d M pc ls st h Q :=
  R_A hd rfl rfl (by simp only [lmA]; rw [if_pos hv]) hp k
theorem R_bi {v : Int} (hd : decode M.2.1 pc = .ok (.bipush v, 2)) (hv : -128 ≤ v ∧ v ≤ 127) (hp : pc + 2 = p') (k : Rn xs xl d M p' ls (.inl v :: st) h Q) : Rn xs xl d M pc ls st h Q :=
  R_A hd rfl rfl (by simp only [lmA]; rw [if_pos hv]) hp k
theorem R_si {v : Int} (hd : decode M.2.1 pc = .ok (.sipush v, 3)) (hv : -32768 ≤ v ∧ v ≤ 32767) (hp : pc + 3 = p') (k : Rn xs xl d M p' ls (.inl v :: st) h Q) : Rn xs xl d M pc ls st h Q :=
  R_A hd rfl rfl (by simp only [lmA]; rw [if_pos hv]) hp k
theorem R_iadd {a b c : Int} (hd : decode M.2.1 pc = .ok (.iadd, 1)) (e : a + b = c) (hb : -2147483648 ≤ c ∧ c ≤ 2147483647) (hp : pc + 1 = p') (k : Rn xs xl d M p' ls (.inl c :: st) h Q) : Rn xs xl d M pc ls (.inl b :: .inl a :: st) h Q := by
  subst e
  exact R_A hd rfl rfl (by simp only [lmA]; rw [w32_id hb]) hp k
theorem R_isub {a b c : Int} (hd : decode M.2.1 pc = .ok (.isub, 1)) (e : a - b = c) (hb : -2147483648 ≤ c ∧ c ≤ 2147483647) (hp : pc + 1 = p') (k : Rn xs xl d M p' ls (.inl c :: st) h Q) : Rn xs xl d M pc ls (.inl b :: .inl a :: st) h Q := by
  subst e
  exact R_A hd rfl rfl (by simp only [lmA]; rw [w32_id hb]) hp k
theorem R_imul {a b c : Int} (hd : decode M.2.1 pc = .ok (.imul, 1)) (e : a * b = c) (hb : -2147483648 ≤ c ∧ c ≤ 2147483647) (hp : pc + 1 = p') (k : Rn xs xl d M p' ls (.inl c :: st) h Q) : Rn xs xl d M pc ls (.inl b :: .inl a :: st) h Q := by
  subst e
  exact R_A hd rfl rfl (by simp only [lmA]; rw [w32_id hb]) hp k
theorem R_iaddw {a b : Int} (hd : decode M.2.1 pc = .ok (.iadd, 1)) (hp : pc + 1 = p') (k : Rn xs xl d M p' ls (.inl (w32 (a + b)) :: st) h Q) : Rn xs xl d M pc ls (.inl b :: .inl a :: st) h Q := R_A hd rfl rfl rfl hp k
theorem R_isubw {a b : Int} (hd : decode M.2.1 pc = .ok (.isub, 1)) (hp : pc + 1 = p') (k : Rn xs xl d M p' ls (.inl (w32 (a - b)) :: st) h Q) : Rn xs xl d M pc ls (.inl b :: .inl a :: st) h Q := R_A hd rfl rfl rfl hp k
theorem R_imulw {a b : Int} (hd : decode M.2.1 pc = .ok (.imul, 1)) (hp : pc + 1 = p') (k : Rn xs xl d M p' ls (.inl (w32 (a * b)) :: st) h Q) : Rn xs xl d M pc ls (.inl b :: .inl a :: st) h Q := R_A hd rfl rfl rfl hp k
theorem R_idiv {a b : Int} (hd : decode M.2.1 pc = .ok (.idiv, 1)) (ha : 0 ≤ a ∧ a ≤ 2147483647) (hb : 0 < b) (hp : pc + 1 = p') (k : Rn xs xl d M p' ls (.inl (a / b) :: st) h Q) : Rn xs xl d M pc ls (.inl b :: .inl a :: st) h Q := by
  obtain ⟨d1, d2, d3⟩ := div_pos (x := a) (y := b) ha.1 hb
  exact R_A hd rfl rfl (by simp only [lmA]; rw [if_neg (by omega), d1, w32_id (by unfold i32; omega)]) hp k
theorem R_irem {a b : Int} (hd : decode M.2.1 pc = .ok (.irem, 1)) (ha : 0 ≤ a ∧ a ≤ 2147483647) (hb : 0 < b) (hp : pc + 1 = p') (k : Rn xs xl d M p' ls (.inl (a % b) :: st) h Q) : Rn xs xl d M pc ls (.inl b :: .inl a :: st) h Q := by
  obtain ⟨d1, d2, d3⟩ := div_pos (x := a) (y := b) ha.1 hb
  have h1 := Int.emod_nonneg a (b := b) (by omega)
  have h2 := Int.emod_add_mul_ediv a b
  have h3 : b * (a / b) = a / b * b := Int.mul_comm _ _
  have h4 : a - a / b * b = a % b := by omega
  have h5 : 0 ≤ a / b * b := Int.mul_nonneg d2 (by omega)
  exact R_A hd rfl rfl (by simp only [lmA]; rw [if_neg (by omega), d1, w32_id (x := a / b) (by unfold i32; omega), w32_id (x := a / b * b) (by unfold i32; omega), h4, w32_id (by unfold i32; omega)]) hp k
theorem R_ineg {a c : Int} (hd : decode M.2.1 pc = .ok (.ineg, 1)) (e : -a = c) (hb : -2147483648 ≤ c ∧ c ≤ 2147483647) (hp : pc + 1 = p') (k : Rn xs xl d M p' ls (.inl c :: st) h Q) : Rn xs xl d M pc ls (.inl a :: st) h Q := by
  subst e
  exact R_A hd rfl rfl (by simp only [lmA]; rw [w32_id hb]) hp k
theorem R_ld {i : Instr} {len : Nat} {v : LV} (hd : decode M.2.1 pc = .ok (i, len)) (hc : icls i = 2) (hl : ilen i len = true) (e : lmLd i ls = some v) (hp : pc + len = p') (k : Rn xs xl d M p' ls (v :: st) h Q) : Rn xs xl d M pc ls st h Q := by
  subst hp
  obtain ⟨r1, r2⟩ := cls_noRK (i := i) (by omega) (by omega)
  exact Rn.step hd hl (r1 _ _) (r2 _ _ _) (lmI_Ld hc e) k
theorem R_st {i : Instr} {len : Nat} {v : LV} {j : Nat} (hd : decode M.2.1 pc = .ok (i, len)) (hc : icls i = 8) (hl : ilen i len = true) (e : lmSt i v = some j) (hk : j + (if isL v then 1 else 0) < ls.length) (hs : lst ls j v = ls') (hp : pc + len = p') (k : Rn xs xl d M p' ls' st h Q) : Rn xs xl d M pc ls (v :: st) h Q := by
  subst hp
  subst hs
  obtain ⟨r1, r2⟩ := cls_noRK (i := i) (by omega) (by omega)
  exact Rn.step hd hl (r1 _ _) (r2 _ _ _) (lmI_St hc e hk) k
theorem R_inc {j : Nat} {n x y : Int} (hd : decode M.2.1 pc = .ok (.iinc j n, 3)) (e : lget ls j = some (.inl x)) (hn : -32768 ≤ n ∧ n ≤ 32767) (hy : x + n = y) (hb : -2147483648 ≤ y ∧ y ≤ 2147483647) (hs : lst ls j (.inl y) = ls') (hp : pc + 3 = p') (k : Rn xs xl d M p' ls' st h Q) : Rn xs xl d M pc ls st h Q := by
  subst hp
  subst hs
  subst hy
  obtain ⟨r1, r2⟩ := cls_noRK (i := .iinc j n) (by show (5:Nat) ≠ 9; decide) (by show (5:Nat) ≠ 10; decide)
  refine Rn.step hd rfl (r1 _ _) (r2 _ _ _) (lmI_Inc rfl ?_) k
  simp only [lmInc]
  rw [e]
  simp only
  rw [if_pos hn, w32_id hb]
-- jumps
theorem R_J {i : Instr} {len : Nat} {t : Int} {st' : List LV} (hd : decode M.2.1 pc = .ok (i, len)) (hc : icls i = 4) (hl : ilen i len = true) (e : lmJ i pc len st = some (t, st')) (hp : t = (p' : Int)) (k : Rn xs xl d M p' ls st' h Q) : Rn xs xl d M pc ls st h Q := by
  obtain ⟨r1, r2⟩ := cls_noRK (i := i) (by omega) (by omega)
  refine Rn.step hd hl (r1 _ _) (r2 _ _ _) (lmI_J hc e (by omega)) ?_
  rw [hp, Int.toNat_natCast]
  exact k
theorem R_goto {off : Int} (hd : decode M.2.1 pc = .ok (.goto off, 3)) (hp : (pc : Int) + off = (p' : Int)) (k : Rn xs xl d M p' ls st h Q) : Rn xs xl d M pc ls st h Q := R_J hd rfl rfl rfl hp k
def cndP (c : ClassFile.Cond) (a b : Int) : Prop := match c with
  | .eq => a = b
  | .ne => a ≠ b
  | .lt => a < b
  | .ge => b ≤ a
  | .gt => b < a
  | .le => a ≤ b
def cndN (c : ClassFile.Cond) (a b : Int) : Prop := match c with
  | .eq => a ≠ b
  | .ne => a = b
  | .lt => b ≤ a
  | .ge => a < b
  | .gt => a ≤ b
  | .le => b < a
theorem cnd_cases (c : ClassFile.Cond) (a b : Int) : (cnd c a b = true ∧ cndP c a b) ∨ (cnd c a b = false ∧ cndN c a b) := by
  cases c <;> simp only [cnd, cndP, cndN, decide_eq_true_eq, decide_eq_false_iff_not] <;> omega
theorem R_icmp {c : ClassFile.Cond} {off a b : Int} {pt pf : Nat} (hd : decode M.2.1 pc = .ok (.if_icmp c off, 3)) (ht : (pc : Int) + off = (pt : Int)) (hf : pc + 3 = pf) (k1 : cndP c a b → Rn xs xl d M pt ls st h Q) (k2 : cndN c a b → Rn xs xl d M pf ls st h Q) : Rn xs xl d M pc ls (.inl b :: .inl a :: st) h Q := by
  rcases cnd_cases c a b with ⟨e, q⟩ | ⟨e, q⟩
  · exact R_J hd rfl rfl (by simp only [lmJ]; rw [if_pos (by omega), e]; rfl) ht (k1 q)
  · exact R_J hd rfl rfl (t := (pc : Int) + 3) (by simp only [lmJ]; rw [if_pos (by omega), e]; rfl) (by omega) (k2 q)
theorem R_if {c : ClassFile.Cond} {off a : Int} {pt pf : Nat} (hd : decode M.2.1 pc = .ok (.ifCond c off, 3)) (ht : (pc : Int) + off = (pt : Int)) (hf : pc + 3 = pf) (k1 : cndP c a 0 → Rn xs xl d M pt ls st h Q) (k2 : cndN c a 0 → Rn xs xl d M pf ls st h Q) : Rn xs xl d M pc ls (.inl a :: st) h Q := by
  rcases cnd_cases c a 0 with ⟨e, q⟩ | ⟨e, q⟩
  · exact R_J hd rfl rfl (by simp only [lmJ]; rw [if_pos (by omega), e]; rfl) ht (k1 q)
  · exact R_J hd rfl rfl (t := (pc : Int) + 3) (by simp only [lmJ]; rw [if_pos (by omega), e]; rfl) (by omega) (k2 q)
-- cells
theorem R_G {i : Instr} {len : Nat} {st' : List LV} (hd : decode M.2.1 pc = .ok (i, len)) (hc : icls i = 3) (hl : ilen i len = true) (e : lmG M.2.2.2.2.1 NC xs xl i st h = some st') (hp : pc + len = p') (k : Rn xs xl d M p' ls st' h Q) : Rn xs xl d M pc ls st h Q := by
  subst hp
  obtain ⟨r1, r2⟩ := cls_noRK (i := i) (by omega) (by omega)
  exact Rn.step hd hl (r1 _ _) (r2 _ _ _) (lmI_G hc e) k
theorem R_gf {x c j : Nat} {a : Int} {v : LV} (hd : decode M.2.1 pc = .ok (.getfield x, 3)) (hf : fld M.2.2.2.2.1 x = some (c, j)) (ho : isO NC a c = true) (hv : mkv (fkd c j) (rd h a j) = v) (hp : pc + 3 = p') (k : Rn xs xl d M p' ls (v :: st) h Q) : Rn xs xl d M pc ls (.inr (.inr a) :: st) h Q := by
  subst hv
  refine R_G hd rfl rfl ?_ hp k
  simp only [lmG]
  rw [hf]
  simp only
  rw [if_pos ho]
theorem inA_k {a i : Int} {n : Nat} (hl : (lay a.toNat).2.2 = n) (h0 : 0 ≤ i ∧ i < (n : Int)) : inA a i = true := by
  unfold inA
  rw [hl, decide_eq_true h0.1, decide_eq_true h0.2]
  rfl
theorem R_iald {a i v : Int} {n : Nat} (hd : decode M.2.1 pc = .ok (.iaload, 1)) (ha : isA NC a 1 = true) (hl : (lay a.toNat).2.2 = n) (hi : 0 ≤ i ∧ i < (n : Int)) (hv : rd h a i = v) (hp : pc + 1 = p') (k : Rn xs xl d M p' ls (.inl v :: st) h Q) : Rn xs xl d M pc ls (.inl i :: .inr (.inr a) :: st) h Q := by
  subst hv
  have h1 := (isA_of ha).1
  refine R_G hd rfl rfl ?_ hp k
  simp only [lmG]
  rw [if_neg (by omega), ha, inA_k hl hi]
  rfl
theorem R_lald {a i v : Int} {n : Nat} (hd : decode M.2.1 pc = .ok (.laload, 1)) (ha : isA NC a 2 = true) (hl : (lay a.toNat).2.2 = n) (hi : 0 ≤ i ∧ i < (n : Int)) (hv : rd h a i = v) (hp : pc + 1 = p') (k : Rn xs xl d M p' ls (.inr (.inl v) :: st) h Q) : Rn xs xl d M pc ls (.inl i :: .inr (.inr a) :: st) h Q := by
  subst hv
  refine R_G hd rfl rfl ?_ hp k
  simp only [lmG]
  rw [ha, inA_k hl hi]
  rfl
theorem R_zald {a i v : Int} {n : Nat} (hd : decode M.2.1 pc = .ok (.baload, 1)) (ha : isA NC a 4 = true) (hl : (lay a.toNat).2.2 = n) (hi : 0 ≤ i ∧ i < (n : Int)) (hv : rd h a i = v) (hp : pc + 1 = p') (k : Rn xs xl d M p' ls (.inl v :: st) h Q) : Rn xs xl d M pc ls (.inl i :: .inr (.inr a) :: st) h Q := by
  subst hv
  refine R_G hd rfl rfl ?_ hp k
  simp only [lmG]
  rw [ha, inA_k hl hi, Bool.or_true]
  rfl
theorem R_bald {a i v : Int} {n : Nat} (hd : decode M.2.1 pc = .ok (.baload, 1)) (ha : isA NC a 3 = true) (hl : (lay a.toNat).2.2 = n) (hi : 0 ≤ i ∧ i < (n : Int)) (hv : rd h a i = v) (hp : pc + 1 = p') (k : Rn xs xl d M p' ls (.inl v :: st) h Q) : Rn xs xl d M pc ls (.inl i :: .inr (.inr a) :: st) h Q := by
  subst hv
  refine R_G hd rfl rfl ?_ hp k
  simp only [lmG]
  rw [ha, inA_k hl hi]
  rfl
theorem R_aald {a i v : Int} {n : Nat} (hd : decode M.2.1 pc = .ok (.aaload, 1)) (ha : isA NC a 5 = true) (hl : (lay a.toNat).2.2 = n) (hi : 0 ≤ i ∧ i < (n : Int)) (hv : rd h a i = v) (hp : pc + 1 = p') (k : Rn xs xl d M p' ls (.inr (.inr v) :: st) h Q) : Rn xs xl d M pc ls (.inl i :: .inr (.inr a) :: st) h Q := by
  subst hv
  refine R_G hd rfl rfl ?_ hp k
  simp only [lmG]
  rw [ha, inA_k hl hi]
  rfl
theorem R_P {i : Instr} {len : Nat} {st' : List LV} {h' : LH} (hd : decode M.2.1 pc = .ok (i, len)) (hc : icls i = 6) (hl : ilen i len = true) (e : lmP M.2.2.2.2.1 NC (M.1.name == "<init>") i st h = some (st', h')) (hp : pc + len = p') (k : Rn xs xl d M p' ls st' h' Q) : Rn xs xl d M pc ls st h Q := by
  subst hp
  obtain ⟨r1, r2⟩ := cls_noRK (i := i) (by omega) (by omega)
  exact Rn.step hd hl (r1 _ _) (r2 _ _ _) (lmI_P hc e) k
theorem R_pf {x c j : Nat} {a z : Int} {v : LV} (hd : decode M.2.1 pc = .ok (.putfield x, 3)) (hf : fld M.2.2.2.2.1 x = some (c, j)) (ho : isO NC a c = true) (hn : fin c j = false) (hv : okk (fkd c j) v = some z) (hp : pc + 3 = p') (k : Rn xs xl d M p' ls st (wr h a j z) Q) : Rn xs xl d M pc ls (v :: .inr (.inr a) :: st) h Q := by
  refine R_P hd rfl rfl ?_ hp k
  simp only [lmP]
  rw [hf]
  simp only
  rw [ho, hn, hv]
  rfl
theorem R_iast {a i z : Int} {n : Nat} (hd : decode M.2.1 pc = .ok (.iastore, 1)) (ha : isA NC a 1 = true) (hl : (lay a.toNat).2.2 = n) (hi : 0 ≤ i ∧ i < (n : Int)) (hp : pc + 1 = p') (k : Rn xs xl d M p' ls st (wr h a i z) Q) : Rn xs xl d M pc ls (.inl z :: .inl i :: .inr (.inr a) :: st) h Q := by
  refine R_P hd rfl rfl ?_ hp k
  simp only [lmP]
  rw [ha, inA_k hl hi]
  rfl
theorem R_last {a i z : Int} {n : Nat} (hd : decode M.2.1 pc = .ok (.lastore, 1)) (ha : isA NC a 2 = true) (hl : (lay a.toNat).2.2 = n) (hi : 0 ≤ i ∧ i < (n : Int)) (hp : pc + 1 = p') (k : Rn xs xl d M p' ls st (wr h a i z) Q) : Rn xs xl d M pc ls (.inr (.inl z) :: .inl i :: .inr (.inr a) :: st) h Q := by
  refine R_P hd rfl rfl ?_ hp k
  simp only [lmP]
  rw [ha, inA_k hl hi]
  rfl
theorem R_zast {a i z : Int} {n : Nat} (hd : decode M.2.1 pc = .ok (.bastore, 1)) (ha : isA NC a 4 = true) (hl : (lay a.toNat).2.2 = n) (hi : 0 ≤ i ∧ i < (n : Int)) (hz : z = 0 ∨ z = 1) (hp : pc + 1 = p') (k : Rn xs xl d M p' ls st (wr h a i z) Q) : Rn xs xl d M pc ls (.inl z :: .inl i :: .inr (.inr a) :: st) h Q := by
  refine R_P hd rfl rfl ?_ hp k
  simp only [lmP]
  rw [ha, inA_k hl hi, decide_eq_true hz]
  simp
theorem R_C {i : Instr} {len : Nat} {v : LV} (hd : decode M.2.1 pc = .ok (i, len)) (hc : icls i = 7) (hl : ilen i len = true) (e : lmC M.2.2.2.2.1 i = some v) (hp : pc + len = p') (k : Rn xs xl d M p' ls (v :: st) h Q) : Rn xs xl d M pc ls st h Q := by
  subst hp
  obtain ⟨r1, r2⟩ := cls_noRK (i := i) (by omega) (by omega)
  exact Rn.step hd hl (r1 _ _) (r2 _ _ _) (lmI_C hc e) k
-- returns
theorem R_iret {x : Int} (hd : decode M.2.1 pc = .ok (.ireturn, 1)) (hr : M.2.2.2.1 = some .int) (k : Q (some (.inl x)) h) : Rn xs xl d M pc ls [.inl x] h Q :=
  Rn.ret hd rfl (by simp only [lmR]; rw [if_pos hr]) k
theorem R_zret {x : Int} (hd : decode M.2.1 pc = .ok (.ireturn, 1)) (hr : M.2.2.2.1 = some .boolean) (hx : x = 0 ∨ x = 1) (k : Q (some (.inl x)) h) : Rn xs xl d M pc ls [.inl x] h Q :=
  Rn.ret hd rfl (by simp only [lmR]; rw [if_neg (by rw [hr]; decide), if_pos ⟨hr, hx⟩]) k
theorem R_vret (hd : decode M.2.1 pc = .ok (.return_, 1)) (hr : M.2.2.2.1 = none) (k : Q none h) : Rn xs xl d M pc ls [] h Q :=
  Rn.ret hd rfl (by simp only [lmR]; rw [if_pos hr]) k
-- calls
def cwOk (o x kind k np ml own : Nat) : Bool := match (MTC o).find? (fun q => q.1 == x) with
  | some q => q.2.1 == k && q.2.2.1 == 0 && match MTB k with
    | some M => M.2.2.2.2.2.1 == np && M.2.2.1 == ml && M.2.2.2.2.2.2.1 == (if kind = 1 then 1 else 0) && M.2.2.2.2.1 == own && !(M.1.name == "<init>")
    | none => false
  | none => false
theorem cw_v {o x k np ml own : Nat} (hc : cwOk o x 0 k np ml own = true) {a : Int} {as rest st : List LV} (ho : isO NC a own = true) (hs : st = (.inr (.inr a) :: as).reverse ++ rest) (hn : as.length + 1 = np) (h1 : lcat rest ≤ 8) (h2 : (lent (.inr (.inr a) :: as)).length ≤ ml) : lmK o NC (.invokevirtual x) st = some (k, .inr (.inr a) :: as, rest) := by
  unfold cwOk at hc
  split at hc
  · next q hq =>
    simp only [Bool.and_eq_true, beq_iff_eq] at hc
    obtain ⟨⟨hk, hz⟩, hc⟩ := hc
    split at hc
    · next M hM =>
      simp only [Bool.and_eq_true, beq_iff_eq, Bool.not_eq_true'] at hc
      obtain ⟨⟨⟨⟨e1, e2⟩, e3⟩, e4⟩, e5⟩ := hc
      have t1 : (((.inr (.inr a) : LV) :: as).reverse ++ rest).take np = ((.inr (.inr a) : LV) :: as).reverse := by
        rw [List.take_append_of_le_length (by simp; omega), List.take_of_length_le (by simp; omega)]
      have t2 : (((.inr (.inr a) : LV) :: as).reverse ++ rest).drop np = rest := by
        rw [List.drop_append_of_le_length (by simp; omega), List.drop_of_length_le (by simp; omega)]
        rfl
      subst hs
      simp only [lmK]
      rw [hq]
      simp only
      rw [hk, hM]
      simp only
      rw [e1, e3, t1, t2, List.reverse_reverse, if_pos ⟨by simp; omega, h1, by rw [e2]; exact h2, rfl⟩]
      simp only [Nat.zero_ne_one, if_false]
      rw [e4, ho, e5, hz]
      rfl
    · cases hc
  · cases hc
theorem cw_s {o x k np ml own : Nat} (hc : cwOk o x 1 k np ml own = true) {as rest st : List LV} (hs : st = as.reverse ++ rest) (hn : as.length = np) (h1 : lcat rest ≤ 8) (h2 : (lent as).length ≤ ml) : lmK o NC (.invokestatic x) st = some (k, as, rest) := by
  unfold cwOk at hc
  split at hc
  · next q hq =>
    simp only [Bool.and_eq_true, beq_iff_eq] at hc
    obtain ⟨⟨hk, hz⟩, hc⟩ := hc
    split at hc
    · next M hM =>
      simp only [Bool.and_eq_true, beq_iff_eq, Bool.not_eq_true'] at hc
      obtain ⟨⟨⟨⟨e1, e2⟩, e3⟩, e4⟩, e5⟩ := hc
      have t1 : (as.reverse ++ rest).take np = as.reverse := by
        rw [List.take_append_of_le_length (by simp; omega), List.take_of_length_le (by simp; omega)]
      have t2 : (as.reverse ++ rest).drop np = rest := by
        rw [List.drop_append_of_le_length (by simp; omega), List.drop_of_length_le (by simp; omega)]
        rfl
      subst hs
      simp only [lmK]
      rw [hq]
      simp only
      rw [hk, hM]
      simp only
      rw [e1, e3, t1, t2, List.reverse_reverse, if_pos ⟨by simp; omega, h1, by rw [e2]; exact h2, rfl⟩, if_pos trivial, if_pos hz]
    · cases hc
  · cases hc
theorem R_call {i : Instr} {k c : Nat} {as rest : List LV} {M' : LM_M} {ls0 : LL} (hd : decode M.2.1 pc = .ok (i, 3)) (hcl : icls i = 9) (hl : ilen i 3 = true) (hK : lmK M.2.2.2.2.1 NC i st = some (k, as, rest)) (hM : MTB k = some M') (he : lpad M'.2.2.1 (lent as) = ls0) (hcd : c < d) (hp : pc + 3 = p') (hc : Rn xs xl c M' 0 ls0 [] h (fun r h' => Rn xs xl d M p' ls (r.toList ++ rest) h' Q)) : Rn xs xl d M pc ls st h Q := by
  subst hp
  subst he
  obtain ⟨e, rfl⟩ : ∃ e, d = e + 1 := ⟨d - 1, by omega⟩
  exact Rn.call hd hl (cls_R hcl _ _) hK hM (hc.deep (d' := e) (by omega)) (fun r h' hq => hq)
end RW
-- heaps
theorem rdw_ne {h : LH} {a b i j v : Int} (hab : a ≠ b) : rd (wr h a i v) b j = rd h b j := by rw [rd_wr, if_neg (fun q => hab q.1)]
theorem rdw_nei {h : LH} {a b i j v : Int} (hij : i ≠ j) : rd (wr h a i v) b j = rd h b j := by rw [rd_wr, if_neg (fun q => hij q.2)]
theorem rdw_eq {h : LH} {a i v : Int} : rd (wr h a i v) a i = v := by rw [rd_wr, if_pos ⟨rfl, rfl⟩]
-- locals that aren't read any more
def nL (o : Option LV) : Prop := ∀ w, o = some w → isL w = false
theorem lst_i {ls : LL} {k : Nat} {v : LV} (hv : isL v = false) (hn : nL (lget ls k)) : lst ls (k + 1) v = ls.set (k + 1) (some v) := by
  unfold lst
  rw [if_neg (by rw [hv]; decide)]
  have : lkill ls (k + 1) = ls := by
    show (match lget ls k with
      | some v => if isL v then ls.set k none else ls
      | none => ls) = ls
    split
    · next w hw => rw [if_neg (by rw [hn w hw]; decide)]
    · rfl
  rw [this]
theorem nL_n : nL none := fun w hw => by cases hw
theorem nL_i {x : Int} : nL (some (.inl x)) := fun w hw => by cases hw; rfl
theorem nL_r {x : Int} : nL (some (.inr (.inr x))) := fun w hw => by cases hw; rfl
/-- what fields hold that never change -/
def RF (h : LH) : Prop := ∀ (a : Int) (j : Nat) (c : Int), vB a j = true → hav a j = (2, c, c, 0) → rd h a j = c
theorem RF_of {h : LH} (hr : RNG h) : RF h := by
  intro a j c hv e
  have h1 := hr a j (vB_ok hv)
  rw [e] at h1
  obtain ⟨x, x1, x2⟩ := gV_r h1 rfl
  have h2 := inV_c x2 rfl
  unfold hval mkv at x1
  split at x1
  · cases x1
  · cases x1
    exact h2
  · cases x1
