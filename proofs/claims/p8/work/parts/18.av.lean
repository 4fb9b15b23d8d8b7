/-! LM, part 18: values by bounds: (kind, least, most, stride) -/
abbrev AV : Type := Nat × Int × Int × Nat
abbrev PV : Type := Nat × Int × Int × Int × Int
abbrev SE : Type := AV × PV
def inV (a : AV) (x : Int) : Prop := a.2.1 ≤ x ∧ x ≤ a.2.2.1 ∧ ((a.2.2.2 : Nat) : Int) ∣ (x - a.2.1)
def gV (a : AV) (v : LV) : Prop := match v with
  | .inl x => a.1 = 0 ∧ i32 x ∧ inV a x
  | .inr (.inl x) => a.1 = 1 ∧ i64 x ∧ inV a x
  | .inr (.inr x) => a.1 = 2 ∧ inV a x
def mkA (k : Nat) (lo hi : Int) (st : Nat) : AV := if lo = hi then (k, lo, hi, 0) else (k, lo, hi, if st = 0 then 1 else st)
def top0 : AV := (0, -2147483648, 2147483647, 1)
def top1 : AV := (1, -9223372036854775808, 9223372036854775807, 1)
theorem inV_mk {k : Nat} {lo hi : Int} {st : Nat} {x : Int} (h1 : lo ≤ x) (h2 : x ≤ hi) (h3 : (st : Int) ∣ (x - lo)) : inV (mkA k lo hi st) x := by
  unfold mkA
  split
  · next e => exact ⟨h1, h2, by show ((0 : Nat) : Int) ∣ (x - lo); rw [show x - lo = 0 by omega]; exact Int.dvd_refl _⟩
  · refine ⟨h1, h2, ?_⟩
    show (((if st = 0 then 1 else st : Nat) : Nat) : Int) ∣ (x - lo)
    split
    · exact Int.one_dvd _
    · exact h3
theorem mkA_k (k : Nat) (lo hi : Int) (st : Nat) : (mkA k lo hi st).1 = k := by unfold mkA; split <;> rfl
theorem inV_mk1 {k : Nat} {lo hi : Int} {x : Int} (h1 : lo ≤ x) (h2 : x ≤ hi) : inV (mkA k lo hi 1) x := inV_mk h1 h2 (Int.one_dvd _)
theorem gV_i {a : AV} {v : LV} (h : gV a v) (hk : a.1 = 0) : ∃ x, v = .inl x ∧ i32 x ∧ inV a x := by
  match v, h with
  | .inl x, h => exact ⟨x, rfl, h.2⟩
  | .inr (.inl x), h => exact absurd (h.1.symm.trans hk) (by omega)
  | .inr (.inr x), h => exact absurd (h.1.symm.trans hk) (by omega)
theorem gV_l {a : AV} {v : LV} (h : gV a v) (hk : a.1 = 1) : ∃ x, v = .inr (.inl x) ∧ i64 x ∧ inV a x := by
  match v, h with
  | .inl x, h => exact absurd (h.1.symm.trans hk) (by omega)
  | .inr (.inl x), h => exact ⟨x, rfl, h.2⟩
  | .inr (.inr x), h => exact absurd (h.1.symm.trans hk) (by omega)
theorem gV_r {a : AV} {v : LV} (h : gV a v) (hk : a.1 = 2) : ∃ x, v = .inr (.inr x) ∧ inV a x := by
  match v, h with
  | .inl x, h => exact absurd (h.1.symm.trans hk) (by omega)
  | .inr (.inl x), h => exact absurd (h.1.symm.trans hk) (by omega)
  | .inr (.inr x), h => exact ⟨x, rfl, h.2⟩
theorem gV_top0 {x : Int} (h : i32 x) : gV top0 (.inl x) := ⟨rfl, h, h.1, h.2, Int.one_dvd _⟩
theorem gV_top1 {x : Int} (h : i64 x) : gV top1 (.inr (.inl x)) := ⟨rfl, h, h.1, h.2, Int.one_dvd _⟩
theorem gV_mk0 {lo hi : Int} {st : Nat} {x : Int} (hx : i32 x) (h1 : lo ≤ x) (h2 : x ≤ hi) (h3 : (st : Int) ∣ (x - lo)) : gV (mkA 0 lo hi st) (.inl x) := ⟨mkA_k _ _ _ _, hx, inV_mk h1 h2 h3⟩
theorem gV_mk01 {lo hi : Int} {x : Int} (hx : i32 x) (h1 : lo ≤ x) (h2 : x ≤ hi) : gV (mkA 0 lo hi 1) (.inl x) := gV_mk0 hx h1 h2 (Int.one_dvd _)
def leA (a b : AV) : Bool := a.1 == b.1 && decide (b.2.1 ≤ a.2.1) && decide (a.2.2.1 ≤ b.2.2.1) && (a.2.2.2 % b.2.2.2 == 0) && decide ((a.2.1 - b.2.1) % (b.2.2.2 : Int) = 0)
theorem leA_in {a b : AV} (h : leA a b = true) {x : Int} (hx : inV a x) : inV b x := by
  unfold leA at h
  simp only [Bool.and_eq_true, decide_eq_true_eq, beq_iff_eq] at h
  obtain ⟨⟨⟨⟨-, h2⟩, h3⟩, h4⟩, h5⟩ := h
  obtain ⟨x1, x2, x3⟩ := hx
  refine ⟨by omega, by omega, ?_⟩
  have d1 : ((b.2.2.2 : Nat) : Int) ∣ (a.2.1 - b.2.1) := Int.dvd_of_emod_eq_zero h5
  have d2 : ((b.2.2.2 : Nat) : Int) ∣ ((a.2.2.2 : Nat) : Int) := Int.natCast_dvd_natCast.mpr (Nat.dvd_of_mod_eq_zero h4)
  have d3 := Int.dvd_trans d2 x3
  rw [show x - b.2.1 = (x - a.2.1) + (a.2.1 - b.2.1) by omega]
  exact Int.dvd_add d3 d1
theorem leA_ok {a b : AV} (h : leA a b = true) {v : LV} (hv : gV a v) : gV b v := by
  have hk : a.1 = b.1 := by
    unfold leA at h
    simp only [Bool.and_eq_true, beq_iff_eq] at h
    exact h.1.1.1.1
  match v, hv with
  | .inl x, hv => exact ⟨hk ▸ hv.1, hv.2.1, leA_in h hv.2.2⟩
  | .inr (.inl x), hv => exact ⟨hk ▸ hv.1, hv.2.1, leA_in h hv.2.2⟩
  | .inr (.inr x), hv => exact ⟨hk ▸ hv.1, leA_in h hv.2⟩
-- numbers
def w0 (lo hi : Int) (st : Nat) : AV := if -2147483648 ≤ lo ∧ hi ≤ 2147483647 then mkA 0 lo hi st else top0
theorem w0_ok {lo hi : Int} {st : Nat} {x : Int} (h1 : lo ≤ x) (h2 : x ≤ hi) (h3 : (st : Int) ∣ (x - lo)) : gV (w0 lo hi st) (.inl (w32 x)) := by
  unfold w0
  split
  · next h =>
    have hx : i32 x := by unfold i32; omega
    rw [w32_id hx]
    exact gV_mk0 hx h1 h2 h3
  · exact gV_top0 (w32_in x)
def aAdd (a b : AV) : AV := w0 (a.2.1 + b.2.1) (a.2.2.1 + b.2.2.1) (Nat.gcd a.2.2.2 b.2.2.2)
theorem aAdd_ok {a b : AV} {x y : Int} (hx : inV a x) (hy : inV b y) : gV (aAdd a b) (.inl (w32 (x + y))) := by
  obtain ⟨x1, x2, x3⟩ := hx
  obtain ⟨y1, y2, y3⟩ := hy
  refine w0_ok (by omega) (by omega) ?_
  have g1 : ((Nat.gcd a.2.2.2 b.2.2.2 : Nat) : Int) ∣ ((a.2.2.2 : Nat) : Int) := Int.natCast_dvd_natCast.mpr (Nat.gcd_dvd_left _ _)
  have g2 : ((Nat.gcd a.2.2.2 b.2.2.2 : Nat) : Int) ∣ ((b.2.2.2 : Nat) : Int) := Int.natCast_dvd_natCast.mpr (Nat.gcd_dvd_right _ _)
  rw [show x + y - (a.2.1 + b.2.1) = (x - a.2.1) + (y - b.2.1) by omega]
  exact Int.dvd_add (Int.dvd_trans g1 x3) (Int.dvd_trans g2 y3)
def aSub (a b : AV) : AV := w0 (a.2.1 - b.2.2.1) (a.2.2.1 - b.2.1) (if (b.2.2.1 - b.2.1) % (b.2.2.2 : Int) = 0 then Nat.gcd a.2.2.2 b.2.2.2 else 1)
theorem aSub_ok {a b : AV} {x y : Int} (hx : inV a x) (hy : inV b y) : gV (aSub a b) (.inl (w32 (x - y))) := by
  obtain ⟨x1, x2, x3⟩ := hx
  obtain ⟨y1, y2, y3⟩ := hy
  refine w0_ok (by omega) (by omega) ?_
  split
  · next h =>
    have g1 : ((Nat.gcd a.2.2.2 b.2.2.2 : Nat) : Int) ∣ ((a.2.2.2 : Nat) : Int) := Int.natCast_dvd_natCast.mpr (Nat.gcd_dvd_left _ _)
    have g2 : ((Nat.gcd a.2.2.2 b.2.2.2 : Nat) : Int) ∣ ((b.2.2.2 : Nat) : Int) := Int.natCast_dvd_natCast.mpr (Nat.gcd_dvd_right _ _)
    have g3 := Int.dvd_sub (Int.dvd_of_emod_eq_zero h) y3
    rw [show x - y - (a.2.1 - b.2.2.1) = (x - a.2.1) + (b.2.2.1 - b.2.1 - (y - b.2.1)) by omega]
    exact Int.dvd_add (Int.dvd_trans g1 x3) (Int.dvd_trans g2 g3)
  · exact Int.one_dvd _
theorem inV_c {a : AV} {x : Int} (hx : inV a x) (h : a.2.2.2 = 0) : x = a.2.1 := by
  obtain ⟨x1, x2, x3⟩ := hx
  rw [h] at x3
  have := Int.zero_dvd.mp x3
  omega
def aMul (a b : AV) : AV :=
  if b.2.2.2 = 0 ∧ 0 ≤ b.2.1 then w0 (a.2.1 * b.2.1) (a.2.2.1 * b.2.1) (a.2.2.2 * b.2.1.toNat)
  else if a.2.2.2 = 0 ∧ 0 ≤ a.2.1 then w0 (b.2.1 * a.2.1) (b.2.2.1 * a.2.1) (b.2.2.2 * a.2.1.toNat)
  else if 0 ≤ a.2.1 ∧ 0 ≤ b.2.1 then w0 (a.2.1 * b.2.1) (a.2.2.1 * b.2.2.1) 1 else top0
theorem aMul_c {a : AV} {x c : Int} (hx : inV a x) (hc : 0 ≤ c) : gV (w0 (a.2.1 * c) (a.2.2.1 * c) (a.2.2.2 * c.toNat)) (.inl (w32 (x * c))) := by
  obtain ⟨x1, x2, x3⟩ := hx
  refine w0_ok (Int.mul_le_mul_of_nonneg_right x1 hc) (Int.mul_le_mul_of_nonneg_right x2 hc) ?_
  rw [← Int.sub_mul, show ((a.2.2.2 * c.toNat : Nat) : Int) = (a.2.2.2 : Int) * c by rw [Int.natCast_mul, Int.toNat_of_nonneg hc]]
  exact Int.mul_dvd_mul x3 (Int.dvd_refl c)
theorem aMul_ok {a b : AV} {x y : Int} (hx : inV a x) (hy : inV b y) : gV (aMul a b) (.inl (w32 (x * y))) := by
  unfold aMul
  split
  · next h =>
    rw [inV_c hy h.1]
    exact aMul_c hx h.2
  · split
    · next h =>
      rw [inV_c hx h.1, show a.2.1 * y = y * a.2.1 from Int.mul_comm _ _]
      exact aMul_c hy h.2
    · split
      · next h =>
        obtain ⟨x1, x2, x3⟩ := hx
        obtain ⟨y1, y2, y3⟩ := hy
        exact w0_ok (Int.mul_le_mul x1 y1 h.2 (by omega)) (Int.mul_le_mul x2 y2 (by omega) (by omega)) (Int.one_dvd _)
      · exact gV_top0 (w32_in _)
def aDiv (a b : AV) : Option AV :=
  if b.2.1 ≤ 0 ∧ 0 ≤ b.2.2.1 then none
  else if 0 < b.2.1 ∧ 0 ≤ a.2.1 then some (if b.2.2.2 = 0 then mkA 0 (a.2.1 / b.2.1) (a.2.2.1 / b.2.1) 1 else mkA 0 0 a.2.2.1 1) else some top0
def aRem (a b : AV) : Option AV :=
  if b.2.1 ≤ 0 ∧ 0 ≤ b.2.2.1 then none
  else if 0 < b.2.1 ∧ 0 ≤ a.2.1 then some (if b.2.2.2 = 0 ∧ a.2.2.1 < b.2.1 then (0, a.2.1, a.2.2.1, a.2.2.2) else mkA 0 0 (min a.2.2.1 (b.2.2.1 - 1)) 1) else some top0
theorem div_pos {x y : Int} (hx : 0 ≤ x) (hy : 0 < y) : x.tdiv y = x / y ∧ 0 ≤ x / y ∧ x / y ≤ x := by
  refine ⟨Int.tdiv_eq_ediv_of_nonneg hx, Int.ediv_nonneg hx (by omega), ?_⟩
  have h1 := Int.ediv_mul_le x (b := y) (by omega)
  have h2 := Int.ediv_nonneg hx (b := y) (by omega)
  have h3 : x / y * 1 ≤ x / y * y := Int.mul_le_mul_of_nonneg_left (by omega) h2
  omega
theorem aDiv_ok {a b c : AV} {x y : Int} (hc : aDiv a b = some c) (h1 : i32 x) (hx : inV a x) (hy : inV b y) : y ≠ 0 ∧ gV c (.inl (w32 (x.tdiv y))) := by
  obtain ⟨x1, x2, x3⟩ := hx
  have hy2 := hy
  obtain ⟨y1, y2, y3⟩ := hy2
  unfold aDiv at hc
  split at hc
  · cases hc
  · next h =>
    refine ⟨fun e => h (by omega), ?_⟩
    split at hc
    · next h2 =>
      obtain ⟨d1, d2, d3⟩ := div_pos (x := x) (y := y) (by omega) (by omega)
      have hi : i32 (x / y) := by unfold i32 at h1 ⊢; omega
      rw [d1, w32_id hi]
      cases some_i hc
      split
      · next h3 =>
        rw [inV_c hy h3] at d2 hi ⊢
        exact gV_mk01 hi (Int.ediv_le_ediv (by omega) x1) (Int.ediv_le_ediv (by omega) x2)
      · exact gV_mk01 hi d2 (by omega)
    · cases some_i hc
      exact gV_top0 (w32_in _)
theorem rem_eq {x y : Int} (h1 : i32 x) (hx : 0 ≤ x) (hy : 0 < y) : w32 (x - w32 (w32 (x.tdiv y) * y)) = x % y ∧ 0 ≤ x % y ∧ x % y < y ∧ x % y ≤ x := by
  obtain ⟨d1, d2, d3⟩ := div_pos hx hy
  have hi : i32 (x / y) := by unfold i32 at h1 ⊢; omega
  have e1 := Int.emod_nonneg x (b := y) (by omega)
  have e2 := Int.emod_lt_of_pos x hy
  have e3 := Int.mul_ediv_add_emod x y
  have e4 : 0 ≤ y * (x / y) := Int.mul_nonneg (by omega) d2
  rw [d1, w32_id hi, Int.mul_comm (x / y) y, w32_id (x := y * (x / y)) (by unfold i32 at h1 ⊢; omega), show x - y * (x / y) = x % y by omega, w32_id (by unfold i32 at h1 ⊢; omega)]
  exact ⟨rfl, e1, e2, by omega⟩
theorem aRem_ok {a b c : AV} {x y : Int} (hc : aRem a b = some c) (h1 : i32 x) (hx : inV a x) (hy : inV b y) : y ≠ 0 ∧ gV c (.inl (w32 (x - w32 (w32 (x.tdiv y) * y)))) := by
  have hx2 := hx
  obtain ⟨x1, x2, x3⟩ := hx2
  have hy2 := hy
  obtain ⟨y1, y2, y3⟩ := hy2
  unfold aRem at hc
  split at hc
  · cases hc
  · next h =>
    refine ⟨fun e => h (by omega), ?_⟩
    split at hc
    · next h2 =>
      obtain ⟨d1, d2, d3, d4⟩ := rem_eq (x := x) (y := y) h1 (by omega) (by omega)
      have hi : i32 (x % y) := by unfold i32 at h1 ⊢; omega
      rw [d1]
      cases some_i hc
      split
      · next h3 =>
        have e := inV_c hy h3.1
        rw [Int.emod_eq_of_lt (by omega) (by omega)]
        exact ⟨rfl, h1, hx⟩
      · exact gV_mk01 hi d2 (by omega)
    · cases some_i hc
      exact gV_top0 (w32_in _)
-- bits
theorem small {x : Int32} {n : Nat} (h : x.toBitVec.toNat = n) (hn : n < 2147483648) : x.toInt = (n : Int) := by
  show x.toBitVec.toInt = _
  rw [BitVec.toInt_eq_toNat_of_lt (by rw [h]; omega), h]
theorem ofI {a : Int} (h0 : 0 ≤ a) (h1 : i32 a) : (Int32.ofInt a).toBitVec.toNat = a.toNat := by
  have h2 := x_of h1
  have h3 : (Int32.ofInt a).toBitVec.toInt = a := h2
  have h4 := (Int32.ofInt a).toBitVec.isLt
  rw [BitVec.toInt_eq_toNat_cond] at h3
  unfold i32 at h1
  split at h3 <;> omega
theorem zand_l {a b : Int} (h0 : 0 ≤ a) (h1 : i32 a) : 0 ≤ zand a b ∧ zand a b ≤ a := by
  have h2 := ofI h0 h1
  have h3 : (Int32.ofInt a &&& Int32.ofInt b).toBitVec.toNat = a.toNat &&& (Int32.ofInt b).toBitVec.toNat := by
    rw [Int32.toBitVec_and, BitVec.toNat_and, h2]
  have h4 : a.toNat &&& (Int32.ofInt b).toBitVec.toNat ≤ a.toNat := Nat.and_le_left
  unfold zand
  unfold i32 at h1
  rw [small h3 (by omega)]
  omega
theorem zand_r {a b : Int} (h0 : 0 ≤ b) (h1 : i32 b) : 0 ≤ zand a b ∧ zand a b ≤ b := by
  have h2 := ofI h0 h1
  have h3 : (Int32.ofInt a &&& Int32.ofInt b).toBitVec.toNat = (Int32.ofInt a).toBitVec.toNat &&& b.toNat := by
    rw [Int32.toBitVec_and, BitVec.toNat_and, h2]
  have h4 : (Int32.ofInt a).toBitVec.toNat &&& b.toNat ≤ b.toNat := Nat.and_le_right
  unfold zand
  unfold i32 at h1
  rw [small h3 (by omega)]
  omega
theorem zor_b {a b : Int} (h0 : 0 ≤ a) (h1 : a ≤ 1023) (h2 : 0 ≤ b) (h3 : b ≤ 1023) : 0 ≤ zor a b ∧ zor a b ≤ 1023 := by
  have e1 := ofI h0 (by unfold i32; omega)
  have e2 := ofI h2 (by unfold i32; omega)
  have e3 : (Int32.ofInt a ||| Int32.ofInt b).toBitVec.toNat = a.toNat ||| b.toNat := by
    rw [Int32.toBitVec_or, BitVec.toNat_or, e1, e2]
  have e4 : a.toNat ||| b.toNat < 2 ^ 10 := Nat.or_lt_two_pow (by omega) (by omega)
  unfold zor
  rw [small e3 (by omega)]
  omega
theorem zor_1 {a b : Int} (h0 : 0 ≤ a) (h1 : a ≤ 1) (h2 : 0 ≤ b) (h3 : b ≤ 1) : 0 ≤ zor a b ∧ zor a b ≤ 1 := by
  have e1 := ofI h0 (by unfold i32; omega)
  have e2 := ofI h2 (by unfold i32; omega)
  have e3 : (Int32.ofInt a ||| Int32.ofInt b).toBitVec.toNat = a.toNat ||| b.toNat := by
    rw [Int32.toBitVec_or, BitVec.toNat_or, e1, e2]
  have e4 : a.toNat ||| b.toNat < 2 ^ 1 := Nat.or_lt_two_pow (by omega) (by omega)
  unfold zor
  rw [small e3 (by omega)]
  omega
theorem zshl_1 : ∀ k : Nat, k < 31 → zshl 1 (k : Int) = 2 ^ k := by decide +kernel
theorem zshr_b {a b : Int} (h0 : 0 ≤ a) (h1 : i32 a) : 0 ≤ zshr a b ∧ zshr a b ≤ a := by
  unfold zshr
  have h2 : (Int32.ofInt a >>> (Int32.ofInt b &&& 31)).toInt = (Int32.ofInt a).toInt >>> ((Int32.ofInt b &&& 31).toBitVec.smod 32).toNat := by
    show ((Int32.ofInt a).toBitVec.sshiftRight ((Int32.ofInt b &&& 31).toBitVec.smod 32).toNat).toInt = _
    rw [BitVec.toInt_sshiftRight]
    rfl
  rw [h2, x_of h1, Int.shiftRight_eq_div_pow]
  have h3 : (0 : Int) < ((2 ^ ((Int32.ofInt b &&& 31).toBitVec.smod 32).toNat : Nat) : Int) := by exact_mod_cast Nat.two_pow_pos _
  obtain ⟨-, d2, d3⟩ := div_pos h0 h3
  exact ⟨d2, d3⟩
def aAnd (a b : AV) : AV := if 0 ≤ a.2.1 then (if 0 ≤ b.2.1 then mkA 0 0 (min a.2.2.1 b.2.2.1) 1 else mkA 0 0 a.2.2.1 1) else if 0 ≤ b.2.1 then mkA 0 0 b.2.2.1 1 else top0
theorem aAnd_ok {a b : AV} {x y : Int} (h1 : i32 x) (h2 : i32 y) (hx : inV a x) (hy : inV b y) : gV (aAnd a b) (.inl (zand x y)) := by
  obtain ⟨x1, x2, x3⟩ := hx
  obtain ⟨y1, y2, y3⟩ := hy
  have hi : i32 (zand x y) := x_in _
  unfold aAnd
  split
  · next h =>
    obtain ⟨l1, l2⟩ := zand_l (b := y) (show 0 ≤ x by omega) h1
    split
    · next h3 =>
      obtain ⟨r1, r2⟩ := zand_r (a := x) (show 0 ≤ y by omega) h2
      exact gV_mk01 hi l1 (by omega)
    · exact gV_mk01 hi l1 (by omega)
  · split
    · next h3 =>
      obtain ⟨r1, r2⟩ := zand_r (a := x) (show 0 ≤ y by omega) h2
      exact gV_mk01 hi r1 (by omega)
    · exact gV_top0 hi
def aOr (a b : AV) : AV := if 0 ≤ a.2.1 ∧ 0 ≤ b.2.1 ∧ a.2.2.1 ≤ 1 ∧ b.2.2.1 ≤ 1 then mkA 0 0 1 1 else if 0 ≤ a.2.1 ∧ 0 ≤ b.2.1 ∧ a.2.2.1 ≤ 1023 ∧ b.2.2.1 ≤ 1023 then mkA 0 0 1023 1 else top0
theorem aOr_ok {a b : AV} {x y : Int} (hx : inV a x) (hy : inV b y) : gV (aOr a b) (.inl (zor x y)) := by
  obtain ⟨x1, x2, x3⟩ := hx
  obtain ⟨y1, y2, y3⟩ := hy
  unfold aOr
  split
  · next h =>
    obtain ⟨l1, l2⟩ := zor_1 (a := x) (b := y) (by omega) (by omega) (by omega) (by omega)
    exact gV_mk01 (x_in _) l1 l2
  · split
    · next h =>
      obtain ⟨l1, l2⟩ := zor_b (a := x) (b := y) (by omega) (by omega) (by omega) (by omega)
      exact gV_mk01 (x_in _) l1 l2
    · exact gV_top0 (x_in _)
def aShl (a b : AV) : AV := if a.2.2.2 = 0 ∧ a.2.1 = 1 ∧ 0 ≤ b.2.1 ∧ b.2.2.1 ≤ 30 then mkA 0 (2 ^ b.2.1.toNat) (2 ^ b.2.2.1.toNat) 1 else top0
theorem aShl_ok {a b : AV} {x y : Int} (hx : inV a x) (hy : inV b y) : gV (aShl a b) (.inl (zshl x y)) := by
  have hi : i32 (zshl x y) := x_in _
  unfold aShl
  split
  · next h =>
    rw [inV_c hx h.1, h.2.1] at hi ⊢
    obtain ⟨y1, y2, y3⟩ := hy
    have e : zshl 1 y = 2 ^ y.toNat := by
      have := zshl_1 y.toNat (by omega)
      rw [Int.toNat_of_nonneg (by omega)] at this
      exact this
    rw [e] at hi ⊢
    refine gV_mk01 hi ?_ ?_
    · exact_mod_cast Nat.pow_le_pow_right (by omega) (show b.2.1.toNat ≤ y.toNat by omega)
    · exact_mod_cast Nat.pow_le_pow_right (by omega) (show y.toNat ≤ b.2.2.1.toNat by omega)
  · exact gV_top0 hi
def aShr (a : AV) : AV := if 0 ≤ a.2.1 then mkA 0 0 a.2.2.1 1 else top0
theorem aShr_ok {a : AV} {x y : Int} (h1 : i32 x) (hx : inV a x) : gV (aShr a) (.inl (zshr x y)) := by
  obtain ⟨x1, x2, x3⟩ := hx
  unfold aShr
  split
  · next h =>
    obtain ⟨l1, l2⟩ := zshr_b (b := y) (show 0 ≤ x by omega) h1
    exact gV_mk01 (x_in _) l1 (by omega)
  · exact gV_top0 (x_in _)
def aNeg (a : AV) : AV := w0 (-a.2.2.1) (-a.2.1) 1
theorem aNeg_ok {a : AV} {x : Int} (hx : inV a x) : gV (aNeg a) (.inl (w32 (-x))) := by
  obtain ⟨x1, x2, x3⟩ := hx
  exact w0_ok (by omega) (by omega) (Int.one_dvd _)
-- meeting bounds
def meetA (a : AV) (lo hi : Int) : Option AV :=
  if max a.2.1 lo ≤ min a.2.2.1 hi then some (if lo ≤ a.2.1 ∧ a.2.2.1 ≤ hi then a else mkA a.1 (max a.2.1 lo) (min a.2.2.1 hi) 1) else none
theorem meetA_k {a b : AV} {lo hi : Int} (h : meetA a lo hi = some b) : b.1 = a.1 := by
  unfold meetA at h
  split at h
  · cases some_i h
    split
    · rfl
    · exact mkA_k _ _ _ _
  · cases h
theorem meetA_in {a : AV} {lo hi x : Int} (hx : inV a x) (h1 : lo ≤ x) (h2 : x ≤ hi) : ∃ b, meetA a lo hi = some b ∧ inV b x := by
  have hx2 := hx
  obtain ⟨x1, x2, x3⟩ := hx2
  unfold meetA
  rw [if_pos (by omega)]
  refine ⟨_, rfl, ?_⟩
  split
  · exact hx
  · exact inV_mk1 (by omega) (by omega)
