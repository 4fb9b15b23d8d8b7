section
/-! LM, part 18: values by bounds: (kind, least, most, stride) -/
abbrev AV : Type := Nat × Int × Int × Nat
abbrev PV : Type := Nat × Int × Int × Int × Int
abbrev SE : Type := AV × PV
def inV (a : AV) (x : Int) : Prop := a.2.1 ≤ x ∧ x ≤ a.2.2.1 ∧ ((a.2.2.2 : Nat) : Int) ∣ (x - a.2.1)
def gV (a : AV) (v : LV) : Prop := match v with
  | .inl x => a.1 = 0 ∧ i32 x ∧ inV a x
  | .inr (.inl x) => a.1 = 1 ∧ i64 x ∧ inV a x
  | .inr (.inr x) => a.1 = 2 ∧ inV a x
def mkA (k : Nat) (lo hi : Int) (st : Nat) : AV := if lo = hi then (k, lo, hi, 0) else (k, lo, hi, if st = 0 then 1 else st)
def top0 : AV := (0, -2147483648, 2147483647, 1)
def top1 : AV := (1, -9223372036854775808, 9223372036854775807, 1)
theorem inV_mk {k : Nat} {lo hi : Int} {st : Nat} {x : Int} (h1 : lo ≤ x) (h2 : x ≤ hi) (h3 : (st : Int) ∣ (x - lo)) : inV (mkA k lo hi st) x := by
  unfold mkA
  split
  · next e => exact ⟨h1, h2, by show ((0 : Nat) : Int) ∣ (x - lo); rw [show x - lo = 0 by omega]; exact Int.dvd_refl _⟩
  · refine ⟨h1, h2, ?_⟩
    show (((if st = 0 then 1 else st : Nat) : Nat) : Int) ∣ (x - lo)
    split
    · exact Int.one_dvd _
    · exact h3
theorem mkA_k (k : Nat) (lo hi : Int) (st : Nat) : (mkA k lo hi st).1 = k := by unfold mkA; split <;> rfl
theorem inV_mk1 {k : Nat} {lo hi : Int} {x : Int} (h1 : lo ≤ x) (h2 : x ≤ hi) : inV (mkA k lo hi 1) x := inV_mk h1 h2 (Int.one_dvd _)
theorem gV_i {a : AV} {v : LV} (h : gV a v) (hk : a.1 = 0) : ∃ x, v = .inl x ∧ i32 x ∧ inV a x := by
  match v, h with
  | .inl x, h => exact ⟨x, rfl, h.2⟩
  | .inr (.inl x), h => exact absurd (h.1.symm.trans hk) (by omega)
  | .inr (.inr x), h => exact absurd (h.1.symm.trans hk) (by omega)
theorem gV_l {a : AV} {v : LV} (h : gV a v) (hk : a.1 = 1) : ∃ x, v = .inr (.inl x) ∧ i64 x ∧ inV a x := by
  match v, h with
  | .inl x, h => exact absurd (h.1.symm.trans hk) (by omega)
  | .inr (.inl x), h => exact ⟨x, rfl, h.2⟩
  | .inr (.inr x), h => exact absurd (h.1.symm.trans hk) (by omega)
theorem gV_r {a : AV} {v : LV} (h : gV a v) (hk : a.1 = 2) : ∃ x, v = .inr (.inr x) ∧ inV a x := by
  match v, h with
  | .inl x, h => exact absurd (h.1.symm.trans hk) (by omega)
  | .inr (.inl x), h => exact absurd (h.1.symm.trans hk) (by omega)
  | .inr (.inr x), h => exact ⟨x, rfl, h.2⟩
theorem gV_top0 {x : Int} (h : i32 x) : gV top0 (.inl x) := ⟨rfl, h, h.1, h.2, Int.one_dvd _⟩
theorem gV_top1 {x : Int} (h : i64 x) : gV top1 (.inr (.inl x)) := ⟨rfl, h, h.1, h.2, Int.one_dvd _⟩
theorem gV_mk0 {lo hi : Int} {st : Nat} {x : Int} (hx : i32 x) (h1 : lo ≤ x) (h2 : x ≤ hi) (h3 : (st : Int) ∣ (x - lo)) : gV (mkA 0 lo hi st) (.inl x) := ⟨mkA_k _ _ _ _, hx, inV_mk h1 h2 h3⟩
theorem gV_mk01 {lo hi : Int} {x : Int} (hx : i32 x) (h1 : lo ≤ x) (h2 : x ≤ hi) : gV (mkA 0 lo hi 1) (.inl x) := gV_mk0 hx h1 h2 (Int.one_dvd _)
def leA (a b : AV) : Bool := a.1 == b.1 && decide (b.2.1 ≤ a.2.1) && decide (a.2.2.1 ≤ b.2.2.1) && (a.2.2.2 % b.2.2.2 == 0) && decide ((a.2.1 - b.2.1) % (b.2.2.2 : Int) = 0)
theorem leA_in {a b : AV} (h : leA a b = true) {x : Int} (hx : inV a x) : inV b x := by
  unfold leA at h
  simp only [Bool.and_eq_true, decide_eq_true_eq, beq_iff_eq] at h
  obtain ⟨⟨⟨⟨-, h2⟩, h3⟩, h4⟩, h5⟩ := h
  obtain ⟨x1, x2, x3⟩ := hx
  refine ⟨by omega, by omega, ?_⟩
  have d1 : ((b.2.2.2 : Nat) : Int) ∣ (a.2.1 - b.2.1) := Int.dvd_of_emod_eq_zero h5
  have d2 : ((b.2.2.2 : Nat) : Int) ∣ ((a.2.2.2 : Nat) : Int) := Int.natCast_dvd_natCast.mpr (Nat.dvd_of_mod_eq_zero h4)
  have d3 := Int.dvd_trans d2 x3
  rw [show x - b.2.1 = (x - a.2.1) + (a.2.1 - b.2.1) by omega]
  exact Int.dvd_add d3 d1
theorem leA_ok {a b : AV} (h : leA a b = true) {v : LV} (hv : gV a v) : gV b v := by
  have hk : a.1 = b.1 := by
    unfold leA at h
    simp only [Bool.and_eq_true, beq_iff_eq] at h
    exact h.1.1.1.1
  match v, hv with
  | .inl x, hv => exact ⟨hk ▸ hv.1, hv.2.1, leA_in h hv.2.2⟩
  | .inr (.inl x), hv => exact ⟨hk ▸ hv.1, hv.2.1, leA_in h hv.2.2⟩
  | .inr (.inr x), hv => exact ⟨hk ▸ hv.1, leA_in h hv.2⟩
-- numbers
def w0 (lo hi : Int) (st : Nat) : AV := if -2147483648 ≤ lo ∧ hi ≤ 2147483647 then mkA 0 lo hi st else top0
theorem w0_ok {lo hi : Int} {st : Nat} {x : Int} (h1 : lo ≤ x) (h2 : x ≤ hi) (h3 : (st : Int) ∣ (x - lo)) : gV (w0 lo hi st) (.inl (w32 x)) := by
  unfold w0
  split
  · next h =>
    have hx : i32 x := by unfold i32; omega
    rw [w32_id hx]
    exact gV_mk0 hx h1 h2 h3
  · exact gV_top0 (w32_in x)
def aAdd (a b : AV) : AV := w0 (a.2.1 + b.2.1) (a.2.2.1 + b.2.2.1) (Nat.gcd a.2.2.2 b.2.2.2)
theorem aAdd_ok {a b : AV} {x y : Int} (hx : inV a x) (hy : inV b y) : gV (aAdd a b) (.inl (w32 (x + y))) := by
  obtain ⟨x1, x2, x3⟩ := hx
  obtain ⟨y1, y2, y3⟩ := hy
  refine w0_ok (by omega) (by omega) ?_
  have g1 : ((Nat.gcd a.2.2.2 b.2.2.2 : Nat) : Int) ∣ ((a.2.2.2 : Nat) : Int) := Int.natCast_dvd_natCast.mpr (Nat.gcd_dvd_left _ _)
  have g2 : ((Nat.gcd a.2.2.2 b.2.2.2 : Nat) : Int) ∣ ((b.2.2.2 : Nat) : Int) := Int.natCast_dvd_natCast.mpr (Nat.gcd_dvd_right _ _)
  rw [show x + y - (a.2.1 + b.2.1) = (x - a.2.1) + (y - b.2.1) by omega]
  exact Int.dvd_add (Int.dvd_trans g1 x3) (Int.dvd_trans g2 y3)
def aSub (a b : AV) : AV := w0 (a.2.1 - b.2.2.1) (a.2.2.1 - b.2.1) (if (b.2.2.1 - b.2.1) % (b.2.2.2 : Int) = 0 then Nat.gcd a.2.2.2 b.2.2.2 else 1)
theorem aSub_ok {a b : AV} {x y : Int} (hx : inV a x) (hy : inV b y) : gV (aSub a b) (.inl (w32 (x - y))) := by
  obtain ⟨x1, x2, x3⟩ := hx
  obtain ⟨y1, y2, y3⟩ := hy
  refine w0_ok (by omega) (by omega) ?_
  split
  · next h =>
    have g1 : ((Nat.gcd a.2.2.2 b.2.2.2 : Nat) : Int) ∣ ((a.2.2.2 : Nat) : Int) := Int.natCast_dvd_natCast.mpr (Nat.gcd_dvd_left _ _)
    have g2 : ((Nat.gcd a.2.2.2 b.2.2.2 : Nat) : Int) ∣ ((b.2.2.2 : Nat) : Int) := Int.natCast_dvd_natCast.mpr (Nat.gcd_dvd_right _ _)
    have g3 := Int.dvd_sub (Int.dvd_of_emod_eq_zero h) y3
    rw [show x - y - (a.2.1 - b.2.2.1) = (x - a.2.1) + (b.2.2.1 - b.2.1 - (y - b.2.1)) by omega]
    exact Int.dvd_add (Int.dvd_trans g1 x3) (Int.dvd_trans g2 g3)
  · exact Int.one_dvd _
theorem inV_c {a : AV} {x : Int} (hx : inV a x) (h : a.2.2.2 = 0) : x = a.2.1 := by
  obtain ⟨x1, x2, x3⟩ := hx
  rw [h] at x3
  have := Int.zero_dvd.mp x3
  omega
def aMul (a b : AV) : AV :=
  if b.2.2.2 = 0 ∧ 0 ≤ b.2.1 then w0 (a.2.1 * b.2.1) (a.2.2.1 * b.2.1) (a.2.2.2 * b.2.1.toNat)
  else if a.2.2.2 = 0 ∧ 0 ≤ a.2.1 then w0 (b.2.1 * a.2.1) (b.2.2.1 * a.2.1) (b.2.2.2 * a.2.1.toNat)
  else if 0 ≤ a.2.1 ∧ 0 ≤ b.2.1 then w0 (a.2.1 * b.2.1) (a.2.2.1 * b.2.2.1) 1 else top0
theorem aMul_c {a : AV} {x c : Int} (hx : inV a x) (hc : 0 ≤ c) : gV (w0 (a.2.1 * c) (a.2.2.1 * c) (a.2.2.2 * c.toNat)) (.inl (w32 (x * c))) := by
  obtain ⟨x1, x2, x3⟩ := hx
  refine w0_ok (Int.mul_le_mul_of_nonneg_right x1 hc) (Int.mul_le_mul_of_nonneg_right x2 hc) ?_
  rw [← Int.sub_mul, show ((a.2.2.2 * c.toNat : Nat) : Int) = (a.2.2.2 : Int) * c by rw [Int.natCast_mul, Int.toNat_of_nonneg hc]]
  exact Int.mul_dvd_mul x3 (Int.dvd_refl c)
theorem aMul_ok {a b : AV} {x y : Int} (hx : inV a x) (hy : inV b y) : gV (aMul a b) (.inl (w32 (x * y))) := by
  unfold aMul
  split
  · next h =>
    rw [inV_c hy h.1]
    exact aMul_c hx h.2
  · split
    · next h =>
      rw [inV_c hx h.1, show a.2.1 * y = y * a.2.1 from Int.mul_comm _ _]
      exact aMul_c hy h.2
    · split
      · next h =>
        obtain ⟨x1, x2, x3⟩ := hx
        obtain ⟨y1, y2, y3⟩ := hy
        exact w0_ok (Int.mul_le_mul x1 y1 h.2 (by omega)) (Int.mul_le_mul x2 y2 (by omega) (by omega)) (Int.one_dvd _)
      · exact gV_top0 (w32_in _)
def aDiv (a b : AV) : Option AV :=
  if b.2.1 ≤ 0 ∧ 0 ≤ b.2.2.1 then none
  else if 0 < b.2.1 ∧ 0 ≤ a.2.1 then some (if b.2.2.2 = 0 then mkA 0 (a.2.1 / b.2.1) (a.2.2.1 / b.2.1) 1 else mkA 0 0 a.2.2.1 1) else some top0
def aRem (a b : AV) : Option AV :=
  if b.2.1 ≤ 0 ∧ 0 ≤ b.2.2.1 then none
  else if 0 < b.2.1 ∧ 0 ≤ a.2.1 then some (if b.2.2.2 = 0 ∧ a.2.2.1 < b.2.1 then (0, a.2.1, a.2.2.1, a.2.2.2) else mkA 0 0 (min a.2.2.1 (b.2.2.1 - 1)) 1) else some top0
theorem div_pos {x y : Int} (hx : 0 ≤ x) (hy : 0 < y) : x.tdiv y = x / y ∧ 0 ≤ x / y ∧ x / y ≤ x := by
  refine ⟨Int.tdiv_eq_ediv_of_nonneg hx, Int.ediv_nonneg hx (by omega), ?_⟩
  have h1 := Int.ediv_mul_le x (b := y) (by omega)
  have h2 := Int.ediv_nonneg hx (b := y) (by omega)
  have h3 : x / y * 1 ≤ x / y * y := Int.mul_le_mul_of_nonneg_left (by omega) h2
  omega
theorem aDiv_ok {a b c : AV} {x y : Int} (hc : aDiv a b = some c) (h1 : i32 x) (hx : inV a x) (hy : inV b y) : y ≠ 0 ∧ gV c (.inl (w32 (x.tdiv y))) := by
  obtain ⟨x1, x2, x3⟩ := hx
  have hy2 := hy
  obtain ⟨y1, y2, y3⟩ := hy2
  unfold aDiv at hc
  split at hc
  · cases hc
  · next h =>
    refine ⟨fun e => h (by omega), ?_⟩
    split at hc
    · next h2 =>
      obtain ⟨d1, d2, d3⟩ := div_pos (x := x) (y := y) (by omega) (by omega)
      have hi : i32 (x / y) := by unfold i32 at h1 ⊢; omega
      rw [d1, w32_id hi]
      cases some_i hc
      split
      · next h3 =>
        rw [inV_c hy h3] at d2 hi ⊢
        exact gV_mk01 hi (Int.ediv_le_ediv (by omega) x1) (Int.ediv_le_ediv (by omega) x2)
      · exact gV_mk01 hi d2 (by omega)
    · cases some_i hc
      exact gV_top0 (w32_in _)
theorem rem_eq {x y : Int} (h1 : i32 x) (hx : 0 ≤ x) (hy : 0 < y) : w32 (x - w32 (w32 (x.tdiv y) * y)) = x % y ∧ 0 ≤ x % y ∧ x % y < y ∧ x % y ≤ x := by
  obtain ⟨d1, d2, d3⟩ := div_pos hx hy
  have hi : i32 (x / y) := by unfold i32 at h1 ⊢; omega
  have e1 := Int.emod_nonneg x (b := y) (by omega)
  have e2 := Int.emod_lt_of_pos x hy
  have e3 := Int.mul_ediv_add_emod x y
  have e4 : 0 ≤ y * (x / y) := Int.mul_nonneg (by omega) d2
  rw [d1, w32_id hi, Int.mul_comm (x / y) y, w32_id (x := y * (x / y)) (by unfold i32 at h1 ⊢; omega), show x - y * (x / y) = x % y by omega, w32_id (by unfold i32 at h1 ⊢; omega)]
  exact ⟨rfl, e1, e2, by omega⟩
theorem aRem_ok {a b c : AV} {x y : Int} (hc : aRem a b = some c) (h1 : i32 x) (hx : inV a x) (hy : inV b y) : y ≠ 0 ∧ gV c (.inl (w32 (x - w32 (w32 (x.tdiv y) * y)))) := by
  have hx2 := hx
  obtain ⟨x1, x2, x3⟩ := hx2
  have hy2 := hy
  obtain ⟨y1, y2, y3⟩ := hy2
  unfold aRem at hc
  split at hc
  · cases hc
  · next h =>
    refine ⟨fun e => h (by omega), ?_⟩
    split at hc
    · next h2 =>
      obtain ⟨d1, d2, d3, d4⟩ := rem_eq (x := x) (y := y) h1 (by omega) (by omega)
      have hi : i32 (x % y) := by unfold i32 at h1 ⊢; omega
      rw [d1]
      cases some_i hc
      split
      · next h3 =>
        have e := inV_c hy h3.1
        rw [Int.emod_eq_of_lt (by omega) (by omega)]
        exact ⟨rfl, h1, hx⟩
      · exact gV_mk01 hi d2 (by omega)
    · cases some_i hc
      exact gV_top0 (w32_in _)
-- bits
theorem small {x : Int32} {n : Nat} (h : x.toBitVec.toNat = n) (hn : n < 2147483648) : x.toInt = (n : Int) := by
  show x.toBitVec.toInt = _
  rw [BitVec.toInt_eq_toNat_of_lt (by rw [h]; omega), h]
theorem ofI {a : Int} (h0 : 0 ≤ a) (h1 : i32 a) : (Int32.ofInt a).toBitVec.toNat = a.toNat := by
  have h2 := x_of h1
  have h3 : (Int32.ofInt a).toBitVec.toInt = a := h2
  have h4 := (Int32.ofInt a).toBitVec.isLt
  rw [BitVec.toInt_eq_toNat_cond] at h3
  unfold i32 at h1
  split at h3 <;> omega
theorem zand_l {a b : Int} (h0 : 0 ≤ a) (h1 : i32 a) : 0 ≤ zand a b ∧ zand a b ≤ a := by
  have h2 := ofI h0 h1
  have h3 : (Int32.ofInt a &&& Int32.ofInt b).toBitVec.toNat = a.toNat &&& (Int32.ofInt b).toBitVec.toNat := by
    rw [Int32.toBitVec_and, BitVec.toNat_and, h2]
  have h4 : a.toNat &&& (Int32.ofInt b).toBitVec.toNat ≤ a.toNat := Nat.and_le_left
  unfold zand
  unfold i32 at h1
  rw [small h3 (by omega)]
  omega
theorem zand_r {a b : Int} (h0 : 0 ≤ b) (h1 : i32 b) : 0 ≤ zand a b ∧ zand a b ≤ b := by
  have h2 := ofI h0 h1
  have h3 : (Int32.ofInt a &&& Int32.ofInt b).toBitVec.toNat = (Int32.ofInt a).toBitVec.toNat &&& b.toNat := by
    rw [Int32.toBitVec_and, BitVec.toNat_and, h2]
  have h4 : (Int32.ofInt a).toBitVec.toNat &&& b.toNat ≤ b.toNat := Nat.and_le_right
  unfold zand
  unfold i32 at h1
  rw [small h3 (by omega)]
  omega
theorem zor_b {a b : Int} (h0 : 0 ≤ a) (h1 : a ≤ 1023) (h2 : 0 ≤ b) (h3 : b ≤ 1023) : 0 ≤ zor a b ∧ zor a b ≤ 1023 := by
  have e1 := ofI h0 (by unfold i32; omega)
  have e2 := ofI h2 (by unfold i32; omega)
  have e3 : (Int32.ofInt a ||| Int32.ofInt b).toBitVec.toNat = a.toNat ||| b.toNat := by
    rw [Int32.toBitVec_or, BitVec.toNat_or, e1, e2]
  have e4 : a.toNat ||| b.toNat < 2 ^ 10 := Nat.or_lt_two_pow (by omega) (by omega)
  unfold zor
  rw [small e3 (by omega)]
  omega
theorem zor_1 {a b : Int} (h0 : 0 ≤ a) (h1 : a ≤ 1) (h2 : 0 ≤ b) (h3 : b ≤ 1) : 0 ≤ zor a b ∧ zor a b ≤ 1 := by
  have e1 := ofI h0 (by unfold i32; omega)
  have e2 := ofI h2 (by unfold i32; omega)
  have e3 : (Int32.ofInt a ||| Int32.ofInt b).toBitVec.toNat = a.toNat ||| b.toNat := by
    rw [Int32.toBitVec_or, BitVec.toNat_or, e1, e2]
  have e4 : a.toNat ||| b.toNat < 2 ^ 1 := Nat.or_lt_two_pow (by omega) (by omega)
  unfold zor
  rw [small e3 (by omega)]
  omega
theorem zshl_1 : ∀ k : Nat, k < 31 → zshl 1 (k : Int) = 2 ^ k := by decide +kernel
theorem zshr_b {a b : Int} (h0 : 0 ≤ a) (h1 : i32 a) : 0 ≤ zshr a b ∧ zshr a b ≤ a := by
  unfold zshr
  have h2 : (Int32.ofInt a >>> (Int32.ofInt b &&& 31)).toInt = (Int32.ofInt a).toInt >>> ((Int32.ofInt b &&& 31).toBitVec.smod 32).toNat := by
    show ((Int32.ofInt a).toBitVec.sshiftRight ((Int32.ofInt b &&& 31).toBitVec.smod 32).toNat).toInt = _
    rw [BitVec.toInt_sshiftRight]
    rfl
  rw [h2, x_of h1, Int.shiftRight_eq_div_pow]
  have h3 : (0 : Int) < ((2 ^ ((Int32.ofInt b &&& 31).toBitVec.smod 32).toNat : Nat) : Int) := by exact_mod_cast Nat.two_pow_pos _
  obtain ⟨-, d2, d3⟩ := div_pos h0 h3
  exact ⟨d2, d3⟩
def aAnd (a b : AV) : AV := if 0 ≤ a.2.1 then (if 0 ≤ b.2.1 then mkA 0 0 (min a.2.2.1 b.2.2.1) 1 else mkA 0 0 a.2.2.1 1) else if 0 ≤ b.2.1 then mkA 0 0 b.2.2.1 1 else top0
theorem aAnd_ok {a b : AV} {x y : Int} (h1 : i32 x) (h2 : i32 y) (hx : inV a x) (hy : inV b y) : gV (aAnd a b) (.inl (zand x y)) := by
  obtain ⟨x1, x2, x3⟩ := hx
  obtain ⟨y1, y2, y3⟩ := hy
  have hi : i32 (zand x y) := x_in _
  unfold aAnd
  split
  · next h =>
    obtain ⟨l1, l2⟩ := zand_l (b := y) (show 0 ≤ x by omega) h1
    split
    · next h3 =>
      obtain ⟨r1, r2⟩ := zand_r (a := x) (show 0 ≤ y by omega) h2
      exact gV_mk01 hi l1 (by omega)
    · exact gV_mk01 hi l1 (by omega)
  · split
    · next h3 =>
      obtain ⟨r1, r2⟩ := zand_r (a := x) (show 0 ≤ y by omega) h2
      exact gV_mk01 hi r1 (by omega)
    · exact gV_top0 hi
def aOr (a b : AV) : AV := if 0 ≤ a.2.1 ∧ 0 ≤ b.2.1 ∧ a.2.2.1 ≤ 1 ∧ b.2.2.1 ≤ 1 then mkA 0 0 1 1 else if 0 ≤ a.2.1 ∧ 0 ≤ b.2.1 ∧ a.2.2.1 ≤ 1023 ∧ b.2.2.1 ≤ 1023 then mkA 0 0 1023 1 else top0
theorem aOr_ok {a b : AV} {x y : Int} (hx : inV a x) (hy : inV b y) : gV (aOr a b) (.inl (zor x y)) := by
  obtain ⟨x1, x2, x3⟩ := hx
  obtain ⟨y1, y2, y3⟩ := hy
  unfold aOr
  split
  · next h =>
    obtain ⟨l1, l2⟩ := zor_1 (a := x) (b := y) (by omega) (by omega) (by omega) (by omega)
    exact gV_mk01 (x_in _) l1 l2
  · split
    · next h =>
      obtain ⟨l1, l2⟩ := zor_b (a := x) (b := y) (by omega) (by omega) (by omega) (by omega)
      exact gV_mk01 (x_in _) l1 l2
    · exact gV_top0 (x_in _)
def aShl (a b : AV) : AV := if a.2.2.2 = 0 ∧ a.2.1 = 1 ∧ 0 ≤ b.2.1 ∧ b.2.2.1 ≤ 30 then mkA 0 (2 ^ b.2.1.toNat) (2 ^ b.2.2.1.toNat) 1 else top0
theorem aShl_ok {a b : AV} {x y : Int} (hx : inV a x) (hy : inV b y) : gV (aShl a b) (.inl (zshl x y)) := by
  have hi : i32 (zshl x y) := x_in _
  unfold aShl
  split
  · next h =>
    rw [inV_c hx h.1, h.2.1] at hi ⊢
    obtain ⟨y1, y2, y3⟩ := hy
    have e : zshl 1 y = 2 ^ y.toNat := by
      have := zshl_1 y.toNat (by omega)
      rw [Int.toNat_of_nonneg (by omega)] at this
      exact this
    rw [e] at hi ⊢
    refine gV_mk01 hi ?_ ?_
    · exact_mod_cast Nat.pow_le_pow_right (by omega) (show b.2.1.toNat ≤ y.toNat by omega)
    · exact_mod_cast Nat.pow_le_pow_right (by omega) (show y.toNat ≤ b.2.2.1.toNat by omega)
  · exact gV_top0 hi
def aShr (a : AV) : AV := if 0 ≤ a.2.1 then mkA 0 0 a.2.2.1 1 else top0
theorem aShr_ok {a : AV} {x y : Int} (h1 : i32 x) (hx : inV a x) : gV (aShr a) (.inl (zshr x y)) := by
  obtain ⟨x1, x2, x3⟩ := hx
  unfold aShr
  split
  · next h =>
    obtain ⟨l1, l2⟩ := zshr_b (b := y) (show 0 ≤ x by omega) h1
    exact gV_mk01 (x_in _) l1 (by omega)
  · exact gV_top0 (x_in _)
def aNeg (a : AV) : AV := w0 (-a.2.2.1) (-a.2.1) 1
theorem aNeg_ok {a : AV} {x : Int} (hx : inV a x) : gV (aNeg a) (.inl (w32 (-x))) := by
  obtain ⟨x1, x2, x3⟩ := hx
  exact w0_ok (by omega) (by omega) (Int.one_dvd _)
-- meeting bounds
def meetA (a : AV) (lo hi : Int) : Option AV :=
  if max a.2.1 lo ≤ min a.2.2.1 hi then some (if lo ≤ a.2.1 ∧ a.2.2.1 ≤ hi then a else mkA a.1 (max a.2.1 lo) (min a.2.2.1 hi) 1) else none
theorem meetA_k {a b : AV} {lo hi : Int} (h : meetA a lo hi = some b) : b.1 = a.1 := by
  unfold meetA at h
  split at h
  · cases some_i h
    split
    · rfl
    · exact mkA_k _ _ _ _
  · cases h
theorem meetA_in {a : AV} {lo hi x : Int} (hx : inV a x) (h1 : lo ≤ x) (h2 : x ≤ hi) : ∃ b, meetA a lo hi = some b ∧ inV b x := by
  have hx2 := hx
  obtain ⟨x1, x2, x3⟩ := hx2
  unfold meetA
  rw [if_pos (by omega)]
  refine ⟨_, rfl, ?_⟩
  split
  · exact hx
  · exact inV_mk1 (by omega) (by omega)
end
section
/-! LM, part 19: stacks and locals by bounds. A stack's entry may know whence it is: (1, j) local j; (2, a, i) the place i of the cell a; (3, j, -, lo, hi), (4, a, i, lo, hi): the sign of such a long less one between lo and hi -/
def hkd (a i : Int) : Nat := lkd a i
def valid (a i : Int) : Prop := 1 ≤ a ∧ a ≤ NC ∧ 0 ≤ i ∧ i < ((lay a.toNat).2.2 : Int)
def gP (ls : LL) (h : LH) (p : PV) (v : LV) : Prop := match p.1 with
  | 0 => True
  | 1 => lget ls p.2.1.toNat = some v
  | 2 => valid p.2.1 p.2.2.1 ∧ v = mkv (lkd p.2.1 p.2.2.1) (rd h p.2.1 p.2.2.1)
  | 3 => ∃ x y : Int, lget ls p.2.1.toNat = some (.inr (.inl x)) ∧ p.2.2.2.1 ≤ y ∧ y ≤ p.2.2.2.2 ∧ v = .inl (lcmp_ x y)
  | 4 => ∃ y : Int, valid p.2.1 p.2.2.1 ∧ lkd p.2.1 p.2.2.1 = 1 ∧ p.2.2.2.1 ≤ y ∧ y ≤ p.2.2.2.2 ∧ v = .inl (lcmp_ (rd h p.2.1 p.2.2.1) y)
  | _ => False
def pv0 : PV := (0, 0, 0, 0, 0)
def gS (ls : LL) (h : LH) : List SE → List LV → Prop
  | [], [] => True
  | e :: r, v :: s => (gV e.1 v ∧ gP ls h e.2 v) ∧ gS ls h r s
  | _, _ => False
theorem gS_c {ls : LL} {h : LH} {e : SE} {r : List SE} {st : List LV} (hs : gS ls h (e :: r) st) : ∃ v s, st = v :: s ∧ gV e.1 v ∧ gP ls h e.2 v ∧ gS ls h r s := by
  cases st with
  | nil => cases hs
  | cons v s => exact ⟨v, s, rfl, hs.1.1, hs.1.2, hs.2⟩
theorem gS_p {ls : LL} {h : LH} {a : AV} {r : List SE} {v : LV} {s : List LV} (h1 : gV a v) (h2 : gS ls h r s) : gS ls h ((a, pv0) :: r) (v :: s) := ⟨⟨h1, trivial⟩, h2⟩
theorem gS_len {ls : LL} {h : LH} : ∀ {r : List SE} {s : List LV}, gS ls h r s → r.length = s.length
  | [], [], _ => rfl
  | e :: r, v :: s, hs => by
    have := gS_len hs.2
    simp [this]
  | [], _ :: _, hs => by cases hs
  | _ :: _, [], hs => by cases hs
theorem gV_cat {a : AV} {v : LV} (h : gV a v) : isL v = (a.1 == 1) := by
  match v, h with
  | .inl x, h => rw [h.1]; rfl
  | .inr (.inl x), h => rw [h.1]; rfl
  | .inr (.inr x), h => rw [h.1]; rfl
-- what reads and makes values alone
def isLA (e : SE) : Bool := e.1.1 == 1
def bin0 (f : AV → AV → Option AV) (st : List SE) : Option (List SE) := match st with
  | b :: a :: r => if a.1.1 = 0 ∧ b.1.1 = 0 then (f a.1 b.1).map (fun c => (c, pv0) :: r) else none
  | _ => none
def bin1 (ok : AV → Bool) (st : List SE) : Option (List SE) := match st with
  | b :: a :: r => if a.1.1 = 1 ∧ b.1.1 = 1 ∧ ok b.1 = true then some ((top1, pv0) :: r) else none
  | _ => none
def bin10 (st : List SE) : Option (List SE) := match st with
  | b :: a :: r => if a.1.1 = 1 ∧ b.1.1 = 0 then some ((top1, pv0) :: r) else none
  | _ => none
def no0 (b : AV) : Bool := decide (0 < b.2.1) || decide (b.2.2.1 < 0)
def aA (i : Instr) (st : List SE) : Option (List SE) := match i with
  | .iconst v => if -1 ≤ v ∧ v ≤ 5 then some (((0, v, v, 0), pv0) :: st) else none
  | .bipush v => if -128 ≤ v ∧ v ≤ 127 then some (((0, v, v, 0), pv0) :: st) else none
  | .sipush v => if -32768 ≤ v ∧ v ≤ 32767 then some (((0, v, v, 0), pv0) :: st) else none
  | .lconst v => some (((1, (v.val : Int), (v.val : Int), 0), pv0) :: st)
  | .iadd => bin0 (fun a b => some (aAdd a b)) st
  | .isub => bin0 (fun a b => some (aSub a b)) st
  | .imul => bin0 (fun a b => some (aMul a b)) st
  | .idiv => bin0 aDiv st
  | .irem => bin0 aRem st
  | .ineg => match st with | a :: r => if a.1.1 = 0 then some ((aNeg a.1, pv0) :: r) else none | _ => none
  | .iand => bin0 (fun a b => some (aAnd a b)) st
  | .ior => bin0 (fun a b => some (aOr a b)) st
  | .ixor => bin0 (fun _ _ => some top0) st
  | .ishl => bin0 (fun a b => some (aShl a b)) st
  | .ishr => bin0 (fun a _ => some (aShr a)) st
  | .iushr => bin0 (fun _ _ => some top0) st
  | .ladd => bin1 (fun _ => true) st
  | .lsub => bin1 (fun _ => true) st
  | .lmul => bin1 (fun _ => true) st
  | .ldiv => bin1 no0 st
  | .lrem => bin1 no0 st
  | .land => bin1 (fun _ => true) st
  | .lor => bin1 (fun _ => true) st
  | .lshl => bin10 st
  | .lshr => bin10 st
  | .lushr => bin10 st
  | .lcmp => match st with
    | b :: a :: r => if a.1.1 = 1 ∧ b.1.1 = 1 then some ((mkA 0 (-1) 1 1, (if a.2.1 = 1 then (3, a.2.2.1, 0, b.1.2.1, b.1.2.2.1) else if a.2.1 = 2 then (4, a.2.2.1, a.2.2.2.1, b.1.2.1, b.1.2.2.1) else pv0)) :: r) else none
    | _ => none
  | .i2l => match st with | a :: r => if a.1.1 = 0 then some (((1, a.1.2), pv0) :: r) else none | _ => none
  | .l2i => match st with | a :: r => if a.1.1 = 1 then some ((w0 a.1.2.1 a.1.2.2.1 a.1.2.2.2, pv0) :: r) else none | _ => none
  | .i2b => match st with | a :: r => if a.1.1 = 0 then some ((mkA 0 (-128) 127 1, pv0) :: r) else none | _ => none
  | .i2c => match st with | a :: r => if a.1.1 = 0 then some ((mkA 0 0 65535 1, pv0) :: r) else none | _ => none
  | .dup => match st with | a :: r => if isLA a then none else some (a :: a :: r) | _ => none
  | .pop => match st with | a :: r => if isLA a then none else some r | _ => none
  | .dup2 => match st with | b :: a :: r => if isLA a || isLA b then none else some (b :: a :: b :: a :: r) | _ => none
  | _ => none
section AA
variable {ls : LL} {h : LH}
theorem bin0_ok {f : AV → AV → Option AV} {g : Int → Int → Int} {i : Instr} (hi : ∀ x y r, i32 x → i32 y → lmA i (.inl y :: .inl x :: r) = some (.inl (g x y) :: r) ∨ (∀ a b c, f a b = some c → inV a x → inV b y → False)) (hf : ∀ a b c x y, f a b = some c → i32 x → i32 y → inV a x → inV b y → gV c (.inl (g x y)))
    {ast ast' : List SE} {st : List LV} (ha : bin0 f ast = some ast') (hs : gS ls h ast st) : ∃ st', lmA i st = some st' ∧ gS ls h ast' st' := by
  unfold bin0 at ha
  split at ha
  · next b a r =>
    split at ha
    · next hk =>
      rw [Option.map_eq_some_iff] at ha
      obtain ⟨c, hc, rfl⟩ := ha
      obtain ⟨v, s1, rfl, g1, -, hs1⟩ := gS_c hs
      obtain ⟨w, s, rfl, g2, -, hs2⟩ := gS_c hs1
      obtain ⟨y, rfl, y1, y2⟩ := gV_i g1 hk.2
      obtain ⟨x, rfl, x1, x2⟩ := gV_i g2 hk.1
      rcases hi x y s x1 y1 with q | q
      · exact ⟨_, q, gS_p (hf _ _ _ _ _ hc x1 y1 x2 y2) hs2⟩
      · exact absurd (q _ _ _ hc x2 y2) id
    · cases ha
  · cases ha
theorem bin1_ok {ok : AV → Bool} {g : Int → Int → Int} {i : Instr} (hi : ∀ x y r, (∀ b, ok b = true → inV b y → lmA i (.inr (.inl y) :: .inr (.inl x) :: r) = some (.inr (.inl (g x y)) :: r))) (hg : ∀ x y, i64 (g x y))
    {ast ast' : List SE} {st : List LV} (ha : bin1 ok ast = some ast') (hs : gS ls h ast st) : ∃ st', lmA i st = some st' ∧ gS ls h ast' st' := by
  unfold bin1 at ha
  split at ha
  · next b a r =>
    split at ha
    · next hk =>
      cases some_i ha
      obtain ⟨v, s1, rfl, g1, -, hs1⟩ := gS_c hs
      obtain ⟨w, s, rfl, g2, -, hs2⟩ := gS_c hs1
      obtain ⟨y, rfl, y1, y2⟩ := gV_l g1 hk.2.1
      obtain ⟨x, rfl, x1, x2⟩ := gV_l g2 hk.1
      exact ⟨_, hi x y s b.1 hk.2.2 y2, gS_p (gV_top1 (hg x y)) hs2⟩
    · cases ha
  · cases ha
theorem bin10_ok {g : Int → Int → Int} {i : Instr} (hi : ∀ x y r, lmA i (.inl y :: .inr (.inl x) :: r) = some (.inr (.inl (g x y)) :: r)) (hg : ∀ x y, i64 (g x y))
    {ast ast' : List SE} {st : List LV} (ha : bin10 ast = some ast') (hs : gS ls h ast st) : ∃ st', lmA i st = some st' ∧ gS ls h ast' st' := by
  unfold bin10 at ha
  split at ha
  · next b a r =>
    split at ha
    · next hk =>
      cases some_i ha
      obtain ⟨v, s1, rfl, g1, -, hs1⟩ := gS_c hs
      obtain ⟨w, s, rfl, g2, -, hs2⟩ := gS_c hs1
      obtain ⟨y, rfl, y1, y2⟩ := gV_i g1 hk.2
      obtain ⟨x, rfl, x1, x2⟩ := gV_l g2 hk.1
      exact ⟨_, hi x y s, gS_p (gV_top1 (hg x y)) hs2⟩
    · cases ha
  · cases ha
theorem no0_ok {b : AV} {y : Int} (h : no0 b = true) (hy : inV b y) : y ≠ 0 := by
  unfold no0 at h
  simp only [Bool.or_eq_true, decide_eq_true_eq] at h
  obtain ⟨y1, y2, -⟩ := hy
  omega
theorem byte_in (x : Int) : -128 ≤ (Int32.ofInt x).toInt8.toInt32.toInt ∧ (Int32.ofInt x).toInt8.toInt32.toInt ≤ 127 := by
  rw [Int8.toInt_toInt32]
  have h1 := Int8.le_toInt (Int32.ofInt x).toInt8
  have h2 := Int8.toInt_lt (Int32.ofInt x).toInt8
  omega
theorem char_in (x : Int) : 0 ≤ ((Int32.ofInt x).toUInt32 % 65536).toInt32.toInt ∧ ((Int32.ofInt x).toUInt32 % 65536).toInt32.toInt ≤ 65535 := by
  have h1 : ((Int32.ofInt x).toUInt32 % 65536).toInt32.toBitVec.toNat = (Int32.ofInt x).toUInt32.toNat % 65536 := by
    show ((Int32.ofInt x).toUInt32 % 65536).toNat = _
    rw [UInt32.toNat_mod]
    rfl
  rw [small h1 (by omega)]
  omega
set_option maxHeartbeats 4000000 in
theorem aA_ok {i : Instr} {ast ast' : List SE} {st : List LV} (ha : aA i ast = some ast') (hs : gS ls h ast st) : ∃ st', lmA i st = some st' ∧ gS ls h ast' st' := by
  cases i with
  | iconst v =>
    simp only [aA] at ha
    split at ha
    · next hv =>
      cases some_i ha
      exact ⟨.inl v :: st, by simp only [lmA]; rw [if_pos hv], gS_p ⟨rfl, by unfold i32; omega, Int.le_refl _, Int.le_refl _, by rw [Int.sub_self]; exact Int.dvd_zero _⟩ hs⟩
    · cases ha
  | bipush v =>
    simp only [aA] at ha
    split at ha
    · next hv =>
      cases some_i ha
      exact ⟨.inl v :: st, by simp only [lmA]; rw [if_pos hv], gS_p ⟨rfl, by unfold i32; omega, Int.le_refl _, Int.le_refl _, by rw [Int.sub_self]; exact Int.dvd_zero _⟩ hs⟩
    · cases ha
  | sipush v =>
    simp only [aA] at ha
    split at ha
    · next hv =>
      cases some_i ha
      exact ⟨.inl v :: st, by simp only [lmA]; rw [if_pos hv], gS_p ⟨rfl, by unfold i32; omega, Int.le_refl _, Int.le_refl _, by rw [Int.sub_self]; exact Int.dvd_zero _⟩ hs⟩
    · cases ha
  | lconst v =>
    simp only [aA] at ha
    cases some_i ha
    exact ⟨.inr (.inl (v.val : Int)) :: st, rfl, gS_p ⟨rfl, by unfold i64; have := v.isLt; omega, Int.le_refl _, Int.le_refl _, by rw [Int.sub_self]; exact Int.dvd_zero _⟩ hs⟩
  | iadd => exact bin0_ok (f := fun a b => some (aAdd a b)) (g := fun x y => w32 (x + y)) (fun x y r _ _ => Or.inl rfl) (fun a b c x y hc _ _ hx hy => by cases hc; exact aAdd_ok hx hy) ha hs
  | isub => exact bin0_ok (f := fun a b => some (aSub a b)) (g := fun x y => w32 (x - y)) (fun x y r _ _ => Or.inl rfl) (fun a b c x y hc _ _ hx hy => by cases hc; exact aSub_ok hx hy) ha hs
  | imul => exact bin0_ok (f := fun a b => some (aMul a b)) (g := fun x y => w32 (x * y)) (fun x y r _ _ => Or.inl rfl) (fun a b c x y hc _ _ hx hy => by cases hc; exact aMul_ok hx hy) ha hs
  | idiv =>
    refine bin0_ok (f := aDiv) (g := fun x y => w32 (x.tdiv y)) (fun x y r h1 _ => ?_) (fun a b c x y hc h1 _ hx hy => (aDiv_ok hc h1 hx hy).2) ha hs
    by_cases e : y = 0
    · exact Or.inr (fun a b c hc hx hy => (aDiv_ok hc h1 hx hy).1 e)
    · exact Or.inl (by simp only [lmA]; rw [if_neg e])
  | irem =>
    refine bin0_ok (f := aRem) (g := fun x y => w32 (x - w32 (w32 (x.tdiv y) * y))) (fun x y r h1 _ => ?_) (fun a b c x y hc h1 _ hx hy => (aRem_ok hc h1 hx hy).2) ha hs
    by_cases e : y = 0
    · exact Or.inr (fun a b c hc hx hy => (aRem_ok hc h1 hx hy).1 e)
    · exact Or.inl (by simp only [lmA]; rw [if_neg e])
  | ineg =>
    simp only [aA] at ha
    split at ha
    · next a r =>
      split at ha
      · next hk =>
        cases some_i ha
        obtain ⟨v, s, rfl, g1, -, hs1⟩ := gS_c hs
        obtain ⟨y, rfl, y1, y2⟩ := gV_i g1 hk
        exact ⟨_, rfl, gS_p (aNeg_ok y2) hs1⟩
      · cases ha
    · cases ha
  | iand => exact bin0_ok (f := fun a b => some (aAnd a b)) (g := fun x y => zand x y) (fun x y r _ _ => Or.inl rfl) (fun a b c x y hc h1 h2 hx hy => by cases hc; exact aAnd_ok h1 h2 hx hy) ha hs
  | ior => exact bin0_ok (f := fun a b => some (aOr a b)) (g := fun x y => zor x y) (fun x y r _ _ => Or.inl rfl) (fun a b c x y hc h1 h2 hx hy => by cases hc; exact aOr_ok hx hy) ha hs
  | ixor => exact bin0_ok (f := fun _ _ => some top0) (g := fun x y => zxor x y) (fun x y r _ _ => Or.inl rfl) (fun a b c x y hc h1 h2 hx hy => by cases hc; exact gV_top0 (x_in _)) ha hs
  | ishl => exact bin0_ok (f := fun a b => some (aShl a b)) (g := fun x y => zshl x y) (fun x y r _ _ => Or.inl rfl) (fun a b c x y hc h1 h2 hx hy => by cases hc; exact aShl_ok hx hy) ha hs
  | ishr => exact bin0_ok (f := fun a _ => some (aShr a)) (g := fun x y => zshr x y) (fun x y r _ _ => Or.inl rfl) (fun a b c x y hc h1 h2 hx hy => by cases hc; exact aShr_ok h1 hx) ha hs
  | iushr => exact bin0_ok (f := fun _ _ => some top0) (g := fun x y => zushr x y) (fun x y r _ _ => Or.inl rfl) (fun a b c x y hc h1 h2 hx hy => by cases hc; exact gV_top0 (x_in _)) ha hs
  | ladd => exact bin1_ok (ok := fun _ => true) (g := fun x y => w64 (x + y)) (fun x y r b _ _ => rfl) (fun _ _ => w64_in _) ha hs
  | lsub => exact bin1_ok (ok := fun _ => true) (g := fun x y => w64 (x - y)) (fun x y r b _ _ => rfl) (fun _ _ => w64_in _) ha hs
  | lmul => exact bin1_ok (ok := fun _ => true) (g := fun x y => w64 (x * y)) (fun x y r b _ _ => rfl) (fun _ _ => w64_in _) ha hs
  | ldiv => exact bin1_ok (ok := no0) (g := fun x y => w64 (x.tdiv y)) (fun x y r b hb hy => by simp only [lmA]; rw [if_neg (no0_ok hb hy)]) (fun _ _ => w64_in _) ha hs
  | lrem => exact bin1_ok (ok := no0) (g := fun x y => w64 (x - w64 (w64 (x.tdiv y) * y))) (fun x y r b hb hy => by simp only [lmA]; rw [if_neg (no0_ok hb hy)]) (fun _ _ => w64_in _) ha hs
  | land => exact bin1_ok (ok := fun _ => true) (g := fun x y => land_ x y) (fun x y r b _ _ => rfl) (fun _ _ => y_in _) ha hs
  | lor => exact bin1_ok (ok := fun _ => true) (g := fun x y => lor_ x y) (fun x y r b _ _ => rfl) (fun _ _ => y_in _) ha hs
  | lshl => exact bin10_ok (g := fun x y => lshl_ x y) (fun x y r => rfl) (fun _ _ => y_in _) ha hs
  | lshr => exact bin10_ok (g := fun x y => lshr_ x y) (fun x y r => rfl) (fun _ _ => y_in _) ha hs
  | lushr => exact bin10_ok (g := fun x y => lushr_ x y) (fun x y r => rfl) (fun _ _ => y_in _) ha hs
  | lcmp =>
    simp only [aA] at ha
    split at ha
    · next b a r =>
      split at ha
      · next hk =>
        cases some_i ha
        obtain ⟨v, s1, rfl, g1, -, hs1⟩ := gS_c hs
        obtain ⟨w, s, rfl, g2, p2, hs2⟩ := gS_c hs1
        obtain ⟨y, rfl, y1, y2⟩ := gV_l g1 hk.2
        obtain ⟨x, rfl, x1, x2⟩ := gV_l g2 hk.1
        refine ⟨_, rfl, ⟨gV_mk01 (lcmp_in _ _) (by unfold lcmp_; omega) (by unfold lcmp_; omega), ?_⟩, hs2⟩
        unfold gP at p2
        show gP ls h (if a.2.1 = 1 then (3, a.2.2.1, 0, b.1.2.1, b.1.2.2.1) else if a.2.1 = 2 then (4, a.2.2.1, a.2.2.2.1, b.1.2.1, b.1.2.2.1) else pv0) (.inl (lcmp_ x y))
        split
        · next e =>
          rw [e] at p2
          exact ⟨x, y, p2, y2.1, y2.2.1, rfl⟩
        · split
          · next e =>
            rw [e] at p2
            simp only at p2
            obtain ⟨pva, p2⟩ := p2
            have e2 : lkd a.2.2.1 a.2.2.2.1 = 1 ∧ x = rd h a.2.2.1 a.2.2.2.1 := by
              unfold mkv at p2
              split at p2
              · next e3 => exact ⟨e3, by injection p2 with p2; injection p2⟩
              · injection p2 with p2; cases p2
              · cases p2
            exact ⟨y, pva, e2.1, y2.1, y2.2.1, by rw [e2.2]⟩
          · trivial
      · cases ha
    · cases ha
  | i2l =>
    simp only [aA] at ha
    split at ha
    · next a r =>
      split at ha
      · next hk =>
        cases some_i ha
        obtain ⟨v, s, rfl, g1, -, hs1⟩ := gS_c hs
        obtain ⟨y, rfl, y1, y2⟩ := gV_i g1 hk
        exact ⟨_, rfl, gS_p ⟨rfl, i32_64 y1, y2⟩ hs1⟩
      · cases ha
    · cases ha
  | l2i =>
    simp only [aA] at ha
    split at ha
    · next a r =>
      split at ha
      · next hk =>
        cases some_i ha
        obtain ⟨v, s, rfl, g1, -, hs1⟩ := gS_c hs
        obtain ⟨y, rfl, y1, y2⟩ := gV_l g1 hk
        exact ⟨_, rfl, gS_p (w0_ok y2.1 y2.2.1 y2.2.2) hs1⟩
      · cases ha
    · cases ha
  | i2b =>
    simp only [aA] at ha
    split at ha
    · next a r =>
      split at ha
      · next hk =>
        cases some_i ha
        obtain ⟨v, s, rfl, g1, -, hs1⟩ := gS_c hs
        obtain ⟨y, rfl, y1, y2⟩ := gV_i g1 hk
        exact ⟨_, rfl, gS_p (gV_mk01 (x_in _) (byte_in y).1 (byte_in y).2) hs1⟩
      · cases ha
    · cases ha
  | i2c =>
    simp only [aA] at ha
    split at ha
    · next a r =>
      split at ha
      · next hk =>
        cases some_i ha
        obtain ⟨v, s, rfl, g1, -, hs1⟩ := gS_c hs
        obtain ⟨y, rfl, y1, y2⟩ := gV_i g1 hk
        exact ⟨_, rfl, gS_p (gV_mk01 (x_in _) (char_in y).1 (char_in y).2) hs1⟩
      · cases ha
    · cases ha
  | dup =>
    simp only [aA] at ha
    split at ha
    · next a r =>
      split at ha
      · cases ha
      · next hk =>
        cases some_i ha
        obtain ⟨v, s, rfl, g1, p1, hs1⟩ := gS_c hs
        have hc := gV_cat g1
        have hl : isL v = false := by rw [hc]; simpa [isLA] using hk
        exact ⟨v :: v :: s, by simp [lmA, hl], ⟨g1, p1⟩, ⟨g1, p1⟩, hs1⟩
    · cases ha
  | pop =>
    simp only [aA] at ha
    split at ha
    · next a r =>
      split at ha
      · cases ha
      · next hk =>
        cases some_i ha
        obtain ⟨v, s, rfl, g1, p1, hs1⟩ := gS_c hs
        have hc := gV_cat g1
        have hl : isL v = false := by rw [hc]; simpa [isLA] using hk
        exact ⟨s, by simp [lmA, hl], hs1⟩
    · cases ha
  | dup2 =>
    simp only [aA] at ha
    split at ha
    · next b a r =>
      split at ha
      · cases ha
      · next hk =>
        cases some_i ha
        obtain ⟨v, s1, rfl, g1, p1, hs1⟩ := gS_c hs
        obtain ⟨w, s, rfl, g2, p2, hs2⟩ := gS_c hs1
        simp only [Bool.or_eq_true, not_or, Bool.not_eq_true] at hk
        have hl1 : isL v = false := by rw [gV_cat g1]; simpa [isLA] using hk.2
        have hl2 : isL w = false := by rw [gV_cat g2]; simpa [isLA] using hk.1
        exact ⟨v :: w :: v :: w :: s, by simp [lmA, hl1, hl2], ⟨g1, p1⟩, ⟨g2, p2⟩, ⟨g1, p1⟩, ⟨g2, p2⟩, hs2⟩
    · cases ha
  | _ => simp only [aA] at ha; cases ha
end AA
end
section
/-! LM, part 20, by program: what every place may hold (kind, least, most, stride), cell by cell; a row repeats itself -/
def RGr0 : List AV := []
def RGr1 : List AV := [(2, 2, 2, 0), (2, 5, 32, 27), (2, 5, 32, 27), (2, 59, 59, 0), (2, 67, 67, 0), (2, 75, 75, 0), (0, -2147483648, 2147483647, 1), (2, 76, 76, 0), (0, 0, 15, 1), (0, 0, 16, 1), (2, 77, 77, 0), (2, 80, 80, 0), (2, 84, 84, 0), (2, 90, 90, 0), (2, 96, 96, 0)]
def RGr2 : List AV := [(0, 0, 1000, 1), (2, 3, 3, 0), (2, 4, 4, 0), (0, 0, 4, 1), (0, 0, 1000, 1), (0, 0, 1000, 1), (1, -9223372036854775808, 9223372036854775807, 1), (0, -1, 28, 1), (0, 0, 16005, 1)]
def RGr3 : List AV := [(0, -128, 127, 1)]
def RGr4 : List AV := [(1, -9223372036854775808, 9223372036854775807, 1)]
def RGr5 : List AV := [(0, 2, 10, 1), (2, 6, 6, 0), (0, 0, 14, 1), (2, 7, 7, 0), (0, 0, 6, 1), (2, 8, 8, 0), (0, 0, 1000, 1), (2, 9, 9, 0), (2, 10, 10, 0), (2, 11, 11, 0)]
def RGr6 : List AV := [(2, 12, 25, 1)]
def RGr7 : List AV := [(2, 26, 31, 1)]
def RGr8 : List AV := [(0, -2147483648, 2147483647, 1)]
def RGr9 : List AV := [(1, -9223372036854775808, 9223372036854775807, 1), (0, 0, 3, 1), (0, 0, 9, 1), (0, 0, 9, 1), (0, 0, 23, 1), (0, 0, 24, 1), (0, -1, 3, 1), (0, 0, 9, 1), (0, 0, 9, 1)]
def RGr10 : List AV := [(1, -9223372036854775808, 9223372036854775807, 1), (0, 0, 3, 1), (0, 0, 9, 1), (0, 0, 9, 1), (0, 0, 24, 1)]
def RGr11 : List AV := [(0, 2, 10, 1), (2, 33, 33, 0), (0, 0, 14, 1), (2, 34, 34, 0), (0, 0, 6, 1), (2, 35, 35, 0), (0, 0, 1000, 1), (2, 36, 36, 0), (2, 37, 37, 0), (2, 38, 38, 0)]
def RGr12 : List AV := [(2, 39, 52, 1)]
def RGr13 : List AV := [(2, 53, 58, 1)]
def RGr14 : List AV := [(2, 60, 60, 0), (0, 0, 24, 1), (2, 63, 63, 0), (2, 64, 64, 0), (0, 0, 10, 1), (2, 65, 65, 0), (2, 66, 66, 0), (0, -2147483648, 2147483647, 1)]
def RGr15 : List AV := [(0, 0, 24, 1), (0, -2147483648, 2147483647, 1), (0, -2147483648, 2147483647, 1), (0, -2147483648, 2147483647, 1), (2, 61, 61, 0), (2, 62, 62, 0)]
def RGr16 : List AV := [(0, 0, 9, 1)]
def RGr17 : List AV := [(0, -1, 5, 1)]
def RGr18 : List AV := [(0, -1, 13, 1)]
def RGr19 : List AV := [(2, 68, 68, 0), (0, 0, 24, 1), (2, 71, 71, 0), (2, 72, 72, 0), (0, 0, 10, 1), (2, 73, 73, 0), (2, 74, 74, 0), (0, -2147483648, 2147483647, 1)]
def RGr20 : List AV := [(0, 0, 24, 1), (0, -2147483648, 2147483647, 1), (0, -2147483648, 2147483647, 1), (0, -2147483648, 2147483647, 1), (2, 69, 69, 0), (2, 70, 70, 0)]
def RGr21 : List AV := [(2, 102, 126, 8)]
def RGr22 : List AV := [(2, 134, 179, 3)]
def RGr23 : List AV := [(0, 0, 24, 1), (2, 78, 78, 0), (2, 79, 79, 0), (0, 0, 25, 1), (0, 0, 19, 1)]
def RGr24 : List AV := [(0, 0, 13, 1)]
def RGr25 : List AV := [(2, 81, 81, 0), (2, 82, 82, 0), (2, 83, 83, 0)]
def RGr26 : List AV := [(2, 85, 85, 0), (2, 86, 86, 0), (2, 87, 87, 0), (2, 88, 88, 0), (2, 89, 89, 0), (0, 0, 250, 1), (0, 0, 24, 1), (0, 0, 24, 1)]
def RGr27 : List AV := [(0, -1, 249, 1)]
def RGr28 : List AV := [(0, 0, 249, 1)]
def RGr29 : List AV := [(0, -2147483648, 2147483647, 1), (0, -2147483648, 2147483647, 1), (0, -2147483648, 2147483647, 1), (0, -2147483648, 2147483647, 1), (0, -2147483648, 2147483647, 1), (0, -2147483648, 2147483647, 1), (0, 0, 1, 1), (0, 0, 14, 1), (2, 91, 91, 0), (2, 92, 92, 0), (2, 93, 93, 0), (2, 94, 94, 0), (2, 95, 95, 0)]
def RGr30 : List AV := [(0, 0, 13, 1), (0, 0, 13, 1), (2, 97, 97, 0), (2, 98, 98, 0), (2, 99, 99, 0), (2, 100, 100, 0), (2, 101, 101, 0)]
def RGr31 : List AV := [(2, 103, 103, 0), (0, 0, 24, 1), (2, 106, 106, 0), (2, 107, 107, 0), (0, 0, 10, 1), (2, 108, 108, 0), (2, 109, 109, 0), (0, -2147483648, 2147483647, 1)]
def RGr32 : List AV := [(0, 0, 24, 1), (0, -2147483648, 2147483647, 1), (0, -2147483648, 2147483647, 1), (0, -2147483648, 2147483647, 1), (2, 104, 104, 0), (2, 105, 105, 0)]
def RGr33 : List AV := [(2, 111, 111, 0), (0, 0, 24, 1), (2, 114, 114, 0), (2, 115, 115, 0), (0, 0, 10, 1), (2, 116, 116, 0), (2, 117, 117, 0), (0, -2147483648, 2147483647, 1)]
def RGr34 : List AV := [(0, 0, 24, 1), (0, -2147483648, 2147483647, 1), (0, -2147483648, 2147483647, 1), (0, -2147483648, 2147483647, 1), (2, 112, 112, 0), (2, 113, 113, 0)]
def RGr35 : List AV := [(2, 119, 119, 0), (0, 0, 24, 1), (2, 122, 122, 0), (2, 123, 123, 0), (0, 0, 10, 1), (2, 124, 124, 0), (2, 125, 125, 0), (0, -2147483648, 2147483647, 1)]
def RGr36 : List AV := [(0, 0, 24, 1), (0, -2147483648, 2147483647, 1), (0, -2147483648, 2147483647, 1), (0, -2147483648, 2147483647, 1), (2, 120, 120, 0), (2, 121, 121, 0)]
def RGr37 : List AV := [(2, 127, 127, 0), (0, 0, 24, 1), (2, 130, 130, 0), (2, 131, 131, 0), (0, 0, 10, 1), (2, 132, 132, 0), (2, 133, 133, 0), (0, -2147483648, 2147483647, 1)]
def RGr38 : List AV := [(0, 0, 24, 1), (0, -2147483648, 2147483647, 1), (0, -2147483648, 2147483647, 1), (0, -2147483648, 2147483647, 1), (2, 128, 128, 0), (2, 129, 129, 0)]
def RGr39 : List AV := [(0, 0, 24, 1), (0, -2147483648, 2147483647, 1), (0, -2147483648, 2147483647, 1), (0, -2147483648, 2147483647, 1), (2, 135, 135, 0), (2, 136, 136, 0)]
def RGr40 : List AV := [(0, 0, 24, 1), (0, -2147483648, 2147483647, 1), (0, -2147483648, 2147483647, 1), (0, -2147483648, 2147483647, 1), (2, 138, 138, 0), (2, 139, 139, 0)]
def RGr41 : List AV := [(0, 0, 24, 1), (0, -2147483648, 2147483647, 1), (0, -2147483648, 2147483647, 1), (0, -2147483648, 2147483647, 1), (2, 141, 141, 0), (2, 142, 142, 0)]
def RGr42 : List AV := [(0, 0, 24, 1), (0, -2147483648, 2147483647, 1), (0, -2147483648, 2147483647, 1), (0, -2147483648, 2147483647, 1), (2, 144, 144, 0), (2, 145, 145, 0)]
def RGr43 : List AV := [(0, 0, 24, 1), (0, -2147483648, 2147483647, 1), (0, -2147483648, 2147483647, 1), (0, -2147483648, 2147483647, 1), (2, 147, 147, 0), (2, 148, 148, 0)]
def RGr44 : List AV := [(0, 0, 24, 1), (0, -2147483648, 2147483647, 1), (0, -2147483648, 2147483647, 1), (0, -2147483648, 2147483647, 1), (2, 150, 150, 0), (2, 151, 151, 0)]
def RGr45 : List AV := [(0, 0, 24, 1), (0, -2147483648, 2147483647, 1), (0, -2147483648, 2147483647, 1), (0, -2147483648, 2147483647, 1), (2, 153, 153, 0), (2, 154, 154, 0)]
def RGr46 : List AV := [(0, 0, 24, 1), (0, -2147483648, 2147483647, 1), (0, -2147483648, 2147483647, 1), (0, -2147483648, 2147483647, 1), (2, 156, 156, 0), (2, 157, 157, 0)]
def RGr47 : List AV := [(0, 0, 24, 1), (0, -2147483648, 2147483647, 1), (0, -2147483648, 2147483647, 1), (0, -2147483648, 2147483647, 1), (2, 159, 159, 0), (2, 160, 160, 0)]
def RGr48 : List AV := [(0, 0, 24, 1), (0, -2147483648, 2147483647, 1), (0, -2147483648, 2147483647, 1), (0, -2147483648, 2147483647, 1), (2, 162, 162, 0), (2, 163, 163, 0)]
def RGr49 : List AV := [(0, 0, 24, 1), (0, -2147483648, 2147483647, 1), (0, -2147483648, 2147483647, 1), (0, -2147483648, 2147483647, 1), (2, 165, 165, 0), (2, 166, 166, 0)]
def RGr50 : List AV := [(0, 0, 24, 1), (0, -2147483648, 2147483647, 1), (0, -2147483648, 2147483647, 1), (0, -2147483648, 2147483647, 1), (2, 168, 168, 0), (2, 169, 169, 0)]
def RGr51 : List AV := [(0, 0, 24, 1), (0, -2147483648, 2147483647, 1), (0, -2147483648, 2147483647, 1), (0, -2147483648, 2147483647, 1), (2, 171, 171, 0), (2, 172, 172, 0)]
def RGr52 : List AV := [(0, 0, 24, 1), (0, -2147483648, 2147483647, 1), (0, -2147483648, 2147483647, 1), (0, -2147483648, 2147483647, 1), (2, 174, 174, 0), (2, 175, 175, 0)]
def RGr53 : List AV := [(0, 0, 24, 1), (0, -2147483648, 2147483647, 1), (0, -2147483648, 2147483647, 1), (0, -2147483648, 2147483647, 1), (2, 177, 177, 0), (2, 178, 178, 0)]
def RGr54 : List AV := [(0, 0, 24, 1), (0, -2147483648, 2147483647, 1), (0, -2147483648, 2147483647, 1), (0, -2147483648, 2147483647, 1), (2, 180, 180, 0), (2, 181, 181, 0)]
def RGr55 : List AV := [(0, -2147483648, 2147483647, 1), (2, 183, 183, 0), (0, 0, 1000, 1), (0, 0, 1000, 1), (2, 184, 184, 0), (2, 185, 185, 0), (2, 186, 186, 0), (0, 0, 1000, 1), (0, 0, 16005, 1), (2, 187, 187, 0), (2, 188, 188, 0), (2, 189, 189, 0), (2, 190, 190, 0), (0, 0, 1000, 1), (2, 191, 191, 0), (2, 192, 192, 0), (2, 193, 193, 0), (2, 194, 194, 0), (0, 0, 20, 1), (0, 0, 20, 1), (2, 195, 195, 0), (0, 0, 24, 1), (2, 196, 196, 0), (2, 197, 197, 0), (2, 198, 198, 0), (0, 0, 16, 1), (2, 199, 199, 0), (2, 200, 200, 0), (0, -1, 13, 1), (0, -1, 13, 1), (0, 0, 9, 1), (0, 0, 9, 1), (2, 201, 201, 0), (2, 202, 202, 0), (0, 0, 30, 1), (0, 0, 19, 1), (0, 0, 24, 1), (2, 203, 203, 0), (2, 204, 204, 0), (2, 205, 205, 0), (2, 206, 206, 0), (2, 207, 207, 0), (0, 0, 250, 1), (2, 208, 208, 0), (2, 209, 209, 0), (0, -2147483648, 2147483647, 1), (0, -2147483648, 2147483647, 1), (0, -2147483648, 2147483647, 1), (0, -2147483648, 2147483647, 1), (2, 210, 210, 0), (2, 211, 211, 0), (2, 212, 212, 0), (0, -2147483648, 2147483647, 1), (0, -2147483648, 2147483647, 1), (1, -9223372036854775808, 9223372036854775807, 1)]
def RGr56 : List AV := [(0, 0, 126, 1)]
def RGr57 : List AV := [(0, 0, 4, 1)]
def RGr58 : List AV := [(0, 0, 1000, 1)]
def RGr59 : List AV := [(0, 0, 10, 1), (0, 0, 14, 1), (0, 0, 6, 1), (0, -1, 0, 1), (0, 0, 3, 1), (0, 0, 9, 1), (0, 0, 9, 1), (0, 0, 23, 1), (0, 0, 24, 1), (0, -1, 3, 1), (0, 0, 9, 1), (0, 0, 9, 1), (0, 0, 3, 1), (0, 0, 9, 1), (0, 0, 9, 1), (0, 0, 23, 1), (0, 0, 24, 1), (0, -1, 3, 1), (0, 0, 9, 1), (0, 0, 9, 1), (0, 0, 3, 1), (0, 0, 9, 1), (0, 0, 9, 1), (0, 0, 23, 1), (0, 0, 24, 1), (0, -1, 3, 1), (0, 0, 9, 1), (0, 0, 9, 1), (0, 0, 3, 1), (0, 0, 9, 1), (0, 0, 9, 1), (0, 0, 23, 1), (0, 0, 24, 1), (0, -1, 3, 1), (0, 0, 9, 1), (0, 0, 9, 1), (0, 0, 3, 1), (0, 0, 9, 1), (0, 0, 9, 1), (0, 0, 23, 1), (0, 0, 24, 1), (0, -1, 3, 1), (0, 0, 9, 1), (0, 0, 9, 1), (0, 0, 3, 1), (0, 0, 9, 1), (0, 0, 9, 1), (0, 0, 23, 1), (0, 0, 24, 1), (0, -1, 3, 1), (0, 0, 9, 1), (0, 0, 9, 1), (0, 0, 3, 1), (0, 0, 9, 1), (0, 0, 9, 1), (0, 0, 23, 1), (0, 0, 24, 1), (0, -1, 3, 1), (0, 0, 9, 1), (0, 0, 9, 1), (0, 0, 3, 1), (0, 0, 9, 1), (0, 0, 9, 1), (0, 0, 23, 1), (0, 0, 24, 1), (0, -1, 3, 1), (0, 0, 9, 1), (0, 0, 9, 1), (0, 0, 3, 1), (0, 0, 9, 1), (0, 0, 9, 1), (0, 0, 23, 1), (0, 0, 24, 1), (0, -1, 3, 1), (0, 0, 9, 1), (0, 0, 9, 1), (0, 0, 3, 1), (0, 0, 9, 1), (0, 0, 9, 1), (0, 0, 23, 1), (0, 0, 24, 1), (0, -1, 3, 1), (0, 0, 9, 1), (0, 0, 9, 1), (0, 0, 3, 1), (0, 0, 9, 1), (0, 0, 9, 1), (0, 0, 23, 1), (0, 0, 24, 1), (0, -1, 3, 1), (0, 0, 9, 1), (0, 0, 9, 1), (0, 0, 3, 1), (0, 0, 9, 1), (0, 0, 9, 1), (0, 0, 23, 1), (0, 0, 24, 1), (0, -1, 3, 1), (0, 0, 9, 1), (0, 0, 9, 1), (0, 0, 3, 1), (0, 0, 9, 1), (0, 0, 9, 1), (0, 0, 23, 1), (0, 0, 24, 1), (0, -1, 3, 1), (0, 0, 9, 1), (0, 0, 9, 1), (0, 0, 3, 1), (0, 0, 9, 1), (0, 0, 9, 1), (0, 0, 23, 1), (0, 0, 24, 1), (0, -1, 3, 1), (0, 0, 9, 1), (0, 0, 9, 1), (0, 0, 3, 1), (0, 0, 9, 1), (0, 0, 9, 1), (0, 0, 24, 1), (0, 0, 3, 1), (0, 0, 9, 1), (0, 0, 9, 1), (0, 0, 24, 1), (0, 0, 3, 1), (0, 0, 9, 1), (0, 0, 9, 1), (0, 0, 24, 1), (0, 0, 3, 1), (0, 0, 9, 1), (0, 0, 9, 1), (0, 0, 24, 1), (0, 0, 3, 1), (0, 0, 9, 1), (0, 0, 9, 1), (0, 0, 24, 1), (0, 0, 3, 1), (0, 0, 9, 1), (0, 0, 9, 1), (0, 0, 24, 1), (0, 0, 0, 0), (0, 0, 0, 0), (0, 0, 0, 0), (0, 0, 0, 0), (0, 0, 0, 0), (0, 0, 0, 0), (0, 0, 0, 0), (0, 0, 0, 0), (0, 0, 0, 0), (0, 0, 0, 0)]
def RGr60 : List AV := [(0, 0, 10, 1)]
def RGr61 : List AV := [(0, 0, 25, 1)]
def RGr62 : List AV := [(0, 0, 24, 1), (0, -1, 5, 1), (0, -1, 13, 1), (0, -1, 5, 1), (0, -1, 13, 1), (0, -1, 5, 1), (0, -1, 13, 1), (0, -1, 5, 1), (0, -1, 13, 1), (0, -1, 5, 1), (0, -1, 13, 1), (0, -1, 5, 1), (0, -1, 13, 1), (0, -1, 5, 1), (0, -1, 13, 1), (0, -1, 5, 1), (0, -1, 13, 1), (0, -1, 5, 1), (0, -1, 13, 1), (0, -1, 5, 1), (0, -1, 13, 1), (0, -1, 5, 1), (0, -1, 13, 1), (0, -1, 5, 1), (0, -1, 13, 1), (0, -1, 5, 1), (0, -1, 13, 1), (0, -1, 5, 1), (0, -1, 13, 1), (0, -1, 5, 1), (0, -1, 13, 1), (0, -1, 5, 1), (0, -1, 13, 1), (0, -1, 5, 1), (0, -1, 13, 1), (0, -1, 5, 1), (0, -1, 13, 1), (0, -1, 5, 1), (0, -1, 13, 1), (0, -1, 5, 1), (0, -1, 13, 1), (0, -1, 5, 1), (0, -1, 13, 1), (0, -1, 5, 1), (0, -1, 13, 1), (0, -1, 5, 1), (0, -1, 13, 1), (0, -1, 5, 1), (0, -1, 13, 1), (0, -2147483648, 2147483647, 1), (0, -2147483648, 2147483647, 1), (0, -2147483648, 2147483647, 1), (0, -2147483648, 2147483647, 1), (0, -2147483648, 2147483647, 1), (0, -2147483648, 2147483647, 1), (0, -2147483648, 2147483647, 1), (0, -2147483648, 2147483647, 1), (0, -2147483648, 2147483647, 1), (0, -2147483648, 2147483647, 1), (0, -2147483648, 2147483647, 1), (0, -2147483648, 2147483647, 1), (0, -2147483648, 2147483647, 1), (0, -2147483648, 2147483647, 1), (0, -2147483648, 2147483647, 1), (0, -2147483648, 2147483647, 1), (0, -2147483648, 2147483647, 1), (0, -2147483648, 2147483647, 1), (0, -2147483648, 2147483647, 1), (0, -2147483648, 2147483647, 1), (0, -2147483648, 2147483647, 1), (0, -2147483648, 2147483647, 1), (0, -2147483648, 2147483647, 1), (0, -2147483648, 2147483647, 1), (0, -2147483648, 2147483647, 1), (0, -2147483648, 2147483647, 1), (0, -2147483648, 2147483647, 1), (0, -2147483648, 2147483647, 1), (0, -2147483648, 2147483647, 1), (0, -2147483648, 2147483647, 1), (0, -2147483648, 2147483647, 1), (0, -2147483648, 2147483647, 1), (0, -2147483648, 2147483647, 1), (0, -2147483648, 2147483647, 1), (0, -2147483648, 2147483647, 1), (0, -2147483648, 2147483647, 1), (0, -2147483648, 2147483647, 1), (0, -2147483648, 2147483647, 1), (0, -2147483648, 2147483647, 1), (0, -2147483648, 2147483647, 1), (0, -2147483648, 2147483647, 1), (0, -2147483648, 2147483647, 1), (0, -2147483648, 2147483647, 1), (0, -2147483648, 2147483647, 1), (0, -2147483648, 2147483647, 1), (0, -2147483648, 2147483647, 1), (0, -2147483648, 2147483647, 1), (0, -2147483648, 2147483647, 1), (0, -2147483648, 2147483647, 1), (0, -2147483648, 2147483647, 1), (0, -2147483648, 2147483647, 1)]
def RGr63 : List AV := [(0, 0, 24, 1), (0, -2147483648, 2147483647, 1), (0, 0, 9, 1), (0, 0, 9, 1), (0, 0, 9, 1), (0, 0, 9, 1), (0, 0, 9, 1), (0, 0, 9, 1), (0, 0, 1, 1), (0, 0, 1, 1), (0, 0, 1, 1), (0, 0, 1, 1), (0, 0, 1, 1), (0, 0, 1, 1), (0, 0, 1, 1), (0, 0, 1, 1), (0, 0, 1, 1), (0, 0, 1, 1), (0, 0, 1, 1), (0, 0, 1, 1), (0, -2147483648, 2147483647, 1), (0, -2147483648, 2147483647, 1), (0, -2147483648, 2147483647, 1), (0, -2147483648, 2147483647, 1), (0, -2147483648, 2147483647, 1), (0, -2147483648, 2147483647, 1), (0, -2147483648, 2147483647, 1), (0, -2147483648, 2147483647, 1), (0, -2147483648, 2147483647, 1), (0, -2147483648, 2147483647, 1), (0, -2147483648, 2147483647, 1), (0, -2147483648, 2147483647, 1), (0, -2147483648, 2147483647, 1), (0, -2147483648, 2147483647, 1), (0, 0, 10, 1), (0, 0, 9, 1), (0, 0, 9, 1), (0, 0, 1, 1), (0, 0, 9, 1), (0, 0, 9, 1), (0, 0, 1, 1), (0, 0, 9, 1), (0, 0, 9, 1), (0, 0, 1, 1), (0, 0, 9, 1), (0, 0, 9, 1), (0, 0, 1, 1), (0, 0, 9, 1), (0, 0, 9, 1), (0, 0, 1, 1), (0, 0, 9, 1), (0, 0, 9, 1), (0, 0, 1, 1), (0, 0, 9, 1), (0, 0, 9, 1), (0, 0, 1, 1), (0, 0, 9, 1), (0, 0, 9, 1), (0, 0, 1, 1), (0, 0, 9, 1), (0, 0, 9, 1), (0, 0, 1, 1), (0, 0, 9, 1), (0, 0, 9, 1), (0, 0, 1, 1), (0, -2147483648, 2147483647, 1), (0, -2147483648, 2147483647, 1), (0, -2147483648, 2147483647, 1), (0, -2147483648, 2147483647, 1), (0, -2147483648, 2147483647, 1)]
def RGr64 : List AV := [(0, 0, 1, 1)]
def RGr65 : List AV := [(0, 0, 24, 1), (0, -1, 5, 1), (0, -1, 13, 1), (0, -1, 5, 1), (0, -1, 13, 1), (0, -1, 5, 1), (0, -1, 13, 1), (0, -1, 5, 1), (0, -1, 13, 1), (0, -1, 5, 1), (0, -1, 13, 1), (0, -1, 5, 1), (0, -1, 13, 1), (0, -1, 5, 1), (0, -1, 13, 1), (0, -1, 5, 1), (0, -1, 13, 1), (0, -1, 5, 1), (0, -1, 13, 1), (0, -1, 5, 1), (0, -1, 13, 1), (0, -1, 5, 1), (0, -1, 13, 1), (0, -1, 5, 1), (0, -1, 13, 1), (0, -1, 5, 1), (0, -1, 13, 1), (0, -1, 5, 1), (0, -1, 13, 1), (0, -1, 5, 1), (0, -1, 13, 1), (0, -1, 5, 1), (0, -1, 13, 1), (0, -1, 5, 1), (0, -1, 13, 1), (0, -1, 5, 1), (0, -1, 13, 1), (0, -1, 5, 1), (0, -1, 13, 1), (0, -1, 5, 1), (0, -1, 13, 1), (0, -1, 5, 1), (0, -1, 13, 1), (0, -1, 5, 1), (0, -1, 13, 1), (0, -1, 5, 1), (0, -1, 13, 1), (0, -1, 5, 1), (0, -1, 13, 1), (0, -2147483648, 2147483647, 1)]
def RGr66 : List AV := [(0, 0, 1023, 1)]
def RGL : List (List AV) := [RGr0, RGr1, RGr2, RGr3, RGr4, RGr5, RGr6, RGr7, RGr8, RGr8, RGr8, RGr8, RGr9, RGr9, RGr9, RGr9, RGr9, RGr9, RGr9, RGr9, RGr9, RGr9, RGr9, RGr9, RGr9, RGr9, RGr10, RGr10, RGr10, RGr10, RGr10, RGr10, RGr11, RGr12, RGr13, RGr8, RGr8, RGr8, RGr8, RGr9, RGr9, RGr9, RGr9, RGr9, RGr9, RGr9, RGr9, RGr9, RGr9, RGr9, RGr9, RGr9, RGr9, RGr10, RGr10, RGr10, RGr10, RGr10, RGr10, RGr14, RGr15, RGr16, RGr8, RGr17, RGr18, RGr16, RGr16, RGr19, RGr20, RGr16, RGr8, RGr17, RGr18, RGr16, RGr16, RGr21, RGr22, RGr23, RGr24, RGr8, RGr25, RGr8, RGr8, RGr8, RGr26, RGr8, RGr8, RGr27, RGr18, RGr28, RGr29, RGr24, RGr16, RGr16, RGr8, RGr8, RGr30, RGr8, RGr8, RGr8, RGr8, RGr8, RGr31, RGr32, RGr16, RGr8, RGr17, RGr18, RGr16, RGr16, RGr33, RGr34, RGr16, RGr8, RGr17, RGr18, RGr16, RGr16, RGr35, RGr36, RGr16, RGr8, RGr17, RGr18, RGr16, RGr16, RGr37, RGr38, RGr16, RGr8, RGr17, RGr18, RGr16, RGr16, RGr39, RGr16, RGr8, RGr40, RGr16, RGr8, RGr41, RGr16, RGr8, RGr42, RGr16, RGr8, RGr43, RGr16, RGr8, RGr44, RGr16, RGr8, RGr45, RGr16, RGr8, RGr46, RGr16, RGr8, RGr47, RGr16, RGr8, RGr48, RGr16, RGr8, RGr49, RGr16, RGr8, RGr50, RGr16, RGr8, RGr51, RGr16, RGr8, RGr52, RGr16, RGr8, RGr53, RGr16, RGr8, RGr54, RGr16, RGr8, RGr55, RGr56, RGr57, RGr58, RGr4, RGr4, RGr59, RGr60, RGr8, RGr4, RGr4, RGr61, RGr61, RGr62, RGr8, RGr8, RGr63, RGr64, RGr65, RGr8, RGr24, RGr66, RGr8, RGr8, RGr8, RGr28, RGr8, RGr8, RGr8, RGr8, RGr8]
end
section
/-! LM, part 21: the heap by bounds -/
def hav (a i : Int) : AV := match RGL[a.toNat]? with
  | some L => L.getD (i.toNat % L.length) top0
  | none => top0
abbrev FA : Type := List (Int × Int × AV)
def hval (h : LH) (a i : Int) : LV := mkv (lkd a i) (rd h a i)
/-- what a global invariant must give: every place within its bounds; a write within bounds, in a cell that isn't protected, keeps it -/
def INVok (INV : LH → Prop) (prot : Int → Int → Int → Bool) : Prop := (∀ h, INV h → ∀ a i, valid a i → gV (hav a i) (hval h a i)) ∧ (∀ h, INV h → ∀ a i v, valid a i → prot a i i = false → gV (hav a i) (mkv (lkd a i) v) → INV (wr h a i v)) ∧ ∀ a lo hi i, prot a lo hi = false → lo ≤ i → i ≤ hi → prot a i i = false
def gF (h : LH) (fa : FA) : Prop := ∀ q ∈ fa, gV q.2.2 (hval h q.1 q.2.1)
def fget (fa : FA) (a i : Int) : AV := match fa.find? (fun q => q.1 == a && q.2.1 == i) with
  | some q => q.2.2
  | none => hav a i
theorem fget_ok {INV : LH → Prop} {prot : Int → Int → Int → Bool} (hI : INVok INV prot) {h : LH} (hh : INV h) {fa : FA} (hf : gF h fa) {a i : Int} (hv : valid a i) : gV (fget fa a i) (hval h a i) := by
  unfold fget
  split
  · next q hq =>
    have h1 := List.mem_of_find?_eq_some hq
    have h2 := List.find?_some hq
    simp only [Bool.and_eq_true, beq_iff_eq] at h2
    have h3 := hf q h1
    rw [h2.1, h2.2] at h3
    exact h3
  · exact hI.1 h hh a i hv
def vcount (a : AV) : Nat := if a.2.2.2 = 0 then 1 else ((a.2.2.1 - a.2.1) / (a.2.2.2 : Int)).toNat + 1
def vlist (a : AV) : List Int := (List.range (vcount a)).map (fun k : Nat => a.2.1 + (a.2.2.2 : Int) * (k : Int))
theorem vlist_ok {a : AV} {x : Int} (hx : inV a x) : x ∈ vlist a := by
  have hx2 := hx
  obtain ⟨x1, x2, k, x3⟩ := hx2
  unfold vlist vcount
  rw [List.mem_map]
  by_cases h0 : a.2.2.2 = 0
  · refine ⟨0, ?_, ?_⟩
    · rw [if_pos h0]; simp
    · have := inV_c hx h0
      simp; omega
  · have hp : (0 : Int) < (a.2.2.2 : Int) := by omega
    have hk : 0 ≤ k := by
      rcases Int.lt_or_le k 0 with q | q
      · have : (a.2.2.2 : Int) * k < 0 := Int.mul_neg_of_pos_of_neg hp q
        omega
      · exact q
    refine ⟨k.toNat, ?_, ?_⟩
    · rw [if_neg h0, List.mem_range]
      have h1 : k ≤ (a.2.2.1 - a.2.1) / (a.2.2.2 : Int) := by
        rw [Int.le_ediv_iff_mul_le hp, Int.mul_comm]
        omega
      omega
    · rw [Int.toNat_of_nonneg hk]
      omega
def joinA (a b : AV) : Option AV := if a.1 = b.1 then some (mkA a.1 (min a.2.1 b.2.1) (max a.2.2.1 b.2.2.1) (Nat.gcd (Nat.gcd a.2.2.2 b.2.2.2) (a.2.1 - b.2.1).natAbs)) else none
theorem joinA_in {lo hi lo' hi' x : Int} {st st' k : Nat} (h1 : lo ≤ x) (h2 : x ≤ hi) (h3 : (st : Int) ∣ (x - lo)) : inV (mkA k (min lo lo') (max hi hi') (Nat.gcd (Nat.gcd st st') (lo - lo').natAbs)) x := by
  refine inV_mk (by omega) (by omega) ?_
  have g1 : ((Nat.gcd (Nat.gcd st st') (lo - lo').natAbs : Nat) : Int) ∣ (st : Int) := Int.natCast_dvd_natCast.mpr (Nat.dvd_trans (Nat.gcd_dvd_left _ _) (Nat.gcd_dvd_left _ _))
  have g2 : ((Nat.gcd (Nat.gcd st st') (lo - lo').natAbs : Nat) : Int) ∣ (lo - lo') := Int.dvd_natAbs.mp (Int.natCast_dvd_natCast.mpr (Nat.gcd_dvd_right _ _))
  have g3 := Int.dvd_trans g1 h3
  rcases Int.le_total lo lo' with q | q
  · rw [show min lo lo' = lo by omega]; exact g3
  · rw [show min lo lo' = lo' by omega, show x - lo' = (x - lo) + (lo - lo') by omega]
    exact Int.dvd_add g3 g2
theorem gV_re {a b : AV} (hk : b.1 = a.1) {v : LV} (hv : gV a v) (hi : ∀ x, inV a x → inV b x) : gV b v := by
  match v, hv with
  | .inl x, hv => exact ⟨hk.trans hv.1, hv.2.1, hi x hv.2.2⟩
  | .inr (.inl x), hv => exact ⟨hk.trans hv.1, hv.2.1, hi x hv.2.2⟩
  | .inr (.inr x), hv => exact ⟨hk.trans hv.1, hi x hv.2⟩
theorem joinA_l {a b c : AV} (h : joinA a b = some c) {v : LV} (hv : gV a v) : gV c v := by
  unfold joinA at h
  split at h
  · cases some_i h
    exact gV_re (mkA_k _ _ _ _) hv (fun x hx => joinA_in hx.1 hx.2.1 hx.2.2)
  · cases h
theorem joinA_r {a b c : AV} (h : joinA a b = some c) {v : LV} (hv : gV b v) : gV c v := by
  unfold joinA at h
  split at h
  · next hk =>
    cases some_i h
    refine gV_re ((mkA_k _ _ _ _).trans hk) hv (fun x hx => ?_)
    have := joinA_in (lo' := a.2.1) (hi' := a.2.2.1) (st' := a.2.2.2) (k := a.1) hx.1 hx.2.1 hx.2.2
    rw [show min b.2.1 a.2.1 = min a.2.1 b.2.1 by omega, show max b.2.2.1 a.2.2.1 = max a.2.2.1 b.2.2.1 by omega, Nat.gcd_comm b.2.2.2 a.2.2.2, show (b.2.1 - a.2.1).natAbs = (a.2.1 - b.2.1).natAbs by omega] at this
    exact this
  · cases h
def joinL : List AV → Option AV
  | [] => none
  | [a] => some a
  | a :: r => (joinL r).bind (joinA a)
theorem joinL_ok : ∀ {l : List AV} {c : AV}, joinL l = some c → ∀ a ∈ l, ∀ {v : LV}, gV a v → gV c v
  | [], c, h, a, ha, v, hv => by cases ha
  | [b], c, h, a, ha, v, hv => by
    cases some_i h
    rw [List.mem_singleton.mp ha] at hv
    exact hv
  | b :: b' :: r, c, h, a, ha, v, hv => by
    simp only [joinL] at h
    rw [Option.bind_eq_some_iff] at h
    obtain ⟨d, h1, h2⟩ := h
    rcases List.mem_cons.mp ha with rfl | ha
    · exact joinA_l h2 hv
    · exact joinA_r h2 (joinL_ok h1 a ha hv)
/-- what the places ix of a cell may hold -/
def havs (a : Int) (ix : AV) : Option AV := match RGL[a.toNat]? with
  | some [r] => some r
  | some L => joinL ((vlist ix).map (fun i => L.getD (i.toNat % L.length) top0))
  | none => none
theorem havs_ok {a : Int} {ix r : AV} (h : havs a ix = some r) {i : Int} (hi : inV ix i) {v : LV} (hv : gV (hav a i) v) : gV r v := by
  unfold havs at h
  unfold hav at hv
  split at h
  · next q hq =>
    rw [hq] at hv
    cases some_i h
    simp only [List.length_singleton, Nat.mod_one] at hv
    exact hv
  · next L hL hq =>
    rw [hq] at hv
    exact joinL_ok h _ (List.mem_map.mpr ⟨i, vlist_ok hi, rfl⟩) hv
  · cases h
/-- every place ix of a cell may take what v may be -/
def fitR (a : Int) (ix v : AV) : Bool := match RGL[a.toNat]? with
  | some [r] => leA v r
  | some L => (vlist ix).all (fun i => leA v (L.getD (i.toNat % L.length) top0))
  | none => false
theorem fitR_ok {a : Int} {ix v : AV} (h : fitR a ix v = true) {i : Int} (hi : inV ix i) {x : LV} (hx : gV v x) : gV (hav a i) x := by
  unfold fitR at h
  unfold hav
  split at h
  · next q hq =>
    rw [hq]
    simp only [List.length_singleton, Nat.mod_one]
    exact leA_ok h hx
  · next L hL hq =>
    rw [hq]
    exact leA_ok (List.all_eq_true.mp h i (vlist_ok hi)) hx
  · cases h
def ldC (cells : List Int) (ix : AV) (fa : FA) : Option (AV × PV) := match cells with
  | [a] => if ix.2.2.2 = 0 then some (fget fa a ix.2.1, (2, a, ix.2.1, 0, 0)) else (havs a ix).map (fun r => (r, pv0))
  | _ => (cells.mapM (fun a => havs a ix)).bind (fun l => (joinL l).map (fun r => (r, pv0)))
theorem mapM_mem {α β : Type} {f : α → Option β} : ∀ {l : List α} {r : List β}, l.mapM f = some r → ∀ a ∈ l, ∃ b ∈ r, f a = some b
  | [], r, h, a, ha => by cases ha
  | x :: l, r, h, a, ha => by
    rw [List.mapM_cons] at h
    simp only [Option.bind_eq_bind, Option.pure_def] at h
    rw [Option.bind_eq_some_iff] at h
    obtain ⟨y, h1, h2⟩ := h
    rw [Option.bind_eq_some_iff] at h2
    obtain ⟨ys, h3, h4⟩ := h2
    cases some_i h4
    rcases List.mem_cons.mp ha with rfl | ha
    · exact ⟨y, List.mem_cons_self, h1⟩
    · obtain ⟨b, hb, e⟩ := mapM_mem h3 a ha
      exact ⟨b, List.mem_cons_of_mem _ hb, e⟩
theorem ldC_ok {INV : LH → Prop} {prot : Int → Int → Int → Bool} (hI : INVok INV prot) {h : LH} (hh : INV h) {fa : FA} (hf : gF h fa) {ls : LL} {cells : List Int} {ix : AV} {r : AV × PV} (hl : ldC cells ix fa = some r) {a i : Int} (ha : a ∈ cells) (hi : inV ix i) (hv : valid a i) : gV r.1 (hval h a i) ∧ gP ls h r.2 (hval h a i) := by
  unfold ldC at hl
  split at hl
  · next b =>
    rw [List.mem_singleton.mp ha] at hv ⊢
    split at hl
    · next h0 =>
      cases some_i hl
      have e := inV_c hi h0
      subst e
      exact ⟨fget_ok hI hh hf hv, hv, rfl⟩
    · rw [Option.map_eq_some_iff] at hl
      obtain ⟨q, h1, rfl⟩ := hl
      exact ⟨havs_ok h1 hi (hI.1 h hh _ _ hv), trivial⟩
  · rw [Option.bind_eq_some_iff] at hl
    obtain ⟨l, h1, h2⟩ := hl
    rw [Option.map_eq_some_iff] at h2
    obtain ⟨q, h3, rfl⟩ := h2
    obtain ⟨b, hb, e⟩ := mapM_mem h1 a ha
    exact ⟨joinL_ok h3 b hb (havs_ok e hi (hI.1 h hh _ _ hv)), trivial⟩
end
section
/-! LM, part 22: gets and puts by bounds -/
abbrev BX : Type := List (Int × Int × Int × Int)
def inBx (bs : BX) (a i : Int) : Bool := bs.any (fun b => decide (b.1 ≤ a) && decide (a ≤ b.2.1) && decide (b.2.2.1 ≤ i) && decide (i ≤ b.2.2.2))
def frm (bs : BX) (h h' : LH) : Prop := ∀ a i : Int, inBx bs a i = false → rd h' a i = rd h a i
def killS (bs : BX) (st : List SE) : List SE := st.map (fun e => if (e.2.1 = 2 ∨ e.2.1 = 4) ∧ inBx bs e.2.2.1 e.2.2.2.1 = true then (e.1, pv0) else e)
def killF (bs : BX) (fa : FA) : FA := fa.filter (fun q => !(inBx bs q.1 q.2.1))
theorem killS_ok {bs : BX} {ls : LL} {h h' : LH} (hf : frm bs h h') : ∀ {ast : List SE} {st : List LV}, gS ls h ast st → gS ls h' (killS bs ast) st
  | [], [], _ => trivial
  | e :: r, v :: s, hs => by
    have ih := killS_ok hf hs.2
    refine ⟨?_, ih⟩
    show gV (if (e.2.1 = 2 ∨ e.2.1 = 4) ∧ inBx bs e.2.2.1 e.2.2.2.1 = true then (e.1, pv0) else e).1 v ∧ gP ls h' (if (e.2.1 = 2 ∨ e.2.1 = 4) ∧ inBx bs e.2.2.1 e.2.2.2.1 = true then (e.1, pv0) else e).2 v
    split
    · exact ⟨hs.1.1, trivial⟩
    · next hn =>
      refine ⟨hs.1.1, ?_⟩
      have hp := hs.1.2
      unfold gP at hp ⊢
      split at hp
      · trivial
      · exact hp
      · next e2 =>
        have hb : inBx bs e.2.2.1 e.2.2.2.1 = false := by
          cases hq : inBx bs e.2.2.1 e.2.2.2.1
          · rfl
          · exact absurd ⟨Or.inl e2, hq⟩ hn
        rw [hf _ _ hb]
        exact hp
      · exact hp
      · next e2 =>
        have hb : inBx bs e.2.2.1 e.2.2.2.1 = false := by
          cases hq : inBx bs e.2.2.1 e.2.2.2.1
          · rfl
          · exact absurd ⟨Or.inr e2, hq⟩ hn
        rw [hf _ _ hb]
        exact hp
      · cases hp
  | [], _ :: _, hs => by cases hs
  | _ :: _, [], hs => by cases hs
theorem killF_ok {bs : BX} {h h' : LH} (hf : frm bs h h') {fa : FA} (hg : gF h fa) : gF h' (killF bs fa) := by
  intro q hq
  unfold killF at hq
  obtain ⟨h1, h2⟩ := List.mem_filter.mp hq
  have h3 : inBx bs q.1 q.2.1 = false := by simpa using h2
  have := hg q h1
  unfold hval at this ⊢
  rw [hf _ _ h3]
  exact this
def cellsOf (e : SE) : Option (List Int) := if e.1.1 = 2 ∧ vcount e.1 ≤ 64 then some (vlist e.1) else none
theorem cellsOf_ok {e : SE} {cs : List Int} (h : cellsOf e = some cs) {v : LV} (hv : gV e.1 v) : ∃ a, v = .inr (.inr a) ∧ inV e.1 a ∧ a ∈ cs := by
  unfold cellsOf at h
  split at h
  · next hk =>
    cases some_i h
    obtain ⟨a, rfl, ha⟩ := gV_r hv hk.1
    exact ⟨a, rfl, ha, vlist_ok ha⟩
  · cases h
def splitR (r : AV × PV) (rest : List SE) : List (List SE) := if r.1.1 = 2 ∧ r.1.2.2.2 ≠ 0 ∧ r.1.2.2.1 = r.1.2.1 + (r.1.2.2.2 : Int) then [((2, r.1.2.1, r.1.2.1, 0), r.2) :: rest, ((2, r.1.2.2.1, r.1.2.2.1, 0), r.2) :: rest] else [r :: rest]
theorem splitR_ok {ls : LL} {h : LH} {r : AV × PV} {rest : List SE} {v : LV} {s : List LV} (h1 : gV r.1 v) (h2 : gP ls h r.2 v) (h3 : gS ls h rest s) : ∃ q ∈ splitR r rest, gS ls h q (v :: s) := by
  unfold splitR
  split
  · next hk =>
    obtain ⟨x, rfl, hx⟩ := gV_r h1 hk.1
    have hx2 := vlist_ok hx
    unfold vlist vcount at hx2
    rw [if_neg hk.2.1, List.mem_map] at hx2
    obtain ⟨k, k1, k2⟩ := hx2
    have hp : (0 : Int) < (r.1.2.2.2 : Int) := by have := hk.2.1; omega
    rw [hk.2.2, show r.1.2.1 + (r.1.2.2.2 : Int) - r.1.2.1 = (r.1.2.2.2 : Int) by omega, Int.ediv_self (by omega)] at k1
    simp only [List.mem_range] at k1
    have hk2 : k = 0 ∨ k = 1 := by omega
    rcases hk2 with rfl | rfl
    · refine ⟨_, List.mem_cons_self, ⟨⟨rfl, by show r.1.2.1 ≤ x; omega, by show x ≤ r.1.2.1; omega, by show _ ∣ x - r.1.2.1; rw [show x - r.1.2.1 = 0 by omega]; exact Int.dvd_zero _⟩, h2⟩, h3⟩
    · have e : x = r.1.2.2.1 := by rw [hk.2.2, ← k2]; simp
      refine ⟨_, List.mem_cons_of_mem _ List.mem_cons_self, ⟨⟨rfl, by show r.1.2.2.1 ≤ x; omega, by show x ≤ r.1.2.2.1; omega, by show _ ∣ x - r.1.2.2.1; rw [show x - r.1.2.2.1 = 0 by omega]; exact Int.dvd_zero _⟩, h2⟩, h3⟩
  · exact ⟨_, List.mem_cons_self, ⟨h1, h2⟩, h3⟩
def arrOk (cs : List Int) (k : Nat) (ix : AV) : Bool := cs.all (fun a => isA NC a k && decide (ix.2.2.1 < ((lay a.toNat).2.2 : Int))) && decide (0 ≤ ix.2.1) && ix.1 == 0
theorem arrOk_ok {cs : List Int} {k : Nat} {ix : AV} (h : arrOk cs k ix = true) {a i : Int} (ha : a ∈ cs) (hi : inV ix i) : isA NC a k = true ∧ inA a i = true ∧ valid a i := by
  unfold arrOk at h
  simp only [Bool.and_eq_true, decide_eq_true_eq] at h
  have h1 := List.all_eq_true.mp h.1.1 a ha
  simp only [Bool.and_eq_true, decide_eq_true_eq] at h1
  obtain ⟨g1, g2, g3⟩ := isA_of h1.1
  obtain ⟨i1, i2, -⟩ := hi
  refine ⟨h1.1, ?_, g1, g2, by omega, by omega⟩
  unfold inA
  simp only [Bool.and_eq_true, decide_eq_true_eq]
  omega
theorem arrOk_k {cs : List Int} {k : Nat} {ix : AV} (h : arrOk cs k ix = true) : ix.1 = 0 := by
  unfold arrOk at h
  simp only [Bool.and_eq_true, beq_iff_eq] at h
  exact h.2
def aLen (a : Int) : AV := (0, ((lay a.toNat).2.2 : Int), ((lay a.toNat).2.2 : Int), 0)
def aG (o : Nat) (i : Instr) (st : List SE) (fa : FA) : Option (List (List SE)) := match i with
  | .getfield x => match st with
    | e :: r => match cellsOf e with
      | some cs => match fld o x with
        | some (c, k) => if cs.all (fun a => isO NC a c) then (ldC cs (0, (k : Int), (k : Int), 0) fa).map (fun q => splitR q r) else none
        | none => none
      | none => none
    | _ => none
  | .iaload => match st with
    | ix :: e :: r => match cellsOf e with
      | some cs => if arrOk cs 1 ix.1 then (ldC cs ix.1 fa).map (fun q => [q :: r]) else none
      | none => none
    | _ => none
  | .laload => match st with
    | ix :: e :: r => match cellsOf e with
      | some cs => if arrOk cs 2 ix.1 then (ldC cs ix.1 fa).map (fun q => [q :: r]) else none
      | none => none
    | _ => none
  | .baload => match st with
    | ix :: e :: r => match cellsOf e with
      | some cs => if arrOk cs 3 ix.1 || arrOk cs 4 ix.1 then (ldC cs ix.1 fa).map (fun q => [q :: r]) else none
      | none => none
    | _ => none
  | .aaload => match st with
    | ix :: e :: r => match cellsOf e with
      | some cs => if arrOk cs 5 ix.1 then (ldC cs ix.1 fa).map (fun q => [q :: r]) else none
      | none => none
    | _ => none
  | .arraylength => match st with
    | e :: r => match cellsOf e with
      | some cs => if cs.all (fun a => isA NC a 1) then (joinL (cs.map aLen)).map (fun q => [(q, pv0) :: r]) else none
      | none => none
    | _ => none
  | _ => none
theorem valid_O {o x c k : Nat} {a : Int} (hf : fld o x = some (c, k)) (hO : isO NC a c = true) : valid a k := by
  obtain ⟨g1, g2, g3, g4⟩ := isO_of hO
  obtain ⟨C, T, N, hc, hk, -⟩ := fld_of hf
  have hN : (lay a.toNat).2.2 = N := by
    have := lay_obj g3
    rw [g4, hc] at this
    exact (Option.some.inj this).symm
  exact ⟨g1, g2, by omega, by rw [hN]; omega⟩
theorem pt (k : Nat) : inV (0, (k : Int), (k : Int), 0) (k : Int) := ⟨Int.le_refl _, Int.le_refl _, by rw [Int.sub_self]; exact Int.dvd_zero _⟩
section GP
variable {INV : LH → Prop} {prot : Int → Int → Int → Bool} {ls : LL} {h : LH} {xs : Nat → Int} {xl : Nat}
set_option maxHeartbeats 4000000 in
theorem aG_ok (hI : INVok INV prot) (hh : INV h) {fa : FA} (hf : gF h fa) {o : Nat} {i : Instr} {ast : List SE} {L : List (List SE)} {st : List LV} (ha : aG o i ast fa = some L) (hs : gS ls h ast st) : ∃ st', lmG o NC xs xl i st h = some st' ∧ ∃ q ∈ L, gS ls h q st' := by
  have arr : ∀ (kd : Nat) (ix e : SE) (r : List SE) (cs : List Int) (L : List (List SE)), ast = ix :: e :: r → cellsOf e = some cs → arrOk cs kd ix.1 = true → (ldC cs ix.1 fa).map (fun q => [q :: r]) = some L →
      ∃ (j a : Int) (s : List LV), st = .inl j :: .inr (.inr a) :: s ∧ isA NC a kd = true ∧ inA a j = true ∧ 1 ≤ a ∧ ∃ q ∈ L, gS ls h q (hval h a j :: s) := by
    intro kd ix e r cs L e1 e2 e3 e4
    subst e1
    obtain ⟨v, s1, rfl, g1, -, hs1⟩ := gS_c hs
    obtain ⟨w, s, rfl, g2, -, hs2⟩ := gS_c hs1
    obtain ⟨j, rfl, j1, j2⟩ := gV_i g1 (arrOk_k e3)
    obtain ⟨a, rfl, a1, a2⟩ := cellsOf_ok e2 g2
    obtain ⟨b1, b2, b3⟩ := arrOk_ok e3 a2 j2
    rw [Option.map_eq_some_iff] at e4
    obtain ⟨q, q1, rfl⟩ := e4
    obtain ⟨c1, c2⟩ := ldC_ok hI hh hf (ls := ls) q1 a2 j2 b3
    exact ⟨j, a, s, rfl, b1, b2, b3.1, _, List.mem_singleton.mpr rfl, ⟨c1, c2⟩, hs2⟩
  cases i with
  | getfield x =>
    simp only [aG] at ha
    split at ha
    · next e r =>
      split at ha
      · next cs hc =>
        split at ha
        · next c k hfl =>
          split at ha
          · next hO =>
            rw [Option.map_eq_some_iff] at ha
            obtain ⟨q, q1, rfl⟩ := ha
            obtain ⟨v, s, rfl, g1, -, hs1⟩ := gS_c hs
            obtain ⟨a, rfl, a1, a2⟩ := cellsOf_ok hc g1
            have hO2 := List.all_eq_true.mp hO a a2
            obtain ⟨b1, b2, b3, b4⟩ := isO_of hO2
            obtain ⟨c1, c2⟩ := ldC_ok hI hh hf (ls := ls) q1 a2 (pt k) (valid_O hfl hO2)
            refine ⟨mkv (fkd c k) (rd h a k) :: s, by simp only [lmG]; rw [hfl]; simp only; rw [if_pos hO2], ?_⟩
            have e1 : hval h a k = mkv (fkd c k) (rd h a k) := by unfold hval; rw [lkd_o b3 b4]
            rw [e1] at c1 c2
            exact splitR_ok c1 c2 hs1
          · cases ha
        · cases ha
      · cases ha
    · cases ha
  | iaload =>
    simp only [aG] at ha
    split at ha
    · next ix e r =>
      split at ha
      · next cs hc =>
        split at ha
        · next hO =>
          obtain ⟨j, a, s, rfl, b1, b2, b3, b4⟩ := arr 1 ix e r cs L rfl hc hO ha
          have e1 : hval h a j = .inl (rd h a j) := by unfold hval; rw [lkd_1 (isA_of b1).2.2]; rfl
          rw [e1] at b4
          exact ⟨_, by simp only [lmG]; rw [if_neg (by omega), if_pos (by rw [b1, b2]; rfl)], b4⟩
        · cases ha
      · cases ha
    · cases ha
  | laload =>
    simp only [aG] at ha
    split at ha
    · next ix e r =>
      split at ha
      · next cs hc =>
        split at ha
        · next hO =>
          obtain ⟨j, a, s, rfl, b1, b2, b3, b4⟩ := arr 2 ix e r cs L rfl hc hO ha
          have e1 : hval h a j = .inr (.inl (rd h a j)) := by unfold hval; rw [lkd_2 (isA_of b1).2.2]; rfl
          rw [e1] at b4
          exact ⟨_, by simp only [lmG]; rw [if_pos (by rw [b1, b2]; rfl)], b4⟩
        · cases ha
      · cases ha
    · cases ha
  | baload =>
    simp only [aG] at ha
    split at ha
    · next ix e r =>
      split at ha
      · next cs hc =>
        split at ha
        · next hO =>
          rw [Bool.or_eq_true] at hO
          rcases hO with hO | hO
          · obtain ⟨j, a, s, rfl, b1, b2, b3, b4⟩ := arr 3 ix e r cs L rfl hc hO ha
            have e1 : hval h a j = .inl (rd h a j) := by unfold hval; rw [lkd_3 (isA_of b1).2.2]; rfl
            rw [e1] at b4
            exact ⟨_, by simp only [lmG]; rw [if_pos (by rw [b1, b2]; rfl)], b4⟩
          · obtain ⟨j, a, s, rfl, b1, b2, b3, b4⟩ := arr 4 ix e r cs L rfl hc hO ha
            have e1 : hval h a j = .inl (rd h a j) := by unfold hval; rw [lkd_4 (isA_of b1).2.2]; rfl
            rw [e1] at b4
            exact ⟨_, by simp only [lmG]; rw [if_pos (by rw [b1, b2, Bool.or_true]; rfl)], b4⟩
        · cases ha
      · cases ha
    · cases ha
  | aaload =>
    simp only [aG] at ha
    split at ha
    · next ix e r =>
      split at ha
      · next cs hc =>
        split at ha
        · next hO =>
          obtain ⟨j, a, s, rfl, b1, b2, b3, b4⟩ := arr 5 ix e r cs L rfl hc hO ha
          have e1 : hval h a j = .inr (.inr (rd h a j)) := by unfold hval; rw [lkd_5 (isA_of b1).2.2]; rfl
          rw [e1] at b4
          exact ⟨_, by simp only [lmG]; rw [if_pos (by rw [b1, b2]; rfl)], b4⟩
        · cases ha
      · cases ha
    · cases ha
  | arraylength =>
    simp only [aG] at ha
    split at ha
    · next e r =>
      split at ha
      · next cs hc =>
        split at ha
        · next hO =>
          rw [Option.map_eq_some_iff] at ha
          obtain ⟨q, q1, rfl⟩ := ha
          obtain ⟨v, s, rfl, g1, -, hs1⟩ := gS_c hs
          obtain ⟨a, rfl, a1, a2⟩ := cellsOf_ok hc g1
          have hO2 := List.all_eq_true.mp hO a a2
          obtain ⟨b1, b2, b3⟩ := isA_of hO2
          have hl := lay_len a.toNat
          refine ⟨.inl ((lay a.toNat).2.2 : Int) :: s, by simp only [lmG]; rw [if_neg (by omega), if_pos hO2], _, List.mem_singleton.mpr rfl, gS_p ?_ hs1⟩
          exact joinL_ok q1 (aLen a) (List.mem_map.mpr ⟨a, a2, rfl⟩) ⟨rfl, by unfold i32; omega, Int.le_refl _, Int.le_refl _, by unfold aLen; simp⟩
        · cases ha
      · cases ha
    · cases ha
  | _ => simp only [aG] at ha; cases ha
end GP
end
section
/-! LM, part 23: puts, constants, arraycopy, Math by bounds -/
def kOk (k : Nat) (v : AV) : Bool := match k with
  | 0 => v.1 == 0
  | 1 => v.1 == 1
  | 2 => v.1 == 2 && decide (0 ≤ v.2.1)
  | 3 => v.1 == 0 && decide (0 ≤ v.2.1) && decide (v.2.2.1 ≤ 1)
  | _ => false
theorem kOk_ok {k : Nat} {a : AV} {v : LV} (h : kOk k a = true) (hv : gV a v) : ∃ z, okk k v = some z ∧ v = mkv k z := by
  match k, h with
  | 0, h =>
    obtain ⟨x, rfl, -⟩ := gV_i hv (by simpa [kOk] using h)
    exact ⟨x, rfl, rfl⟩
  | 1, h =>
    obtain ⟨x, rfl, -⟩ := gV_l hv (by simpa [kOk] using h)
    exact ⟨x, rfl, rfl⟩
  | 2, h =>
    simp only [kOk, Bool.and_eq_true, beq_iff_eq, decide_eq_true_eq] at h
    obtain ⟨x, rfl, hx⟩ := gV_r hv h.1
    exact ⟨x, by simp only [okk]; rw [if_pos (by have := hx.1; omega)], rfl⟩
  | 3, h =>
    simp only [kOk, Bool.and_eq_true, beq_iff_eq, decide_eq_true_eq] at h
    obtain ⟨x, rfl, -, hx⟩ := gV_i hv h.1.1
    exact ⟨x, by simp only [okk]; rw [if_pos (by have := hx.1; have := hx.2.1; omega)], rfl⟩
  | k + 4, h => cases h
/-- puts: the cells, the places, the value, the rest -/
def aP (o : Nat) (i : Instr) (st : List SE) : Option (AV × AV × AV × List SE) := match i with
  | .putfield x => match st with
    | v :: e :: r => match cellsOf e with
      | some cs => match fld o x with
        | some (c, k) => if cs.all (fun a => isO NC a c) && !(fin c k) && kOk (fkd c k) v.1 then some (e.1, (0, (k : Int), (k : Int), 0), v.1, r) else none
        | none => none
      | none => none
    | _ => none
  | .iastore => match st with
    | v :: ix :: e :: r => match cellsOf e with
      | some cs => if arrOk cs 1 ix.1 && v.1.1 == 0 then some (e.1, ix.1, v.1, r) else none
      | none => none
    | _ => none
  | .lastore => match st with
    | v :: ix :: e :: r => match cellsOf e with
      | some cs => if arrOk cs 2 ix.1 && v.1.1 == 1 then some (e.1, ix.1, v.1, r) else none
      | none => none
    | _ => none
  | .bastore => match st with
    | v :: ix :: e :: r => match cellsOf e with
      | some cs => if v.1.1 == 0 && ((arrOk cs 3 ix.1 && decide (-128 ≤ v.1.2.1) && decide (v.1.2.2.1 ≤ 127)) || (arrOk cs 4 ix.1 && decide (0 ≤ v.1.2.1) && decide (v.1.2.2.1 ≤ 1))) then some (e.1, ix.1, v.1, r) else none
      | none => none
    | _ => none
  | _ => none
section PP
variable {INV : LH → Prop} {prot : Int → Int → Int → Bool} {ls : LL} {h : LH}
set_option maxHeartbeats 4000000 in
theorem aP_ok {o : Nat} {ini : Bool} {i : Instr} {ast : List SE} {ea ix va : AV} {r : List SE} {st : List LV} (ha : aP o i ast = some (ea, ix, va, r)) (hs : gS ls h ast st) :
    ∃ (a j z : Int) (s : List LV), lmP o NC ini i st h = some (s, wr h a j z) ∧ inV ea a ∧ inV ix j ∧ valid a j ∧ gV va (mkv (lkd a j) z) ∧ gS ls h r s := by
  have arr : ∀ (kd : Nat) (v ix e : SE) (r : List SE) (cs : List Int), ast = v :: ix :: e :: r → cellsOf e = some cs → arrOk cs kd ix.1 = true →
      ∃ (w : LV) (j a : Int) (s : List LV), st = w :: .inl j :: .inr (.inr a) :: s ∧ gV v.1 w ∧ isA NC a kd = true ∧ inA a j = true ∧ valid a j ∧ inV e.1 a ∧ inV ix.1 j ∧ gS ls h r s := by
    intro kd v ix e r cs e1 e2 e3
    subst e1
    obtain ⟨w, s1, rfl, g1, -, hs1⟩ := gS_c hs
    obtain ⟨w2, s2, rfl, g2, -, hs2⟩ := gS_c hs1
    obtain ⟨w3, s, rfl, g3, -, hs3⟩ := gS_c hs2
    obtain ⟨j, rfl, j1, j2⟩ := gV_i g2 (arrOk_k e3)
    obtain ⟨a, rfl, a1, a2⟩ := cellsOf_ok e2 g3
    obtain ⟨b1, b2, b3⟩ := arrOk_ok e3 a2 j2
    exact ⟨w, j, a, s, rfl, g1, b1, b2, b3, a1, j2, hs3⟩
  cases i with
  | putfield x =>
    simp only [aP] at ha
    split at ha
    · next v e r =>
      split at ha
      · next cs hc =>
        split at ha
        · next c k hfl =>
          split at ha
          · next hO =>
            simp only [Bool.and_eq_true, Bool.not_eq_true'] at hO
            cases some_i ha
            obtain ⟨w, s1, rfl, g1, -, hs1⟩ := gS_c hs
            obtain ⟨w2, s, rfl, g2, -, hs2⟩ := gS_c hs1
            obtain ⟨a, rfl, a1, a2⟩ := cellsOf_ok hc g2
            have hO2 := List.all_eq_true.mp hO.1.1 a a2
            obtain ⟨b1, b2, b3, b4⟩ := isO_of hO2
            obtain ⟨z, z1, z2⟩ := kOk_ok hO.2 g1
            refine ⟨a, k, z, s, ?_, a1, pt k, valid_O hfl hO2, ?_, hs2⟩
            · simp only [lmP]
              rw [hfl]
              simp only
              rw [if_pos (by rw [hO2, hO.1.2]; rfl), z1]
              rfl
            · rw [lkd_o b3 b4, ← z2]
              exact g1
          · cases ha
        · cases ha
      · cases ha
    · cases ha
  | iastore =>
    simp only [aP] at ha
    split at ha
    · next v ix e r =>
      split at ha
      · next cs hc =>
        split at ha
        · next hO =>
          simp only [Bool.and_eq_true, beq_iff_eq] at hO
          cases some_i ha
          obtain ⟨w, j, a, s, rfl, g1, b1, b2, b3, b4, b5, b6⟩ := arr 1 v _ e _ cs rfl hc hO.1
          obtain ⟨x, rfl, x1, x2⟩ := gV_i g1 hO.2
          exact ⟨a, j, x, s, by simp only [lmP]; rw [if_pos (by rw [b1, b2]; rfl)], b4, b5, b3, by rw [lkd_1 (isA_of b1).2.2]; exact g1, b6⟩
        · cases ha
      · cases ha
    · cases ha
  | lastore =>
    simp only [aP] at ha
    split at ha
    · next v ix e r =>
      split at ha
      · next cs hc =>
        split at ha
        · next hO =>
          simp only [Bool.and_eq_true, beq_iff_eq] at hO
          cases some_i ha
          obtain ⟨w, j, a, s, rfl, g1, b1, b2, b3, b4, b5, b6⟩ := arr 2 v _ e _ cs rfl hc hO.1
          obtain ⟨x, rfl, x1, x2⟩ := gV_l g1 hO.2
          exact ⟨a, j, x, s, by simp only [lmP]; rw [if_pos (by rw [b1, b2]; rfl)], b4, b5, b3, by rw [lkd_2 (isA_of b1).2.2]; exact g1, b6⟩
        · cases ha
      · cases ha
    · cases ha
  | bastore =>
    simp only [aP] at ha
    split at ha
    · next v ix e r =>
      split at ha
      · next cs hc =>
        split at ha
        · next hO =>
          simp only [Bool.and_eq_true, Bool.or_eq_true, beq_iff_eq, decide_eq_true_eq] at hO
          cases some_i ha
          rcases hO.2 with q | q
          · obtain ⟨w, j, a, s, rfl, g1, b1, b2, b3, b4, b5, b6⟩ := arr 3 v _ e _ cs rfl hc q.1.1
            obtain ⟨x, rfl, x1, x2⟩ := gV_i g1 hO.1
            have y1 := x2.1
            have y2 := x2.2.1
            have hx : (-128 ≤ x ∧ x ≤ 127) := by omega
            exact ⟨a, j, x, s, by simp only [lmP]; rw [if_pos (by rw [b1, b2, decide_eq_true hx]; rfl)], b4, b5, b3, by rw [lkd_3 (isA_of b1).2.2]; exact g1, b6⟩
          · obtain ⟨w, j, a, s, rfl, g1, b1, b2, b3, b4, b5, b6⟩ := arr 4 v _ e _ cs rfl hc q.1.1
            obtain ⟨x, rfl, x1, x2⟩ := gV_i g1 hO.1
            have y1 := x2.1
            have y2 := x2.2.1
            have hx : (x = 0 ∨ x = 1) := by omega
            exact ⟨a, j, x, s, by simp only [lmP]; rw [if_pos (by rw [b1, b2, decide_eq_true hx, Bool.and_true, Bool.or_true]; rfl)], b4, b5, b3, by rw [lkd_4 (isA_of b1).2.2]; exact g1, b6⟩
        · cases ha
      · cases ha
    · cases ha
  | _ => simp only [aP] at ha; cases ha
/-- a put keeps the invariant, and changes one place -/
def stOk (prot : Int → Int → Int → Bool) (ea ix va : AV) : Bool := decide (vcount ea ≤ 64) && (vlist ea).all (fun a => fitR a ix va && !(prot a ix.2.1 ix.2.2.1))
theorem stOk_ok (hI : INVok INV prot) (hh : INV h) {ea ix va : AV} (hk : stOk prot ea ix va = true) {a j z : Int} (ha : inV ea a) (hj : inV ix j) (hv : valid a j) (hz : gV va (mkv (lkd a j) z)) : INV (wr h a j z) := by
  unfold stOk at hk
  simp only [Bool.and_eq_true] at hk
  have h1 := List.all_eq_true.mp hk.2 a (vlist_ok ha)
  simp only [Bool.and_eq_true, Bool.not_eq_true'] at h1
  exact hI.2.1 h hh a j z hv (hI.2.2 _ _ _ _ h1.2 hj.1 hj.2.1) (fitR_ok h1.1 hj hz)
def boxOf (ea ix : AV) : Int × Int × Int × Int := (ea.2.1, ea.2.2.1, ix.2.1, ix.2.2.1)
theorem frm_wr {ea ix : AV} {a j z : Int} (ha : inV ea a) (hj : inV ix j) : frm [boxOf ea ix] h (wr h a j z) := by
  intro b i hb
  rw [rd_wr, if_neg]
  rintro ⟨rfl, rfl⟩
  unfold inBx boxOf at hb
  simp only [List.any_cons, List.any_nil, Bool.or_false, Bool.and_eq_false_iff, decide_eq_false_iff_not] at hb
  obtain ⟨a1, a2, -⟩ := ha
  obtain ⟨j1, j2, -⟩ := hj
  omega
def setF (ea ix va : AV) (fa : FA) : FA := if ea.2.2.2 = 0 ∧ ix.2.2.2 = 0 then (ea.2.1, ix.2.1, va) :: killF [boxOf ea ix] fa else killF [boxOf ea ix] fa
theorem setF_ok {ea ix va : AV} {a j z : Int} (ha : inV ea a) (hj : inV ix j) (hz : gV va (mkv (lkd a j) z)) {fa : FA} (hf : gF h fa) : gF (wr h a j z) (setF ea ix va fa) := by
  have h1 := killF_ok (frm_wr (z := z) (h := h) ha hj) hf
  unfold setF
  split
  · next h0 =>
    intro q hq
    rcases List.mem_cons.mp hq with rfl | hq
    · have e1 := inV_c ha h0.1
      have e2 := inV_c hj h0.2
      unfold hval
      simp only
      rw [← e1, ← e2, rd_wr, if_pos ⟨rfl, rfl⟩]
      exact hz
    · exact h1 q hq
  · exact h1
end PP
-- constants
def aC (o : Nat) (i : Instr) : Option AV := match i with
  | .ldc x => if o = 7 ∧ x = 19 then none else ((CT o).find? (fun q => q.1 == x)).map (fun q => (0, q.2.1, q.2.1, 0))
  | .ldc_w x => ((CT o).find? (fun q => q.1 == x)).map (fun q => (0, q.2.1, q.2.1, 0))
  | .ldc2_w x => ((CLT o).find? (fun q => q.1 == x)).map (fun q => (1, q.2.1, q.2.1, 0))
  | _ => none
theorem aC_ok {o : Nat} {i : Instr} {a : AV} (h : aC o i = some a) : ∃ v, lmC o i = some v ∧ gV a v := by
  cases i with
  | ldc x =>
    simp only [aC] at h
    split at h
    · cases h
    · next hn =>
      rw [Option.map_eq_some_iff] at h
      obtain ⟨q, h1, rfl⟩ := h
      obtain ⟨-, h5⟩ := all17 CT chkC CT_ok17 CT_nil (find_of h1).1
      simp only [chkC, Bool.and_eq_true, decide_eq_true_eq] at h5
      exact ⟨.inl q.2.1, by simp only [lmC]; rw [if_neg hn, h1]; rfl, rfl, h5.2, Int.le_refl _, Int.le_refl _, by simp⟩
  | ldc_w x =>
    simp only [aC] at h
    rw [Option.map_eq_some_iff] at h
    obtain ⟨q, h1, rfl⟩ := h
    obtain ⟨-, h5⟩ := all17 CT chkC CT_ok17 CT_nil (find_of h1).1
    simp only [chkC, Bool.and_eq_true, decide_eq_true_eq] at h5
    exact ⟨.inl q.2.1, by simp only [lmC]; rw [h1]; rfl, rfl, h5.2, Int.le_refl _, Int.le_refl _, by simp⟩
  | ldc2_w x =>
    simp only [aC] at h
    rw [Option.map_eq_some_iff] at h
    obtain ⟨q, h1, rfl⟩ := h
    obtain ⟨-, h5⟩ := all17 CLT chkL CLT_ok17 CLT_nil (find_of h1).1
    simp only [chkL, Bool.and_eq_true, decide_eq_true_eq] at h5
    exact ⟨.inr (.inl q.2.1), by simp only [lmC]; rw [h1]; rfl, rfl, h5.2, Int.le_refl _, Int.le_refl _, by simp⟩
  | _ => simp only [aC] at h; cases h
end
section
/-! LM, part 24: locals and jumps by bounds -/
abbrev AL : Type := List (Option AV)
def aget (als : AL) (j : Nat) : Option AV := (als[j]?).join
def gL (als : AL) (ls : LL) : Prop := als.length = ls.length ∧ ∀ (j : Nat) (a : AV), aget als j = some a → ∃ v, lget ls j = some v ∧ gV a v
def aLd (i : Instr) (als : AL) : Option SE :=
  let go (k kd : Nat) : Option SE := match aget als k with
    | some a => if a.1 = kd then some (a, (1, (k : Int), 0, 0, 0)) else none
    | none => none
  match i with
  | .iload k => go k 0
  | .iload_n k => go k.val 0
  | .lload k => go k 1
  | .lload_n k => go k.val 1
  | .aload k => go k 2
  | .aload_n k => go k.val 2
  | _ => none
theorem gV_isI {a : AV} {v : LV} (h : gV a v) (hk : a.1 = 0) : isI v = true := by obtain ⟨x, rfl, -⟩ := gV_i h hk; rfl
theorem gV_isL {a : AV} {v : LV} (h : gV a v) (hk : a.1 = 1) : isL v = true := by obtain ⟨x, rfl, -⟩ := gV_l h hk; rfl
theorem gV_isR {a : AV} {v : LV} (h : gV a v) (hk : a.1 = 2) : isR v = true := by obtain ⟨x, rfl, -⟩ := gV_r h hk; rfl
set_option maxHeartbeats 4000000 in
theorem aLd_ok {h : LH} {i : Instr} {als : AL} {ls : LL} {e : SE} (ha : aLd i als = some e) (hl : gL als ls) : ∃ v, lmLd i ls = some v ∧ gV e.1 v ∧ gP ls h e.2 v := by
  have key : ∀ (k kd : Nat) (f : LV → Bool), (∀ a v, gV a v → a.1 = kd → f v = true) → (match aget als k with
    | some a => if a.1 = kd then some (a, (1, (k : Int), 0, 0, 0)) else none
    | none => none) = some e → ∃ v, (lget ls k).filter f = some v ∧ gV e.1 v ∧ gP ls h e.2 v := by
    intro k kd f hf hq
    split at hq
    · next a hg =>
      split at hq
      · next hk =>
        cases some_i hq
        obtain ⟨v, v1, v2⟩ := hl.2 k a hg
        refine ⟨v, by rw [v1]; simp [Option.filter, hf a v v2 hk], v2, ?_⟩
        show lget ls ((k : Int).toNat) = some v
        simpa using v1
      · cases hq
    · cases hq
  unfold aLd at ha
  cases i with
  | iload k => exact key k 0 isI (fun a v => gV_isI) ha
  | iload_n k => exact key k.val 0 isI (fun a v => gV_isI) ha
  | lload k => exact key k 1 isL (fun a v => gV_isL) ha
  | lload_n k => exact key k.val 1 isL (fun a v => gV_isL) ha
  | aload k => exact key k 2 isR (fun a v => gV_isR) ha
  | aload_n k => exact key k.val 2 isR (fun a v => gV_isR) ha
  | _ => simp only at ha; cases ha
def aSt (i : Instr) (e : AV) : Option Nat := match i with
  | .istore k => if e.1 = 0 then some k else none
  | .istore_n k => if e.1 = 0 then some k.val else none
  | .lstore k => if e.1 = 1 then some k else none
  | .lstore_n k => if e.1 = 1 then some k.val else none
  | .astore k => if e.1 = 2 then some k else none
  | .astore_n k => if e.1 = 2 then some k.val else none
  | _ => none
theorem aSt_ok {i : Instr} {e : AV} {k : Nat} (ha : aSt i e = some k) {v : LV} (hv : gV e v) : lmSt i v = some k := by
  cases i with
  | istore q => simp only [aSt] at ha; split at ha <;> first | (next h => cases some_i ha; simp [lmSt, gV_isI hv h]) | cases ha
  | istore_n q => simp only [aSt] at ha; split at ha <;> first | (next h => cases some_i ha; simp [lmSt, gV_isI hv h]) | cases ha
  | lstore q => simp only [aSt] at ha; split at ha <;> first | (next h => cases some_i ha; simp [lmSt, gV_isL hv h]) | cases ha
  | lstore_n q => simp only [aSt] at ha; split at ha <;> first | (next h => cases some_i ha; simp [lmSt, gV_isL hv h]) | cases ha
  | astore q => simp only [aSt] at ha; split at ha <;> first | (next h => cases some_i ha; simp [lmSt, gV_isR hv h]) | cases ha
  | astore_n q => simp only [aSt] at ha; split at ha <;> first | (next h => cases some_i ha; simp [lmSt, gV_isR hv h]) | cases ha
  | _ => simp only [aSt] at ha; cases ha
/-- the locals behind a store: the neighbours of a long are forgotten -/
def aput (als : AL) (k : Nat) (a : AV) : AL := als.mapIdx (fun j q => if j = k then some a else if j + 1 = k then (match q with | some b => if b.1 = 1 then none else some b | none => none) else if j = k + 1 ∧ a.1 = 1 then none else q)
theorem aget_put {als : AL} {k j : Nat} {a b : AV} (h : aget (aput als k a) j = some b) : (j = k ∧ b = a) ∨ (j ≠ k ∧ aget als j = some b ∧ (j + 1 = k → b.1 ≠ 1) ∧ ¬ (j = k + 1 ∧ a.1 = 1)) := by
  unfold aget aput at h
  rw [List.getElem?_mapIdx] at h
  cases hq : als[j]? with
  | none => rw [hq] at h; cases h
  | some q =>
    rw [hq] at h
    simp only [Option.map_some, Option.join_some] at h
    by_cases e : j = k
    · rw [if_pos e] at h
      cases some_i h
      exact Or.inl ⟨e, rfl⟩
    · rw [if_neg e] at h
      right
      refine ⟨e, ?_⟩
      unfold aget
      rw [hq]
      by_cases e2 : j + 1 = k
      · rw [if_pos e2] at h
        split at h
        · next b' =>
          split at h
          · cases h
          · next hb =>
            cases some_i h
            exact ⟨rfl, fun _ => hb, fun z => by omega⟩
        · cases h
      · rw [if_neg e2] at h
        split at h
        · cases h
        · next e3 =>
          rw [h]
          exact ⟨rfl, fun z => absurd z e2, e3⟩
theorem lget_lst {ls : LL} {k : Nat} {v : LV} (hk : k + (if isL v then 1 else 0) < ls.length) : lget (lst ls k v) k = some v := by
  unfold lst
  split
  · rw [lget_set_ne (by omega), lget_set_eq (by rw [lkill_len]; omega)]
  · rw [lget_set_eq (by rw [lkill_len]; omega)]
theorem lkill_keep {ls : LL} {k j : Nat} {w : LV} (hw : lget ls j = some w) (hn : j + 1 = k → isL w = false) : lget (lkill ls k) j = some w := by
  unfold lkill
  split
  · exact hw
  · next q =>
    split
    · next u hu =>
      split
      · next hl =>
        by_cases e : q = j
        · subst e
          rw [hw] at hu
          cases hu
          rw [hn rfl] at hl
          cases hl
        · rw [lget_set_ne e]
          exact hw
      · exact hw
    · exact hw
theorem lget_lst_ne {ls : LL} {k j : Nat} {v w : LV} (hj : j ≠ k) (hw : lget ls j = some w) (hn : j + 1 = k → isL w = false) (hm : ¬ (j = k + 1 ∧ isL v = true)) : lget (lst ls k v) j = some w := by
  have h1 := lkill_keep hw hn
  unfold lst
  split
  · next hl =>
    rw [lget_set_ne (fun e => hm ⟨e.symm, hl⟩), lget_set_ne (Ne.symm hj)]
    exact h1
  · rw [lget_set_ne (Ne.symm hj)]
    exact h1
theorem gL_put {als : AL} {ls : LL} {k : Nat} {a : AV} {v : LV} (hl : gL als ls) (hv : gV a v) (hk : k + (if isL v then 1 else 0) < ls.length) : gL (aput als k a) (lst ls k v) := by
  refine ⟨by unfold aput; rw [List.length_mapIdx, lst_len]; exact hl.1, fun j b hb => ?_⟩
  rcases aget_put hb with ⟨rfl, rfl⟩ | ⟨h1, h2, h3, h4⟩
  · exact ⟨v, lget_lst hk, hv⟩
  · obtain ⟨w, w1, w2⟩ := hl.2 j b h2
    refine ⟨w, lget_lst_ne h1 w1 (fun e => ?_) (fun e => h4 ⟨e.1, ?_⟩), w2⟩
    · rw [gV_cat w2]
      simpa using h3 e
    · have := e.2
      rw [gV_cat hv] at this
      simpa using this
/-- what a store makes unknown of the stack -/
def killL (k : Nat) (st : List SE) : List SE := st.map (fun e => if (e.2.1 = 1 ∨ e.2.1 = 3) ∧ (e.2.2.1.toNat ≤ k + 1 ∧ k ≤ e.2.2.1.toNat + 1) then (e.1, pv0) else e)
theorem killL_ok {ls : LL} {h : LH} {k : Nat} {v : LV} : ∀ {ast : List SE} {st : List LV}, gS ls h ast st → gS (lst ls k v) h (killL k ast) st
  | [], [], _ => trivial
  | e :: r, w :: s, hs => by
    have ih := killL_ok (k := k) (v := v) hs.2
    refine ⟨?_, ih⟩
    show gV (if (e.2.1 = 1 ∨ e.2.1 = 3) ∧ (e.2.2.1.toNat ≤ k + 1 ∧ k ≤ e.2.2.1.toNat + 1) then (e.1, pv0) else e).1 w ∧ gP (lst ls k v) h (if (e.2.1 = 1 ∨ e.2.1 = 3) ∧ (e.2.2.1.toNat ≤ k + 1 ∧ k ≤ e.2.2.1.toNat + 1) then (e.1, pv0) else e).2 w
    split
    · exact ⟨hs.1.1, trivial⟩
    · next hn =>
      refine ⟨hs.1.1, ?_⟩
      have hp := hs.1.2
      unfold gP at hp ⊢
      split at hp
      · trivial
      · next e2 =>
        have hj : ¬ (e.2.2.1.toNat ≤ k + 1 ∧ k ≤ e.2.2.1.toNat + 1) := fun q => hn ⟨Or.inl e2, q⟩
        exact lget_lst_ne (by omega) hp (fun q => by omega) (fun q => by omega)
      · exact hp
      · next e2 =>
        have hj : ¬ (e.2.2.1.toNat ≤ k + 1 ∧ k ≤ e.2.2.1.toNat + 1) := fun q => hn ⟨Or.inr e2, q⟩
        obtain ⟨x, y, p1, p2⟩ := hp
        exact ⟨x, y, lget_lst_ne (by omega) p1 (fun q => by omega) (fun q => by omega), p2⟩
      · exact hp
      · cases hp
  | [], _ :: _, hs => by cases hs
  | _ :: _, [], hs => by cases hs
-- conditions
def refC (c : ClassFile.Cond) (a b : AV) : Option (AV × AV) := match c with
  | .eq => (meetA a b.2.1 b.2.2.1).bind (fun x => (meetA b a.2.1 a.2.2.1).map (fun y => (x, y)))
  | .ne => if a.2.2.2 = 0 ∧ b.2.2.2 = 0 ∧ a.2.1 = b.2.1 then none
    else if b.2.2.2 = 0 then (if a.2.1 = b.2.1 then (meetA a (a.2.1 + 1) a.2.2.1).map (fun x => (x, b)) else if a.2.2.1 = b.2.1 then (meetA a a.2.1 (a.2.2.1 - 1)).map (fun x => (x, b)) else some (a, b))
    else if a.2.2.2 = 0 then (if b.2.1 = a.2.1 then (meetA b (b.2.1 + 1) b.2.2.1).map (fun y => (a, y)) else if b.2.2.1 = a.2.1 then (meetA b b.2.1 (b.2.2.1 - 1)).map (fun y => (a, y)) else some (a, b))
    else some (a, b)
  | .lt => (meetA a a.2.1 (b.2.2.1 - 1)).bind (fun x => (meetA b (a.2.1 + 1) b.2.2.1).map (fun y => (x, y)))
  | .ge => (meetA a b.2.1 a.2.2.1).bind (fun x => (meetA b b.2.1 a.2.2.1).map (fun y => (x, y)))
  | .gt => (meetA a (b.2.1 + 1) a.2.2.1).bind (fun x => (meetA b b.2.1 (a.2.2.1 - 1)).map (fun y => (x, y)))
  | .le => (meetA a a.2.1 b.2.2.1).bind (fun x => (meetA b a.2.1 b.2.2.1).map (fun y => (x, y)))
theorem refC_two {a b : AV} {x y l1 u1 l2 u2 : Int} (hx : inV a x) (hy : inV b y) (h1 : l1 ≤ x) (h2 : x ≤ u1) (h3 : l2 ≤ y) (h4 : y ≤ u2) : ∃ q, (meetA a l1 u1).bind (fun x => (meetA b l2 u2).map (fun y => (x, y))) = some q ∧ inV q.1 x ∧ inV q.2 y ∧ q.1.1 = a.1 ∧ q.2.1 = b.1 := by
  obtain ⟨a', a1, a2⟩ := meetA_in hx h1 h2
  obtain ⟨b', b1, b2⟩ := meetA_in hy h3 h4
  exact ⟨(a', b'), by rw [a1, b1]; rfl, a2, b2, meetA_k a1, meetA_k b1⟩
theorem refC_ok {c : ClassFile.Cond} {a b : AV} {x y : Int} (hc : cnd c x y = true) (hx : inV a x) (hy : inV b y) : ∃ q, refC c a b = some q ∧ inV q.1 x ∧ inV q.2 y ∧ q.1.1 = a.1 ∧ q.2.1 = b.1 := by
  have hx2 := hx
  have hy2 := hy
  obtain ⟨x1, x2, -⟩ := hx2
  obtain ⟨y1, y2, -⟩ := hy2
  cases c with
  | eq => have := cnd_eq.mp hc; exact refC_two hx hy (by omega) (by omega) (by omega) (by omega)
  | lt => have := cnd_lt.mp hc; exact refC_two hx hy (by omega) (by omega) (by omega) (by omega)
  | ge => have := cnd_ge.mp hc; exact refC_two hx hy (by omega) (by omega) (by omega) (by omega)
  | gt => have := cnd_gt.mp hc; exact refC_two hx hy (by omega) (by omega) (by omega) (by omega)
  | le => have := cnd_le.mp hc; exact refC_two hx hy (by omega) (by omega) (by omega) (by omega)
  | ne =>
    have hne := cnd_ne.mp hc
    simp only [refC]
    split
    · next e =>
      exact absurd (by rw [inV_c hx e.1, inV_c hy e.2.1, e.2.2]) hne
    · split
      · next e =>
        have ey := inV_c hy e
        split
        · obtain ⟨a', a1, a2⟩ := meetA_in hx (lo := a.2.1 + 1) (hi := a.2.2.1) (by omega) (by omega)
          exact ⟨(a', b), by rw [a1]; rfl, a2, hy, meetA_k a1, rfl⟩
        · split
          · obtain ⟨a', a1, a2⟩ := meetA_in hx (lo := a.2.1) (hi := a.2.2.1 - 1) (by omega) (by omega)
            exact ⟨(a', b), by rw [a1]; rfl, a2, hy, meetA_k a1, rfl⟩
          · exact ⟨(a, b), rfl, hx, hy, rfl, rfl⟩
      · split
        · next e =>
          have ex := inV_c hx e
          split
          · obtain ⟨b', b1, b2⟩ := meetA_in hy (lo := b.2.1 + 1) (hi := b.2.2.1) (by omega) (by omega)
            exact ⟨(a, b'), by rw [b1]; rfl, hx, b2, rfl, meetA_k b1⟩
          · split
            · obtain ⟨b', b1, b2⟩ := meetA_in hy (lo := b.2.1) (hi := b.2.2.1 - 1) (by omega) (by omega)
              exact ⟨(a, b'), by rw [b1]; rfl, hx, b2, rfl, meetA_k b1⟩
            · exact ⟨(a, b), rfl, hx, hy, rfl, rfl⟩
        · exact ⟨(a, b), rfl, hx, hy, rfl, rfl⟩
def negC (c : ClassFile.Cond) : ClassFile.Cond := match c with
  | .eq => .ne
  | .ne => .eq
  | .lt => .ge
  | .ge => .lt
  | .gt => .le
  | .le => .gt
theorem negC_ok {c : ClassFile.Cond} {x y : Int} (h : ¬ cnd c x y = true) : cnd (negC c) x y = true := by
  cases c <;> simp only [negC, cnd, decide_eq_true_eq] at h ⊢ <;> omega
theorem cnd_cmp {c : ClassFile.Cond} {x y : Int} (h : cnd c (lcmp_ x y) 0 = true) : cnd c x y = true := by
  unfold lcmp_ at h
  cases c <;> simp only [cnd, decide_eq_true_eq] at h ⊢ <;> omega
end
section
/-! LM, part 25: jumps by bounds -/
abbrev AS : Type := AL × List SE × FA
def gA (ls : LL) (st : List LV) (h : LH) (s : AS) : Prop := gL s.1 ls ∧ gS ls h s.2.1 st ∧ gF h s.2.2
def rep (p : PV) (a : AV) (st : List SE) : List SE := st.map (fun e => if e.2 = p then (a, p) else e)
def putP (p : PV) (a : AV) (s : AS) : AS := if p.1 = 1 then (s.1.set p.2.1.toNat (some a), rep p a s.2.1, s.2.2) else if p.1 = 2 then (s.1, rep p a s.2.1, (p.2.1, p.2.2.1, a) :: s.2.2) else s
theorem rep_ok {ls : LL} {h : LH} {p : PV} {a : AV} {v : LV} (hp : p.1 = 1 ∨ p.1 = 2) (h1 : gP ls h p v) (h2 : gV a v) : ∀ {ast : List SE} {st : List LV}, gS ls h ast st → gS ls h (rep p a ast) st
  | [], [], _ => trivial
  | e :: r, w :: s, hs => by
    refine ⟨?_, rep_ok hp h1 h2 hs.2⟩
    show gV (if e.2 = p then (a, p) else e).1 w ∧ gP ls h (if e.2 = p then (a, p) else e).2 w
    split
    · next e1 =>
      have h3 := hs.1.2
      rw [e1] at h3
      have hw : w = v := by
        unfold gP at h1 h3
        rcases hp with q | q
        · rw [q] at h1 h3
          exact Option.some.inj (h3.symm.trans h1)
        · rw [q] at h1 h3
          exact h3.2.trans h1.2.symm
      rw [hw]
      exact ⟨h2, h1⟩
    · exact hs.1
  | [], _ :: _, hs => by cases hs
  | _ :: _, [], hs => by cases hs
theorem putP_ok {ls : LL} {st : List LV} {h : LH} {p : PV} {a : AV} {v : LV} (h1 : gP ls h p v) (h2 : gV a v) {s : AS} (hs : gA ls st h s) : gA ls st h (putP p a s) := by
  unfold putP
  split
  · next hp =>
    refine ⟨⟨by rw [List.length_set]; exact hs.1.1, fun j b hb => ?_⟩, rep_ok (Or.inl hp) h1 h2 hs.2.1, hs.2.2⟩
    unfold gP at h1
    rw [hp] at h1
    simp only at h1
    by_cases e : p.2.1.toNat = j
    · rw [e] at h1
      have hlt : j < s.1.length := by rw [hs.1.1]; exact lget_lt h1
      unfold aget at hb
      rw [e, List.getElem?_set_self hlt] at hb
      cases some_i hb
      exact ⟨v, h1, h2⟩
    · unfold aget at hb
      rw [List.getElem?_set_ne e] at hb
      exact hs.1.2 j b hb
  · split
    · next hp =>
      refine ⟨hs.1, rep_ok (Or.inr hp) h1 h2 hs.2.1, fun q hq => ?_⟩
      rcases List.mem_cons.mp hq with rfl | hq
      · unfold gP at h1
        rw [hp] at h1
        have e : hval h p.2.1 p.2.2.1 = v := h1.2.symm
        simp only
        rw [e]
        exact h2
      · exact hs.2.2 q hq
    · exact hs
def z0 : SE := ((0, 0, 0, 0), pv0)
def isZ (e : SE) : Bool := e.1.2.1 == 0 && e.1.2.2.1 == 0 && e.1.2.2.2 == 0
def brR (c : ClassFile.Cond) (a b : SE) (s : AS) : Option AS :=
  if a.2.1 = 3 ∧ isZ b = true then (match aget s.1 a.2.2.1.toNat with
    | some cur => (refC c cur (1, a.2.2.2.2.1, a.2.2.2.2.2, 1)).map (fun q => putP (1, a.2.2.1, 0, 0, 0) q.1 s)
    | none => some s)
  else if a.2.1 = 4 ∧ isZ b = true then (refC c (fget s.2.2 a.2.2.1 a.2.2.2.1) (1, a.2.2.2.2.1, a.2.2.2.2.2, 1)).map (fun q => putP (2, a.2.2.1, a.2.2.2.1, 0, 0) q.1 s)
  else (refC c a.1 b.1).map (fun q => putP b.2 q.2 (putP a.2 q.1 s))
theorem st1 {lo hi y : Int} (h1 : lo ≤ y) (h2 : y ≤ hi) : inV (1, lo, hi, 1) y := ⟨h1, h2, Int.one_dvd _⟩
section BR
variable {INV : LH → Prop} {prot : Int → Int → Int → Bool} {ls : LL} {h : LH}
theorem brR_ok (hI : INVok INV prot) (hh : INV h) {c : ClassFile.Cond} {a b : SE} {s : AS} {st : List LV} {x y : Int} (hc : cnd c x y = true) (g1 : gV a.1 (.inl x)) (p1 : gP ls h a.2 (.inl x)) (g2 : gV b.1 (.inl y)) (p2 : gP ls h b.2 (.inl y)) (hs : gA ls st h s) : ∃ s', brR c a b s = some s' ∧ gA ls st h s' := by
  unfold brR
  have zz : isZ b = true → y = 0 := fun hz => by
    unfold isZ at hz
    simp only [Bool.and_eq_true, beq_iff_eq] at hz
    have := inV_c g2.2.2 hz.2
    omega
  split
  · next e =>
    have hy := zz e.2
    subst hy
    unfold gP at p1
    rw [e.1] at p1
    obtain ⟨u, w, q1, q2, q3, q4⟩ := p1
    have q4 : x = lcmp_ u w := by injection q4
    rw [q4] at hc
    have hc2 := cnd_cmp hc
    split
    · next cur hcur =>
      obtain ⟨v, v1, v2⟩ := hs.1.2 _ cur hcur
      rw [q1] at v1
      cases v1
      obtain ⟨r, r1, r2, r3, r4, r5⟩ := refC_ok hc2 v2.2.2 (st1 q2 q3)
      rw [r1]
      refine ⟨_, rfl, putP_ok (v := .inr (.inl u)) ?_ ⟨r4.trans v2.1, v2.2.1, r2⟩ hs⟩
      exact q1
    · exact ⟨s, rfl, hs⟩
  · split
    · next e =>
      have hy := zz e.2
      subst hy
      unfold gP at p1
      rw [e.1] at p1
      obtain ⟨w, q0, q1, q2, q3, q4⟩ := p1
      have q4 : x = lcmp_ (rd h a.2.2.1 a.2.2.2.1) w := by injection q4
      rw [q4] at hc
      have hc2 := cnd_cmp hc
      have hg := fget_ok hI hh hs.2.2 q0
      have hv : hval h a.2.2.1 a.2.2.2.1 = .inr (.inl (rd h a.2.2.1 a.2.2.2.1)) := by unfold hval; rw [q1]; rfl
      rw [hv] at hg
      obtain ⟨r, r1, r2, r3, r4, r5⟩ := refC_ok hc2 hg.2.2 (st1 q2 q3)
      rw [r1]
      refine ⟨_, rfl, putP_ok (v := .inr (.inl (rd h a.2.2.1 a.2.2.2.1))) ?_ ⟨r4.trans hg.1, hg.2.1, r2⟩ hs⟩
      exact ⟨q0, by rw [← hv]; rfl⟩
    · obtain ⟨r, r1, r2, r3, r4, r5⟩ := refC_ok hc g1.2.2 g2.2.2
      rw [r1]
      exact ⟨_, rfl, putP_ok p2 ⟨r5.trans g2.1, g2.2.1, r3⟩ (putP_ok p1 ⟨r4.trans g1.1, g1.2.1, r2⟩ hs)⟩
def optL (o : Option AS) (t : Int) : List (Int × AS) := match o with
  | some s => [(t, s)]
  | none => []
def aJ (pc len : Nat) (i : Instr) (s : AS) : Option (List (Int × AS)) := match i with
  | .goto off => some [((pc : Int) + off, s)]
  | .ifCond c off => match s.2.1 with
    | e :: r => if e.1.1 = 0 ∧ 0 ≤ (pc : Int) + off then some (optL (brR c e z0 (s.1, r, s.2.2)) ((pc : Int) + off) ++ optL (brR (negC c) e z0 (s.1, r, s.2.2)) ((pc : Int) + len)) else none
    | _ => none
  | .if_icmp c off => match s.2.1 with
    | b :: a :: r => if a.1.1 = 0 ∧ b.1.1 = 0 ∧ 0 ≤ (pc : Int) + off then some (optL (brR c a b (s.1, r, s.2.2)) ((pc : Int) + off) ++ optL (brR (negC c) a b (s.1, r, s.2.2)) ((pc : Int) + len)) else none
    | _ => none
  | .tableswitch d lo hi offs => match s.2.1 with
    | e :: r => if e.1.1 = 0 ∧ (offs.size : Int) = hi - lo + 1 then some (((pc : Int) + d, (s.1, r, s.2.2)) :: (List.range offs.size).flatMap (fun (k : Nat) => match offs[k]? with
        | some f => optL ((meetA e.1 (lo + (k : Int)) (lo + (k : Int))).map (fun m => putP e.2 m (s.1, r, s.2.2))) ((pc : Int) + f)
        | none => [])) else none
    | _ => none
  | .lookupswitch d ps => match s.2.1 with
    | e :: r => if e.1.1 = 0 ∧ (ps.toList.zip (ps.toList.drop 1)).all (fun (a, b) => a.1 < b.1) = true then some (((pc : Int) + d, (s.1, r, s.2.2)) :: ps.toList.map (fun q => ((pc : Int) + q.2, (s.1, r, s.2.2)))) else none
    | _ => none
  | _ => none
theorem off_in (d x : Int) : ∀ (ps : List (Int × Int)), Op.lookupswitch.offset ps d x = d ∨ ∃ q ∈ ps, Op.lookupswitch.offset ps d x = q.2
  | [] => Or.inl rfl
  | q :: ps => by
    unfold Op.lookupswitch.offset
    rcases off_in d x ps with h | ⟨r, r1, r2⟩
    · first
        | (split
           · exact Or.inr ⟨q, List.mem_cons_self, rfl⟩
           · exact Or.inl h)
        | (simp only []; split
           · exact Or.inr ⟨q, List.mem_cons_self, rfl⟩
           · exact Or.inl h)
    · first
        | (split
           · exact Or.inr ⟨q, List.mem_cons_self, rfl⟩
           · exact Or.inr ⟨r, List.mem_cons_of_mem _ r1, r2⟩)
        | (simp only []; split
           · exact Or.inr ⟨q, List.mem_cons_self, rfl⟩
           · exact Or.inr ⟨r, List.mem_cons_of_mem _ r1, r2⟩)
set_option maxHeartbeats 4000000 in
theorem aJ_ok (hI : INVok INV prot) (hh : INV h) {pc len : Nat} {i : Instr} {s : AS} {st : List LV} {L : List (Int × AS)} (ha : aJ pc len i s = some L) (hs : gA ls st h s) : ∃ (t : Int) (st' : List LV), lmJ i pc len st = some (t, st') ∧ ∃ q ∈ L, q.1 = t ∧ gA ls st' h q.2 := by
  have z0v : gV z0.1 (.inl 0) := ⟨rfl, z32, Int.le_refl _, Int.le_refl _, by simp [z0]⟩
  cases i with
  | goto off =>
    simp only [aJ] at ha
    cases some_i ha
    exact ⟨_, st, rfl, _, List.mem_singleton.mpr rfl, rfl, hs⟩
  | ifCond c off =>
    simp only [aJ] at ha
    split at ha
    · next e r hr =>
      split at ha
      · next hk =>
        cases some_i ha
        obtain ⟨h1, h2, h3⟩ := hs
        rw [hr] at h2
        obtain ⟨v, st1, rfl, g1, p1, hs1⟩ := gS_c h2
        obtain ⟨x, rfl, x1, x2⟩ := gV_i g1 hk.1
        simp only [lmJ]
        rw [if_pos hk.2]
        by_cases hc : cnd c x 0 = true
        · rw [if_pos hc]
          obtain ⟨s', s1, s2⟩ := brR_ok hI hh (b := z0) (s := (s.1, r, s.2.2)) (st := st1) hc g1 p1 z0v trivial ⟨h1, hs1, h3⟩
          exact ⟨_, _, rfl, _, List.mem_append_left _ (by rw [s1]; exact List.mem_singleton.mpr rfl), rfl, s2⟩
        · rw [if_neg hc]
          obtain ⟨s', s1, s2⟩ := brR_ok hI hh (b := z0) (s := (s.1, r, s.2.2)) (st := st1) (negC_ok hc) g1 p1 z0v trivial ⟨h1, hs1, h3⟩
          exact ⟨_, _, rfl, _, List.mem_append_right _ (by rw [s1]; exact List.mem_singleton.mpr rfl), rfl, s2⟩
      · cases ha
    · cases ha
  | if_icmp c off =>
    simp only [aJ] at ha
    split at ha
    · next b a r hr =>
      split at ha
      · next hk =>
        cases some_i ha
        obtain ⟨h1, h2, h3⟩ := hs
        rw [hr] at h2
        obtain ⟨v, st1, rfl, g2, p2, hs1⟩ := gS_c h2
        obtain ⟨w, st2, rfl, g1, p1, hs2⟩ := gS_c hs1
        obtain ⟨y, rfl, y1, y2⟩ := gV_i g2 hk.2.1
        obtain ⟨x, rfl, x1, x2⟩ := gV_i g1 hk.1
        simp only [lmJ]
        rw [if_pos hk.2.2]
        by_cases hc : cnd c x y = true
        · rw [if_pos hc]
          obtain ⟨s', s1, s2⟩ := brR_ok hI hh (s := (s.1, r, s.2.2)) (st := st2) hc g1 p1 g2 p2 ⟨h1, hs2, h3⟩
          exact ⟨_, _, rfl, _, List.mem_append_left _ (by rw [s1]; exact List.mem_singleton.mpr rfl), rfl, s2⟩
        · rw [if_neg hc]
          obtain ⟨s', s1, s2⟩ := brR_ok hI hh (s := (s.1, r, s.2.2)) (st := st2) (negC_ok hc) g1 p1 g2 p2 ⟨h1, hs2, h3⟩
          exact ⟨_, _, rfl, _, List.mem_append_right _ (by rw [s1]; exact List.mem_singleton.mpr rfl), rfl, s2⟩
      · cases ha
    · cases ha
  | tableswitch d lo hi offs =>
    simp only [aJ] at ha
    split at ha
    · next e r hr =>
      split at ha
      · next hk =>
        cases some_i ha
        obtain ⟨h1, h2, h3⟩ := hs
        rw [hr] at h2
        obtain ⟨v, st1, rfl, g1, p1, hs1⟩ := gS_c h2
        obtain ⟨x, rfl, x1, x2⟩ := gV_i g1 hk.1
        simp only [lmJ]
        by_cases ho : x < lo ∨ hi < x
        · rw [if_pos ho]
          exact ⟨_, _, rfl, _, List.mem_cons_self, rfl, h1, hs1, h3⟩
        · rw [if_neg ho]
          have hlt : (x - lo).toNat < offs.size := by omega
          have hget : offs[(x - lo).toNat]? = some offs[(x - lo).toNat] := Array.getElem?_eq_getElem hlt
          rw [hget]
          simp only
          obtain ⟨m, m1, m2⟩ := meetA_in x2 (lo := lo + ((x - lo).toNat : Int)) (hi := lo + ((x - lo).toNat : Int)) (by omega) (by omega)
          refine ⟨_, _, rfl, ((pc : Int) + offs[(x - lo).toNat], putP e.2 m (s.1, r, s.2.2)), List.mem_cons_of_mem _ (List.mem_flatMap.mpr ⟨(x - lo).toNat, List.mem_range.mpr hlt, ?_⟩), rfl, putP_ok p1 ⟨(meetA_k m1).trans g1.1, x1, m2⟩ ⟨h1, hs1, h3⟩⟩
          rw [hget]
          simp only
          rw [m1]
          exact List.mem_singleton.mpr rfl
      · cases ha
    · cases ha
  | lookupswitch d ps =>
    simp only [aJ] at ha
    split at ha
    · next e r hr =>
      split at ha
      · next hk =>
        cases some_i ha
        obtain ⟨h1, h2, h3⟩ := hs
        rw [hr] at h2
        obtain ⟨v, st1, rfl, g1, p1, hs1⟩ := gS_c h2
        obtain ⟨x, rfl, x1, x2⟩ := gV_i g1 hk.1
        simp only [lmJ]
        rw [if_pos hk.2]
        rcases off_in d x ps.toList with q | ⟨q, q1, q2⟩
        · exact ⟨_, _, rfl, _, List.mem_cons_self, by rw [q], h1, hs1, h3⟩
        · exact ⟨_, _, rfl, _, List.mem_cons_of_mem _ (List.mem_map.mpr ⟨q, q1, rfl⟩), by rw [q2], h1, hs1, h3⟩
      · cases ha
    · cases ha
  | _ => simp only [aJ] at ha; cases ha
end BR
end
section
/-! LM, part 26: one state within another; the measure; Math and arraycopy by bounds -/
def incL : AL → AL → Bool
  | [], [] => true
  | x :: xs, y :: ys => (match y with
    | none => true
    | some b => match x with
      | some a => leA a b
      | none => false) && incL xs ys
  | _, _ => false
def gLr : AL → LL → Prop
  | [], [] => True
  | a :: as, l :: ls => (∀ b, a = some b → ∃ v, l = some v ∧ gV b v) ∧ gLr as ls
  | _, _ => False
theorem gL_r : ∀ {als : AL} {ls : LL}, gL als ls → gLr als ls
  | [], [], _ => trivial
  | a :: as, l :: ls, h => by
    refine ⟨fun b hb => ?_, gL_r ⟨by have := h.1; simp only [List.length_cons] at this; omega, fun j b hb => ?_⟩⟩
    · obtain ⟨v, h1, h2⟩ := h.2 0 b (by subst hb; rfl)
      exact ⟨v, by simpa [lget] using h1, h2⟩
    · obtain ⟨v, h1, h2⟩ := h.2 (j + 1) b (by simpa [aget] using hb)
      exact ⟨v, by simpa [lget] using h1, h2⟩
  | [], _ :: _, h => by have := h.1; simp at this
  | _ :: _, [], h => by have := h.1; simp at this
theorem gLr_L : ∀ {als : AL} {ls : LL}, gLr als ls → gL als ls
  | [], [], _ => ⟨rfl, fun j a h => by simp [aget] at h⟩
  | a :: as, l :: ls, h => by
    have ih := gLr_L h.2
    refine ⟨by have := ih.1; simp [this], fun j b hb => ?_⟩
    match j, hb with
    | 0, hb =>
      obtain ⟨v, h1, h2⟩ := h.1 b (by simpa [aget] using hb)
      exact ⟨v, by simp [lget, h1], h2⟩
    | j + 1, hb =>
      obtain ⟨v, h1, h2⟩ := ih.2 j b (by simpa [aget] using hb)
      exact ⟨v, by simpa [lget] using h1, h2⟩
  | [], _ :: _, h => by cases h
  | _ :: _, [], h => by cases h
theorem incL_ok : ∀ {a b : AL} {ls : LL}, incL a b = true → gLr a ls → gLr b ls
  | [], [], _, _, h => h
  | x :: xs, y :: ys, [], _, h => by cases h
  | x :: xs, y :: ys, l :: ls, hi, h => by
    simp only [incL, Bool.and_eq_true] at hi
    refine ⟨fun b hb => ?_, incL_ok hi.2 h.2⟩
    subst hb
    have h1 := hi.1
    simp only at h1
    split at h1
    · next a =>
      obtain ⟨v, v1, v2⟩ := h.1 a rfl
      exact ⟨v, v1, leA_ok h1 v2⟩
    · cases h1
  | [], _ :: _, _, hi, _ => by cases hi
  | _ :: _, [], _, hi, _ => by cases hi
def incK : List SE → List SE → Bool
  | [], [] => true
  | x :: xs, y :: ys => leA x.1 y.1 && (y.2.1 == 0 || decide (x.2 = y.2)) && incK xs ys
  | _, _ => false
theorem incK_ok {ls : LL} {h : LH} : ∀ {a b : List SE} {st : List LV}, incK a b = true → gS ls h a st → gS ls h b st
  | [], [], _, _, h => h
  | x :: xs, y :: ys, [], _, h => by cases h
  | x :: xs, y :: ys, v :: st, hi, hs => by
    simp only [incK, Bool.and_eq_true, Bool.or_eq_true, beq_iff_eq, decide_eq_true_eq] at hi
    refine ⟨⟨leA_ok hi.1.1 hs.1.1, ?_⟩, incK_ok hi.2 hs.2⟩
    rcases hi.1.2 with q | q
    · unfold gP; rw [q]; trivial
    · rw [← q]; exact hs.1.2
  | [], _ :: _, _, hi, _ => by cases hi
  | _ :: _, [], _, hi, _ => by cases hi
def vB (a i : Int) : Bool := decide (1 ≤ a) && decide (a ≤ NC) && decide (0 ≤ i) && decide (i < ((lay a.toNat).2.2 : Int))
theorem vB_ok {a i : Int} (h : vB a i = true) : valid a i := by
  unfold vB at h
  simp only [Bool.and_eq_true, decide_eq_true_eq] at h
  exact ⟨h.1.1.1, h.1.1.2, h.1.2, h.2⟩
def incS (s t : AS) : Bool := incL s.1 t.1 && incK s.2.1 t.2.1 && t.2.2.all (fun q => leA (fget s.2.2 q.1 q.2.1) q.2.2 && vB q.1 q.2.1)
section IN
variable {INV : LH → Prop} {prot : Int → Int → Int → Bool} {ls : LL} {h : LH}
theorem incS_ok (hI : INVok INV prot) (hh : INV h) {s t : AS} {st : List LV} (hi : incS s t = true) (hs : gA ls st h s) : gA ls st h t := by
  unfold incS at hi
  simp only [Bool.and_eq_true] at hi
  refine ⟨gLr_L (incL_ok hi.1.1 (gL_r hs.1)), incK_ok hi.1.2 hs.2.1, fun q hq => ?_⟩
  have h1 := List.all_eq_true.mp hi.2 q hq
  simp only [Bool.and_eq_true] at h1
  exact leA_ok h1.1 (fget_ok hI hh hs.2.2 (vB_ok h1.2))
end IN
-- the measure
def ival (l : Option LV) : Int := match l with
  | some (.inl x) => x
  | _ => 0
def dot : List Int → LL → Int
  | c :: cs, l :: ls => c * ival l + dot cs ls
  | _, _ => 0
def ubD : List Int → List Int → AL → Option Int
  | cv :: cvs, cu :: cus, al :: als => (ubD cvs cus als).bind (fun b => if cv = cu then some b else match al with
    | some a => if a.1 = 0 then some (b + (if 0 ≤ cv - cu then (cv - cu) * a.2.2.1 else (cv - cu) * a.2.1)) else none
    | none => none)
  | [], [], [] => some 0
  | _, _, _ => none
theorem mulb {d x lo hi : Int} (h1 : lo ≤ x) (h2 : x ≤ hi) : d * x ≤ (if 0 ≤ d then d * hi else d * lo) := by
  split
  · next h => exact Int.mul_le_mul_of_nonneg_left h2 h
  · next h => exact Int.mul_le_mul_of_nonpos_left (by omega) h1
theorem ubD_ok : ∀ {cv cu : List Int} {als : AL} {ls : LL} {b : Int}, ubD cv cu als = some b → gLr als ls → dot cv ls - dot cu ls ≤ b
  | [], [], [], [], b, h, _ => by cases some_i h; simp [dot]
  | cv :: cvs, cu :: cus, al :: als, l :: ls, b, h, hg => by
    simp only [ubD] at h
    rw [Option.bind_eq_some_iff] at h
    obtain ⟨b0, h1, h2⟩ := h
    have ih := ubD_ok h1 hg.2
    show cv * ival l + dot cvs ls - (cu * ival l + dot cus ls) ≤ b
    have e : cv * ival l - cu * ival l = (cv - cu) * ival l := by rw [Int.sub_mul]
    split at h2
    · next hc =>
      cases some_i h2
      rw [hc]
      omega
    · split at h2
      · next a =>
        split at h2
        · next hk =>
          cases some_i h2
          obtain ⟨v, rfl, v2⟩ := hg.1 a rfl
          obtain ⟨x, rfl, x1, x2⟩ := gV_i v2 hk
          have := mulb (d := cv - cu) x2.1 x2.2.1
          simp only [ival] at e ⊢
          omega
        · cases h2
      · cases h2
  | [], _ :: _, _, _, _, h, _ => by cases h
  | _ :: _, [], _, _, _, h, _ => by cases h
  | [], [], _ :: _, _, _, h, _ => by cases h
  | _ :: _, _ :: _, [], _, _, h, _ => by cases h
  | [], [], [], _ :: _, _, _, hg => by cases hg
  | _ :: _, _ :: _, _ :: _, [], _, _, hg => by cases hg
def zer (cs : List Int) : List Int := cs.map (fun _ => 0)
theorem dot_zer : ∀ (cs : List Int) (ls : LL), dot (zer cs) ls = 0
  | [], _ => by simp [zer, dot]
  | _ :: _, [] => by simp [zer, dot]
  | c :: cs, l :: ls => by
    have := dot_zer cs ls
    show 0 * ival l + dot (zer cs) ls = 0
    omega
/-- the measure isn't below 0 -/
def lbM (C : Int) (cs : List Int) (als : AL) : Bool := match ubD (zer cs) cs als with
  | some b => decide (b ≤ C)
  | none => false
theorem lbM_ok {C : Int} {cs : List Int} {als : AL} {ls : LL} (h : lbM C cs als = true) (hg : gLr als ls) : 0 ≤ C + dot cs ls := by
  unfold lbM at h
  split at h
  · next b hb =>
    have := ubD_ok hb hg
    rw [dot_zer] at this
    have h := of_decide_eq_true h
    omega
  · cases h
theorem dot_set : ∀ (cs : List Int) (ls : LL) (k : Nat) (l : Option LV), k < ls.length → dot cs (ls.set k l) = dot (cs.set k 0) ls + cs.getD k 0 * ival l
  | [], ls, k, l, h => by
    cases ls with
    | nil => simp [dot]
    | cons x xs => cases k <;> simp [dot]
  | c :: cs, [], k, l, h => by simp at h
  | c :: cs, x :: ls, 0, l, h => by
    show c * ival l + dot cs ls = (0 * ival x + dot cs ls) + c * ival l
    omega
  | c :: cs, x :: ls, k + 1, l, h => by
    have ih := dot_set cs ls k l (by simpa using h)
    show c * ival x + dot cs (ls.set k l) = (c * ival x + dot (cs.set k 0) ls) + cs.getD k 0 * ival l
    omega
theorem dot_set0 (cs : List Int) (ls : LL) (k : Nat) (hk : k < ls.length) (h0 : ival ((ls[k]?).join) = 0) : dot (cs.set k 0) ls = dot cs ls := by
  have h1 := dot_set cs ls k ((ls[k]?).join) hk
  have e : ls.set k ((ls[k]?).join) = ls := by
    have : ls[k]? = some ls[k] := List.getElem?_eq_getElem hk
    rw [this]
    simp
  rw [e, h0] at h1
  omega
theorem dot_kill (cs : List Int) (ls : LL) (k : Nat) : dot cs (lkill ls k) = dot cs ls := by
  unfold lkill
  split
  · rfl
  · next j =>
    split
    · next v hv =>
      split
      · next hl =>
        have hj := lget_lt hv
        have h0 : ival ((ls[j]?).join) = 0 := by
          unfold lget at hv
          rw [hv]
          obtain ⟨x, rfl⟩ := isL_v hl
          rfl
        rw [dot_set _ _ _ _ hj, dot_set0 _ _ _ hj h0]
        simp [ival]
      · rfl
    · rfl
theorem dot_lst {cs : List Int} {ls : LL} {k : Nat} {v : LV} (hk : k + (if isL v then 1 else 0) < ls.length) (hc : isL v = true → cs.getD (k + 1) 0 = 0) : dot cs (lst ls k v) = dot (cs.set k 0) ls + cs.getD k 0 * ival (some v) := by
  unfold lst
  split
  · next hl =>
    rw [if_pos hl] at hk
    have h1 : ((cs.set (k + 1) 0)) = cs := by
      apply List.ext_getElem?
      intro j
      by_cases e : k + 1 = j
      · subst e
        by_cases hlt : k + 1 < cs.length
        · rw [List.getElem?_set_self hlt]
          have := hc hl
          rw [List.getD_eq_getElem?_getD, List.getElem?_eq_getElem hlt] at this
          rw [List.getElem?_eq_getElem hlt]
          simp at this
          simp [this]
        · rw [List.getElem?_eq_none (by simpa using hlt), List.getElem?_eq_none (by omega)]
      · rw [List.getElem?_set_ne e]
    rw [dot_set _ _ _ _ (by rw [List.length_set, lkill_len]; omega), h1, dot_set _ _ _ _ (by rw [lkill_len]; omega), dot_kill]
    simp [ival]
  · rw [dot_set _ _ _ _ (by rw [lkill_len]; omega), dot_kill]
end
section
/-! LM, part 27: Math, arraycopy and calls by bounds -/
def acat (st : List SE) : Nat := (st.map (fun e => if e.1.1 = 1 then 2 else 1)).sum
section CA
variable {INV : LH → Prop} {prot : Int → Int → Int → Bool} {ls : LL} {h : LH} {xs : Nat → Int} {xl : Nat}
theorem acat_ok : ∀ {ast : List SE} {st : List LV}, gS ls h ast st → lcat st = acat ast
  | [], [], _ => rfl
  | e :: r, v :: s, hs => by
    have ih := acat_ok hs.2
    unfold lcat acat at ih ⊢
    simp only [List.map_cons, List.sum_cons]
    rw [ih]
    congr 1
    unfold vcat
    rw [gV_cat hs.1.1]
    simp
  | [], _ :: _, hs => by cases hs
  | _ :: _, [], hs => by cases hs
theorem gS_take : ∀ (n : Nat) {ast : List SE} {st : List LV}, gS ls h ast st → gS ls h (ast.take n) (st.take n) ∧ gS ls h (ast.drop n) (st.drop n)
  | 0, ast, st, hs => ⟨trivial, hs⟩
  | n + 1, [], [], hs => ⟨trivial, trivial⟩
  | n + 1, e :: r, v :: s, hs => by
    obtain ⟨h1, h2⟩ := gS_take n hs.2
    exact ⟨⟨hs.1, h1⟩, h2⟩
  | n + 1, [], _ :: _, hs => by cases hs
  | n + 1, _ :: _, [], hs => by cases hs
theorem gS_app : ∀ {a b : List SE} {s t : List LV}, gS ls h a s → gS ls h b t → gS ls h (a ++ b) (s ++ t)
  | [], b, [], t, _, hb => hb
  | e :: r, b, v :: s, t, ha, hb => ⟨ha.1, gS_app ha.2 hb⟩
  | [], _, _ :: _, _, ha, _ => by cases ha
  | _ :: _, _, [], _, ha, _ => by cases ha
theorem gS_rev : ∀ {a : List SE} {s : List LV}, gS ls h a s → gS ls h a.reverse s.reverse
  | [], [], _ => trivial
  | e :: r, v :: s, hs => by
    rw [List.reverse_cons, List.reverse_cons]
    exact gS_app (gS_rev hs.2) ⟨hs.1, trivial⟩
  | [], _ :: _, hs => by cases hs
  | _ :: _, [], hs => by cases hs
theorem lent_cat : ∀ as : List LV, (lent as).length = lcat as
  | [] => rfl
  | a :: as => by
    have ih := lent_cat as
    rw [lent.eq_2]
    unfold lcat at ih ⊢
    simp only [List.map_cons, List.sum_cons]
    rw [show vcat a = if isL a then 2 else 1 from rfl]
    cases isL a <;> simp [ih] <;> omega
theorem zxor_b {a b : Int} (h0 : 0 ≤ a) (h1 : i32 a) (h2 : 0 ≤ b) (h3 : i32 b) : 0 ≤ zxor a b := by
  have e1 := ofI h0 h1
  have e2 := ofI h2 h3
  have e3 : (Int32.ofInt a ^^^ Int32.ofInt b).toBitVec.toNat = a.toNat ^^^ b.toNat := by
    rw [Int32.toBitVec_xor, BitVec.toNat_xor, e1, e2]
  unfold i32 at h1 h3
  have e4 : a.toNat ^^^ b.toNat < 2 ^ 31 := Nat.xor_lt_two_pow (by omega) (by omega)
  unfold zxor
  rw [small e3 (by omega)]
  omega
theorem zfm_b {a b : Int} (h0 : 0 ≤ a) (h1 : i32 a) (h2 : 0 < b) (h3 : i32 b) : 0 ≤ zfm a b ∧ zfm a b ≤ b - 1 ∧ i32 (zfm a b) := by
  obtain ⟨d1, d2, d3, d4⟩ := rem_eq h1 h0 h2
  unfold zfm
  rw [if_pos (zxor_b h0 h1 (by omega) h3), d1]
  exact ⟨d2, by omega, by unfold i32 at h1 ⊢; omega⟩
def noM (o x : Nat) : Bool := ((MTC o).find? (fun q => q.1 == x)).isNone
theorem noM_ok {o n x : Nat} {st : List LV} (h : noM o x = true) : lmK o n (.invokestatic x) st = none := by
  unfold noM at h
  rw [Option.isNone_iff_eq_none] at h
  unfold lmK
  simp only
  rw [h]
def aX (o : Nat) (i : Instr) (ast : List SE) : Option (List SE) := match i with
  | .invokestatic x => if noM o x = false then none else match (PTC o).find? (fun q => q.1 == x) with
    | some q => match ast with
      | b :: a :: r => if a.1.1 = 0 ∧ b.1.1 = 0 ∧ acat r ≤ 8 then (if q.2.1 = 4 then some ((mkA 0 (min a.1.2.1 b.1.2.1) (min a.1.2.2.1 b.1.2.2.1) 1, pv0) :: r) else if q.2.1 = 5 then some ((mkA 0 (max a.1.2.1 b.1.2.1) (max a.1.2.2.1 b.1.2.2.1) 1, pv0) :: r) else if q.2.1 = 6 ∧ b.1.2.2.2 = 0 ∧ 0 < b.1.2.1 ∧ 0 ≤ a.1.2.1 then some ((mkA 0 0 (b.1.2.1 - 1) 1, pv0) :: r) else none) else none
      | _ => none
    | none => none
  | _ => none
set_option maxHeartbeats 4000000 in
theorem aX_ok {o : Nat} {i : Instr} {ast ast' : List SE} {st : List LV} (ha : aX o i ast = some ast') (hs : gS ls h ast st) : ∃ (x : Nat) (st' : List LV), i = .invokestatic x ∧ noM o x = true ∧ lmQ o NC i st h = none ∧ lmX o i st = some st' ∧ gS ls h ast' st' := by
  cases i with
  | invokestatic x =>
    simp only [aX] at ha
    split at ha
    · cases ha
    · next hno =>
      have hno : noM o x = true := by simpa using hno
      split at ha
      · next q hq =>
        split at ha
        · next b a r =>
          split at ha
          · next hk =>
            obtain ⟨w1, s1, rfl, g1, -, hs1⟩ := gS_c hs
            obtain ⟨w2, s2, rfl, g2, -, hs2⟩ := gS_c hs1
            obtain ⟨y, rfl, y1, y2⟩ := gV_i g1 hk.2.1
            obtain ⟨x', rfl, x1, x2⟩ := gV_i g2 hk.1
            have hcat : lcat s2 ≤ 8 := by rw [acat_ok hs2]; exact hk.2.2
            have a1 := x2.1
            have a2 := x2.2.1
            have b1 := y2.1
            have b2 := y2.2.1
            split at ha
            · next e =>
              cases some_i ha
              refine ⟨x, _, rfl, hno, by simp only [lmQ]; rw [hq]; simp only; rw [if_neg (by omega)], by simp only [lmX]; rw [hq]; simp only; rw [if_pos hcat, if_pos e], gS_p (gV_mk01 ?_ ?_ ?_) hs2⟩
              · split <;> assumption
              · split <;> omega
              · split <;> omega
            · next e =>
              split at ha
              · next e2 =>
                cases some_i ha
                refine ⟨x, _, rfl, hno, by simp only [lmQ]; rw [hq]; simp only; rw [if_neg (by omega)], by simp only [lmX]; rw [hq]; simp only; rw [if_pos hcat, if_neg e, if_pos e2], gS_p (gV_mk01 ?_ ?_ ?_) hs2⟩
                · split <;> assumption
                · split <;> omega
                · split <;> omega
              · next e2 =>
                split at ha
                · next e3 =>
                  cases some_i ha
                  have ey := inV_c y2 e3.2.1
                  obtain ⟨z1, z2, z3⟩ := zfm_b (a := x') (b := y) (by omega) x1 (by omega) y1
                  exact ⟨x, _, rfl, hno, by simp only [lmQ]; rw [hq]; simp only; rw [if_neg (by omega)], by simp only [lmX]; rw [hq]; simp only; rw [if_pos hcat, if_neg e, if_neg e2, if_pos ⟨e3.1, by omega⟩], gS_p (gV_mk01 z3 z1 (by omega)) hs2⟩
                · cases ha
          · cases ha
        · cases ha
      · cases ha
  | _ => simp only [aX] at ha; cases ha
/-- arraycopy: the cells written, the places, the rest -/
def aQ (prot : Int → Int → Int → Bool) (o : Nat) (i : Instr) (ast : List SE) : Option (AV × AV × List SE) := match i with
  | .invokestatic x => if noM o x = false then none else match (PTC o).find? (fun q => q.1 == x) with
    | some q => match ast with
      | m :: dp :: eb :: sp :: ea :: r => match cellsOf ea, cellsOf eb with
        | some ca, some cb => if q.2.1 = 1 ∧ m.1.1 = 0 ∧ dp.1.1 = 0 ∧ sp.1.1 = 0 ∧ 0 ≤ m.1.2.1 ∧ 0 ≤ dp.1.2.1 ∧ 0 ≤ sp.1.2.1 ∧ acat r ≤ 8 ∧
            ca.all (fun a => isA NC a 1 && decide (sp.1.2.2.1 + m.1.2.2.1 ≤ ((lay a.toNat).2.2 : Int))) = true ∧ cb.all (fun b => isA NC b 1 && decide (dp.1.2.2.1 + m.1.2.2.1 ≤ ((lay b.toNat).2.2 : Int)) && !(prot b 0 3000)) = true ∧
            ca.all (fun a => cb.all (fun b => match RGL[a.toNat]?, RGL[b.toNat]? with | some [u], some [w] => leA u w | _, _ => false)) = true
          then some (eb.1, mkA 0 dp.1.2.1 (dp.1.2.2.1 + m.1.2.2.1) 1, r) else none
        | _, _ => none
      | _ => none
    | none => none
  | _ => none
theorem cpy_inv (hI : INVok INV prot) (hh : INV h) {a b sp dp : Int} {u w : AV} (ka : isA NC a 1 = true) (kb : isA NC b 1 = true) (hp : prot b 0 3000 = false) (h1 : RGL[a.toNat]? = some [u]) (h2 : RGL[b.toNat]? = some [w]) (hle : leA u w = true) (s0 : 0 ≤ sp) (d0 : 0 ≤ dp) : ∀ m : Nat, sp + m ≤ ((lay a.toNat).2.2 : Int) → dp + m ≤ ((lay b.toNat).2.2 : Int) → INV (cpyL h a sp b dp m ++ h)
  | 0, _, _ => hh
  | m + 1, m1, m2 => by
    have ih := cpy_inv hI hh ka kb hp h1 h2 hle s0 d0 m (by omega) (by omega)
    obtain ⟨a1, a2, a3⟩ := isA_of ka
    obtain ⟨b1, b2, b3⟩ := isA_of kb
    have hv : gV (hav a (sp + m)) (hval h a (sp + m)) := hI.1 h hh a (sp + m) ⟨a1, a2, by omega, by omega⟩
    have e1 : hav a (sp + m) = u := by unfold hav; rw [h1]; simp [Nat.mod_one]
    have e2 : hav b (dp + m) = w := by unfold hav; rw [h2]; simp [Nat.mod_one]
    rw [e1] at hv
    have hv2 := leA_ok hle hv
    refine hI.2.1 _ ih b (dp + m) (rd h a (sp + m)) ⟨b1, b2, by omega, by omega⟩ (hI.2.2 b 0 3000 (dp + m) hp (by omega) (by have := lay_len b.toNat; omega)) ?_
    rw [e2]
    unfold hval at hv2
    rw [lkd_1 a3] at hv2
    rw [lkd_1 b3]
    exact hv2
set_option maxHeartbeats 4000000 in
theorem aQ_ok (hI : INVok INV prot) (hh : INV h) {o : Nat} {i : Instr} {ast r : List SE} {ea ix : AV} {st : List LV} (ha : aQ prot o i ast = some (ea, ix, r)) (hs : gS ls h ast st) : ∃ (x : Nat) (st' : List LV) (h' : LH), i = .invokestatic x ∧ noM o x = true ∧ lmQ o NC i st h = some (st', h') ∧ INV h' ∧ frm [boxOf ea ix] h h' ∧ gS ls h r st' := by
  cases i with
  | invokestatic x =>
    simp only [aQ] at ha
    split at ha
    · cases ha
    · next hno =>
      have hno : noM o x = true := by simpa using hno
      split at ha
      · next q hq =>
        split at ha
        · next m dp eb sp ea' r' =>
          split at ha
          · next ca cb hca hcb =>
            split at ha
            · next hk =>
              obtain ⟨k1, k2, k3, k4, k5, k6, k7, k8, k9, k10, k11⟩ := hk
              cases some_i ha
              obtain ⟨w1, s1, rfl, g1, -, hs1⟩ := gS_c hs
              obtain ⟨w2, s2, rfl, g2, -, hs2⟩ := gS_c hs1
              obtain ⟨w3, s3, rfl, g3, -, hs3⟩ := gS_c hs2
              obtain ⟨w4, s4, rfl, g4, -, hs4⟩ := gS_c hs3
              obtain ⟨w5, s5, rfl, g5, -, hs5⟩ := gS_c hs4
              obtain ⟨mm, rfl, m1, m2⟩ := gV_i g1 k2
              obtain ⟨dd, rfl, d1, d2⟩ := gV_i g2 k3
              obtain ⟨b, rfl, b1, b2⟩ := cellsOf_ok hcb g3
              obtain ⟨ss, rfl, t1, t2⟩ := gV_i g4 k4
              obtain ⟨a, rfl, a1, a2⟩ := cellsOf_ok hca g5
              have ka := List.all_eq_true.mp k9 a a2
              have kb := List.all_eq_true.mp k10 b b2
              have kc := List.all_eq_true.mp (List.all_eq_true.mp k11 a a2) b b2
              simp only [Bool.and_eq_true, decide_eq_true_eq, Bool.not_eq_true'] at ka kb
              have hcat : lcat s5 ≤ 8 := by rw [acat_ok hs5]; exact k8
              have f1 := m2.1
              have f2 := m2.2.1
              have f3 := d2.1
              have f4 := d2.2.1
              have f5 := t2.1
              have f6 := t2.2.1
              split at kc
              · next u w hu hw =>
                refine ⟨x, s5, cpyL h a ss b dd mm.toNat ++ h, rfl, hno, ?_, cpy_inv hI hh ka.1 kb.1.1 kb.2 hu hw kc (by omega) (by omega) mm.toNat (by omega) (by omega), ?_, hs5⟩
                · simp only [lmQ]
                  rw [hq]
                  simp only
                  rw [if_pos k1, if_pos]
                  simp only [Bool.and_eq_true, decide_eq_true_eq]
                  exact ⟨⟨⟨ka.1, kb.1.1⟩, by omega, by omega, by omega, by omega, by omega⟩, hcat⟩
                · intro a' i' hb
                  rw [rd_cpy, if_neg]
                  rintro ⟨rfl, z1, z2⟩
                  have hbb := b1
                  obtain ⟨y1, y2, -⟩ := hbb
                  have hm1 : (mkA 0 dp.1.2.1 (dp.1.2.2.1 + m.1.2.2.1) 1).2.1 = dp.1.2.1 := by unfold mkA; split <;> rfl
                  have hm2 : (mkA 0 dp.1.2.1 (dp.1.2.2.1 + m.1.2.2.1) 1).2.2.1 = dp.1.2.2.1 + m.1.2.2.1 := by unfold mkA; split <;> rfl
                  unfold inBx boxOf at hb
                  simp only [List.any_cons, List.any_nil, Bool.or_false, Bool.and_eq_false_iff, decide_eq_false_iff_not] at hb
                  rw [hm1, hm2] at hb
                  omega
              · cases kc
            · cases ha
          · cases ha
        · cases ha
      · cases ha
  | _ => simp only [aQ] at ha; cases ha
end CA
end
section
/-! LM, part 28: calls by contracts; a method checked node by node -/
def aK (o : Nat) (i : Instr) (st : List SE) : Option (Nat × List SE × List SE) :=
  let go (x kind : Nat) : Option (Nat × List SE × List SE) := match (MTC o).find? (fun q => q.1 == x) with
    | some q => match MTB q.2.1 with
      | some M =>
        if M.2.2.2.2.2.1 ≤ st.length ∧ acat (st.drop M.2.2.2.2.2.1) ≤ 8 ∧ acat (st.take M.2.2.2.2.2.1) ≤ M.2.2.1 ∧ M.2.2.2.2.2.2.1 = (if kind = 1 then 1 else 0) then
          if kind = 1 then (if q.2.2.1 = 0 then some (q.2.1, (st.take M.2.2.2.2.2.1).reverse, st.drop M.2.2.2.2.2.1) else none)
          else match (st.take M.2.2.2.2.2.1).reverse with
            | e :: _ => match cellsOf e with
              | some cs => if cs.all (fun a => isO NC a M.2.2.2.2.1) && (if kind = 2 then M.1.name == "<init>" else !(M.1.name == "<init>") && q.2.2.1 == 0) then some (q.2.1, (st.take M.2.2.2.2.2.1).reverse, st.drop M.2.2.2.2.2.1) else none
              | none => none
            | _ => none
        else none
      | none => none
    | none => none
  match i with
  | .invokevirtual x => go x 0
  | .invokestatic x => go x 1
  | .invokespecial x => go x 2
  | _ => none
set_option maxHeartbeats 4000000 in
theorem aK_ok {ls : LL} {h : LH} {o : Nat} {i : Instr} {ast : List SE} {st : List LV} {k : Nat} {aas ar : List SE} (ha : aK o i ast = some (k, aas, ar)) (hs : gS ls h ast st) : ∃ as rest, lmK o NC i st = some (k, as, rest) ∧ gS ls h aas as ∧ gS ls h ar rest := by
  have hlen := gS_len hs
  have key : ∀ (x kind : Nat), (match (MTC o).find? (fun q => q.1 == x) with
    | some q => match MTB q.2.1 with
      | some M =>
        if M.2.2.2.2.2.1 ≤ ast.length ∧ acat (ast.drop M.2.2.2.2.2.1) ≤ 8 ∧ acat (ast.take M.2.2.2.2.2.1) ≤ M.2.2.1 ∧ M.2.2.2.2.2.2.1 = (if kind = 1 then 1 else 0) then
          if kind = 1 then (if q.2.2.1 = 0 then some (q.2.1, (ast.take M.2.2.2.2.2.1).reverse, ast.drop M.2.2.2.2.2.1) else none)
          else match (ast.take M.2.2.2.2.2.1).reverse with
            | e :: _ => match cellsOf e with
              | some cs => if cs.all (fun a => isO NC a M.2.2.2.2.1) && (if kind = 2 then M.1.name == "<init>" else !(M.1.name == "<init>") && q.2.2.1 == 0) then some (q.2.1, (ast.take M.2.2.2.2.2.1).reverse, ast.drop M.2.2.2.2.2.1) else none
              | none => none
            | _ => none
        else none
      | none => none
    | none => none) = some (k, aas, ar) → ∃ as rest, (match (MTC o).find? (fun q => q.1 == x) with
    | some q => match MTB q.2.1 with
      | some M =>
        let np := M.2.2.2.2.2.1
        let st1 := M.2.2.2.2.2.2.1
        if np ≤ st.length ∧ lcat (st.drop np) ≤ 8 ∧ (lent ((st.take np).reverse)).length ≤ M.2.2.1 ∧ st1 = (if kind = 1 then 1 else 0) then
          let as := (st.take np).reverse
          if kind = 1 then (if q.2.2.1 = 0 then some (q.2.1, as, st.drop np) else none)
          else match as with
            | .inr (.inr a) :: _ => if isO NC a M.2.2.2.2.1 && (if kind = 2 then M.1.name == "<init>" else !(M.1.name == "<init>") && q.2.2.1 == 0) then some (q.2.1, as, st.drop np) else none
            | _ => none
        else none
      | none => none
    | none => none) = some (k, as, rest) ∧ gS ls h aas as ∧ gS ls h ar rest := by
    intro x kind hk
    split at hk
    · next q hq =>
      split at hk
      · next M hM =>
        by_cases hc : M.2.2.2.2.2.1 ≤ ast.length ∧ acat (ast.drop M.2.2.2.2.2.1) ≤ 8 ∧ acat (ast.take M.2.2.2.2.2.1) ≤ M.2.2.1 ∧ M.2.2.2.2.2.2.1 = (if kind = 1 then 1 else 0)
        · rw [if_pos hc] at hk
          obtain ⟨c1, c2, c3, c4⟩ := hc
          obtain ⟨t1, t2⟩ := gS_take M.2.2.2.2.2.1 hs
          have t3 := gS_rev t1
          have hc2 : M.2.2.2.2.2.1 ≤ st.length ∧ lcat (st.drop M.2.2.2.2.2.1) ≤ 8 ∧ (lent ((st.take M.2.2.2.2.2.1).reverse)).length ≤ M.2.2.1 ∧ M.2.2.2.2.2.2.1 = (if kind = 1 then 1 else 0) := by
            refine ⟨by omega, by rw [acat_ok t2]; exact c2, ?_, c4⟩
            rw [lent_cat]
            have : lcat (st.take M.2.2.2.2.2.1).reverse = lcat (st.take M.2.2.2.2.2.1) := by
              unfold lcat
              rw [List.map_reverse, List.sum_reverse]
            rw [this, acat_ok t1]
            exact c3
          simp only
          rw [if_pos hc2]
          by_cases hk1 : kind = 1
          · rw [if_pos hk1] at hk ⊢
            split at hk
            · next h0 =>
              cases some_i hk
              rw [if_pos h0]
              exact ⟨_, _, rfl, t3, t2⟩
            · cases hk
          · rw [if_neg hk1] at hk ⊢
            split at hk
            · next e er he =>
              split at hk
              · next cs hcs =>
                by_cases hO : (cs.all (fun a => isO NC a M.2.2.2.2.1) && (if kind = 2 then M.1.name == "<init>" else !(M.1.name == "<init>") && q.2.2.1 == 0)) = true
                · rw [if_pos hO] at hk
                  cases some_i hk
                  have t4 := t3
                  rw [he] at t4
                  obtain ⟨v, s, hv, g1, -, hs1⟩ := gS_c t4
                  obtain ⟨a, rfl, a1, a2⟩ := cellsOf_ok hcs g1
                  have hO2 : (isO NC a M.2.2.2.2.1 && (if kind = 2 then M.1.name == "<init>" else !(M.1.name == "<init>") && q.2.2.1 == 0)) = true := by
                    rw [Bool.and_eq_true] at hO ⊢
                    exact ⟨List.all_eq_true.mp hO.1 a a2, hO.2⟩
                  rw [hv]
                  simp only
                  rw [if_pos hO2, ← hv]
                  exact ⟨_, _, rfl, t3, t2⟩
                · rw [if_neg hO] at hk
                  cases hk
              · cases hk
            · cases hk
        · rw [if_neg hc] at hk
          cases hk
      · cases hk
    · cases hk
  unfold aK at ha
  unfold lmK
  cases i with
  | invokevirtual x => exact key x 0 ha
  | invokestatic x => exact key x 1 ha
  | invokespecial x => exact key x 2 ha
  | _ => simp only at ha; cases ha
/-- a contract: method, depth, arguments, cases (answer, whence it is, what the arguments then are, what places then hold), what may change, what places hold before -/
abbrev CS : Type := Option AV × PV × List (Nat × AV) × FA
abbrev SM : Type := Nat × Nat × List AV × List CS × BX × FA
def gAr : List AV → List LV → Prop
  | [], [] => True
  | a :: as, v :: vs => gV a v ∧ gAr as vs
  | _, _ => False
def resOk (c : CS) (r : Option LV) (h : LH) (as : List LV) : Prop := (match c.1, r with
  | none, none => True
  | some a, some v => gV a v ∧ (c.2.1.1 = 0 ∨ (c.2.1.1 = 2 ∧ gP [] h c.2.1 v))
  | _, _ => False) ∧ (∀ q ∈ c.2.2.1, ∃ v, as[q.1]? = some v ∧ gV q.2 v) ∧ gF h c.2.2.2
def SMok (xs : Nat → Int) (xl : Nat) (INV : LH → Prop) (S : SM) : Prop := ∀ (M : LM_M) (as : List LV) (h : LH), MTB S.1 = some M → INV h → gAr S.2.2.1 as → gF h S.2.2.2.2.2 → (lent as).length ≤ M.2.2.1 → Rn xs xl S.2.1 M 0 (lpad M.2.2.1 (lent as)) [] h (fun r h' => INV h' ∧ frm S.2.2.2.2.1 h h' ∧ ∃ c ∈ S.2.2.2.1, resOk c r h' as)
/-- a node: place, state, measure, where it goes, which contract (or case) -/
abbrev ND : Type := Nat × AS × Int × List Int × List Nat × Nat
def bxIn (bs : BX) (b : Int × Int × Int × Int) : Bool := bs.any (fun c => decide (c.1 ≤ b.1) && decide (b.2.1 ≤ c.2.1) && decide (c.2.2.1 ≤ b.2.2.1) && decide (b.2.2.2 ≤ c.2.2.2))
theorem bxIn_ok {bs : BX} {b : Int × Int × Int × Int} (h : bxIn bs b = true) {a i : Int} (hn : inBx bs a i = false) : inBx [b] a i = false := by
  unfold bxIn at h
  rw [List.any_eq_true] at h
  obtain ⟨c, c1, c2⟩ := h
  simp only [Bool.and_eq_true, decide_eq_true_eq] at c2
  unfold inBx at hn ⊢
  rw [List.any_eq_false] at hn
  have h2 := hn c c1
  simp only [Bool.and_eq_true, decide_eq_true_eq] at h2
  simp only [List.any_cons, List.any_nil, Bool.or_false]
  apply Bool.eq_false_iff.mpr
  intro q
  simp only [Bool.and_eq_true, decide_eq_true_eq] at q
  exact h2 (by omega)
theorem bxAll_ok {bs cs : BX} (h : cs.all (bxIn bs) = true) {a i : Int} (hn : inBx bs a i = false) : inBx cs a i = false := by
  unfold inBx
  rw [List.any_eq_false]
  intro c hc hq
  have h1 := bxIn_ok (List.all_eq_true.mp h c hc) hn
  unfold inBx at h1
  simp only [List.any_cons, List.any_nil, Bool.or_false] at h1
  rw [h1] at hq
  cases hq
theorem frm_tr {bs cs : BX} {h0 h h' : LH} (h1 : frm bs h0 h) (h2 : frm cs h h') (hc : cs.all (bxIn bs) = true) : frm bs h0 h' := fun a i hn => (h2 a i (bxAll_ok hc hn)).trans (h1 a i hn)
end
section
/-! LM, part 29: the check of a method's nodes -/
def icls (i : Instr) : Nat := match i with
  | .iconst _ => 1 | .bipush _ => 1 | .sipush _ => 1 | .lconst _ => 1
  | .iadd => 1 | .isub => 1 | .imul => 1 | .idiv => 1 | .irem => 1 | .ineg => 1 | .iand => 1 | .ior => 1 | .ixor => 1 | .ishl => 1 | .ishr => 1 | .iushr => 1
  | .ladd => 1 | .lsub => 1 | .lmul => 1 | .ldiv => 1 | .lrem => 1 | .land => 1 | .lor => 1 | .lshl => 1 | .lshr => 1 | .lushr => 1 | .lcmp => 1
  | .i2l => 1 | .l2i => 1 | .i2b => 1 | .i2c => 1 | .dup => 1 | .pop => 1 | .dup2 => 1
  | .iload _ => 2 | .iload_n _ => 2 | .lload _ => 2 | .lload_n _ => 2 | .aload _ => 2 | .aload_n _ => 2
  | .getfield _ => 3 | .iaload => 3 | .laload => 3 | .baload => 3 | .aaload => 3 | .arraylength => 3
  | .goto _ => 4 | .ifCond _ _ => 4 | .if_icmp _ _ => 4 | .tableswitch _ _ _ _ => 4 | .lookupswitch _ _ => 4
  | .iinc _ _ => 5
  | .putfield _ => 6 | .iastore => 6 | .lastore => 6 | .bastore => 6
  | .ldc _ => 7 | .ldc_w _ => 7 | .ldc2_w _ => 7
  | .istore _ => 8 | .istore_n _ => 8 | .lstore _ => 8 | .lstore_n _ => 8 | .astore _ => 8 | .astore_n _ => 8
  | .invokevirtual _ => 9 | .invokestatic _ => 9 | .invokespecial _ => 9
  | .return_ => 10 | .ireturn => 10 | .lreturn => 10
  | _ => 0
set_option maxHeartbeats 4000000 in
theorem cls_noRK {i : Instr} (h : icls i ≠ 9) (h2 : icls i ≠ 10) : (∀ ret st, lmR ret i st = none) ∧ ∀ o n st, lmK o n i st = none := by
  cases i <;> first | exact ⟨fun _ _ => rfl, fun _ _ _ => rfl⟩ | exact absurd rfl h | exact absurd rfl h2
set_option maxHeartbeats 4000000 in
theorem cls_R {i : Instr} (h : icls i = 9) : ∀ ret st, lmR ret i st = none := by
  cases i <;> first | exact fun _ _ => rfl | exact absurd h (by decide)
set_option maxHeartbeats 4000000 in
theorem cls_A {i : Instr} (h : icls i ≠ 1) : ∀ st, lmA i st = none := by
  cases i <;> first | exact fun _ => rfl | exact absurd rfl h
set_option maxHeartbeats 4000000 in
theorem cls_Ld {i : Instr} (h : icls i ≠ 2) : ∀ ls, lmLd i ls = none := by
  cases i <;> first | exact fun _ => rfl | exact absurd rfl h
set_option maxHeartbeats 4000000 in
theorem cls_G {i : Instr} (h : icls i ≠ 3) : ∀ o n xs xl st h, lmG o n xs xl i st h = none := by
  cases i <;> first | exact fun _ _ _ _ _ _ => rfl | exact absurd rfl h
set_option maxHeartbeats 4000000 in
theorem cls_J {i : Instr} (h : icls i ≠ 4) : ∀ pc len st, lmJ i pc len st = none := by
  cases i <;> first | exact fun _ _ _ => rfl | exact absurd rfl h
set_option maxHeartbeats 4000000 in
theorem cls_Inc {i : Instr} (h : icls i ≠ 5) : ∀ ls, lmInc i ls = none := by
  cases i <;> first | exact fun _ => rfl | exact absurd rfl h
set_option maxHeartbeats 4000000 in
theorem cls_P {i : Instr} (h : icls i ≠ 6) (h0 : icls i ≠ 0) : ∀ o n ini st h, lmP o n ini i st h = none := by
  cases i <;> first | exact fun _ _ _ _ _ => rfl | exact absurd rfl h | exact absurd rfl h0
set_option maxHeartbeats 4000000 in
theorem cls_C {i : Instr} (h : icls i ≠ 7) : ∀ o, lmC o i = none := by
  cases i <;> first | exact fun _ => rfl | exact absurd rfl h
set_option maxHeartbeats 4000000 in
theorem cls_Q {i : Instr} (h : icls i ≠ 9) : ∀ o n st h, lmQ o n i st h = none := by
  cases i <;> first | exact fun _ _ _ _ => rfl | exact absurd rfl h
set_option maxHeartbeats 4000000 in
theorem cls_N {i : Instr} (h : icls i ≠ 0) : ∀ o n st, lmN o n i st = none := by
  cases i <;> first | exact fun _ _ _ => rfl | exact absurd rfl h
set_option maxHeartbeats 4000000 in
theorem cls_X {i : Instr} (h : icls i ≠ 9) : ∀ o st, lmX o i st = none := by
  cases i <;> first | exact fun _ _ => rfl | exact absurd rfl h
def edK (u v : ND) (als : AL) : Bool := match ubD v.2.2.2.1 u.2.2.2.1 als with
  | some b => decide (v.2.2.1 - u.2.2.1 + b < 0)
  | none => false
def edS (u v : ND) (k : Nat) (a : AV) : Bool := (decide (a.1 ≠ 1) || v.2.2.2.1.getD (k + 1) 0 == 0) && match ubD (v.2.2.2.1.set k 0) u.2.2.2.1 u.2.1.1 with
  | some b => if v.2.2.2.1.getD k 0 = 0 then decide (v.2.2.1 - u.2.2.1 + b < 0) else (a.1 == 0 && decide (v.2.2.1 - u.2.2.1 + b + (if 0 ≤ v.2.2.2.1.getD k 0 then v.2.2.2.1.getD k 0 * a.2.2.1 else v.2.2.2.1.getD k 0 * a.2.1) < 0))
  | none => false
def edI (u v : ND) (k : Nat) (a : AV) (n : Int) : Bool := decide (-2147483648 ≤ a.2.1 + n) && decide (a.2.2.1 + n ≤ 2147483647) && match ubD v.2.2.2.1 u.2.2.2.1 u.2.1.1 with
  | some b => decide (v.2.2.1 - u.2.2.1 + b + v.2.2.2.1.getD k 0 * n < 0)
  | none => false
def mv (u : ND) (ls : LL) : Int := u.2.2.1 + dot u.2.2.2.1 ls
theorem edK_ok {u v : ND} {als : AL} {ls : LL} (h : edK u v als = true) (hg : gL als ls) : mv v ls < mv u ls := by
  unfold edK at h
  split at h
  · next b hb =>
    have := ubD_ok hb (gL_r hg)
    have h := of_decide_eq_true h
    unfold mv
    omega
  · cases h
theorem edS_ok {u v : ND} {k : Nat} {a : AV} {ls : LL} {w : LV} (h : edS u v k a = true) (hg : gL u.2.1.1 ls) (hw : gV a w) (hk : k + (if isL w then 1 else 0) < ls.length) : mv v (lst ls k w) < mv u ls := by
  unfold edS at h
  simp only [Bool.and_eq_true, Bool.or_eq_true, decide_eq_true_eq, beq_iff_eq] at h
  have hd := dot_lst (cs := v.2.2.2.1) hk (fun hl => by
    rcases h.1 with q | q
    · rw [gV_cat hw] at hl
      exact absurd (by simpa using hl) q
    · exact q)
  have h2 := h.2
  split at h2
  · next b hb =>
    have := ubD_ok hb (gL_r hg)
    unfold mv
    rw [hd]
    split at h2
    · next h0 =>
      have h2 := of_decide_eq_true h2
      rw [h0]
      omega
    · simp only [Bool.and_eq_true, decide_eq_true_eq, beq_iff_eq] at h2
      obtain ⟨x, rfl, x1, x2⟩ := gV_i hw h2.1
      have := mulb (d := v.2.2.2.1.getD k 0) x2.1 x2.2.1
      simp only [ival]
      omega
  · cases h2
theorem edI_ok {u v : ND} {k : Nat} {a : AV} {n x : Int} {ls : LL} (h : edI u v k a n = true) (hg : gL u.2.1.1 ls) (hx : lget ls k = some (.inl x)) (hi : inV a x) : mv v (lst ls k (.inl (w32 (x + n)))) < mv u ls := by
  unfold edI at h
  simp only [Bool.and_eq_true, decide_eq_true_eq] at h
  have hlt := lget_lt hx
  obtain ⟨i1, i2, -⟩ := hi
  have hw : w32 (x + n) = x + n := w32_id (by unfold i32; omega)
  have hd := dot_lst (cs := v.2.2.2.1) (ls := ls) (k := k) (v := .inl (w32 (x + n))) (by simpa [isL] using hlt) (fun hl => by cases hl)
  have hd0 := dot_set v.2.2.2.1 ls k ((ls[k]?).join) hlt
  have e : ls.set k ((ls[k]?).join) = ls := by
    have : ls[k]? = some ls[k] := List.getElem?_eq_getElem hlt
    rw [this]
    simp
  have ex : ival ((ls[k]?).join) = x := by
    unfold lget at hx
    rw [hx]
    rfl
  rw [e, ex] at hd0
  have h2 := h.2
  split at h2
  · next b hb =>
    have := ubD_ok hb (gL_r hg)
    have h2 := of_decide_eq_true h2
    unfold mv
    rw [hd, hw]
    simp only [ival]
    rw [Int.mul_add]
    omega
  · cases h2
-- where an edge goes
def covE (N : List (List ND)) (t : Int) (s : AS) (j : Nat) : Option ND := match (N[j / 64]?).bind (fun B => B[j % 64]?) with
  | some v => if (v.1 : Int) = t ∧ incS s v.2.1 = true then some v else none
  | none => none
theorem covE_ok {INV : LH → Prop} {prot : Int → Int → Int → Bool} (hI : INVok INV prot) {N : List (List ND)} {t : Int} {s : AS} {j : Nat} {v : ND} (h : covE N t s j = some v) {ls : LL} {st : List LV} {hp : LH} (hh : INV hp) (hs : gA ls st hp s) : v ∈ N.flatten ∧ (v.1 : Int) = t ∧ gA ls st hp v.2.1 := by
  unfold covE at h
  split at h
  · next w hw =>
    split at h
    · next hc =>
      cases some_i h
      obtain ⟨B, b1, b2⟩ := Option.bind_eq_some_iff.mp hw
      exact ⟨List.mem_flatten.mpr ⟨B, List.mem_of_getElem? b1, List.mem_of_getElem? b2⟩, hc.1, incS_ok hI hh hc.2 hs⟩
    · cases h
  · cases h
def covK (N : List (List ND)) (u : ND) (t : Int) (s : AS) (j : Nat) : Bool := match covE N t s j with
  | some v => edK u v s.1
  | none => false
def covA (N : List (List ND)) (u : ND) : List (Int × AS) → List Nat → Bool
  | [], _ => true
  | q :: L, j :: js => covK N u q.1 q.2 j && covA N u L js
  | _ :: _, [] => false
theorem covK_ok {INV : LH → Prop} {prot : Int → Int → Int → Bool} (hI : INVok INV prot) {N : List (List ND)} {u : ND} {t : Int} {s : AS} {j : Nat} (h : covK N u t s j = true) {ls : LL} {st : List LV} {hp : LH} (hh : INV hp) (hs : gA ls st hp s) : ∃ v ∈ N.flatten, (v.1 : Int) = t ∧ gA ls st hp v.2.1 ∧ mv v ls < mv u ls := by
  unfold covK at h
  split at h
  · next v hv =>
    obtain ⟨h1, h2, h3⟩ := covE_ok hI hv hh hs
    exact ⟨v, h1, h2, h3, edK_ok h hs.1⟩
  · cases h
theorem covA_ok {INV : LH → Prop} {prot : Int → Int → Int → Bool} (hI : INVok INV prot) {N : List (List ND)} {u : ND} : ∀ {L : List (Int × AS)} {js : List Nat}, covA N u L js = true → ∀ q ∈ L, ∀ {ls : LL} {st : List LV} {hp : LH}, INV hp → gA ls st hp q.2 → ∃ v ∈ N.flatten, (v.1 : Int) = q.1 ∧ gA ls st hp v.2.1 ∧ mv v ls < mv u ls
  | [], _, _, q, hq, _, _, _, _, _ => by cases hq
  | p :: L, j :: js, h, q, hq, ls, st, hp, hh, hs => by
    simp only [covA, Bool.and_eq_true] at h
    rcases List.mem_cons.mp hq with rfl | hq
    · exact covK_ok hI h.1 hh hs
    · exact covA_ok hI h.2 q hq hh hs
  | _ :: _, [], h, _, _, _, _, _, _, _ => by cases h
end
