/-! LM, part 1: numbers. Whole numbers stand for the machine's ints and longs. -/
abbrev LV : Type := Int ⊕ Int ⊕ Int
def w32 (x : Int) : Int := (x + 2147483648) % 4294967296 - 2147483648
def w64 (x : Int) : Int := (x + 9223372036854775808) % 18446744073709551616 - 9223372036854775808
def i32 (x : Int) : Prop := -2147483648 ≤ x ∧ x ≤ 2147483647
def i64 (x : Int) : Prop := -9223372036854775808 ≤ x ∧ x ≤ 9223372036854775807
theorem w32_id {x : Int} (h : i32 x) : w32 x = x := by unfold i32 at h; unfold w32; omega
theorem w64_id {x : Int} (h : i64 x) : w64 x = x := by unfold i64 at h; unfold w64; omega
theorem w32_in (x : Int) : i32 (w32 x) := by unfold i32 w32; omega
theorem w64_in (x : Int) : i64 (w64 x) := by unfold i64 w64; omega
theorem bmod32 (x : Int) : x.bmod (2 ^ 32) = w32 x := by
  unfold w32
  rw [show (2 ^ 32 : Nat) = 4294967296 from rfl, Int.bmod_def]
  omega
theorem bmod64 (x : Int) : x.bmod (2 ^ 64) = w64 x := by
  unfold w64
  rw [show (2 ^ 64 : Nat) = 18446744073709551616 from rfl, Int.bmod_def]
  omega
theorem x_in (x : Int32) : i32 x.toInt := ⟨Int32.le_toInt x, by have := Int32.toInt_lt x; omega⟩
theorem y_in (x : Int64) : i64 x.toInt := ⟨Int64.le_toInt x, by have := Int64.toInt_lt x; omega⟩
theorem x_of {a : Int} (h : i32 a) : (Int32.ofInt a).toInt = a := Int32.toInt_ofInt_of_le h.1 (by have := h.2; omega)
theorem y_of {a : Int} (h : i64 a) : (Int64.ofInt a).toInt = a := Int64.toInt_ofInt_of_le h.1 (by have := h.2; omega)
theorem x_to (x : Int32) : Int32.ofInt x.toInt = x := Int32.ofInt_toInt x
theorem y_to (x : Int64) : Int64.ofInt x.toInt = x := Int64.ofInt_toInt x
theorem x_eq {x : Int32} {a : Int} (h : x.toInt = a) : x = Int32.ofInt a := by rw [← h, x_to]
theorem y_eq {x : Int64} {a : Int} (h : x.toInt = a) : x = Int64.ofInt a := by rw [← h, y_to]
-- the operations
def zand (a b : Int) : Int := (Int32.ofInt a &&& Int32.ofInt b).toInt
def zor (a b : Int) : Int := (Int32.ofInt a ||| Int32.ofInt b).toInt
def zxor (a b : Int) : Int := (Int32.ofInt a ^^^ Int32.ofInt b).toInt
def zshl (a b : Int) : Int := (Int32.ofInt a <<< (Int32.ofInt b &&& 31)).toInt
def zshr (a b : Int) : Int := (Int32.ofInt a >>> (Int32.ofInt b &&& 31)).toInt
def zushr (a b : Int) : Int := ((Int32.ofInt a).toUInt32 >>> ((Int32.ofInt b).toUInt32 &&& Int32.toUInt32 31)).toInt32.toInt
def land_ (a b : Int) : Int := (Int64.ofInt a &&& Int64.ofInt b).toInt
def lor_ (a b : Int) : Int := (Int64.ofInt a ||| Int64.ofInt b).toInt
def lshl_ (a b : Int) : Int := (Int64.ofInt a <<< ((Int32.ofInt b).toInt64 &&& 63)).toInt
def lshr_ (a b : Int) : Int := (Int64.ofInt a >>> ((Int32.ofInt b).toInt64 &&& 63)).toInt
def lushr_ (a b : Int) : Int := ((Int64.ofInt a).toUInt64 >>> ((Int32.ofInt b).toInt64.toUInt64 &&& Int64.toUInt64 63)).toInt64.toInt
def lcmp_ (a b : Int) : Int := if a < b then -1 else if a = b then 0 else 1
theorem o_add {a b : Int} (ha : i32 a) (hb : i32 b) : Int32.ofInt a + Int32.ofInt b = Int32.ofInt (w32 (a + b)) := x_eq (by rw [Int32.toInt_add, bmod32, x_of ha, x_of hb])
theorem o_sub {a b : Int} (ha : i32 a) (hb : i32 b) : Int32.ofInt a - Int32.ofInt b = Int32.ofInt (w32 (a - b)) := x_eq (by rw [Int32.toInt_sub, bmod32, x_of ha, x_of hb])
theorem o_mul {a b : Int} (ha : i32 a) (hb : i32 b) : Int32.ofInt a * Int32.ofInt b = Int32.ofInt (w32 (a * b)) := x_eq (by rw [Int32.toInt_mul, bmod32, x_of ha, x_of hb])
theorem o_div {a b : Int} (ha : i32 a) (hb : i32 b) : Int32.ofInt a / Int32.ofInt b = Int32.ofInt (w32 (a.tdiv b)) := x_eq (by rw [Int32.toInt_div, bmod32, x_of ha, x_of hb])
theorem o_neg {a : Int} (ha : i32 a) : - Int32.ofInt a = Int32.ofInt (w32 (-a)) := x_eq (by rw [Int32.toInt_neg, bmod32, x_of ha])
theorem p_add {a b : Int} (ha : i64 a) (hb : i64 b) : Int64.ofInt a + Int64.ofInt b = Int64.ofInt (w64 (a + b)) := y_eq (by rw [Int64.toInt_add, bmod64, y_of ha, y_of hb])
theorem p_sub {a b : Int} (ha : i64 a) (hb : i64 b) : Int64.ofInt a - Int64.ofInt b = Int64.ofInt (w64 (a - b)) := y_eq (by rw [Int64.toInt_sub, bmod64, y_of ha, y_of hb])
theorem p_mul {a b : Int} (ha : i64 a) (hb : i64 b) : Int64.ofInt a * Int64.ofInt b = Int64.ofInt (w64 (a * b)) := y_eq (by rw [Int64.toInt_mul, bmod64, y_of ha, y_of hb])
theorem p_div {a b : Int} (ha : i64 a) (hb : i64 b) : Int64.ofInt a / Int64.ofInt b = Int64.ofInt (w64 (a.tdiv b)) := y_eq (by rw [Int64.toInt_div, bmod64, y_of ha, y_of hb])
theorem o_lt {a b : Int} (ha : i32 a) (hb : i32 b) : Int32.ofInt a < Int32.ofInt b ↔ a < b := by rw [Int32.lt_iff_toInt_lt, x_of ha, x_of hb]
theorem o_le {a b : Int} (ha : i32 a) (hb : i32 b) : Int32.ofInt a ≤ Int32.ofInt b ↔ a ≤ b := by rw [Int32.le_iff_toInt_le, x_of ha, x_of hb]
theorem o_eq {a b : Int} (ha : i32 a) (hb : i32 b) : Int32.ofInt a = Int32.ofInt b ↔ a = b := by rw [← Int32.toInt_inj, x_of ha, x_of hb]
theorem p_lt {a b : Int} (ha : i64 a) (hb : i64 b) : Int64.ofInt a < Int64.ofInt b ↔ a < b := by rw [Int64.lt_iff_toInt_lt, y_of ha, y_of hb]
theorem p_eq {a b : Int} (ha : i64 a) (hb : i64 b) : Int64.ofInt a = Int64.ofInt b ↔ a = b := by rw [← Int64.toInt_inj, y_of ha, y_of hb]
theorem o_0 : (0 : Int32) = Int32.ofInt 0 := rfl
theorem p_0 : (0 : Int64) = Int64.ofInt 0 := rfl
theorem z32 : i32 0 := by unfold i32; omega
theorem z64 : i64 0 := by unfold i64; omega
theorem o_clamp {a : Int} (ha : i32 a) : (Int32.ofInt a).toNatClampNeg = a.toNat := by
  rw [← Int32.toNat_toInt, x_of ha]
theorem o_cmp {a b : Int} (ha : i64 a) (hb : i64 b) : lg_cmp (Int64.ofInt a) (Int64.ofInt b) = Int32.ofInt (lcmp_ a b) := by
  unfold lg_cmp lcmp_
  simp only [gt_iff_lt, p_lt ha hb, p_lt hb ha, p_eq ha hb]
  split <;> split <;> (try split) <;> (try rfl) <;> omega
theorem lcmp_in (a b : Int) : i32 (lcmp_ a b) := by unfold lcmp_ i32; omega
theorem o_i2l {a : Int} (ha : i32 a) : (Int32.ofInt a).toInt64 = Int64.ofInt a := y_eq (by rw [Int32.toInt_toInt64, x_of ha])
theorem o_l2i {a : Int} (ha : i64 a) : (Int64.ofInt a).toInt32 = Int32.ofInt (w32 a) := x_eq (by rw [Int64.toInt_toInt32, bmod32, y_of ha])
theorem i32_64 {a : Int} (h : i32 a) : i64 a := by unfold i32 at h; unfold i64; omega
