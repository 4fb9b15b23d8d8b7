/-! LM, part 54: sets as bits -/
abbrev bitZ (s k : Int) : Prop := zand (zshr s k) 1 = 1
theorem shamt : ∀ n : Nat, n < 32 → ((Int32.ofInt (n : Int) &&& 31).toBitVec.smod (32 : BitVec 32)).toNat = n := by decide +kernel
theorem shamtZ {k : Int} (k0 : 0 ≤ k) (k1 : k < 32) : ((Int32.ofInt k &&& 31).toBitVec.smod (32 : BitVec 32)).toNat = k.toNat := by
  have := shamt k.toNat (by omega)
  rw [Int.toNat_of_nonneg k0] at this
  exact this
theorem bit1 (Y : Int32) : (Y &&& Int32.ofInt 1).toInt = 1 ↔ Y.toBitVec.getLsbD 0 = true := by
  have e : (Y &&& Int32.ofInt 1).toBitVec = BitVec.setWidth 32 (BitVec.ofBool (Y.toBitVec.getLsbD 0)) := by
    rw [Int32.toBitVec_and, show (Int32.ofInt 1).toBitVec = 1#32 from rfl, BitVec.and_one_eq_setWidth_ofBool_getLsbD]
  have e2 : (Y &&& Int32.ofInt 1) = Int32.ofBitVec (BitVec.setWidth 32 (BitVec.ofBool (Y.toBitVec.getLsbD 0))) := by
    rw [← Int32.toBitVec_inj, e]
    rfl
  rw [e2]
  cases Y.toBitVec.getLsbD 0 <;> decide
theorem bitZ_iff {s k : Int} (k0 : 0 ≤ k) (k1 : k < 32) : bitZ s k ↔ (Int32.ofInt s).toBitVec.getLsbD k.toNat = true := by
  unfold bitZ zand zshr
  rw [x_to, bit1, Int32.toBitVec_shiftRight, BitVec.getLsbD_sshiftRight', shamtZ k0 k1]
  simp only [Nat.add_zero]
  rw [if_pos (by omega)]
  simp
theorem bit_or {a b k : Int} (k0 : 0 ≤ k) (k1 : k < 32) : bitZ (zor a b) k ↔ bitZ a k ∨ bitZ b k := by
  rw [bitZ_iff k0 k1, bitZ_iff k0 k1, bitZ_iff k0 k1]
  unfold zor
  rw [x_to, Int32.toBitVec_or, BitVec.getLsbD_or, Bool.or_eq_true]
theorem bit_shl {j k : Int} (j0 : 0 ≤ j) (j1 : j < 32) (k0 : 0 ≤ k) (k1 : k < 32) : bitZ (zshl 1 j) k ↔ k = j := by
  rw [bitZ_iff k0 k1]
  unfold zshl
  rw [x_to, Int32.toBitVec_shiftLeft, BitVec.getLsbD_shiftLeft', shamtZ j0 j1, show (Int32.ofInt 1).toBitVec = 1#32 from rfl, BitVec.getLsbD_one]
  simp only [Bool.and_eq_true, decide_eq_true_eq, Bool.not_eq_true', decide_eq_false_iff_not]
  omega
theorem bit_and0 {a g : Int} (g0 : 0 ≤ g) (g1 : g < 32) (h : zand a (zshl 1 g) ≠ 0) : bitZ a g := by
  rw [bitZ_iff g0 g1]
  cases hq : (Int32.ofInt a).toBitVec.getLsbD g.toNat with
  | true => rfl
  | false =>
    exfalso
    apply h
    unfold zand zshl
    rw [x_to]
    have e : (Int32.ofInt a &&& (Int32.ofInt 1 <<< (Int32.ofInt g &&& 31))) = Int32.ofInt 0 := by
      rw [← Int32.toBitVec_inj, Int32.toBitVec_and, Int32.toBitVec_shiftLeft]
      refine BitVec.eq_of_getLsbD_eq (fun i hi => ?_)
      rw [BitVec.getLsbD_and, BitVec.getLsbD_shiftLeft', shamtZ g0 g1, show (Int32.ofInt 1).toBitVec = 1#32 from rfl, BitVec.getLsbD_one, show (Int32.ofInt 0).toBitVec = 0#32 from rfl, BitVec.getLsbD_zero]
      by_cases c : i = g.toNat
      · subst c
        rw [hq]
        rfl
      · have : (decide (i < 32) && !decide (i < g.toNat) && (decide (0 < 32) && decide (i - g.toNat = 0))) = false := by
          simp only [Bool.and_eq_false_iff, decide_eq_false_iff_not, Bool.not_eq_false', decide_eq_true_eq]
          omega
        rw [this, Bool.and_false]
    rw [e]
    rfl
/-- sets grow -/
theorem zor_ge {a b : Int} (a0 : 0 ≤ a) (a1 : a ≤ 1048575) (b0 : 0 ≤ b) (b1 : b ≤ 1048575) : a ≤ zor a b ∧ zor a b ≤ 1048575 := by
  unfold zor
  obtain ⟨m, rfl⟩ : ∃ m : Nat, a = m := ⟨a.toNat, by omega⟩
  obtain ⟨n, rfl⟩ : ∃ n : Nat, b = n := ⟨b.toNat, by omega⟩
  have e : (Int32.ofInt (m : Int) ||| Int32.ofInt (n : Int)) = Int32.ofInt ((m ||| n : Nat) : Int) := by
    rw [← Int32.toBitVec_inj, Int32.toBitVec_or, Int32.toBitVec_ofInt, Int32.toBitVec_ofInt, Int32.toBitVec_ofInt]
    rw [BitVec.ofInt_natCast, BitVec.ofInt_natCast, BitVec.ofInt_natCast]
    apply BitVec.eq_of_toNat_eq
    rw [BitVec.toNat_or, BitVec.toNat_ofNat, BitVec.toNat_ofNat, BitVec.toNat_ofNat, Nat.mod_eq_of_lt (by omega), Nat.mod_eq_of_lt (by omega), Nat.mod_eq_of_lt]
    exact Nat.or_lt_two_pow (by omega) (by omega)
  have l1 : m ≤ m ||| n := Nat.left_le_or
  have l2 : m ||| n < 2 ^ 20 := Nat.or_lt_two_pow (by omega) (by omega)
  rw [e, x_of (by unfold i32; omega)]
  omega
