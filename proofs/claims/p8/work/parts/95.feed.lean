/-! LM, part 95: feed: both lay the same signs -/
theorem zand_255 {x : Int} (h : i32 x) : zand x 255 = x % 256 := by
  have h1 := x_of h
  have h2 : (Int32.ofInt x).toBitVec.toInt = x := h1
  have h4 := (Int32.ofInt x).toBitVec.isLt
  rw [BitVec.toInt_eq_toNat_cond] at h2
  have h3 : (Int32.ofInt x &&& Int32.ofInt 255).toBitVec.toNat = (Int32.ofInt x).toBitVec.toNat % 256 := by
    rw [Int32.toBitVec_and, BitVec.toNat_and]
    rw [show (Int32.ofInt 255).toBitVec.toNat = 2 ^ 8 - 1 by decide +kernel, Nat.and_two_pow_sub_one_eq_mod]
  unfold zand
  rw [small h3 (by omega)]
  unfold i32 at h
  split at h2 <;> omega
theorem l64 (a : Int) (h : i64 a) : (a = ((Int64.ofInt a).toBitVec.toNat : Int) ∨ a = ((Int64.ofInt a).toBitVec.toNat : Int) - 18446744073709551616) ∧ (Int64.ofInt a).toBitVec.toNat < 18446744073709551616 := by
  have h1 : (Int64.ofInt a).toBitVec.toInt = a := y_of h
  have h4 := (Int64.ofInt a).toBitVec.isLt
  rw [BitVec.toInt_eq_toNat_cond] at h1
  split at h1 <;> omega
theorem lsh_0 {a : Int} (h : i64 a) : lshr_ a 0 = a / 1 := by
  unfold lshr_
  have h2 : (Int64.ofInt a >>> ((Int32.ofInt 0).toInt64 &&& 63)).toInt = (Int64.ofInt a).toInt >>> (((Int32.ofInt 0).toInt64 &&& 63).toBitVec.smod 64).toNat := by
    show ((Int64.ofInt a).toBitVec.sshiftRight (((Int32.ofInt 0).toInt64 &&& 63).toBitVec.smod 64).toNat).toInt = _
    rw [BitVec.toInt_sshiftRight]
    rfl
  rw [h2, y_of h, Int.shiftRight_eq_div_pow, show (((Int32.ofInt 0).toInt64 &&& 63).toBitVec.smod 64).toNat = 0 by decide +kernel]
  rfl
theorem ush_0 {a : Int} : ∃ y : Int, lushr_ a 0 = y ∧ (y = (((Int64.ofInt a).toBitVec.toNat / 1 : Nat) : Int) ∨ y = (((Int64.ofInt a).toBitVec.toNat / 1 : Nat) : Int) - 18446744073709551616) := by
  refine ⟨_, rfl, ?_⟩
  unfold lushr_
  have h2 : (((Int64.ofInt a).toUInt64 >>> ((Int32.ofInt 0).toInt64.toUInt64 &&& Int64.toUInt64 63)).toInt64).toBitVec.toNat = (Int64.ofInt a).toBitVec.toNat / 1 := by
    show ((Int64.ofInt a).toBitVec >>> (((Int32.ofInt 0).toInt64.toUInt64 &&& Int64.toUInt64 63).toBitVec % 64)).toNat = _
    rw [show (((Int32.ofInt 0).toInt64.toUInt64 &&& Int64.toUInt64 63).toBitVec % 64) = 0#64 by decide +kernel]
    show ((Int64.ofInt a).toBitVec.toNat >>> 0) = _
    rw [Nat.shiftRight_eq_div_pow]
  show (((Int64.ofInt a).toUInt64 >>> ((Int32.ofInt 0).toInt64.toUInt64 &&& Int64.toUInt64 63)).toInt64).toBitVec.toInt = _ ∨ (((Int64.ofInt a).toUInt64 >>> ((Int32.ofInt 0).toInt64.toUInt64 &&& Int64.toUInt64 63)).toInt64).toBitVec.toInt = _
  rw [BitVec.toInt_eq_toNat_cond, h2]
  split
  · exact Or.inl rfl
  · exact Or.inr rfl
theorem byt_0 {a : Int} (h : i64 a) : zand (w32 (lshr_ a 0)) 255 = zand (w32 (lushr_ a 0)) 255 := by
  obtain ⟨y, y1, y2⟩ := ush_0 (a := a)
  obtain ⟨l1, l2⟩ := l64 a h
  rw [zand_255 (w32_in _), zand_255 (w32_in _), lsh_0 h, y1]
  generalize (Int64.ofInt a).toBitVec.toNat = n at *
  unfold w32
  omega
theorem lsh_8 {a : Int} (h : i64 a) : lshr_ a 8 = a / 256 := by
  unfold lshr_
  have h2 : (Int64.ofInt a >>> ((Int32.ofInt 8).toInt64 &&& 63)).toInt = (Int64.ofInt a).toInt >>> (((Int32.ofInt 8).toInt64 &&& 63).toBitVec.smod 64).toNat := by
    show ((Int64.ofInt a).toBitVec.sshiftRight (((Int32.ofInt 8).toInt64 &&& 63).toBitVec.smod 64).toNat).toInt = _
    rw [BitVec.toInt_sshiftRight]
    rfl
  rw [h2, y_of h, Int.shiftRight_eq_div_pow, show (((Int32.ofInt 8).toInt64 &&& 63).toBitVec.smod 64).toNat = 8 by decide +kernel]
  rfl
theorem ush_8 {a : Int} : ∃ y : Int, lushr_ a 8 = y ∧ (y = (((Int64.ofInt a).toBitVec.toNat / 256 : Nat) : Int) ∨ y = (((Int64.ofInt a).toBitVec.toNat / 256 : Nat) : Int) - 18446744073709551616) := by
  refine ⟨_, rfl, ?_⟩
  unfold lushr_
  have h2 : (((Int64.ofInt a).toUInt64 >>> ((Int32.ofInt 8).toInt64.toUInt64 &&& Int64.toUInt64 63)).toInt64).toBitVec.toNat = (Int64.ofInt a).toBitVec.toNat / 256 := by
    show ((Int64.ofInt a).toBitVec >>> (((Int32.ofInt 8).toInt64.toUInt64 &&& Int64.toUInt64 63).toBitVec % 64)).toNat = _
    rw [show (((Int32.ofInt 8).toInt64.toUInt64 &&& Int64.toUInt64 63).toBitVec % 64) = 8#64 by decide +kernel]
    show ((Int64.ofInt a).toBitVec.toNat >>> 8) = _
    rw [Nat.shiftRight_eq_div_pow]
  show (((Int64.ofInt a).toUInt64 >>> ((Int32.ofInt 8).toInt64.toUInt64 &&& Int64.toUInt64 63)).toInt64).toBitVec.toInt = _ ∨ (((Int64.ofInt a).toUInt64 >>> ((Int32.ofInt 8).toInt64.toUInt64 &&& Int64.toUInt64 63)).toInt64).toBitVec.toInt = _
  rw [BitVec.toInt_eq_toNat_cond, h2]
  split
  · exact Or.inl rfl
  · exact Or.inr rfl
theorem byt_8 {a : Int} (h : i64 a) : zand (w32 (lshr_ a 8)) 255 = zand (w32 (lushr_ a 8)) 255 := by
  obtain ⟨y, y1, y2⟩ := ush_8 (a := a)
  obtain ⟨l1, l2⟩ := l64 a h
  rw [zand_255 (w32_in _), zand_255 (w32_in _), lsh_8 h, y1]
  generalize (Int64.ofInt a).toBitVec.toNat = n at *
  unfold w32
  omega
theorem lsh_16 {a : Int} (h : i64 a) : lshr_ a 16 = a / 65536 := by
  unfold lshr_
  have h2 : (Int64.ofInt a >>> ((Int32.ofInt 16).toInt64 &&& 63)).toInt = (Int64.ofInt a).toInt >>> (((Int32.ofInt 16).toInt64 &&& 63).toBitVec.smod 64).toNat := by
    show ((Int64.ofInt a).toBitVec.sshiftRight (((Int32.ofInt 16).toInt64 &&& 63).toBitVec.smod 64).toNat).toInt = _
    rw [BitVec.toInt_sshiftRight]
    rfl
  rw [h2, y_of h, Int.shiftRight_eq_div_pow, show (((Int32.ofInt 16).toInt64 &&& 63).toBitVec.smod 64).toNat = 16 by decide +kernel]
  rfl
theorem ush_16 {a : Int} : ∃ y : Int, lushr_ a 16 = y ∧ (y = (((Int64.ofInt a).toBitVec.toNat / 65536 : Nat) : Int) ∨ y = (((Int64.ofInt a).toBitVec.toNat / 65536 : Nat) : Int) - 18446744073709551616) := by
  refine ⟨_, rfl, ?_⟩
  unfold lushr_
  have h2 : (((Int64.ofInt a).toUInt64 >>> ((Int32.ofInt 16).toInt64.toUInt64 &&& Int64.toUInt64 63)).toInt64).toBitVec.toNat = (Int64.ofInt a).toBitVec.toNat / 65536 := by
    show ((Int64.ofInt a).toBitVec >>> (((Int32.ofInt 16).toInt64.toUInt64 &&& Int64.toUInt64 63).toBitVec % 64)).toNat = _
    rw [show (((Int32.ofInt 16).toInt64.toUInt64 &&& Int64.toUInt64 63).toBitVec % 64) = 16#64 by decide +kernel]
    show ((Int64.ofInt a).toBitVec.toNat >>> 16) = _
    rw [Nat.shiftRight_eq_div_pow]
  show (((Int64.ofInt a).toUInt64 >>> ((Int32.ofInt 16).toInt64.toUInt64 &&& Int64.toUInt64 63)).toInt64).toBitVec.toInt = _ ∨ (((Int64.ofInt a).toUInt64 >>> ((Int32.ofInt 16).toInt64.toUInt64 &&& Int64.toUInt64 63)).toInt64).toBitVec.toInt = _
  rw [BitVec.toInt_eq_toNat_cond, h2]
  split
  · exact Or.inl rfl
  · exact Or.inr rfl
theorem byt_16 {a : Int} (h : i64 a) : zand (w32 (lshr_ a 16)) 255 = zand (w32 (lushr_ a 16)) 255 := by
  obtain ⟨y, y1, y2⟩ := ush_16 (a := a)
  obtain ⟨l1, l2⟩ := l64 a h
  rw [zand_255 (w32_in _), zand_255 (w32_in _), lsh_16 h, y1]
  generalize (Int64.ofInt a).toBitVec.toNat = n at *
  unfold w32
  omega
theorem lsh_24 {a : Int} (h : i64 a) : lshr_ a 24 = a / 16777216 := by
  unfold lshr_
  have h2 : (Int64.ofInt a >>> ((Int32.ofInt 24).toInt64 &&& 63)).toInt = (Int64.ofInt a).toInt >>> (((Int32.ofInt 24).toInt64 &&& 63).toBitVec.smod 64).toNat := by
    show ((Int64.ofInt a).toBitVec.sshiftRight (((Int32.ofInt 24).toInt64 &&& 63).toBitVec.smod 64).toNat).toInt = _
    rw [BitVec.toInt_sshiftRight]
    rfl
  rw [h2, y_of h, Int.shiftRight_eq_div_pow, show (((Int32.ofInt 24).toInt64 &&& 63).toBitVec.smod 64).toNat = 24 by decide +kernel]
  rfl
theorem ush_24 {a : Int} : ∃ y : Int, lushr_ a 24 = y ∧ (y = (((Int64.ofInt a).toBitVec.toNat / 16777216 : Nat) : Int) ∨ y = (((Int64.ofInt a).toBitVec.toNat / 16777216 : Nat) : Int) - 18446744073709551616) := by
  refine ⟨_, rfl, ?_⟩
  unfold lushr_
  have h2 : (((Int64.ofInt a).toUInt64 >>> ((Int32.ofInt 24).toInt64.toUInt64 &&& Int64.toUInt64 63)).toInt64).toBitVec.toNat = (Int64.ofInt a).toBitVec.toNat / 16777216 := by
    show ((Int64.ofInt a).toBitVec >>> (((Int32.ofInt 24).toInt64.toUInt64 &&& Int64.toUInt64 63).toBitVec % 64)).toNat = _
    rw [show (((Int32.ofInt 24).toInt64.toUInt64 &&& Int64.toUInt64 63).toBitVec % 64) = 24#64 by decide +kernel]
    show ((Int64.ofInt a).toBitVec.toNat >>> 24) = _
    rw [Nat.shiftRight_eq_div_pow]
  show (((Int64.ofInt a).toUInt64 >>> ((Int32.ofInt 24).toInt64.toUInt64 &&& Int64.toUInt64 63)).toInt64).toBitVec.toInt = _ ∨ (((Int64.ofInt a).toUInt64 >>> ((Int32.ofInt 24).toInt64.toUInt64 &&& Int64.toUInt64 63)).toInt64).toBitVec.toInt = _
  rw [BitVec.toInt_eq_toNat_cond, h2]
  split
  · exact Or.inl rfl
  · exact Or.inr rfl
theorem byt_24 {a : Int} (h : i64 a) : zand (w32 (lshr_ a 24)) 255 = zand (w32 (lushr_ a 24)) 255 := by
  obtain ⟨y, y1, y2⟩ := ush_24 (a := a)
  obtain ⟨l1, l2⟩ := l64 a h
  rw [zand_255 (w32_in _), zand_255 (w32_in _), lsh_24 h, y1]
  generalize (Int64.ofInt a).toBitVec.toNat = n at *
  unfold w32
  omega
theorem lsh_32 {a : Int} (h : i64 a) : lshr_ a 32 = a / 4294967296 := by
  unfold lshr_
  have h2 : (Int64.ofInt a >>> ((Int32.ofInt 32).toInt64 &&& 63)).toInt = (Int64.ofInt a).toInt >>> (((Int32.ofInt 32).toInt64 &&& 63).toBitVec.smod 64).toNat := by
    show ((Int64.ofInt a).toBitVec.sshiftRight (((Int32.ofInt 32).toInt64 &&& 63).toBitVec.smod 64).toNat).toInt = _
    rw [BitVec.toInt_sshiftRight]
    rfl
  rw [h2, y_of h, Int.shiftRight_eq_div_pow, show (((Int32.ofInt 32).toInt64 &&& 63).toBitVec.smod 64).toNat = 32 by decide +kernel]
  rfl
theorem ush_32 {a : Int} : ∃ y : Int, lushr_ a 32 = y ∧ (y = (((Int64.ofInt a).toBitVec.toNat / 4294967296 : Nat) : Int) ∨ y = (((Int64.ofInt a).toBitVec.toNat / 4294967296 : Nat) : Int) - 18446744073709551616) := by
  refine ⟨_, rfl, ?_⟩
  unfold lushr_
  have h2 : (((Int64.ofInt a).toUInt64 >>> ((Int32.ofInt 32).toInt64.toUInt64 &&& Int64.toUInt64 63)).toInt64).toBitVec.toNat = (Int64.ofInt a).toBitVec.toNat / 4294967296 := by
    show ((Int64.ofInt a).toBitVec >>> (((Int32.ofInt 32).toInt64.toUInt64 &&& Int64.toUInt64 63).toBitVec % 64)).toNat = _
    rw [show (((Int32.ofInt 32).toInt64.toUInt64 &&& Int64.toUInt64 63).toBitVec % 64) = 32#64 by decide +kernel]
    show ((Int64.ofInt a).toBitVec.toNat >>> 32) = _
    rw [Nat.shiftRight_eq_div_pow]
  show (((Int64.ofInt a).toUInt64 >>> ((Int32.ofInt 32).toInt64.toUInt64 &&& Int64.toUInt64 63)).toInt64).toBitVec.toInt = _ ∨ (((Int64.ofInt a).toUInt64 >>> ((Int32.ofInt 32).toInt64.toUInt64 &&& Int64.toUInt64 63)).toInt64).toBitVec.toInt = _
  rw [BitVec.toInt_eq_toNat_cond, h2]
  split
  · exact Or.inl rfl
  · exact Or.inr rfl
theorem byt_32 {a : Int} (h : i64 a) : zand (w32 (lshr_ a 32)) 255 = zand (w32 (lushr_ a 32)) 255 := by
  obtain ⟨y, y1, y2⟩ := ush_32 (a := a)
  obtain ⟨l1, l2⟩ := l64 a h
  rw [zand_255 (w32_in _), zand_255 (w32_in _), lsh_32 h, y1]
  generalize (Int64.ofInt a).toBitVec.toNat = n at *
  unfold w32
  omega
theorem lsh_40 {a : Int} (h : i64 a) : lshr_ a 40 = a / 1099511627776 := by
  unfold lshr_
  have h2 : (Int64.ofInt a >>> ((Int32.ofInt 40).toInt64 &&& 63)).toInt = (Int64.ofInt a).toInt >>> (((Int32.ofInt 40).toInt64 &&& 63).toBitVec.smod 64).toNat := by
    show ((Int64.ofInt a).toBitVec.sshiftRight (((Int32.ofInt 40).toInt64 &&& 63).toBitVec.smod 64).toNat).toInt = _
    rw [BitVec.toInt_sshiftRight]
    rfl
  rw [h2, y_of h, Int.shiftRight_eq_div_pow, show (((Int32.ofInt 40).toInt64 &&& 63).toBitVec.smod 64).toNat = 40 by decide +kernel]
  rfl
theorem ush_40 {a : Int} : ∃ y : Int, lushr_ a 40 = y ∧ (y = (((Int64.ofInt a).toBitVec.toNat / 1099511627776 : Nat) : Int) ∨ y = (((Int64.ofInt a).toBitVec.toNat / 1099511627776 : Nat) : Int) - 18446744073709551616) := by
  refine ⟨_, rfl, ?_⟩
  unfold lushr_
  have h2 : (((Int64.ofInt a).toUInt64 >>> ((Int32.ofInt 40).toInt64.toUInt64 &&& Int64.toUInt64 63)).toInt64).toBitVec.toNat = (Int64.ofInt a).toBitVec.toNat / 1099511627776 := by
    show ((Int64.ofInt a).toBitVec >>> (((Int32.ofInt 40).toInt64.toUInt64 &&& Int64.toUInt64 63).toBitVec % 64)).toNat = _
    rw [show (((Int32.ofInt 40).toInt64.toUInt64 &&& Int64.toUInt64 63).toBitVec % 64) = 40#64 by decide +kernel]
    show ((Int64.ofInt a).toBitVec.toNat >>> 40) = _
    rw [Nat.shiftRight_eq_div_pow]
  show (((Int64.ofInt a).toUInt64 >>> ((Int32.ofInt 40).toInt64.toUInt64 &&& Int64.toUInt64 63)).toInt64).toBitVec.toInt = _ ∨ (((Int64.ofInt a).toUInt64 >>> ((Int32.ofInt 40).toInt64.toUInt64 &&& Int64.toUInt64 63)).toInt64).toBitVec.toInt = _
  rw [BitVec.toInt_eq_toNat_cond, h2]
  split
  · exact Or.inl rfl
  · exact Or.inr rfl
theorem byt_40 {a : Int} (h : i64 a) : zand (w32 (lshr_ a 40)) 255 = zand (w32 (lushr_ a 40)) 255 := by
  obtain ⟨y, y1, y2⟩ := ush_40 (a := a)
  obtain ⟨l1, l2⟩ := l64 a h
  rw [zand_255 (w32_in _), zand_255 (w32_in _), lsh_40 h, y1]
  generalize (Int64.ofInt a).toBitVec.toNat = n at *
  unfold w32
  omega
theorem lsh_48 {a : Int} (h : i64 a) : lshr_ a 48 = a / 281474976710656 := by
  unfold lshr_
  have h2 : (Int64.ofInt a >>> ((Int32.ofInt 48).toInt64 &&& 63)).toInt = (Int64.ofInt a).toInt >>> (((Int32.ofInt 48).toInt64 &&& 63).toBitVec.smod 64).toNat := by
    show ((Int64.ofInt a).toBitVec.sshiftRight (((Int32.ofInt 48).toInt64 &&& 63).toBitVec.smod 64).toNat).toInt = _
    rw [BitVec.toInt_sshiftRight]
    rfl
  rw [h2, y_of h, Int.shiftRight_eq_div_pow, show (((Int32.ofInt 48).toInt64 &&& 63).toBitVec.smod 64).toNat = 48 by decide +kernel]
  rfl
theorem ush_48 {a : Int} : ∃ y : Int, lushr_ a 48 = y ∧ (y = (((Int64.ofInt a).toBitVec.toNat / 281474976710656 : Nat) : Int) ∨ y = (((Int64.ofInt a).toBitVec.toNat / 281474976710656 : Nat) : Int) - 18446744073709551616) := by
  refine ⟨_, rfl, ?_⟩
  unfold lushr_
  have h2 : (((Int64.ofInt a).toUInt64 >>> ((Int32.ofInt 48).toInt64.toUInt64 &&& Int64.toUInt64 63)).toInt64).toBitVec.toNat = (Int64.ofInt a).toBitVec.toNat / 281474976710656 := by
    show ((Int64.ofInt a).toBitVec >>> (((Int32.ofInt 48).toInt64.toUInt64 &&& Int64.toUInt64 63).toBitVec % 64)).toNat = _
    rw [show (((Int32.ofInt 48).toInt64.toUInt64 &&& Int64.toUInt64 63).toBitVec % 64) = 48#64 by decide +kernel]
    show ((Int64.ofInt a).toBitVec.toNat >>> 48) = _
    rw [Nat.shiftRight_eq_div_pow]
  show (((Int64.ofInt a).toUInt64 >>> ((Int32.ofInt 48).toInt64.toUInt64 &&& Int64.toUInt64 63)).toInt64).toBitVec.toInt = _ ∨ (((Int64.ofInt a).toUInt64 >>> ((Int32.ofInt 48).toInt64.toUInt64 &&& Int64.toUInt64 63)).toInt64).toBitVec.toInt = _
  rw [BitVec.toInt_eq_toNat_cond, h2]
  split
  · exact Or.inl rfl
  · exact Or.inr rfl
theorem byt_48 {a : Int} (h : i64 a) : zand (w32 (lshr_ a 48)) 255 = zand (w32 (lushr_ a 48)) 255 := by
  obtain ⟨y, y1, y2⟩ := ush_48 (a := a)
  obtain ⟨l1, l2⟩ := l64 a h
  rw [zand_255 (w32_in _), zand_255 (w32_in _), lsh_48 h, y1]
  generalize (Int64.ofInt a).toBitVec.toNat = n at *
  unfold w32
  omega
theorem lsh_56 {a : Int} (h : i64 a) : lshr_ a 56 = a / 72057594037927936 := by
  unfold lshr_
  have h2 : (Int64.ofInt a >>> ((Int32.ofInt 56).toInt64 &&& 63)).toInt = (Int64.ofInt a).toInt >>> (((Int32.ofInt 56).toInt64 &&& 63).toBitVec.smod 64).toNat := by
    show ((Int64.ofInt a).toBitVec.sshiftRight (((Int32.ofInt 56).toInt64 &&& 63).toBitVec.smod 64).toNat).toInt = _
    rw [BitVec.toInt_sshiftRight]
    rfl
  rw [h2, y_of h, Int.shiftRight_eq_div_pow, show (((Int32.ofInt 56).toInt64 &&& 63).toBitVec.smod 64).toNat = 56 by decide +kernel]
  rfl
theorem ush_56 {a : Int} : ∃ y : Int, lushr_ a 56 = y ∧ (y = (((Int64.ofInt a).toBitVec.toNat / 72057594037927936 : Nat) : Int) ∨ y = (((Int64.ofInt a).toBitVec.toNat / 72057594037927936 : Nat) : Int) - 18446744073709551616) := by
  refine ⟨_, rfl, ?_⟩
  unfold lushr_
  have h2 : (((Int64.ofInt a).toUInt64 >>> ((Int32.ofInt 56).toInt64.toUInt64 &&& Int64.toUInt64 63)).toInt64).toBitVec.toNat = (Int64.ofInt a).toBitVec.toNat / 72057594037927936 := by
    show ((Int64.ofInt a).toBitVec >>> (((Int32.ofInt 56).toInt64.toUInt64 &&& Int64.toUInt64 63).toBitVec % 64)).toNat = _
    rw [show (((Int32.ofInt 56).toInt64.toUInt64 &&& Int64.toUInt64 63).toBitVec % 64) = 56#64 by decide +kernel]
    show ((Int64.ofInt a).toBitVec.toNat >>> 56) = _
    rw [Nat.shiftRight_eq_div_pow]
  show (((Int64.ofInt a).toUInt64 >>> ((Int32.ofInt 56).toInt64.toUInt64 &&& Int64.toUInt64 63)).toInt64).toBitVec.toInt = _ ∨ (((Int64.ofInt a).toUInt64 >>> ((Int32.ofInt 56).toInt64.toUInt64 &&& Int64.toUInt64 63)).toInt64).toBitVec.toInt = _
  rw [BitVec.toInt_eq_toNat_cond, h2]
  split
  · exact Or.inl rfl
  · exact Or.inr rfl
theorem byt_56 {a : Int} (h : i64 a) : zand (w32 (lshr_ a 56)) 255 = zand (w32 (lushr_ a 56)) 255 := by
  obtain ⟨y, y1, y2⟩ := ush_56 (a := a)
  obtain ⟨l1, l2⟩ := l64 a h
  rw [zand_255 (w32_in _), zand_255 (w32_in _), lsh_56 h, y1]
  generalize (Int64.ofInt a).toBitVec.toNat = n at *
  unfold w32
  omega
theorem byt {a : Int} (h : i64 a) {j : Nat} (hj : j < 8) : zand (w32 (lshr_ a (8 * (j : Int)))) 255 = zand (w32 (lushr_ a (8 * (j : Int)))) 255 := by
  match j, hj with
  | 0, _ => exact byt_0 h
  | 1, _ => exact byt_8 h
  | 2, _ => exact byt_16 h
  | 3, _ => exact byt_24 h
  | 4, _ => exact byt_32 h
  | 5, _ => exact byt_40 h
  | 6, _ => exact byt_48 h
  | 7, _ => exact byt_56 h
  | j + 8, q => omega
/-- one sign more, if it counts -/
def sgn (c n : Int) : Int := if (c = 10 ∨ (32 ≤ c ∧ c ≤ 126)) ∧ n < 1000 then n + 1 else n
def fed : Nat → Int → Int → Int
  | 0, _, n => n
  | j + 1, v, n => fed j v (sgn (zand (w32 (lushr_ v (8 * (j : Int)))) 255) n)
section FE
variable {xs : Nat → Int} {xl e : Nat} {h : LH} {Q : Option LV → LH → Prop}
theorem L_put {v : Int} : ∀ (j : Nat) (o4 o5 : Option LV) (h : LH), j ≤ 8 → INV h → (∀ g, INV g → rd g 2 0 = fed j v (rd h 2 0) → (∀ a i, ¬ (a = 2 ∧ i = 0) → a ≠ 3 → rd g a i = rd h a i) → Q none g) → Rn xs xl e mm_Reader_putBytes 3 [some (.inr (.inr 2)), some (.inr (.inl v)), none, some (.inl (8 * (j : Int) - 8)), o4, o5] [] h Q := by
  intro j
  induction j with
  | zero =>
    intro o4 o5 h hj hI k
    exact B_Reader_putBytes_3 (RF_of hI.1) (by omega) ⟨fun _ => k h hI rfl (fun _ _ _ _ => rfl), fun z => absurd z (by omega)⟩
  | succ j ih =>
    intro o4 o5 h hj hI k
    rw [show 8 * ((j + 1 : Nat) : Int) - 8 = 8 * (j : Int) by omega]
    have n0 := rG_2_0 hI.1
    have cin := zand_r (a := w32 (lushr_ v (8 * (j : Int)))) (b := 255) (by decide) (by unfold i32; omega)
    have fe : fed (j + 1) v (rd h 2 0) = fed j v (sgn (zand (w32 (lushr_ v (8 * (j : Int)))) 255) (rd h 2 0)) := rfl
    rw [fe] at k
    have st : ∀ o4 o5 : Option LV, ¬ ((zand (w32 (lushr_ v (8 * (j : Int)))) 255 = 10 ∨ (32 ≤ zand (w32 (lushr_ v (8 * (j : Int)))) 255 ∧ zand (w32 (lushr_ v (8 * (j : Int)))) 255 ≤ 126)) ∧ rd h 2 0 < 1000) → Rn xs xl e mm_Reader_putBytes 82 [some (.inr (.inr 2)), some (.inr (.inl v)), none, some (.inl (8 * (j : Int))), o4, o5] [] h Q := by
      intro o4 o5 hn
      rw [show sgn (zand (w32 (lushr_ v (8 * (j : Int)))) 255) (rd h 2 0) = rd h 2 0 by unfold sgn; rw [if_neg hn]] at k
      exact B_Reader_putBytes_82 (RF_of hI.1) (by omega) (ih _ _ h (by omega) hI k)
    have up : ∀ (o4 o5 : Option LV) (z : Int), -128 ≤ z ∧ z ≤ 127 → ((zand (w32 (lushr_ v (8 * (j : Int)))) 255 = 10 ∨ (32 ≤ zand (w32 (lushr_ v (8 * (j : Int)))) 255 ∧ zand (w32 (lushr_ v (8 * (j : Int)))) 255 ≤ 126)) ∧ rd h 2 0 < 1000) → Rn xs xl e mm_Reader_putBytes 82 [some (.inr (.inr 2)), some (.inr (.inl v)), none, some (.inl (8 * (j : Int))), o4, o5] [] (wr (wr h 3 (rd h 2 0) z) 2 0 ((rd h 2 0) + 1)) Q := by
      intro o4 o5 z hz hp
      rw [show sgn (zand (w32 (lushr_ v (8 * (j : Int)))) 255) (rd h 2 0) = rd h 2 0 + 1 by unfold sgn; rw [if_pos hp]] at k
      have i2 := wG_2_0 (wB_3 hI (i := rd h 2 0) (v := z) hz.1 hz.2) (v := rd h 2 0 + 1) (by omega) (by omega)
      refine B_Reader_putBytes_82 (RF_of i2.1) (by omega) (ih _ _ _ (by omega) i2 (fun g gI ge gf => k g gI (by rw [ge, rdw_eq]) (fun a i n1 n2 => ?_)))
      rw [gf a i n1 n2, rd_wr, if_neg (fun q => n1 ⟨q.1.symm, q.2.symm⟩), rdw_ne (fun q => n2 q.symm)]
    generalize hc : zand (w32 (lushr_ v (8 * (j : Int)))) 255 = c at *
    have bb := i2b_in c
    refine B_Reader_putBytes_3 (RF_of hI.1) (by omega) ⟨fun z => absurd z (by omega), fun _ => ?_⟩
    rw [hc]
    exact ⟨fun z => ⟨fun z1 => st _ _ (by omega), fun z1 => ⟨by omega, by omega, up _ _ _ bb (by omega)⟩⟩, fun z => ⟨fun z1 => st _ _ (by omega), fun z1 => ⟨fun z2 => st _ _ (by omega), fun z2 => ⟨fun z3 => st _ _ (by omega), fun z3 => ⟨by omega, by omega, up _ _ _ bb (by omega)⟩⟩⟩⟩⟩
theorem L_lay {v : Int} (hv : i64 v) : ∀ (j : Nat) (o4 : Option LV) (h : LH), j ≤ 8 → INV h → (∀ g, INV g → rd g 182 2 = fed j v (rd h 182 2) → (∀ a i, ¬ (a = 182 ∧ i = 2) → a ≠ 183 → rd g a i = rd h a i) → Q none g) → Rn xs xl e mm_lay 3 [some (.inr (.inr 182)), some (.inr (.inl v)), none, some (.inl (8 * (j : Int) - 8)), o4] [] h Q := by
  intro j
  induction j with
  | zero =>
    intro o4 h hj hI k
    exact B_lay_3 (RF_of hI.1) (by omega) ⟨fun _ => k h hI rfl (fun _ _ _ _ => rfl), fun z => absurd z (by omega)⟩
  | succ j ih =>
    intro o4 h hj hI k
    rw [show 8 * ((j + 1 : Nat) : Int) - 8 = 8 * (j : Int) by omega]
    have n0 := rF_taped hI.1
    have cin := zand_r (a := w32 (lushr_ v (8 * (j : Int)))) (b := 255) (by decide) (by unfold i32; omega)
    have fe : fed (j + 1) v (rd h 182 2) = fed j v (sgn (zand (w32 (lushr_ v (8 * (j : Int)))) 255) (rd h 182 2)) := rfl
    rw [fe, ← byt hv (by omega)] at k
    rw [← byt hv (by omega)] at cin
    have st : ∀ o4 : Option LV, ¬ ((zand (w32 (lshr_ v (8 * (j : Int)))) 255 = 10 ∨ (32 ≤ zand (w32 (lshr_ v (8 * (j : Int)))) 255 ∧ zand (w32 (lshr_ v (8 * (j : Int)))) 255 ≤ 126)) ∧ rd h 182 2 < 1000) → Rn xs xl e mm_lay 69 [some (.inr (.inr 182)), some (.inr (.inl v)), none, some (.inl (8 * (j : Int))), o4] [] h Q := by
      intro o4 hn
      rw [show sgn (zand (w32 (lshr_ v (8 * (j : Int)))) 255) (rd h 182 2) = rd h 182 2 by unfold sgn; rw [if_neg hn]] at k
      exact B_lay_69 (RF_of hI.1) (by omega) (ih _ h (by omega) hI k)
    have up : ∀ (o4 : Option LV) (z : Int), 0 ≤ z ∧ z ≤ 126 → ((zand (w32 (lshr_ v (8 * (j : Int)))) 255 = 10 ∨ (32 ≤ zand (w32 (lshr_ v (8 * (j : Int)))) 255 ∧ zand (w32 (lshr_ v (8 * (j : Int)))) 255 ≤ 126)) ∧ rd h 182 2 < 1000) → Rn xs xl e mm_lay 69 [some (.inr (.inr 182)), some (.inr (.inl v)), none, some (.inl (8 * (j : Int))), o4] [] (wr (wr h 183 (rd h 182 2) z) 182 2 ((rd h 182 2) + 1)) Q := by
      intro o4 z hz hp
      rw [show sgn (zand (w32 (lshr_ v (8 * (j : Int)))) 255) (rd h 182 2) = rd h 182 2 + 1 by unfold sgn; rw [if_pos hp]] at k
      have i2 := wF_taped (wA_tape hI (i := rd h 182 2) (v := z) (by omega) hz.1 hz.2) (v := rd h 182 2 + 1) (by omega) (by omega)
      refine B_lay_69 (RF_of i2.1) (by omega) (ih _ _ (by omega) i2 (fun g gI ge gf => k g gI (by rw [ge, rdw_eq]) (fun a i n1 n2 => ?_)))
      rw [gf a i n1 n2, rd_wr, if_neg (fun q => n1 ⟨q.1.symm, q.2.symm⟩), rdw_ne (fun q => n2 q.symm)]
    generalize hc : zand (w32 (lshr_ v (8 * (j : Int)))) 255 = c at *
    refine B_lay_3 (RF_of hI.1) (by omega) ⟨fun z => absurd z (by omega), fun _ => ?_⟩
    rw [hc]
    exact ⟨fun z => ⟨fun z1 => st _ (by omega), fun z1 => ⟨by omega, by omega, up _ _ (by omega) (by omega)⟩⟩, fun z => ⟨fun z1 => st _ (by omega), fun z1 => ⟨fun z2 => st _ (by omega), fun z2 => ⟨fun z3 => st _ (by omega), fun z3 => ⟨by omega, by omega, up _ _ (by omega) (by omega)⟩⟩⟩⟩⟩
theorem D_put {v : Int} (hI : INV h) (k : ∀ g, INV g → rd g 2 0 = fed 8 v (rd h 2 0) → (∀ a i, ¬ (a = 2 ∧ i = 0) → a ≠ 3 → rd g a i = rd h a i) → Q none g) : Rn xs xl e mm_Reader_putBytes 0 [some (.inr (.inr 2)), some (.inr (.inl v)), none, none, none, none] [] h Q :=
  B_Reader_putBytes_0 (RF_of hI.1) (L_put 8 none none h (Nat.le_refl 8) hI k)
theorem D_lay {v : Int} (hv : i64 v) (hI : INV h) (k : ∀ g, INV g → rd g 182 2 = fed 8 v (rd h 182 2) → (∀ a i, ¬ (a = 182 ∧ i = 2) → a ≠ 183 → rd g a i = rd h a i) → Q none g) : Rn xs xl e mm_lay 0 [some (.inr (.inr 182)), some (.inr (.inl v)), none, none, none] [] h Q :=
  B_lay_0 (RF_of hI.1) (L_lay hv 8 none h (Nat.le_refl 8) hI k)
def fed3 (a b c n : Int) : Int := fed 8 c (fed 8 b (fed 8 a n))
theorem E_feed {a b c : Int} (he : 1 ≤ e) (hI : INV h) (k : ∀ g, INV g → rd g 2 0 = fed3 a b c (rd h 2 0) → (∀ x i, ¬ (x = 2 ∧ i = 0) → x ≠ 3 → rd g x i = rd h x i) → Q (some (.inl (fed3 a b c (rd h 2 0)))) g) : Rn xs xl e mm_OneSided_feed 0 [some (.inr (.inr 1)), some (.inr (.inl a)), none, some (.inr (.inl b)), none, some (.inr (.inl c)), none] [] h Q := by
  refine B_OneSided_feed_0 (RF_of hI.1) ⟨0, by omega, D_put hI (fun h1 i1 e1 f1 => ?_)⟩
  refine B_OneSided_feed_8 (RF_of i1.1) ⟨0, by omega, D_put i1 (fun h2 i2 e2 f2 => ?_)⟩
  refine B_OneSided_feed_16 (RF_of i2.1) ⟨0, by omega, D_put i2 (fun h3 i3 e3 f3 => ?_)⟩
  have ee : rd h3 2 0 = fed3 a b c (rd h 2 0) := by
    rw [e3, e2, e1]
    rfl
  refine B_OneSided_feed_25 (RF_of i3.1) ?_
  rw [ee]
  exact k h3 i3 ee (fun x i n1 n2 => (f3 x i n1 n2).trans ((f2 x i n1 n2).trans (f1 x i n1 n2)))
theorem D_feed {a b c : Int} (ha : i64 a) (hb : i64 b) (hc : i64 c) (he : 1 ≤ e) (hI : INV h) (k : ∀ g, INV g → rd g 182 2 = fed3 a b c (rd h 182 2) → (∀ x i, ¬ (x = 182 ∧ (i = 0 ∨ i = 2)) → x ≠ 183 → rd g x i = rd h x i) → Q (some (.inl (fed3 a b c (rd h 182 2)))) g) : Rn xs xl e mm_feed 0 [some (.inr (.inr 182)), some (.inr (.inl a)), none, some (.inr (.inl b)), none, some (.inr (.inl c)), none] [] h Q := by
  have i0 := wF_thrown hI (v := 0) (by omega) (by omega)
  refine B_feed_0 (RF_of hI.1) ⟨0, by omega, D_lay ha i0 (fun h1 i1 e1 f1 => ?_)⟩
  refine B_feed_10 (RF_of i1.1) ⟨0, by omega, D_lay hb i1 (fun h2 i2 e2 f2 => ?_)⟩
  refine B_feed_15 (RF_of i2.1) ⟨0, by omega, D_lay hc i2 (fun h3 i3 e3 f3 => ?_)⟩
  have ee : rd h3 182 2 = fed3 a b c (rd h 182 2) := by
    rw [e3, e2, e1, rdw_nei (by decide)]
    rfl
  refine B_feed_21 (RF_of i3.1) ?_
  rw [ee]
  refine k h3 i3 ee (fun x i n1 n2 => ?_)
  rw [f3 x i (by omega) n2, f2 x i (by omega) n2, f1 x i (by omega) n2, rd_wr, if_neg (by omega)]
end FE
