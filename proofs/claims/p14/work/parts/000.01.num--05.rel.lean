section
/-! LM, part 1: numbers. Whole numbers stand for the machine's ints and longs. -/
abbrev LV : Type := Int ⊕ Int ⊕ Int
def w32 (x : Int) : Int := (x + 2147483648) % 4294967296 - 2147483648
def w64 (x : Int) : Int := (x + 9223372036854775808) % 18446744073709551616 - 9223372036854775808
def i32 (x : Int) : Prop := -2147483648 ≤ x ∧ x ≤ 2147483647
def i64 (x : Int) : Prop := -9223372036854775808 ≤ x ∧ x ≤ 9223372036854775807
theorem w32_id {x : Int} (h : i32 x) : w32 x = x := by unfold i32 at h; unfold w32; omega
theorem w64_id {x : Int} (h : i64 x) : w64 x = x := by unfold i64 at h; unfold w64; omega
theorem w32_in (x : Int) : i32 (w32 x) := by unfold i32 w32; omega
theorem w64_in (x : Int) : i64 (w64 x) := by unfold i64 w64; omega
theorem bmod32 (x : Int) : x.bmod (2 ^ 32) = w32 x := by
  unfold w32
  rw [show (2 ^ 32 : Nat) = 4294967296 from rfl, Int.bmod_def]
  omega
theorem bmod64 (x : Int) : x.bmod (2 ^ 64) = w64 x := by
  unfold w64
  rw [show (2 ^ 64 : Nat) = 18446744073709551616 from rfl, Int.bmod_def]
  omega
theorem x_in (x : Int32) : i32 x.toInt := ⟨Int32.le_toInt x, by have := Int32.toInt_lt x; omega⟩
theorem y_in (x : Int64) : i64 x.toInt := ⟨Int64.le_toInt x, by have := Int64.toInt_lt x; omega⟩
theorem x_of {a : Int} (h : i32 a) : (Int32.ofInt a).toInt = a := Int32.toInt_ofInt_of_le h.1 (by have := h.2; omega)
theorem y_of {a : Int} (h : i64 a) : (Int64.ofInt a).toInt = a := Int64.toInt_ofInt_of_le h.1 (by have := h.2; omega)
theorem x_to (x : Int32) : Int32.ofInt x.toInt = x := Int32.ofInt_toInt x
theorem y_to (x : Int64) : Int64.ofInt x.toInt = x := Int64.ofInt_toInt x
theorem x_eq {x : Int32} {a : Int} (h : x.toInt = a) : x = Int32.ofInt a := by rw [← h, x_to]
theorem y_eq {x : Int64} {a : Int} (h : x.toInt = a) : x = Int64.ofInt a := by rw [← h, y_to]
-- the operations
def zand (a b : Int) : Int := (Int32.ofInt a &&& Int32.ofInt b).toInt
def zor (a b : Int) : Int := (Int32.ofInt a ||| Int32.ofInt b).toInt
def zxor (a b : Int) : Int := (Int32.ofInt a ^^^ Int32.ofInt b).toInt
def zshl (a b : Int) : Int := (Int32.ofInt a <<< (Int32.ofInt b &&& 31)).toInt
def zshr (a b : Int) : Int := (Int32.ofInt a >>> (Int32.ofInt b &&& 31)).toInt
def zushr (a b : Int) : Int := ((Int32.ofInt a).toUInt32 >>> ((Int32.ofInt b).toUInt32 &&& Int32.toUInt32 31)).toInt32.toInt
def land_ (a b : Int) : Int := (Int64.ofInt a &&& Int64.ofInt b).toInt
def lor_ (a b : Int) : Int := (Int64.ofInt a ||| Int64.ofInt b).toInt
def lshl_ (a b : Int) : Int := (Int64.ofInt a <<< ((Int32.ofInt b).toInt64 &&& 63)).toInt
def lshr_ (a b : Int) : Int := (Int64.ofInt a >>> ((Int32.ofInt b).toInt64 &&& 63)).toInt
def lushr_ (a b : Int) : Int := ((Int64.ofInt a).toUInt64 >>> ((Int32.ofInt b).toInt64.toUInt64 &&& Int64.toUInt64 63)).toInt64.toInt
def lcmp_ (a b : Int) : Int := if a < b then -1 else if a = b then 0 else 1
theorem o_add {a b : Int} (ha : i32 a) (hb : i32 b) : Int32.ofInt a + Int32.ofInt b = Int32.ofInt (w32 (a + b)) := x_eq (by rw [Int32.toInt_add, bmod32, x_of ha, x_of hb])
theorem o_sub {a b : Int} (ha : i32 a) (hb : i32 b) : Int32.ofInt a - Int32.ofInt b = Int32.ofInt (w32 (a - b)) := x_eq (by rw [Int32.toInt_sub, bmod32, x_of ha, x_of hb])
theorem o_mul {a b : Int} (ha : i32 a) (hb : i32 b) : Int32.ofInt a * Int32.ofInt b = Int32.ofInt (w32 (a * b)) := x_eq (by rw [Int32.toInt_mul, bmod32, x_of ha, x_of hb])
theorem o_div {a b : Int} (ha : i32 a) (hb : i32 b) : Int32.ofInt a / Int32.ofInt b = Int32.ofInt (w32 (a.tdiv b)) := x_eq (by rw [Int32.toInt_div, bmod32, x_of ha, x_of hb])
theorem o_neg {a : Int} (ha : i32 a) : - Int32.ofInt a = Int32.ofInt (w32 (-a)) := x_eq (by rw [Int32.toInt_neg, bmod32, x_of ha])
theorem p_add {a b : Int} (ha : i64 a) (hb : i64 b) : Int64.ofInt a + Int64.ofInt b = Int64.ofInt (w64 (a + b)) := y_eq (by rw [Int64.toInt_add, bmod64, y_of ha, y_of hb])
theorem p_sub {a b : Int} (ha : i64 a) (hb : i64 b) : Int64.ofInt a - Int64.ofInt b = Int64.ofInt (w64 (a - b)) := y_eq (by rw [Int64.toInt_sub, bmod64, y_of ha, y_of hb])
theorem p_mul {a b : Int} (ha : i64 a) (hb : i64 b) : Int64.ofInt a * Int64.ofInt b = Int64.ofInt (w64 (a * b)) := y_eq (by rw [Int64.toInt_mul, bmod64, y_of ha, y_of hb])
theorem p_div {a b : Int} (ha : i64 a) (hb : i64 b) : Int64.ofInt a / Int64.ofInt b = Int64.ofInt (w64 (a.tdiv b)) := y_eq (by rw [Int64.toInt_div, bmod64, y_of ha, y_of hb])
theorem o_lt {a b : Int} (ha : i32 a) (hb : i32 b) : Int32.ofInt a < Int32.ofInt b ↔ a < b := by rw [Int32.lt_iff_toInt_lt, x_of ha, x_of hb]
theorem o_le {a b : Int} (ha : i32 a) (hb : i32 b) : Int32.ofInt a ≤ Int32.ofInt b ↔ a ≤ b := by rw [Int32.le_iff_toInt_le, x_of ha, x_of hb]
theorem o_eq {a b : Int} (ha : i32 a) (hb : i32 b) : Int32.ofInt a = Int32.ofInt b ↔ a = b := by rw [← Int32.toInt_inj, x_of ha, x_of hb]
theorem p_lt {a b : Int} (ha : i64 a) (hb : i64 b) : Int64.ofInt a < Int64.ofInt b ↔ a < b := by rw [Int64.lt_iff_toInt_lt, y_of ha, y_of hb]
theorem p_eq {a b : Int} (ha : i64 a) (hb : i64 b) : Int64.ofInt a = Int64.ofInt b ↔ a = b := by rw [← Int64.toInt_inj, y_of ha, y_of hb]
theorem o_0 : (0 : Int32) = Int32.ofInt 0 := rfl
theorem p_0 : (0 : Int64) = Int64.ofInt 0 := rfl
theorem z32 : i32 0 := by unfold i32; omega
theorem z64 : i64 0 := by unfold i64; omega
theorem o_clamp {a : Int} (ha : i32 a) : (Int32.ofInt a).toNatClampNeg = a.toNat := by
  rw [← Int32.toNat_toInt, x_of ha]
theorem o_cmp {a b : Int} (ha : i64 a) (hb : i64 b) : lg_cmp (Int64.ofInt a) (Int64.ofInt b) = Int32.ofInt (lcmp_ a b) := by
  unfold lg_cmp lcmp_
  simp only [gt_iff_lt, p_lt ha hb, p_lt hb ha, p_eq ha hb]
  split <;> split <;> (try split) <;> (try rfl) <;> omega
theorem lcmp_in (a b : Int) : i32 (lcmp_ a b) := by unfold lcmp_ i32; omega
theorem o_i2l {a : Int} (ha : i32 a) : (Int32.ofInt a).toInt64 = Int64.ofInt a := y_eq (by rw [Int32.toInt_toInt64, x_of ha])
theorem o_l2i {a : Int} (ha : i64 a) : (Int64.ofInt a).toInt32 = Int32.ofInt (w32 a) := x_eq (by rw [Int64.toInt_toInt32, bmod32, y_of ha])
theorem i32_64 {a : Int} (h : i32 a) : i64 a := by unfold i32 at h; unfold i64; omega
end
section
-- ===== PART A: goes FIRST, ahead of the names: the tables' words, and 'selects' of the private methods out of them =====
/-- a private method of a class that the tables say can be made, by its rows of tables_1 -/
def lw_okq (q : MethodName × Nat) : Prop := (q.1.cls ≠ "java/lang/invoke/MethodHandle" ∧ q.1.cls ≠ "java/lang/invoke/VarHandle") ∧ Cond.instantiable q.1.cls q.2 ∈ tables_1 ∧ Cond.privateMethod q.1 ∈ tables_1 ∧ Cond.instanceMethod q.1 ∈ tables_1
theorem lw_p0 : lw_okq (⟨"OneSided$Reader", "begin", "()V"⟩, 9) := ⟨⟨by decide +kernel, by decide +kernel⟩, List.mem_of_getElem? (i := 31) (by decide +kernel), List.mem_of_getElem? (i := 589) (by decide +kernel), List.mem_of_getElem? (i := 590) (by decide +kernel)⟩
theorem lw_p1 : lw_okq (⟨"OneSided$Reader", "step", "()V"⟩, 9) := ⟨⟨by decide +kernel, by decide +kernel⟩, List.mem_of_getElem? (i := 31) (by decide +kernel), List.mem_of_getElem? (i := 593) (by decide +kernel), List.mem_of_getElem? (i := 594) (by decide +kernel)⟩
theorem lw_p2 : lw_okq (⟨"OneSided$Reader", "isLetter", "(I)Z"⟩, 9) := ⟨⟨by decide +kernel, by decide +kernel⟩, List.mem_of_getElem? (i := 31) (by decide +kernel), List.mem_of_getElem? (i := 597) (by decide +kernel), List.mem_of_getElem? (i := 598) (by decide +kernel)⟩
theorem lw_p3 : lw_okq (⟨"OneSided$Reader", "scanWord", "()V"⟩, 9) := ⟨⟨by decide +kernel, by decide +kernel⟩, List.mem_of_getElem? (i := 31) (by decide +kernel), List.mem_of_getElem? (i := 601) (by decide +kernel), List.mem_of_getElem? (i := 602) (by decide +kernel)⟩
theorem lw_p4 : lw_okq (⟨"OneSided$Reader", "isDigit", "(I)Z"⟩, 9) := ⟨⟨by decide +kernel, by decide +kernel⟩, List.mem_of_getElem? (i := 31) (by decide +kernel), List.mem_of_getElem? (i := 605) (by decide +kernel), List.mem_of_getElem? (i := 606) (by decide +kernel)⟩
theorem lw_p5 : lw_okq (⟨"OneSided$Reader", "scanNumber", "()V"⟩, 9) := ⟨⟨by decide +kernel, by decide +kernel⟩, List.mem_of_getElem? (i := 31) (by decide +kernel), List.mem_of_getElem? (i := 609) (by decide +kernel), List.mem_of_getElem? (i := 610) (by decide +kernel)⟩
theorem lw_p6 : lw_okq (⟨"OneSided$Reader", "takeWord", "(I)V"⟩, 9) := ⟨⟨by decide +kernel, by decide +kernel⟩, List.mem_of_getElem? (i := 31) (by decide +kernel), List.mem_of_getElem? (i := 622) (by decide +kernel), List.mem_of_getElem? (i := 623) (by decide +kernel)⟩
theorem lw_p7 : lw_okq (⟨"OneSided$Reader", "fail", "(I)V"⟩, 9) := ⟨⟨by decide +kernel, by decide +kernel⟩, List.mem_of_getElem? (i := 31) (by decide +kernel), List.mem_of_getElem? (i := 626) (by decide +kernel), List.mem_of_getElem? (i := 627) (by decide +kernel)⟩
theorem lw_p8 : lw_okq (⟨"OneSided$Reader", "takeNumber", "(II)I"⟩, 9) := ⟨⟨by decide +kernel, by decide +kernel⟩, List.mem_of_getElem? (i := 31) (by decide +kernel), List.mem_of_getElem? (i := 630) (by decide +kernel), List.mem_of_getElem? (i := 631) (by decide +kernel)⟩
theorem lw_p9 : lw_okq (⟨"OneSided$Reader", "takeSign", "(C)V"⟩, 9) := ⟨⟨by decide +kernel, by decide +kernel⟩, List.mem_of_getElem? (i := 31) (by decide +kernel), List.mem_of_getElem? (i := 634) (by decide +kernel), List.mem_of_getElem? (i := 635) (by decide +kernel)⟩
theorem lw_p10 : lw_okq (⟨"OneSided$Reader", "isSign", "(C)Z"⟩, 9) := ⟨⟨by decide +kernel, by decide +kernel⟩, List.mem_of_getElem? (i := 31) (by decide +kernel), List.mem_of_getElem? (i := 638) (by decide +kernel), List.mem_of_getElem? (i := 639) (by decide +kernel)⟩
theorem lw_p11 : lw_okq (⟨"OneSided$Reader", "doorLine", "(LOneSided$Quarter;)V"⟩, 9) := ⟨⟨by decide +kernel, by decide +kernel⟩, List.mem_of_getElem? (i := 31) (by decide +kernel), List.mem_of_getElem? (i := 642) (by decide +kernel), List.mem_of_getElem? (i := 643) (by decide +kernel)⟩
theorem lw_p12 : lw_okq (⟨"OneSided$Reader", "takeNewName", "(LOneSided$Quarter;)J"⟩, 9) := ⟨⟨by decide +kernel, by decide +kernel⟩, List.mem_of_getElem? (i := 31) (by decide +kernel), List.mem_of_getElem? (i := 646) (by decide +kernel), List.mem_of_getElem? (i := 647) (by decide +kernel)⟩
theorem lw_p13 : lw_okq (⟨"OneSided$Reader", "isName", "()Z"⟩, 9) := ⟨⟨by decide +kernel, by decide +kernel⟩, List.mem_of_getElem? (i := 31) (by decide +kernel), List.mem_of_getElem? (i := 650) (by decide +kernel), List.mem_of_getElem? (i := 651) (by decide +kernel)⟩
theorem lw_p14 : lw_okq (⟨"OneSided$Reader", "takeOtherRoom", "(II)I"⟩, 9) := ⟨⟨by decide +kernel, by decide +kernel⟩, List.mem_of_getElem? (i := 31) (by decide +kernel), List.mem_of_getElem? (i := 662) (by decide +kernel), List.mem_of_getElem? (i := 663) (by decide +kernel)⟩
theorem lw_p15 : lw_okq (⟨"OneSided$Reader", "takeOneOfFour", "(I)I"⟩, 9) := ⟨⟨by decide +kernel, by decide +kernel⟩, List.mem_of_getElem? (i := 31) (by decide +kernel), List.mem_of_getElem? (i := 666) (by decide +kernel), List.mem_of_getElem? (i := 667) (by decide +kernel)⟩
def lw_privs_1 : List (MethodName × Nat) := [(⟨"OneSided$Reader", "begin", "()V"⟩, 9), (⟨"OneSided$Reader", "step", "()V"⟩, 9), (⟨"OneSided$Reader", "isLetter", "(I)Z"⟩, 9), (⟨"OneSided$Reader", "scanWord", "()V"⟩, 9), (⟨"OneSided$Reader", "isDigit", "(I)Z"⟩, 9), (⟨"OneSided$Reader", "scanNumber", "()V"⟩, 9), (⟨"OneSided$Reader", "takeWord", "(I)V"⟩, 9), (⟨"OneSided$Reader", "fail", "(I)V"⟩, 9), (⟨"OneSided$Reader", "takeNumber", "(II)I"⟩, 9), (⟨"OneSided$Reader", "takeSign", "(C)V"⟩, 9), (⟨"OneSided$Reader", "isSign", "(C)Z"⟩, 9), (⟨"OneSided$Reader", "doorLine", "(LOneSided$Quarter;)V"⟩, 9), (⟨"OneSided$Reader", "takeNewName", "(LOneSided$Quarter;)J"⟩, 9), (⟨"OneSided$Reader", "isName", "()Z"⟩, 9), (⟨"OneSided$Reader", "takeOtherRoom", "(II)I"⟩, 9), (⟨"OneSided$Reader", "takeOneOfFour", "(I)I"⟩, 9)]
theorem lw_r1 : ∀ q ∈ lw_privs_1, lw_okq q := List.forall_mem_cons.mpr ⟨lw_p0, List.forall_mem_cons.mpr ⟨lw_p1, List.forall_mem_cons.mpr ⟨lw_p2, List.forall_mem_cons.mpr ⟨lw_p3, List.forall_mem_cons.mpr ⟨lw_p4, List.forall_mem_cons.mpr ⟨lw_p5, List.forall_mem_cons.mpr ⟨lw_p6, List.forall_mem_cons.mpr ⟨lw_p7, List.forall_mem_cons.mpr ⟨lw_p8, List.forall_mem_cons.mpr ⟨lw_p9, List.forall_mem_cons.mpr ⟨lw_p10, List.forall_mem_cons.mpr ⟨lw_p11, List.forall_mem_cons.mpr ⟨lw_p12, List.forall_mem_cons.mpr ⟨lw_p13, List.forall_mem_cons.mpr ⟨lw_p14, List.forall_mem_cons.mpr ⟨lw_p15, fun _ h => absurd h List.not_mem_nil⟩⟩⟩⟩⟩⟩⟩⟩⟩⟩⟩⟩⟩⟩⟩⟩
theorem lw_p16 : lw_okq (⟨"OneSided$Reader", "skipWord", "(I)Z"⟩, 9) := ⟨⟨by decide +kernel, by decide +kernel⟩, List.mem_of_getElem? (i := 31) (by decide +kernel), List.mem_of_getElem? (i := 670) (by decide +kernel), List.mem_of_getElem? (i := 671) (by decide +kernel)⟩
theorem lw_p17 : lw_okq (⟨"OneSided$Reader", "personLine", "(LOneSided$Quarter;)V"⟩, 9) := ⟨⟨by decide +kernel, by decide +kernel⟩, List.mem_of_getElem? (i := 31) (by decide +kernel), List.mem_of_getElem? (i := 674) (by decide +kernel), List.mem_of_getElem? (i := 675) (by decide +kernel)⟩
theorem lw_p18 : lw_okq (⟨"OneSided$Reader", "letLine", "(LOneSided$Quarter;)V"⟩, 9) := ⟨⟨by decide +kernel, by decide +kernel⟩, List.mem_of_getElem? (i := 31) (by decide +kernel), List.mem_of_getElem? (i := 678) (by decide +kernel), List.mem_of_getElem? (i := 679) (by decide +kernel)⟩
theorem lw_p19 : lw_okq (⟨"OneSided$Reader", "expression", "(LOneSided$Quarter;II)V"⟩, 9) := ⟨⟨by decide +kernel, by decide +kernel⟩, List.mem_of_getElem? (i := 31) (by decide +kernel), List.mem_of_getElem? (i := 682) (by decide +kernel), List.mem_of_getElem? (i := 683) (by decide +kernel)⟩
theorem lw_p20 : lw_okq (⟨"OneSided$Reader", "part", "(LOneSided$Quarter;I)V"⟩, 9) := ⟨⟨by decide +kernel, by decide +kernel⟩, List.mem_of_getElem? (i := 31) (by decide +kernel), List.mem_of_getElem? (i := 686) (by decide +kernel), List.mem_of_getElem? (i := 687) (by decide +kernel)⟩
theorem lw_p21 : lw_okq (⟨"OneSided$Reader", "operatorOf", "(I)I"⟩, 9) := ⟨⟨by decide +kernel, by decide +kernel⟩, List.mem_of_getElem? (i := 31) (by decide +kernel), List.mem_of_getElem? (i := 694) (by decide +kernel), List.mem_of_getElem? (i := 695) (by decide +kernel)⟩
theorem lw_p22 : lw_okq (⟨"OneSided$Quarter", "settleHour", "(II)V"⟩, 10) := ⟨⟨by decide +kernel, by decide +kernel⟩, List.mem_of_getElem? (i := 122) (by decide +kernel), List.mem_of_getElem? (i := 702) (by decide +kernel), List.mem_of_getElem? (i := 703) (by decide +kernel)⟩
theorem lw_p23 : lw_okq (⟨"OneSided$Quarter", "letsInto", "(LOneSided$Door;IIII)Z"⟩, 10) := ⟨⟨by decide +kernel, by decide +kernel⟩, List.mem_of_getElem? (i := 122) (by decide +kernel), List.mem_of_getElem? (i := 710) (by decide +kernel), List.mem_of_getElem? (i := 711) (by decide +kernel)⟩
theorem lw_p24 : lw_okq (⟨"OneSided$Quarter", "lawFor", "(IIII)I"⟩, 10) := ⟨⟨by decide +kernel, by decide +kernel⟩, List.mem_of_getElem? (i := 122) (by decide +kernel), List.mem_of_getElem? (i := 714) (by decide +kernel), List.mem_of_getElem? (i := 715) (by decide +kernel)⟩
theorem lw_p25 : lw_okq (⟨"OneSided$Reader", "dayLine", "(LOneSided$Quarter;LOneSided$Memory;)V"⟩, 9) := ⟨⟨by decide +kernel, by decide +kernel⟩, List.mem_of_getElem? (i := 31) (by decide +kernel), List.mem_of_getElem? (i := 743) (by decide +kernel), List.mem_of_getElem? (i := 744) (by decide +kernel)⟩
theorem lw_p26 : lw_okq (⟨"OneSided$Reader", "takeKnownName", "(I)I"⟩, 9) := ⟨⟨by decide +kernel, by decide +kernel⟩, List.mem_of_getElem? (i := 31) (by decide +kernel), List.mem_of_getElem? (i := 747) (by decide +kernel), List.mem_of_getElem? (i := 748) (by decide +kernel)⟩
theorem lw_p27 : lw_okq (⟨"OneSided", "isDoor", "(I)Z"⟩, 15) := ⟨⟨by decide +kernel, by decide +kernel⟩, List.mem_of_getElem? (i := 23) (by decide +kernel), List.mem_of_getElem? (i := 766) (by decide +kernel), List.mem_of_getElem? (i := 767) (by decide +kernel)⟩
theorem lw_p28 : lw_okq (⟨"OneSided", "isPerson", "(I)Z"⟩, 15) := ⟨⟨by decide +kernel, by decide +kernel⟩, List.mem_of_getElem? (i := 23) (by decide +kernel), List.mem_of_getElem? (i := 774) (by decide +kernel), List.mem_of_getElem? (i := 775) (by decide +kernel)⟩
theorem lw_p29 : lw_okq (⟨"OneSided", "isRoom", "(I)Z"⟩, 15) := ⟨⟨by decide +kernel, by decide +kernel⟩, List.mem_of_getElem? (i := 23) (by decide +kernel), List.mem_of_getElem? (i := 782) (by decide +kernel), List.mem_of_getElem? (i := 783) (by decide +kernel)⟩
theorem lw_p30 : lw_okq (⟨"OneSided", "isSortInHour", "(II)Z"⟩, 15) := ⟨⟨by decide +kernel, by decide +kernel⟩, List.mem_of_getElem? (i := 23) (by decide +kernel), List.mem_of_getElem? (i := 786) (by decide +kernel), List.mem_of_getElem? (i := 787) (by decide +kernel)⟩
theorem lw_p31 : lw_okq (⟨"OneSided", "keepForUndo", "(LOneSided$Scene;)V"⟩, 15) := ⟨⟨by decide +kernel, by decide +kernel⟩, List.mem_of_getElem? (i := 23) (by decide +kernel), List.mem_of_getElem? (i := 816) (by decide +kernel), List.mem_of_getElem? (i := 817) (by decide +kernel)⟩
def lw_privs_2 : List (MethodName × Nat) := [(⟨"OneSided$Reader", "skipWord", "(I)Z"⟩, 9), (⟨"OneSided$Reader", "personLine", "(LOneSided$Quarter;)V"⟩, 9), (⟨"OneSided$Reader", "letLine", "(LOneSided$Quarter;)V"⟩, 9), (⟨"OneSided$Reader", "expression", "(LOneSided$Quarter;II)V"⟩, 9), (⟨"OneSided$Reader", "part", "(LOneSided$Quarter;I)V"⟩, 9), (⟨"OneSided$Reader", "operatorOf", "(I)I"⟩, 9), (⟨"OneSided$Quarter", "settleHour", "(II)V"⟩, 10), (⟨"OneSided$Quarter", "letsInto", "(LOneSided$Door;IIII)Z"⟩, 10), (⟨"OneSided$Quarter", "lawFor", "(IIII)I"⟩, 10), (⟨"OneSided$Reader", "dayLine", "(LOneSided$Quarter;LOneSided$Memory;)V"⟩, 9), (⟨"OneSided$Reader", "takeKnownName", "(I)I"⟩, 9), (⟨"OneSided", "isDoor", "(I)Z"⟩, 15), (⟨"OneSided", "isPerson", "(I)Z"⟩, 15), (⟨"OneSided", "isRoom", "(I)Z"⟩, 15), (⟨"OneSided", "isSortInHour", "(II)Z"⟩, 15), (⟨"OneSided", "keepForUndo", "(LOneSided$Scene;)V"⟩, 15)]
theorem lw_r2 : ∀ q ∈ lw_privs_2, lw_okq q := List.forall_mem_cons.mpr ⟨lw_p16, List.forall_mem_cons.mpr ⟨lw_p17, List.forall_mem_cons.mpr ⟨lw_p18, List.forall_mem_cons.mpr ⟨lw_p19, List.forall_mem_cons.mpr ⟨lw_p20, List.forall_mem_cons.mpr ⟨lw_p21, List.forall_mem_cons.mpr ⟨lw_p22, List.forall_mem_cons.mpr ⟨lw_p23, List.forall_mem_cons.mpr ⟨lw_p24, List.forall_mem_cons.mpr ⟨lw_p25, List.forall_mem_cons.mpr ⟨lw_p26, List.forall_mem_cons.mpr ⟨lw_p27, List.forall_mem_cons.mpr ⟨lw_p28, List.forall_mem_cons.mpr ⟨lw_p29, List.forall_mem_cons.mpr ⟨lw_p30, List.forall_mem_cons.mpr ⟨lw_p31, fun _ h => absurd h List.not_mem_nil⟩⟩⟩⟩⟩⟩⟩⟩⟩⟩⟩⟩⟩⟩⟩⟩
theorem lw_p32 : lw_okq (⟨"OneSided$Plans", "fillNeed", "(LOneSided$Quarter;LOneSided$Person;III)V"⟩, 5) := ⟨⟨by decide +kernel, by decide +kernel⟩, List.mem_of_getElem? (i := 375) (by decide +kernel), List.mem_of_getElem? (i := 887) (by decide +kernel), List.mem_of_getElem? (i := 888) (by decide +kernel)⟩
theorem lw_p33 : lw_okq (⟨"OneSided$Plans", "lessenNeed", "(LOneSided$Person;III)V"⟩, 5) := ⟨⟨by decide +kernel, by decide +kernel⟩, List.mem_of_getElem? (i := 375) (by decide +kernel), List.mem_of_getElem? (i := 892) (by decide +kernel), List.mem_of_getElem? (i := 893) (by decide +kernel)⟩
theorem lw_p34 : lw_okq (⟨"OneSided$Plans", "nextDoor", "(LOneSided$Quarter;LOneSided$Person;II)I"⟩, 5) := ⟨⟨by decide +kernel, by decide +kernel⟩, List.mem_of_getElem? (i := 375) (by decide +kernel), List.mem_of_getElem? (i := 897) (by decide +kernel), List.mem_of_getElem? (i := 898) (by decide +kernel)⟩
theorem lw_p35 : lw_okq (⟨"OneSided$Plans", "hourThrough", "(LOneSided$Quarter;IIII)I"⟩, 5) := ⟨⟨by decide +kernel, by decide +kernel⟩, List.mem_of_getElem? (i := 375) (by decide +kernel), List.mem_of_getElem? (i := 901) (by decide +kernel), List.mem_of_getElem? (i := 902) (by decide +kernel)⟩
theorem lw_p36 : lw_okq (⟨"OneSided$Plans", "stateThrough", "(LOneSided$Quarter;II)I"⟩, 5) := ⟨⟨by decide +kernel, by decide +kernel⟩, List.mem_of_getElem? (i := 375) (by decide +kernel), List.mem_of_getElem? (i := 906) (by decide +kernel), List.mem_of_getElem? (i := 907) (by decide +kernel)⟩
theorem lw_p37 : lw_okq (⟨"OneSided", "ahead", "(II)I"⟩, 15) := ⟨⟨by decide +kernel, by decide +kernel⟩, List.mem_of_getElem? (i := 23) (by decide +kernel), List.mem_of_getElem? (i := 926) (by decide +kernel), List.mem_of_getElem? (i := 927) (by decide +kernel)⟩
theorem lw_p38 : lw_okq (⟨"OneSided", "back", "(II)I"⟩, 15) := ⟨⟨by decide +kernel, by decide +kernel⟩, List.mem_of_getElem? (i := 23) (by decide +kernel), List.mem_of_getElem? (i := 931) (by decide +kernel), List.mem_of_getElem? (i := 932) (by decide +kernel)⟩
theorem lw_p39 : lw_okq (⟨"OneSided$Crowd", "findPath", "(LOneSided$Quarter;III)Z"⟩, 8) := ⟨⟨by decide +kernel, by decide +kernel⟩, List.mem_of_getElem? (i := 415) (by decide +kernel), List.mem_of_getElem? (i := 993) (by decide +kernel), List.mem_of_getElem? (i := 994) (by decide +kernel)⟩
theorem lw_p40 : lw_okq (⟨"OneSided$Crowd", "visit", "(III)V"⟩, 8) := ⟨⟨by decide +kernel, by decide +kernel⟩, List.mem_of_getElem? (i := 415) (by decide +kernel), List.mem_of_getElem? (i := 997) (by decide +kernel), List.mem_of_getElem? (i := 998) (by decide +kernel)⟩
theorem lw_p41 : lw_okq (⟨"OneSided$Crowd", "goForward", "(LOneSided$Quarter;II)V"⟩, 8) := ⟨⟨by decide +kernel, by decide +kernel⟩, List.mem_of_getElem? (i := 415) (by decide +kernel), List.mem_of_getElem? (i := 1001) (by decide +kernel), List.mem_of_getElem? (i := 1002) (by decide +kernel)⟩
theorem lw_p42 : lw_okq (⟨"OneSided$Crowd", "goBack", "(LOneSided$Quarter;II)V"⟩, 8) := ⟨⟨by decide +kernel, by decide +kernel⟩, List.mem_of_getElem? (i := 415) (by decide +kernel), List.mem_of_getElem? (i := 1006) (by decide +kernel), List.mem_of_getElem? (i := 1007) (by decide +kernel)⟩
theorem lw_p43 : lw_okq (⟨"OneSided$Crowd", "narrowest", "(LOneSided$Quarter;II)I"⟩, 8) := ⟨⟨by decide +kernel, by decide +kernel⟩, List.mem_of_getElem? (i := 415) (by decide +kernel), List.mem_of_getElem? (i := 1010) (by decide +kernel), List.mem_of_getElem? (i := 1011) (by decide +kernel)⟩
theorem lw_p44 : lw_okq (⟨"OneSided$Crowd", "send", "(III)V"⟩, 8) := ⟨⟨by decide +kernel, by decide +kernel⟩, List.mem_of_getElem? (i := 415) (by decide +kernel), List.mem_of_getElem? (i := 1016) (by decide +kernel), List.mem_of_getElem? (i := 1017) (by decide +kernel)⟩
theorem lw_p45 : lw_okq (⟨"OneSided$Finder", "listArcs", "(LOneSided$Quarter;LOneSided$Scene;)V"⟩, 13) := ⟨⟨by decide +kernel, by decide +kernel⟩, List.mem_of_getElem? (i := 446) (by decide +kernel), List.mem_of_getElem? (i := 1037) (by decide +kernel), List.mem_of_getElem? (i := 1038) (by decide +kernel)⟩
theorem lw_p46 : lw_okq (⟨"OneSided$Finder", "grow", "(LOneSided$Memory;II)V"⟩, 13) := ⟨⟨by decide +kernel, by decide +kernel⟩, List.mem_of_getElem? (i := 446) (by decide +kernel), List.mem_of_getElem? (i := 1044) (by decide +kernel), List.mem_of_getElem? (i := 1045) (by decide +kernel)⟩
theorem lw_p47 : lw_okq (⟨"OneSided$Finder", "weigh", "(LOneSided$Memory;I)V"⟩, 13) := ⟨⟨by decide +kernel, by decide +kernel⟩, List.mem_of_getElem? (i := 446) (by decide +kernel), List.mem_of_getElem? (i := 1048) (by decide +kernel), List.mem_of_getElem? (i := 1049) (by decide +kernel)⟩
def lw_privs_3 : List (MethodName × Nat) := [(⟨"OneSided$Plans", "fillNeed", "(LOneSided$Quarter;LOneSided$Person;III)V"⟩, 5), (⟨"OneSided$Plans", "lessenNeed", "(LOneSided$Person;III)V"⟩, 5), (⟨"OneSided$Plans", "nextDoor", "(LOneSided$Quarter;LOneSided$Person;II)I"⟩, 5), (⟨"OneSided$Plans", "hourThrough", "(LOneSided$Quarter;IIII)I"⟩, 5), (⟨"OneSided$Plans", "stateThrough", "(LOneSided$Quarter;II)I"⟩, 5), (⟨"OneSided", "ahead", "(II)I"⟩, 15), (⟨"OneSided", "back", "(II)I"⟩, 15), (⟨"OneSided$Crowd", "findPath", "(LOneSided$Quarter;III)Z"⟩, 8), (⟨"OneSided$Crowd", "visit", "(III)V"⟩, 8), (⟨"OneSided$Crowd", "goForward", "(LOneSided$Quarter;II)V"⟩, 8), (⟨"OneSided$Crowd", "goBack", "(LOneSided$Quarter;II)V"⟩, 8), (⟨"OneSided$Crowd", "narrowest", "(LOneSided$Quarter;II)I"⟩, 8), (⟨"OneSided$Crowd", "send", "(III)V"⟩, 8), (⟨"OneSided$Finder", "listArcs", "(LOneSided$Quarter;LOneSided$Scene;)V"⟩, 13), (⟨"OneSided$Finder", "grow", "(LOneSided$Memory;II)V"⟩, 13), (⟨"OneSided$Finder", "weigh", "(LOneSided$Memory;I)V"⟩, 13)]
theorem lw_r3 : ∀ q ∈ lw_privs_3, lw_okq q := List.forall_mem_cons.mpr ⟨lw_p32, List.forall_mem_cons.mpr ⟨lw_p33, List.forall_mem_cons.mpr ⟨lw_p34, List.forall_mem_cons.mpr ⟨lw_p35, List.forall_mem_cons.mpr ⟨lw_p36, List.forall_mem_cons.mpr ⟨lw_p37, List.forall_mem_cons.mpr ⟨lw_p38, List.forall_mem_cons.mpr ⟨lw_p39, List.forall_mem_cons.mpr ⟨lw_p40, List.forall_mem_cons.mpr ⟨lw_p41, List.forall_mem_cons.mpr ⟨lw_p42, List.forall_mem_cons.mpr ⟨lw_p43, List.forall_mem_cons.mpr ⟨lw_p44, List.forall_mem_cons.mpr ⟨lw_p45, List.forall_mem_cons.mpr ⟨lw_p46, List.forall_mem_cons.mpr ⟨lw_p47, fun _ h => absurd h List.not_mem_nil⟩⟩⟩⟩⟩⟩⟩⟩⟩⟩⟩⟩⟩⟩⟩⟩
theorem lw_p48 : lw_okq (⟨"OneSided$Finder", "countComers", "(I)V"⟩, 13) := ⟨⟨by decide +kernel, by decide +kernel⟩, List.mem_of_getElem? (i := 446) (by decide +kernel), List.mem_of_getElem? (i := 1052) (by decide +kernel), List.mem_of_getElem? (i := 1053) (by decide +kernel)⟩
theorem lw_p49 : lw_okq (⟨"OneSided", "isHinge", "(I)Z"⟩, 15) := ⟨⟨by decide +kernel, by decide +kernel⟩, List.mem_of_getElem? (i := 23) (by decide +kernel), List.mem_of_getElem? (i := 1066) (by decide +kernel), List.mem_of_getElem? (i := 1067) (by decide +kernel)⟩
theorem lw_p50 : lw_okq (⟨"OneSided$Rents", "tryPrices", "(LOneSided$Quarter;LOneSided$Scene;II)V"⟩, 7) := ⟨⟨by decide +kernel, by decide +kernel⟩, List.mem_of_getElem? (i := 498) (by decide +kernel), List.mem_of_getElem? (i := 1074) (by decide +kernel), List.mem_of_getElem? (i := 1075) (by decide +kernel)⟩
theorem lw_p51 : lw_okq (⟨"OneSided$Rents", "takeRents", "(LOneSided$Quarter;LOneSided$Scene;I)V"⟩, 7) := ⟨⟨by decide +kernel, by decide +kernel⟩, List.mem_of_getElem? (i := 498) (by decide +kernel), List.mem_of_getElem? (i := 1079) (by decide +kernel), List.mem_of_getElem? (i := 1080) (by decide +kernel)⟩
theorem lw_p52 : lw_okq (⟨"OneSided$Rents", "doorsOf", "(LOneSided$Quarter;LOneSided$Scene;II)I"⟩, 7) := ⟨⟨by decide +kernel, by decide +kernel⟩, List.mem_of_getElem? (i := 498) (by decide +kernel), List.mem_of_getElem? (i := 1083) (by decide +kernel), List.mem_of_getElem? (i := 1084) (by decide +kernel)⟩
theorem lw_p53 : lw_okq (⟨"OneSided$Rents", "withHinges", "(IIII)I"⟩, 7) := ⟨⟨by decide +kernel, by decide +kernel⟩, List.mem_of_getElem? (i := 498) (by decide +kernel), List.mem_of_getElem? (i := 1089) (by decide +kernel), List.mem_of_getElem? (i := 1090) (by decide +kernel)⟩
theorem lw_p54 : lw_okq (⟨"OneSided$Rents", "fillBest", "(LOneSided$Quarter;III)V"⟩, 7) := ⟨⟨by decide +kernel, by decide +kernel⟩, List.mem_of_getElem? (i := 498) (by decide +kernel), List.mem_of_getElem? (i := 1093) (by decide +kernel), List.mem_of_getElem? (i := 1094) (by decide +kernel)⟩
theorem lw_p55 : lw_okq (⟨"OneSided$Rents", "cheapest", "(LOneSided$Quarter;IIII)I"⟩, 7) := ⟨⟨by decide +kernel, by decide +kernel⟩, List.mem_of_getElem? (i := 498) (by decide +kernel), List.mem_of_getElem? (i := 1099) (by decide +kernel), List.mem_of_getElem? (i := 1100) (by decide +kernel)⟩
theorem lw_p56 : lw_okq (⟨"OneSided$Rents", "isRest", "(I)Z"⟩, 7) := ⟨⟨by decide +kernel, by decide +kernel⟩, List.mem_of_getElem? (i := 498) (by decide +kernel), List.mem_of_getElem? (i := 1107) (by decide +kernel), List.mem_of_getElem? (i := 1108) (by decide +kernel)⟩
theorem lw_p57 : lw_okq (⟨"OneSided$Web", "growCaught", "(LOneSided$Quarter;II)Z"⟩, 3) := ⟨⟨by decide +kernel, by decide +kernel⟩, List.mem_of_getElem? (i := 399) (by decide +kernel), List.mem_of_getElem? (i := 1123) (by decide +kernel), List.mem_of_getElem? (i := 1124) (by decide +kernel)⟩
theorem lw_p58 : lw_okq (⟨"OneSided$Plans", "goOn", "(LOneSided$Quarter;LOneSided$Scene;I)V"⟩, 5) := ⟨⟨by decide +kernel, by decide +kernel⟩, List.mem_of_getElem? (i := 375) (by decide +kernel), List.mem_of_getElem? (i := 1135) (by decide +kernel), List.mem_of_getElem? (i := 1136) (by decide +kernel)⟩
theorem lw_p59 : lw_okq (⟨"OneSided$Plans", "doneInTime", "(LOneSided$Quarter;LOneSided$Scene;)I"⟩, 5) := ⟨⟨by decide +kernel, by decide +kernel⟩, List.mem_of_getElem? (i := 375) (by decide +kernel), List.mem_of_getElem? (i := 1171) (by decide +kernel), List.mem_of_getElem? (i := 1172) (by decide +kernel)⟩
theorem lw_p60 : lw_okq (⟨"OneSidedModel", "lay", "(J)V"⟩, 55) := ⟨⟨by decide +kernel, by decide +kernel⟩, List.mem_of_getElem? (i := 1195) (by decide +kernel), List.mem_of_getElem? (i := 1193) (by decide +kernel), List.mem_of_getElem? (i := 1194) (by decide +kernel)⟩
theorem lw_p61 : lw_okq (⟨"OneSidedModel", "standsAsAlways", "(I)V"⟩, 55) := ⟨⟨by decide +kernel, by decide +kernel⟩, List.mem_of_getElem? (i := 1195) (by decide +kernel), List.mem_of_getElem? (i := 1232) (by decide +kernel), List.mem_of_getElem? (i := 1233) (by decide +kernel)⟩
theorem lw_p62 : lw_okq (⟨"OneSidedModel", "begins", "()V"⟩, 55) := ⟨⟨by decide +kernel, by decide +kernel⟩, List.mem_of_getElem? (i := 1195) (by decide +kernel), List.mem_of_getElem? (i := 1236) (by decide +kernel), List.mem_of_getElem? (i := 1237) (by decide +kernel)⟩
theorem lw_p63 : lw_okq (⟨"OneSidedModel", "startsDay", "(I)V"⟩, 55) := ⟨⟨by decide +kernel, by decide +kernel⟩, List.mem_of_getElem? (i := 1195) (by decide +kernel), List.mem_of_getElem? (i := 1240) (by decide +kernel), List.mem_of_getElem? (i := 1241) (by decide +kernel)⟩
def lw_privs_4 : List (MethodName × Nat) := [(⟨"OneSided$Finder", "countComers", "(I)V"⟩, 13), (⟨"OneSided", "isHinge", "(I)Z"⟩, 15), (⟨"OneSided$Rents", "tryPrices", "(LOneSided$Quarter;LOneSided$Scene;II)V"⟩, 7), (⟨"OneSided$Rents", "takeRents", "(LOneSided$Quarter;LOneSided$Scene;I)V"⟩, 7), (⟨"OneSided$Rents", "doorsOf", "(LOneSided$Quarter;LOneSided$Scene;II)I"⟩, 7), (⟨"OneSided$Rents", "withHinges", "(IIII)I"⟩, 7), (⟨"OneSided$Rents", "fillBest", "(LOneSided$Quarter;III)V"⟩, 7), (⟨"OneSided$Rents", "cheapest", "(LOneSided$Quarter;IIII)I"⟩, 7), (⟨"OneSided$Rents", "isRest", "(I)Z"⟩, 7), (⟨"OneSided$Web", "growCaught", "(LOneSided$Quarter;II)Z"⟩, 3), (⟨"OneSided$Plans", "goOn", "(LOneSided$Quarter;LOneSided$Scene;I)V"⟩, 5), (⟨"OneSided$Plans", "doneInTime", "(LOneSided$Quarter;LOneSided$Scene;)I"⟩, 5), (⟨"OneSidedModel", "lay", "(J)V"⟩, 55), (⟨"OneSidedModel", "standsAsAlways", "(I)V"⟩, 55), (⟨"OneSidedModel", "begins", "()V"⟩, 55), (⟨"OneSidedModel", "startsDay", "(I)V"⟩, 55)]
theorem lw_r4 : ∀ q ∈ lw_privs_4, lw_okq q := List.forall_mem_cons.mpr ⟨lw_p48, List.forall_mem_cons.mpr ⟨lw_p49, List.forall_mem_cons.mpr ⟨lw_p50, List.forall_mem_cons.mpr ⟨lw_p51, List.forall_mem_cons.mpr ⟨lw_p52, List.forall_mem_cons.mpr ⟨lw_p53, List.forall_mem_cons.mpr ⟨lw_p54, List.forall_mem_cons.mpr ⟨lw_p55, List.forall_mem_cons.mpr ⟨lw_p56, List.forall_mem_cons.mpr ⟨lw_p57, List.forall_mem_cons.mpr ⟨lw_p58, List.forall_mem_cons.mpr ⟨lw_p59, List.forall_mem_cons.mpr ⟨lw_p60, List.forall_mem_cons.mpr ⟨lw_p61, List.forall_mem_cons.mpr ⟨lw_p62, List.forall_mem_cons.mpr ⟨lw_p63, fun _ h => absurd h List.not_mem_nil⟩⟩⟩⟩⟩⟩⟩⟩⟩⟩⟩⟩⟩⟩⟩⟩
theorem lw_p64 : lw_okq (⟨"OneSidedModel", "personOf", "(II)I"⟩, 55) := ⟨⟨by decide +kernel, by decide +kernel⟩, List.mem_of_getElem? (i := 1195) (by decide +kernel), List.mem_of_getElem? (i := 1244) (by decide +kernel), List.mem_of_getElem? (i := 1245) (by decide +kernel)⟩
theorem lw_p65 : lw_okq (⟨"OneSidedModel", "cutAll", "()V"⟩, 55) := ⟨⟨by decide +kernel, by decide +kernel⟩, List.mem_of_getElem? (i := 1195) (by decide +kernel), List.mem_of_getElem? (i := 1419) (by decide +kernel), List.mem_of_getElem? (i := 1420) (by decide +kernel)⟩
theorem lw_p66 : lw_okq (⟨"OneSidedModel", "takeWord", "(I)V"⟩, 55) := ⟨⟨by decide +kernel, by decide +kernel⟩, List.mem_of_getElem? (i := 1195) (by decide +kernel), List.mem_of_getElem? (i := 1438) (by decide +kernel), List.mem_of_getElem? (i := 1439) (by decide +kernel)⟩
theorem lw_p67 : lw_okq (⟨"OneSidedModel", "hasWord", "(I)Z"⟩, 55) := ⟨⟨by decide +kernel, by decide +kernel⟩, List.mem_of_getElem? (i := 1195) (by decide +kernel), List.mem_of_getElem? (i := 1442) (by decide +kernel), List.mem_of_getElem? (i := 1443) (by decide +kernel)⟩
theorem lw_p68 : lw_okq (⟨"OneSidedModel", "isWord", "(I)Z"⟩, 55) := ⟨⟨by decide +kernel, by decide +kernel⟩, List.mem_of_getElem? (i := 1195) (by decide +kernel), List.mem_of_getElem? (i := 1446) (by decide +kernel), List.mem_of_getElem? (i := 1447) (by decide +kernel)⟩
theorem lw_p69 : lw_okq (⟨"OneSidedModel", "wrong", "(I)V"⟩, 55) := ⟨⟨by decide +kernel, by decide +kernel⟩, List.mem_of_getElem? (i := 1195) (by decide +kernel), List.mem_of_getElem? (i := 1450) (by decide +kernel), List.mem_of_getElem? (i := 1451) (by decide +kernel)⟩
theorem lw_p70 : lw_okq (⟨"OneSidedModel", "takeNumber", "(II)I"⟩, 55) := ⟨⟨by decide +kernel, by decide +kernel⟩, List.mem_of_getElem? (i := 1195) (by decide +kernel), List.mem_of_getElem? (i := 1454) (by decide +kernel), List.mem_of_getElem? (i := 1455) (by decide +kernel)⟩
theorem lw_p71 : lw_okq (⟨"OneSidedModel", "takeSign", "(I)V"⟩, 55) := ⟨⟨by decide +kernel, by decide +kernel⟩, List.mem_of_getElem? (i := 1195) (by decide +kernel), List.mem_of_getElem? (i := 1458) (by decide +kernel), List.mem_of_getElem? (i := 1459) (by decide +kernel)⟩
theorem lw_p72 : lw_okq (⟨"OneSidedModel", "isSign", "(I)Z"⟩, 55) := ⟨⟨by decide +kernel, by decide +kernel⟩, List.mem_of_getElem? (i := 1195) (by decide +kernel), List.mem_of_getElem? (i := 1462) (by decide +kernel), List.mem_of_getElem? (i := 1463) (by decide +kernel)⟩
theorem lw_p73 : lw_okq (⟨"OneSidedModel", "readDoor", "()V"⟩, 55) := ⟨⟨by decide +kernel, by decide +kernel⟩, List.mem_of_getElem? (i := 1195) (by decide +kernel), List.mem_of_getElem? (i := 1466) (by decide +kernel), List.mem_of_getElem? (i := 1467) (by decide +kernel)⟩
theorem lw_p74 : lw_okq (⟨"OneSidedModel", "readName", "(I)V"⟩, 55) := ⟨⟨by decide +kernel, by decide +kernel⟩, List.mem_of_getElem? (i := 1195) (by decide +kernel), List.mem_of_getElem? (i := 1470) (by decide +kernel), List.mem_of_getElem? (i := 1471) (by decide +kernel)⟩
theorem lw_p75 : lw_okq (⟨"OneSidedModel", "isName", "()Z"⟩, 55) := ⟨⟨by decide +kernel, by decide +kernel⟩, List.mem_of_getElem? (i := 1195) (by decide +kernel), List.mem_of_getElem? (i := 1474) (by decide +kernel), List.mem_of_getElem? (i := 1475) (by decide +kernel)⟩
theorem lw_p76 : lw_okq (⟨"OneSidedModel", "wordHere", "(II)I"⟩, 55) := ⟨⟨by decide +kernel, by decide +kernel⟩, List.mem_of_getElem? (i := 1195) (by decide +kernel), List.mem_of_getElem? (i := 1478) (by decide +kernel), List.mem_of_getElem? (i := 1479) (by decide +kernel)⟩
theorem lw_p77 : lw_okq (⟨"OneSidedModel", "find", "(Z)I"⟩, 55) := ⟨⟨by decide +kernel, by decide +kernel⟩, List.mem_of_getElem? (i := 1195) (by decide +kernel), List.mem_of_getElem? (i := 1482) (by decide +kernel), List.mem_of_getElem? (i := 1483) (by decide +kernel)⟩
theorem lw_p78 : lw_okq (⟨"OneSidedModel", "takeRoom", "()I"⟩, 55) := ⟨⟨by decide +kernel, by decide +kernel⟩, List.mem_of_getElem? (i := 1195) (by decide +kernel), List.mem_of_getElem? (i := 1486) (by decide +kernel), List.mem_of_getElem? (i := 1487) (by decide +kernel)⟩
theorem lw_p79 : lw_okq (⟨"OneSidedModel", "takeAfter", "(III)I"⟩, 55) := ⟨⟨by decide +kernel, by decide +kernel⟩, List.mem_of_getElem? (i := 1195) (by decide +kernel), List.mem_of_getElem? (i := 1490) (by decide +kernel), List.mem_of_getElem? (i := 1491) (by decide +kernel)⟩
def lw_privs_5 : List (MethodName × Nat) := [(⟨"OneSidedModel", "personOf", "(II)I"⟩, 55), (⟨"OneSidedModel", "cutAll", "()V"⟩, 55), (⟨"OneSidedModel", "takeWord", "(I)V"⟩, 55), (⟨"OneSidedModel", "hasWord", "(I)Z"⟩, 55), (⟨"OneSidedModel", "isWord", "(I)Z"⟩, 55), (⟨"OneSidedModel", "wrong", "(I)V"⟩, 55), (⟨"OneSidedModel", "takeNumber", "(II)I"⟩, 55), (⟨"OneSidedModel", "takeSign", "(I)V"⟩, 55), (⟨"OneSidedModel", "isSign", "(I)Z"⟩, 55), (⟨"OneSidedModel", "readDoor", "()V"⟩, 55), (⟨"OneSidedModel", "readName", "(I)V"⟩, 55), (⟨"OneSidedModel", "isName", "()Z"⟩, 55), (⟨"OneSidedModel", "wordHere", "(II)I"⟩, 55), (⟨"OneSidedModel", "find", "(Z)I"⟩, 55), (⟨"OneSidedModel", "takeRoom", "()I"⟩, 55), (⟨"OneSidedModel", "takeAfter", "(III)I"⟩, 55)]
theorem lw_r5 : ∀ q ∈ lw_privs_5, lw_okq q := List.forall_mem_cons.mpr ⟨lw_p64, List.forall_mem_cons.mpr ⟨lw_p65, List.forall_mem_cons.mpr ⟨lw_p66, List.forall_mem_cons.mpr ⟨lw_p67, List.forall_mem_cons.mpr ⟨lw_p68, List.forall_mem_cons.mpr ⟨lw_p69, List.forall_mem_cons.mpr ⟨lw_p70, List.forall_mem_cons.mpr ⟨lw_p71, List.forall_mem_cons.mpr ⟨lw_p72, List.forall_mem_cons.mpr ⟨lw_p73, List.forall_mem_cons.mpr ⟨lw_p74, List.forall_mem_cons.mpr ⟨lw_p75, List.forall_mem_cons.mpr ⟨lw_p76, List.forall_mem_cons.mpr ⟨lw_p77, List.forall_mem_cons.mpr ⟨lw_p78, List.forall_mem_cons.mpr ⟨lw_p79, fun _ h => absurd h List.not_mem_nil⟩⟩⟩⟩⟩⟩⟩⟩⟩⟩⟩⟩⟩⟩⟩⟩
theorem lw_p80 : lw_okq (⟨"OneSidedModel", "takeSort", "()I"⟩, 55) := ⟨⟨by decide +kernel, by decide +kernel⟩, List.mem_of_getElem? (i := 1195) (by decide +kernel), List.mem_of_getElem? (i := 1494) (by decide +kernel), List.mem_of_getElem? (i := 1495) (by decide +kernel)⟩
theorem lw_p81 : lw_okq (⟨"OneSidedModel", "readPerson", "()V"⟩, 55) := ⟨⟨by decide +kernel, by decide +kernel⟩, List.mem_of_getElem? (i := 1195) (by decide +kernel), List.mem_of_getElem? (i := 1498) (by decide +kernel), List.mem_of_getElem? (i := 1499) (by decide +kernel)⟩
theorem lw_p82 : lw_okq (⟨"OneSidedModel", "readLet", "()V"⟩, 55) := ⟨⟨by decide +kernel, by decide +kernel⟩, List.mem_of_getElem? (i := 1195) (by decide +kernel), List.mem_of_getElem? (i := 1502) (by decide +kernel), List.mem_of_getElem? (i := 1503) (by decide +kernel)⟩
theorem lw_p83 : lw_okq (⟨"OneSidedModel", "all", "(I)V"⟩, 55) := ⟨⟨by decide +kernel, by decide +kernel⟩, List.mem_of_getElem? (i := 1195) (by decide +kernel), List.mem_of_getElem? (i := 1506) (by decide +kernel), List.mem_of_getElem? (i := 1507) (by decide +kernel)⟩
theorem lw_p84 : lw_okq (⟨"OneSidedModel", "test", "(I)V"⟩, 55) := ⟨⟨by decide +kernel, by decide +kernel⟩, List.mem_of_getElem? (i := 1195) (by decide +kernel), List.mem_of_getElem? (i := 1510) (by decide +kernel), List.mem_of_getElem? (i := 1511) (by decide +kernel)⟩
theorem lw_p85 : lw_okq (⟨"OneSidedModel", "sums", "(I)V"⟩, 55) := ⟨⟨by decide +kernel, by decide +kernel⟩, List.mem_of_getElem? (i := 1195) (by decide +kernel), List.mem_of_getElem? (i := 1514) (by decide +kernel), List.mem_of_getElem? (i := 1515) (by decide +kernel)⟩
theorem lw_p86 : lw_okq (⟨"OneSidedModel", "products", "(I)V"⟩, 55) := ⟨⟨by decide +kernel, by decide +kernel⟩, List.mem_of_getElem? (i := 1195) (by decide +kernel), List.mem_of_getElem? (i := 1518) (by decide +kernel), List.mem_of_getElem? (i := 1519) (by decide +kernel)⟩
theorem lw_p87 : lw_okq (⟨"OneSidedModel", "takePart", "(I)V"⟩, 55) := ⟨⟨by decide +kernel, by decide +kernel⟩, List.mem_of_getElem? (i := 1195) (by decide +kernel), List.mem_of_getElem? (i := 1522) (by decide +kernel), List.mem_of_getElem? (i := 1523) (by decide +kernel)⟩
theorem lw_p88 : lw_okq (⟨"OneSidedModel", "emit", "(II)V"⟩, 55) := ⟨⟨by decide +kernel, by decide +kernel⟩, List.mem_of_getElem? (i := 1195) (by decide +kernel), List.mem_of_getElem? (i := 1526) (by decide +kernel), List.mem_of_getElem? (i := 1527) (by decide +kernel)⟩
theorem lw_p89 : lw_okq (⟨"OneSidedModel", "hasSign", "(I)Z"⟩, 55) := ⟨⟨by decide +kernel, by decide +kernel⟩, List.mem_of_getElem? (i := 1195) (by decide +kernel), List.mem_of_getElem? (i := 1530) (by decide +kernel), List.mem_of_getElem? (i := 1531) (by decide +kernel)⟩
theorem lw_p90 : lw_okq (⟨"OneSidedModel", "readTurn", "()V"⟩, 55) := ⟨⟨by decide +kernel, by decide +kernel⟩, List.mem_of_getElem? (i := 1195) (by decide +kernel), List.mem_of_getElem? (i := 1538) (by decide +kernel), List.mem_of_getElem? (i := 1539) (by decide +kernel)⟩
theorem lw_p91 : lw_okq (⟨"OneSidedModel", "takeTold", "(II)I"⟩, 55) := ⟨⟨by decide +kernel, by decide +kernel⟩, List.mem_of_getElem? (i := 1195) (by decide +kernel), List.mem_of_getElem? (i := 1542) (by decide +kernel), List.mem_of_getElem? (i := 1543) (by decide +kernel)⟩
theorem lw_p92 : lw_okq (⟨"OneSidedModel", "isDoor", "(I)Z"⟩, 55) := ⟨⟨by decide +kernel, by decide +kernel⟩, List.mem_of_getElem? (i := 1195) (by decide +kernel), List.mem_of_getElem? (i := 1553) (by decide +kernel), List.mem_of_getElem? (i := 1554) (by decide +kernel)⟩
theorem lw_p93 : lw_okq (⟨"OneSidedModel", "doors", "()I"⟩, 55) := ⟨⟨by decide +kernel, by decide +kernel⟩, List.mem_of_getElem? (i := 1195) (by decide +kernel), List.mem_of_getElem? (i := 1557) (by decide +kernel), List.mem_of_getElem? (i := 1558) (by decide +kernel)⟩
theorem lw_p94 : lw_okq (⟨"OneSidedModel", "doorOf", "(II)I"⟩, 55) := ⟨⟨by decide +kernel, by decide +kernel⟩, List.mem_of_getElem? (i := 1195) (by decide +kernel), List.mem_of_getElem? (i := 1561) (by decide +kernel), List.mem_of_getElem? (i := 1562) (by decide +kernel)⟩
theorem lw_p95 : lw_okq (⟨"OneSidedModel", "isPerson", "(I)Z"⟩, 55) := ⟨⟨by decide +kernel, by decide +kernel⟩, List.mem_of_getElem? (i := 1195) (by decide +kernel), List.mem_of_getElem? (i := 1569) (by decide +kernel), List.mem_of_getElem? (i := 1570) (by decide +kernel)⟩
def lw_privs_6 : List (MethodName × Nat) := [(⟨"OneSidedModel", "takeSort", "()I"⟩, 55), (⟨"OneSidedModel", "readPerson", "()V"⟩, 55), (⟨"OneSidedModel", "readLet", "()V"⟩, 55), (⟨"OneSidedModel", "all", "(I)V"⟩, 55), (⟨"OneSidedModel", "test", "(I)V"⟩, 55), (⟨"OneSidedModel", "sums", "(I)V"⟩, 55), (⟨"OneSidedModel", "products", "(I)V"⟩, 55), (⟨"OneSidedModel", "takePart", "(I)V"⟩, 55), (⟨"OneSidedModel", "emit", "(II)V"⟩, 55), (⟨"OneSidedModel", "hasSign", "(I)Z"⟩, 55), (⟨"OneSidedModel", "readTurn", "()V"⟩, 55), (⟨"OneSidedModel", "takeTold", "(II)I"⟩, 55), (⟨"OneSidedModel", "isDoor", "(I)Z"⟩, 55), (⟨"OneSidedModel", "doors", "()I"⟩, 55), (⟨"OneSidedModel", "doorOf", "(II)I"⟩, 55), (⟨"OneSidedModel", "isPerson", "(I)Z"⟩, 55)]
theorem lw_r6 : ∀ q ∈ lw_privs_6, lw_okq q := List.forall_mem_cons.mpr ⟨lw_p80, List.forall_mem_cons.mpr ⟨lw_p81, List.forall_mem_cons.mpr ⟨lw_p82, List.forall_mem_cons.mpr ⟨lw_p83, List.forall_mem_cons.mpr ⟨lw_p84, List.forall_mem_cons.mpr ⟨lw_p85, List.forall_mem_cons.mpr ⟨lw_p86, List.forall_mem_cons.mpr ⟨lw_p87, List.forall_mem_cons.mpr ⟨lw_p88, List.forall_mem_cons.mpr ⟨lw_p89, List.forall_mem_cons.mpr ⟨lw_p90, List.forall_mem_cons.mpr ⟨lw_p91, List.forall_mem_cons.mpr ⟨lw_p92, List.forall_mem_cons.mpr ⟨lw_p93, List.forall_mem_cons.mpr ⟨lw_p94, List.forall_mem_cons.mpr ⟨lw_p95, fun _ h => absurd h List.not_mem_nil⟩⟩⟩⟩⟩⟩⟩⟩⟩⟩⟩⟩⟩⟩⟩⟩
theorem lw_p96 : lw_okq (⟨"OneSidedModel", "people", "()I"⟩, 55) := ⟨⟨by decide +kernel, by decide +kernel⟩, List.mem_of_getElem? (i := 1195) (by decide +kernel), List.mem_of_getElem? (i := 1573) (by decide +kernel), List.mem_of_getElem? (i := 1574) (by decide +kernel)⟩
theorem lw_p97 : lw_okq (⟨"OneSidedModel", "isRoom", "(I)Z"⟩, 55) := ⟨⟨by decide +kernel, by decide +kernel⟩, List.mem_of_getElem? (i := 1195) (by decide +kernel), List.mem_of_getElem? (i := 1581) (by decide +kernel), List.mem_of_getElem? (i := 1582) (by decide +kernel)⟩
theorem lw_p98 : lw_okq (⟨"OneSidedModel", "rooms", "()I"⟩, 55) := ⟨⟨by decide +kernel, by decide +kernel⟩, List.mem_of_getElem? (i := 1195) (by decide +kernel), List.mem_of_getElem? (i := 1585) (by decide +kernel), List.mem_of_getElem? (i := 1586) (by decide +kernel)⟩
theorem lw_p99 : lw_okq (⟨"OneSidedModel", "leadsNow", "(IIIII)I"⟩, 55) := ⟨⟨by decide +kernel, by decide +kernel⟩, List.mem_of_getElem? (i := 1195) (by decide +kernel), List.mem_of_getElem? (i := 1589) (by decide +kernel), List.mem_of_getElem? (i := 1590) (by decide +kernel)⟩
theorem lw_p100 : lw_okq (⟨"OneSidedModel", "leadsTo", "(IIIIII)I"⟩, 55) := ⟨⟨by decide +kernel, by decide +kernel⟩, List.mem_of_getElem? (i := 1195) (by decide +kernel), List.mem_of_getElem? (i := 1593) (by decide +kernel), List.mem_of_getElem? (i := 1594) (by decide +kernel)⟩
theorem lw_p101 : lw_okq (⟨"OneSidedModel", "priceOf", "(I)I"⟩, 55) := ⟨⟨by decide +kernel, by decide +kernel⟩, List.mem_of_getElem? (i := 1195) (by decide +kernel), List.mem_of_getElem? (i := 1600) (by decide +kernel), List.mem_of_getElem? (i := 1601) (by decide +kernel)⟩
theorem lw_p102 : lw_okq (⟨"OneSidedModel", "worthAt", "(I)I"⟩, 55) := ⟨⟨by decide +kernel, by decide +kernel⟩, List.mem_of_getElem? (i := 1195) (by decide +kernel), List.mem_of_getElem? (i := 1604) (by decide +kernel), List.mem_of_getElem? (i := 1605) (by decide +kernel)⟩
theorem lw_p103 : lw_okq (⟨"OneSidedModel", "copies", "(III)V"⟩, 55) := ⟨⟨by decide +kernel, by decide +kernel⟩, List.mem_of_getElem? (i := 1195) (by decide +kernel), List.mem_of_getElem? (i := 1615) (by decide +kernel), List.mem_of_getElem? (i := 1616) (by decide +kernel)⟩
theorem lw_p104 : lw_okq (⟨"OneSidedModel", "goes", "(III)I"⟩, 55) := ⟨⟨by decide +kernel, by decide +kernel⟩, List.mem_of_getElem? (i := 1195) (by decide +kernel), List.mem_of_getElem? (i := 1619) (by decide +kernel), List.mem_of_getElem? (i := 1620) (by decide +kernel)⟩
theorem lw_p105 : lw_okq (⟨"OneSidedModel", "keeps", "()V"⟩, 55) := ⟨⟨by decide +kernel, by decide +kernel⟩, List.mem_of_getElem? (i := 1195) (by decide +kernel), List.mem_of_getElem? (i := 1623) (by decide +kernel), List.mem_of_getElem? (i := 1624) (by decide +kernel)⟩
theorem lw_p106 : lw_okq (⟨"OneSidedModel", "passes", "(I)V"⟩, 55) := ⟨⟨by decide +kernel, by decide +kernel⟩, List.mem_of_getElem? (i := 1195) (by decide +kernel), List.mem_of_getElem? (i := 1631) (by decide +kernel), List.mem_of_getElem? (i := 1632) (by decide +kernel)⟩
theorem lw_p107 : lw_okq (⟨"OneSidedModel", "firstHour", "(III)I"⟩, 55) := ⟨⟨by decide +kernel, by decide +kernel⟩, List.mem_of_getElem? (i := 1195) (by decide +kernel), List.mem_of_getElem? (i := 1651) (by decide +kernel), List.mem_of_getElem? (i := 1652) (by decide +kernel)⟩
theorem lw_p108 : lw_okq (⟨"OneSidedModel", "startOf", "(II)I"⟩, 55) := ⟨⟨by decide +kernel, by decide +kernel⟩, List.mem_of_getElem? (i := 1195) (by decide +kernel), List.mem_of_getElem? (i := 1655) (by decide +kernel), List.mem_of_getElem? (i := 1656) (by decide +kernel)⟩
theorem lw_p109 : lw_okq (⟨"OneSidedModel", "stepOf", "(IIII)I"⟩, 55) := ⟨⟨by decide +kernel, by decide +kernel⟩, List.mem_of_getElem? (i := 1195) (by decide +kernel), List.mem_of_getElem? (i := 1659) (by decide +kernel), List.mem_of_getElem? (i := 1660) (by decide +kernel)⟩
theorem lw_p110 : lw_okq (⟨"OneSidedModel", "findWay", "(II)I"⟩, 55) := ⟨⟨by decide +kernel, by decide +kernel⟩, List.mem_of_getElem? (i := 1195) (by decide +kernel), List.mem_of_getElem? (i := 1667) (by decide +kernel), List.mem_of_getElem? (i := 1668) (by decide +kernel)⟩
theorem lw_p111 : lw_okq (⟨"OneSidedModel", "errandHour", "(II)I"⟩, 55) := ⟨⟨by decide +kernel, by decide +kernel⟩, List.mem_of_getElem? (i := 1195) (by decide +kernel), List.mem_of_getElem? (i := 1671) (by decide +kernel), List.mem_of_getElem? (i := 1672) (by decide +kernel)⟩
def lw_privs_7 : List (MethodName × Nat) := [(⟨"OneSidedModel", "people", "()I"⟩, 55), (⟨"OneSidedModel", "isRoom", "(I)Z"⟩, 55), (⟨"OneSidedModel", "rooms", "()I"⟩, 55), (⟨"OneSidedModel", "leadsNow", "(IIIII)I"⟩, 55), (⟨"OneSidedModel", "leadsTo", "(IIIIII)I"⟩, 55), (⟨"OneSidedModel", "priceOf", "(I)I"⟩, 55), (⟨"OneSidedModel", "worthAt", "(I)I"⟩, 55), (⟨"OneSidedModel", "copies", "(III)V"⟩, 55), (⟨"OneSidedModel", "goes", "(III)I"⟩, 55), (⟨"OneSidedModel", "keeps", "()V"⟩, 55), (⟨"OneSidedModel", "passes", "(I)V"⟩, 55), (⟨"OneSidedModel", "firstHour", "(III)I"⟩, 55), (⟨"OneSidedModel", "startOf", "(II)I"⟩, 55), (⟨"OneSidedModel", "stepOf", "(IIII)I"⟩, 55), (⟨"OneSidedModel", "findWay", "(II)I"⟩, 55), (⟨"OneSidedModel", "errandHour", "(II)I"⟩, 55)]
theorem lw_r7 : ∀ q ∈ lw_privs_7, lw_okq q := List.forall_mem_cons.mpr ⟨lw_p96, List.forall_mem_cons.mpr ⟨lw_p97, List.forall_mem_cons.mpr ⟨lw_p98, List.forall_mem_cons.mpr ⟨lw_p99, List.forall_mem_cons.mpr ⟨lw_p100, List.forall_mem_cons.mpr ⟨lw_p101, List.forall_mem_cons.mpr ⟨lw_p102, List.forall_mem_cons.mpr ⟨lw_p103, List.forall_mem_cons.mpr ⟨lw_p104, List.forall_mem_cons.mpr ⟨lw_p105, List.forall_mem_cons.mpr ⟨lw_p106, List.forall_mem_cons.mpr ⟨lw_p107, List.forall_mem_cons.mpr ⟨lw_p108, List.forall_mem_cons.mpr ⟨lw_p109, List.forall_mem_cons.mpr ⟨lw_p110, List.forall_mem_cons.mpr ⟨lw_p111, fun _ h => absurd h List.not_mem_nil⟩⟩⟩⟩⟩⟩⟩⟩⟩⟩⟩⟩⟩⟩⟩⟩
theorem lw_p112 : lw_okq (⟨"OneSidedModel", "findFewest", "(III)V"⟩, 55) := ⟨⟨by decide +kernel, by decide +kernel⟩, List.mem_of_getElem? (i := 1195) (by decide +kernel), List.mem_of_getElem? (i := 1675) (by decide +kernel), List.mem_of_getElem? (i := 1676) (by decide +kernel)⟩
theorem lw_p113 : lw_okq (⟨"OneSidedModel", "isNext", "(IIIIIII)Z"⟩, 55) := ⟨⟨by decide +kernel, by decide +kernel⟩, List.mem_of_getElem? (i := 1195) (by decide +kernel), List.mem_of_getElem? (i := 1680) (by decide +kernel), List.mem_of_getElem? (i := 1681) (by decide +kernel)⟩
theorem lw_p114 : lw_okq (⟨"OneSidedModel", "mayAsk", "(II)Z"⟩, 55) := ⟨⟨by decide +kernel, by decide +kernel⟩, List.mem_of_getElem? (i := 1195) (by decide +kernel), List.mem_of_getElem? (i := 1696) (by decide +kernel), List.mem_of_getElem? (i := 1697) (by decide +kernel)⟩
theorem lw_p115 : lw_okq (⟨"OneSidedModel", "laysInto", "(IIII)V"⟩, 55) := ⟨⟨by decide +kernel, by decide +kernel⟩, List.mem_of_getElem? (i := 1195) (by decide +kernel), List.mem_of_getElem? (i := 1700) (by decide +kernel), List.mem_of_getElem? (i := 1701) (by decide +kernel)⟩
theorem lw_p116 : lw_okq (⟨"OneSidedModel", "closure", "(I)I"⟩, 55) := ⟨⟨by decide +kernel, by decide +kernel⟩, List.mem_of_getElem? (i := 1195) (by decide +kernel), List.mem_of_getElem? (i := 1704) (by decide +kernel), List.mem_of_getElem? (i := 1705) (by decide +kernel)⟩
theorem lw_p117 : lw_okq (⟨"OneSidedModel", "homelessOf", "(I)I"⟩, 55) := ⟨⟨by decide +kernel, by decide +kernel⟩, List.mem_of_getElem? (i := 1195) (by decide +kernel), List.mem_of_getElem? (i := 1708) (by decide +kernel), List.mem_of_getElem? (i := 1709) (by decide +kernel)⟩
theorem lw_p118 : lw_okq (⟨"OneSidedModel", "every", "()I"⟩, 55) := ⟨⟨by decide +kernel, by decide +kernel⟩, List.mem_of_getElem? (i := 1195) (by decide +kernel), List.mem_of_getElem? (i := 1720) (by decide +kernel), List.mem_of_getElem? (i := 1721) (by decide +kernel)⟩
theorem lw_p119 : lw_okq (⟨"OneSidedModel", "isMore", "(III)Z"⟩, 55) := ⟨⟨by decide +kernel, by decide +kernel⟩, List.mem_of_getElem? (i := 1195) (by decide +kernel), List.mem_of_getElem? (i := 1739) (by decide +kernel), List.mem_of_getElem? (i := 1740) (by decide +kernel)⟩
theorem lw_p120 : lw_okq (⟨"OneSidedModel", "comes", "(II)V"⟩, 55) := ⟨⟨by decide +kernel, by decide +kernel⟩, List.mem_of_getElem? (i := 1195) (by decide +kernel), List.mem_of_getElem? (i := 1743) (by decide +kernel), List.mem_of_getElem? (i := 1744) (by decide +kernel)⟩
theorem lw_p121 : lw_okq (⟨"OneSidedModel", "spreads", "(III)V"⟩, 55) := ⟨⟨by decide +kernel, by decide +kernel⟩, List.mem_of_getElem? (i := 1195) (by decide +kernel), List.mem_of_getElem? (i := 1747) (by decide +kernel), List.mem_of_getElem? (i := 1748) (by decide +kernel)⟩
theorem lw_p122 : lw_okq (⟨"OneSidedModel", "toOf", "(III)I"⟩, 55) := ⟨⟨by decide +kernel, by decide +kernel⟩, List.mem_of_getElem? (i := 1195) (by decide +kernel), List.mem_of_getElem? (i := 1751) (by decide +kernel), List.mem_of_getElem? (i := 1752) (by decide +kernel)⟩
theorem lw_p123 : lw_okq (⟨"OneSidedModel", "goesBack", "(I)I"⟩, 55) := ⟨⟨by decide +kernel, by decide +kernel⟩, List.mem_of_getElem? (i := 1195) (by decide +kernel), List.mem_of_getElem? (i := 1755) (by decide +kernel), List.mem_of_getElem? (i := 1756) (by decide +kernel)⟩
theorem lw_p124 : lw_okq (⟨"OneSidedModel", "looks", "(I)V"⟩, 55) := ⟨⟨by decide +kernel, by decide +kernel⟩, List.mem_of_getElem? (i := 1195) (by decide +kernel), List.mem_of_getElem? (i := 1767) (by decide +kernel), List.mem_of_getElem? (i := 1768) (by decide +kernel)⟩
theorem lw_p125 : lw_okq (⟨"OneSidedModel", "laysNow", "(I)V"⟩, 55) := ⟨⟨by decide +kernel, by decide +kernel⟩, List.mem_of_getElem? (i := 1195) (by decide +kernel), List.mem_of_getElem? (i := 1771) (by decide +kernel), List.mem_of_getElem? (i := 1772) (by decide +kernel)⟩
theorem lw_p126 : lw_okq (⟨"OneSidedModel", "tellsMost", "()I"⟩, 55) := ⟨⟨by decide +kernel, by decide +kernel⟩, List.mem_of_getElem? (i := 1195) (by decide +kernel), List.mem_of_getElem? (i := 1775) (by decide +kernel), List.mem_of_getElem? (i := 1776) (by decide +kernel)⟩
theorem lw_p127 : lw_okq (⟨"OneSidedModel", "goesBy", "(I)I"⟩, 55) := ⟨⟨by decide +kernel, by decide +kernel⟩, List.mem_of_getElem? (i := 1195) (by decide +kernel), List.mem_of_getElem? (i := 1783) (by decide +kernel), List.mem_of_getElem? (i := 1784) (by decide +kernel)⟩
def lw_privs_8 : List (MethodName × Nat) := [(⟨"OneSidedModel", "findFewest", "(III)V"⟩, 55), (⟨"OneSidedModel", "isNext", "(IIIIIII)Z"⟩, 55), (⟨"OneSidedModel", "mayAsk", "(II)Z"⟩, 55), (⟨"OneSidedModel", "laysInto", "(IIII)V"⟩, 55), (⟨"OneSidedModel", "closure", "(I)I"⟩, 55), (⟨"OneSidedModel", "homelessOf", "(I)I"⟩, 55), (⟨"OneSidedModel", "every", "()I"⟩, 55), (⟨"OneSidedModel", "isMore", "(III)Z"⟩, 55), (⟨"OneSidedModel", "comes", "(II)V"⟩, 55), (⟨"OneSidedModel", "spreads", "(III)V"⟩, 55), (⟨"OneSidedModel", "toOf", "(III)I"⟩, 55), (⟨"OneSidedModel", "goesBack", "(I)I"⟩, 55), (⟨"OneSidedModel", "looks", "(I)V"⟩, 55), (⟨"OneSidedModel", "laysNow", "(I)V"⟩, 55), (⟨"OneSidedModel", "tellsMost", "()I"⟩, 55), (⟨"OneSidedModel", "goesBy", "(I)I"⟩, 55)]
theorem lw_r8 : ∀ q ∈ lw_privs_8, lw_okq q := List.forall_mem_cons.mpr ⟨lw_p112, List.forall_mem_cons.mpr ⟨lw_p113, List.forall_mem_cons.mpr ⟨lw_p114, List.forall_mem_cons.mpr ⟨lw_p115, List.forall_mem_cons.mpr ⟨lw_p116, List.forall_mem_cons.mpr ⟨lw_p117, List.forall_mem_cons.mpr ⟨lw_p118, List.forall_mem_cons.mpr ⟨lw_p119, List.forall_mem_cons.mpr ⟨lw_p120, List.forall_mem_cons.mpr ⟨lw_p121, List.forall_mem_cons.mpr ⟨lw_p122, List.forall_mem_cons.mpr ⟨lw_p123, List.forall_mem_cons.mpr ⟨lw_p124, List.forall_mem_cons.mpr ⟨lw_p125, List.forall_mem_cons.mpr ⟨lw_p126, List.forall_mem_cons.mpr ⟨lw_p127, fun _ h => absurd h List.not_mem_nil⟩⟩⟩⟩⟩⟩⟩⟩⟩⟩⟩⟩⟩⟩⟩⟩
theorem lw_p128 : lw_okq (⟨"OneSidedModel", "afterMove", "(II)Z"⟩, 55) := ⟨⟨by decide +kernel, by decide +kernel⟩, List.mem_of_getElem? (i := 1195) (by decide +kernel), List.mem_of_getElem? (i := 1791) (by decide +kernel), List.mem_of_getElem? (i := 1792) (by decide +kernel)⟩
theorem lw_p129 : lw_okq (⟨"OneSidedModel", "findRun", "()V"⟩, 55) := ⟨⟨by decide +kernel, by decide +kernel⟩, List.mem_of_getElem? (i := 1195) (by decide +kernel), List.mem_of_getElem? (i := 1799) (by decide +kernel), List.mem_of_getElem? (i := 1800) (by decide +kernel)⟩
theorem lw_p130 : lw_okq (⟨"OneSidedModel", "draw", "(I)I"⟩, 55) := ⟨⟨by decide +kernel, by decide +kernel⟩, List.mem_of_getElem? (i := 1195) (by decide +kernel), List.mem_of_getElem? (i := 1807) (by decide +kernel), List.mem_of_getElem? (i := 1808) (by decide +kernel)⟩
def lw_privs_9 : List (MethodName × Nat) := [(⟨"OneSidedModel", "afterMove", "(II)Z"⟩, 55), (⟨"OneSidedModel", "findRun", "()V"⟩, 55), (⟨"OneSidedModel", "draw", "(I)I"⟩, 55)]
theorem lw_r9 : ∀ q ∈ lw_privs_9, lw_okq q := List.forall_mem_cons.mpr ⟨lw_p128, List.forall_mem_cons.mpr ⟨lw_p129, List.forall_mem_cons.mpr ⟨lw_p130, fun _ h => absurd h List.not_mem_nil⟩⟩⟩
def lw_privs : List (MethodName × Nat) := lw_privs_1 ++ (lw_privs_2 ++ (lw_privs_3 ++ (lw_privs_4 ++ (lw_privs_5 ++ (lw_privs_6 ++ (lw_privs_7 ++ (lw_privs_8 ++ (lw_privs_9))))))))
def lw_tbl : List Cond := k2_sels lw_privs ++ tables_1
theorem lw_privs_ok : ∀ q ∈ lw_privs, lw_okq q := by
  show ∀ q ∈ lw_privs_1 ++ (lw_privs_2 ++ (lw_privs_3 ++ (lw_privs_4 ++ (lw_privs_5 ++ (lw_privs_6 ++ (lw_privs_7 ++ (lw_privs_8 ++ (lw_privs_9)))))))), lw_okq q
  exact List.forall_mem_append.mpr ⟨lw_r1, List.forall_mem_append.mpr ⟨lw_r2, List.forall_mem_append.mpr ⟨lw_r3, List.forall_mem_append.mpr ⟨lw_r4, List.forall_mem_append.mpr ⟨lw_r5, List.forall_mem_append.mpr ⟨lw_r6, List.forall_mem_append.mpr ⟨lw_r7, List.forall_mem_append.mpr ⟨lw_r8, lw_r9⟩⟩⟩⟩⟩⟩⟩⟩
end
section
/-! LM, part 3, by program (wip/p2/gen_tab.py): classes, links, methods, the layout of the cells -/
def RX0 : String := "OneSided$Crowd"
def TX0 : u_T := fun k => match k with
  | 0 => ("OneSided$Crowd", "passed", "[I", true)
  | 1 => ("OneSided$Crowd", "waited", "[I", true)
  | 2 => ("OneSided$Crowd", "nodeFrom", "[I", true)
  | 3 => ("OneSided$Crowd", "nodeBy", "[I", true)
  | 4 => ("OneSided$Crowd", "queue", "[I", true)
  | 5 => ("OneSided$Crowd", "queued", "I", false)
  | 6 => ("OneSided$Crowd", "firstHour", "I", false)
  | _ => ("OneSided$Crowd", "lastLayer", "I", false)
def tyX0 : Nat → FieldType := fun k => match k with
  | 0 => .array .int
  | 1 => .array .int
  | 2 => .array .int
  | 3 => .array .int
  | 4 => .array .int
  | 5 => .int
  | 6 => .int
  | _ => .int
abbrev wsX00 : List Cond := u_ws RX0 TX0 8
theorem nmX0 : ∀ a, a < 8 → ∀ b, b < 8 → a ≠ b → (TX0 a).2.1 ≠ (TX0 b).2.1 := by decide +kernel
theorem tyX0_ok : ∀ k, k < 8 → parseFieldDescriptor (TX0 k).2.2.1 = some (tyX0 k) := by decide +kernel
def RX1 : String := "OneSided$Door"
def TX1 : u_T := fun k => match k with
  | 0 => ("OneSided$Door", "name", "J", false)
  | 1 => ("OneSided$Door", "kind", "I", false)
  | 2 => ("OneSided$Door", "first", "I", false)
  | 3 => ("OneSided$Door", "second", "I", false)
  | 4 => ("OneSided$Door", "opens", "I", false)
  | 5 => ("OneSided$Door", "closes", "I", false)
  | 6 => ("OneSided$Door", "only", "I", false)
  | 7 => ("OneSided$Door", "holds", "I", false)
  | _ => ("OneSided$Door", "price", "I", false)
def tyX1 : Nat → FieldType := fun k => match k with
  | 0 => .long
  | 1 => .int
  | 2 => .int
  | 3 => .int
  | 4 => .int
  | 5 => .int
  | 6 => .int
  | 7 => .int
  | _ => .int
abbrev wsX10 : List Cond := u_ws RX1 TX1 9
theorem nmX1 : ∀ a, a < 9 → ∀ b, b < 9 → a ≠ b → (TX1 a).2.1 ≠ (TX1 b).2.1 := by decide +kernel
theorem tyX1_ok : ∀ k, k < 9 → parseFieldDescriptor (TX1 k).2.2.1 = some (tyX1 k) := by decide +kernel
def RX2 : String := "OneSided$Finder"
def TX2 : u_T := fun k => match k with
  | 0 => ("OneSided$Finder", "many", "I", false)
  | 1 => ("OneSided$Finder", "inAll", "I", false)
  | 2 => ("OneSided$Finder", "inSome", "I", false)
  | 3 => ("OneSided$Finder", "fewest", "I", false)
  | 4 => ("OneSided$Finder", "idle", "I", false)
  | 5 => ("OneSided$Finder", "idleCount", "I", false)
  | 6 => ("OneSided$Finder", "counting", "Z", false)
  | 7 => ("OneSided$Finder", "arcs", "I", false)
  | 8 => ("OneSided$Finder", "arcDoor", "[I", true)
  | 9 => ("OneSided$Finder", "arcFrom", "[I", true)
  | 10 => ("OneSided$Finder", "arcTo", "[I", true)
  | 11 => ("OneSided$Finder", "rows", "[I", true)
  | _ => ("OneSided$Finder", "comers", "[I", true)
def tyX2 : Nat → FieldType := fun k => match k with
  | 0 => .int
  | 1 => .int
  | 2 => .int
  | 3 => .int
  | 4 => .int
  | 5 => .int
  | 6 => .boolean
  | 7 => .int
  | 8 => .array .int
  | 9 => .array .int
  | 10 => .array .int
  | 11 => .array .int
  | _ => .array .int
abbrev wsX20 : List Cond := u_ws RX2 TX2 13
theorem nmX2 : ∀ a, a < 13 → ∀ b, b < 13 → a ≠ b → (TX2 a).2.1 ≠ (TX2 b).2.1 := by decide +kernel
theorem tyX2_ok : ∀ k, k < 13 → parseFieldDescriptor (TX2 k).2.2.1 = some (tyX2 k) := by decide +kernel
def RX3 : String := "OneSided$Memory"
def TX3 : u_T := fun k => match k with
  | 0 => ("OneSided$Memory", "scene", "LOneSided$Scene;", true)
  | 1 => ("OneSided$Memory", "lines", "I", false)
  | 2 => ("OneSided$Memory", "goer", "[I", true)
  | 3 => ("OneSided$Memory", "goneBy", "[I", true)
  | 4 => ("OneSided$Memory", "walks", "I", false)
  | 5 => ("OneSided$Memory", "walkFrom", "[I", true)
  | 6 => ("OneSided$Memory", "walkTo", "[I", true)
  | _ => ("OneSided$Memory", "walksThatCame", "I", false)
def tyX3 : Nat → FieldType := fun k => match k with
  | 0 => .object "OneSided$Scene"
  | 1 => .int
  | 2 => .array .int
  | 3 => .array .int
  | 4 => .int
  | 5 => .array .int
  | 6 => .array .int
  | _ => .int
abbrev wsX30 : List Cond := u_ws RX3 TX3 8
theorem nmX3 : ∀ a, a < 8 → ∀ b, b < 8 → a ≠ b → (TX3 a).2.1 ≠ (TX3 b).2.1 := by decide +kernel
theorem tyX3_ok : ∀ k, k < 8 → parseFieldDescriptor (TX3 k).2.2.1 = some (tyX3 k) := by decide +kernel
def RX4 : String := "OneSided$Person"
def TX4 : u_T := fun k => match k with
  | 0 => ("OneSided$Person", "name", "J", false)
  | 1 => ("OneSided$Person", "sort", "I", false)
  | 2 => ("OneSided$Person", "home", "I", false)
  | 3 => ("OneSided$Person", "errand", "I", false)
  | _ => ("OneSided$Person", "by", "I", false)
def tyX4 : Nat → FieldType := fun k => match k with
  | 0 => .long
  | 1 => .int
  | 2 => .int
  | 3 => .int
  | _ => .int
abbrev wsX40 : List Cond := u_ws RX4 TX4 5
theorem nmX4 : ∀ a, a < 5 → ∀ b, b < 5 → a ≠ b → (TX4 a).2.1 ≠ (TX4 b).2.1 := by decide +kernel
theorem tyX4_ok : ∀ k, k < 5 → parseFieldDescriptor (TX4 k).2.2.1 = some (tyX4 k) := by decide +kernel
def RX5 : String := "OneSided$Plans"
def TX5 : u_T := fun k => match k with
  | 0 => ("OneSided$Plans", "wayLength", "I", false)
  | 1 => ("OneSided$Plans", "way", "[I", true)
  | 2 => ("OneSided$Plans", "need", "[I", true)
  | 3 => ("OneSided$Plans", "wayHour", "I", false)
  | _ => ("OneSided$Plans", "wayState", "I", false)
def tyX5 : Nat → FieldType := fun k => match k with
  | 0 => .int
  | 1 => .array .int
  | 2 => .array .int
  | 3 => .int
  | _ => .int
abbrev wsX50 : List Cond := u_ws RX5 TX5 5
theorem nmX5 : ∀ a, a < 5 → ∀ b, b < 5 → a ≠ b → (TX5 a).2.1 ≠ (TX5 b).2.1 := by decide +kernel
theorem tyX5_ok : ∀ k, k < 5 → parseFieldDescriptor (TX5 k).2.2.1 = some (tyX5 k) := by decide +kernel
def RX6 : String := "OneSided$Quarter"
def TX6 : u_T := fun k => match k with
  | 0 => ("OneSided$Quarter", "rooms", "I", false)
  | 1 => ("OneSided$Quarter", "doors", "[LOneSided$Door;", true)
  | 2 => ("OneSided$Quarter", "doorCount", "I", false)
  | 3 => ("OneSided$Quarter", "people", "[LOneSided$Person;", true)
  | 4 => ("OneSided$Quarter", "personCount", "I", false)
  | 5 => ("OneSided$Quarter", "law", "[I", true)
  | 6 => ("OneSided$Quarter", "lawLength", "I", false)
  | 7 => ("OneSided$Quarter", "stack", "[I", true)
  | 8 => ("OneSided$Quarter", "aheads", "[I", true)
  | _ => ("OneSided$Quarter", "backs", "[I", true)
def tyX6 : Nat → FieldType := fun k => match k with
  | 0 => .int
  | 1 => .array (.object "OneSided$Door")
  | 2 => .int
  | 3 => .array (.object "OneSided$Person")
  | 4 => .int
  | 5 => .array .int
  | 6 => .int
  | 7 => .array .int
  | 8 => .array .int
  | _ => .array .int
abbrev wsX60 : List Cond := u_ws RX6 TX6 10
theorem nmX6 : ∀ a, a < 10 → ∀ b, b < 10 → a ≠ b → (TX6 a).2.1 ≠ (TX6 b).2.1 := by decide +kernel
theorem tyX6_ok : ∀ k, k < 10 → parseFieldDescriptor (TX6 k).2.2.1 = some (tyX6 k) := by decide +kernel
def RX7 : String := "OneSided$Reader"
def TX7 : u_T := fun k => match k with
  | 0 => ("OneSided$Reader", "length", "I", false)
  | 1 => ("OneSided$Reader", "signs", "[B", true)
  | 2 => ("OneSided$Reader", "words", "[J", true)
  | 3 => ("OneSided$Reader", "kind", "I", false)
  | 4 => ("OneSided$Reader", "place", "I", false)
  | 5 => ("OneSided$Reader", "behind", "I", false)
  | 6 => ("OneSided$Reader", "value", "J", false)
  | 7 => ("OneSided$Reader", "word", "I", false)
  | _ => ("OneSided$Reader", "fault", "I", false)
def tyX7 : Nat → FieldType := fun k => match k with
  | 0 => .int
  | 1 => .array .byte
  | 2 => .array .long
  | 3 => .int
  | 4 => .int
  | 5 => .int
  | 6 => .long
  | 7 => .int
  | _ => .int
abbrev wsX70 : List Cond := u_ws RX7 TX7 9
theorem nmX7 : ∀ a, a < 9 → ∀ b, b < 9 → a ≠ b → (TX7 a).2.1 ≠ (TX7 b).2.1 := by decide +kernel
theorem tyX7_ok : ∀ k, k < 9 → parseFieldDescriptor (TX7 k).2.2.1 = some (tyX7 k) := by decide +kernel
def RX8 : String := "OneSided$Rents"
def TX8 : u_T := fun k => match k with
  | 0 => ("OneSided$Rents", "one", "I", false)
  | 1 => ("OneSided$Rents", "other", "I", false)
  | 2 => ("OneSided$Rents", "best", "[I", true)
  | 3 => ("OneSided$Rents", "weights", "[I", true)
  | 4 => ("OneSided$Rents", "hingeWays", "[I", true)
  | 5 => ("OneSided$Rents", "oneHas", "[I", true)
  | _ => ("OneSided$Rents", "otherHas", "[I", true)
def tyX8 : Nat → FieldType := fun k => match k with
  | 0 => .int
  | 1 => .int
  | 2 => .array .int
  | 3 => .array .int
  | 4 => .array .int
  | 5 => .array .int
  | _ => .array .int
abbrev wsX80 : List Cond := u_ws RX8 TX8 7
theorem nmX8 : ∀ a, a < 7 → ∀ b, b < 7 → a ≠ b → (TX8 a).2.1 ≠ (TX8 b).2.1 := by decide +kernel
theorem tyX8_ok : ∀ k, k < 7 → parseFieldDescriptor (TX8 k).2.2.1 = some (tyX8 k) := by decide +kernel
def RX9 : String := "OneSided$Scene"
def TX9 : u_T := fun k => match k with
  | 0 => ("OneSided$Scene", "hour", "I", false)
  | 1 => ("OneSided$Scene", "shut", "I", false)
  | 2 => ("OneSided$Scene", "gone", "I", false)
  | 3 => ("OneSided$Scene", "done", "I", false)
  | 4 => ("OneSided$Scene", "where", "[I", true)
  | _ => ("OneSided$Scene", "through", "[I", true)
def tyX9 : Nat → FieldType := fun k => match k with
  | 0 => .int
  | 1 => .int
  | 2 => .int
  | 3 => .int
  | 4 => .array .int
  | _ => .array .int
abbrev wsX90 : List Cond := u_ws RX9 TX9 6
theorem nmX9 : ∀ a, a < 6 → ∀ b, b < 6 → a ≠ b → (TX9 a).2.1 ≠ (TX9 b).2.1 := by decide +kernel
theorem tyX9_ok : ∀ k, k < 6 → parseFieldDescriptor (TX9 k).2.2.1 = some (tyX9 k) := by decide +kernel
def RX10 : String := "OneSided$Web"
def TX10 : u_T := fun k => match k with
  | 0 => ("OneSided$Web", "thiefNext", "[I", true)
  | 1 => ("OneSided$Web", "tenantNext", "[I", true)
  | _ => ("OneSided$Web", "grown", "[I", true)
def tyX10 : Nat → FieldType := fun k => match k with
  | 0 => .array .int
  | 1 => .array .int
  | _ => .array .int
abbrev wsX100 : List Cond := u_ws RX10 TX10 3
theorem nmX10 : ∀ a, a < 3 → ∀ b, b < 3 → a ≠ b → (TX10 a).2.1 ≠ (TX10 b).2.1 := by decide +kernel
theorem tyX10_ok : ∀ k, k < 3 → parseFieldDescriptor (TX10 k).2.2.1 = some (tyX10 k) := by decide +kernel
def RX11 : String := "OneSided"
def TX11 : u_T := fun k => match k with
  | 0 => ("OneSided", "reader", "LOneSided$Reader;", true)
  | 1 => ("OneSided", "quarter", "LOneSided$Quarter;", false)
  | 2 => ("OneSided", "spare", "LOneSided$Quarter;", false)
  | 3 => ("OneSided", "memory", "LOneSided$Memory;", true)
  | 4 => ("OneSided", "draft", "LOneSided$Memory;", true)
  | 5 => ("OneSided", "marks", "[LOneSided$Memory;", true)
  | 6 => ("OneSided", "marked", "I", false)
  | 7 => ("OneSided", "past", "[LOneSided$Scene;", true)
  | 8 => ("OneSided", "oldest", "I", false)
  | 9 => ("OneSided", "undoable", "I", false)
  | 10 => ("OneSided", "plans", "LOneSided$Plans;", true)
  | 11 => ("OneSided", "web", "LOneSided$Web;", true)
  | 12 => ("OneSided", "throng", "LOneSided$Crowd;", true)
  | 13 => ("OneSided", "finder", "LOneSided$Finder;", true)
  | _ => ("OneSided", "rents", "LOneSided$Rents;", true)
def tyX11 : Nat → FieldType := fun k => match k with
  | 0 => .object "OneSided$Reader"
  | 1 => .object "OneSided$Quarter"
  | 2 => .object "OneSided$Quarter"
  | 3 => .object "OneSided$Memory"
  | 4 => .object "OneSided$Memory"
  | 5 => .array (.object "OneSided$Memory")
  | 6 => .int
  | 7 => .array (.object "OneSided$Scene")
  | 8 => .int
  | 9 => .int
  | 10 => .object "OneSided$Plans"
  | 11 => .object "OneSided$Web"
  | 12 => .object "OneSided$Crowd"
  | 13 => .object "OneSided$Finder"
  | _ => .object "OneSided$Rents"
abbrev wsX110 : List Cond := u_ws RX11 TX11 15
theorem nmX11 : ∀ a, a < 15 → ∀ b, b < 15 → a ≠ b → (TX11 a).2.1 ≠ (TX11 b).2.1 := by decide +kernel
theorem tyX11_ok : ∀ k, k < 15 → parseFieldDescriptor (TX11 k).2.2.1 = some (tyX11 k) := by decide +kernel
def RX12 : String := "OneSidedModel"
def TX12 : u_T := fun k => match k with
  | 0 => ("OneSidedModel", "thrown", "I", false)
  | 1 => ("OneSidedModel", "tape", "[I", true)
  | 2 => ("OneSidedModel", "taped", "I", false)
  | 3 => ("OneSidedModel", "size", "I", false)
  | 4 => ("OneSidedModel", "sort", "[I", true)
  | 5 => ("OneSidedModel", "place", "[I", true)
  | 6 => ("OneSidedModel", "value", "[J", true)
  | 7 => ("OneSidedModel", "at", "I", false)
  | 8 => ("OneSidedModel", "fault", "I", false)
  | 9 => ("OneSidedModel", "words", "[J", true)
  | 10 => ("OneSidedModel", "quarters", "[I", true)
  | 11 => ("OneSidedModel", "op", "[I", true)
  | 12 => ("OneSidedModel", "arg", "[I", true)
  | 13 => ("OneSidedModel", "codes", "I", false)
  | 14 => ("OneSidedModel", "names", "[J", true)
  | 15 => ("OneSidedModel", "readNames", "[J", true)
  | 16 => ("OneSidedModel", "nameOf", "[I", true)
  | 17 => ("OneSidedModel", "readNameOf", "[I", true)
  | 18 => ("OneSidedModel", "namesMany", "I", false)
  | 19 => ("OneSidedModel", "readMany", "I", false)
  | 20 => ("OneSidedModel", "lines", "[I", true)
  | 21 => ("OneSidedModel", "readLines", "I", false)
  | 22 => ("OneSidedModel", "facts", "[I", true)
  | 23 => ("OneSidedModel", "pile", "[I", true)
  | 24 => ("OneSidedModel", "state", "[I", true)
  | 25 => ("OneSidedModel", "undos", "I", false)
  | 26 => ("OneSidedModel", "isMarked", "[Z", true)
  | 27 => ("OneSidedModel", "markedLines", "[I", true)
  | 28 => ("OneSidedModel", "setOne", "I", false)
  | 29 => ("OneSidedModel", "setOther", "I", false)
  | 30 => ("OneSidedModel", "priceOne", "I", false)
  | 31 => ("OneSidedModel", "priceOther", "I", false)
  | 32 => ("OneSidedModel", "fewest", "[I", true)
  | 33 => ("OneSidedModel", "wayDoors", "[I", true)
  | 34 => ("OneSidedModel", "wayMany", "I", false)
  | 35 => ("OneSidedModel", "nextState", "I", false)
  | 36 => ("OneSidedModel", "nextHour", "I", false)
  | 37 => ("OneSidedModel", "into", "[I", true)
  | 38 => ("OneSidedModel", "flow", "[I", true)
  | 39 => ("OneSidedModel", "waits", "[I", true)
  | 40 => ("OneSidedModel", "cameBy", "[I", true)
  | 41 => ("OneSidedModel", "queue", "[I", true)
  | 42 => ("OneSidedModel", "tail0", "I", false)
  | 43 => ("OneSidedModel", "can", "[I", true)
  | 44 => ("OneSidedModel", "closures", "[I", true)
  | 45 => ("OneSidedModel", "foundMany", "I", false)
  | 46 => ("OneSidedModel", "foundAll", "I", false)
  | 47 => ("OneSidedModel", "foundSome", "I", false)
  | 48 => ("OneSidedModel", "foundLeast", "I", false)
  | 49 => ("OneSidedModel", "costs", "[I", true)
  | 50 => ("OneSidedModel", "rents", "[I", true)
  | 51 => ("OneSidedModel", "moves", "[I", true)
  | 52 => ("OneSidedModel", "runInTime", "I", false)
  | 53 => ("OneSidedModel", "runNot", "I", false)
  | _ => ("OneSidedModel", "g", "J", false)
def tyX12 : Nat → FieldType := fun k => match k with
  | 0 => .int
  | 1 => .array .int
  | 2 => .int
  | 3 => .int
  | 4 => .array .int
  | 5 => .array .int
  | 6 => .array .long
  | 7 => .int
  | 8 => .int
  | 9 => .array .long
  | 10 => .array .int
  | 11 => .array .int
  | 12 => .array .int
  | 13 => .int
  | 14 => .array .long
  | 15 => .array .long
  | 16 => .array .int
  | 17 => .array .int
  | 18 => .int
  | 19 => .int
  | 20 => .array .int
  | 21 => .int
  | 22 => .array .int
  | 23 => .array .int
  | 24 => .array .int
  | 25 => .int
  | 26 => .array .boolean
  | 27 => .array .int
  | 28 => .int
  | 29 => .int
  | 30 => .int
  | 31 => .int
  | 32 => .array .int
  | 33 => .array .int
  | 34 => .int
  | 35 => .int
  | 36 => .int
  | 37 => .array .int
  | 38 => .array .int
  | 39 => .array .int
  | 40 => .array .int
  | 41 => .array .int
  | 42 => .int
  | 43 => .array .int
  | 44 => .array .int
  | 45 => .int
  | 46 => .int
  | 47 => .int
  | 48 => .int
  | 49 => .array .int
  | 50 => .array .int
  | 51 => .array .int
  | 52 => .int
  | 53 => .int
  | _ => .long
abbrev wsX120 : List Cond := u_ws RX12 TX12 55
theorem nmX12 : ∀ a, a < 55 → ∀ b, b < 55 → a ≠ b → (TX12 a).2.1 ≠ (TX12 b).2.1 := by decide +kernel
theorem tyX12_ok : ∀ k, k < 55 → parseFieldDescriptor (TX12 k).2.2.1 = some (tyX12 k) := by decide +kernel
abbrev zcl : List vw_C := [(RX0, TX0, 8), (RX1, TX1, 9), (RX2, TX2, 13), (RX3, TX3, 8), (RX4, TX4, 5), (RX5, TX5, 5), (RX6, TX6, 10), (RX7, TX7, 9), (RX8, TX8, 7), (RX9, TX9, 6), (RX10, TX10, 3), (RX11, TX11, 15), (RX12, TX12, 55)]
def onm (o : Nat) : String := match o with
  | 0 => "OneSided$Crowd"
  | 1 => "OneSided$Door"
  | 2 => "OneSided$Finder"
  | 3 => "OneSided$Memory"
  | 4 => "OneSided$Person"
  | 5 => "OneSided$Plans"
  | 6 => "OneSided$Quarter"
  | 7 => "OneSided$Reader"
  | 8 => "OneSided$Rents"
  | 9 => "OneSided$Scene"
  | 10 => "OneSided$Web"
  | 11 => "OneSided"
  | 12 => "OneSidedModel"
  | 13 => "OneSidedLaw"
  | 14 => "java/lang/Integer"
  | 15 => "java/lang/Math"
  | _ => "java/util/Arrays"
/-- what a field holds: 0 an int, 1 a long, 2 a cell, 3 a boolean -/
def fkd (c k : Nat) : Nat := match c with
  | 0 => [2, 2, 2, 2, 2, 0, 0, 0].getD k 0
  | 1 => [1, 0, 0, 0, 0, 0, 0, 0, 0].getD k 0
  | 2 => [0, 0, 0, 0, 0, 0, 3, 0, 2, 2, 2, 2, 2].getD k 0
  | 3 => [2, 0, 2, 2, 0, 2, 2, 0].getD k 0
  | 4 => [1, 0, 0, 0, 0].getD k 0
  | 5 => [0, 2, 2, 0, 0].getD k 0
  | 6 => [0, 2, 0, 2, 0, 2, 0, 2, 2, 2].getD k 0
  | 7 => [0, 2, 2, 0, 0, 0, 1, 0, 0].getD k 0
  | 8 => [0, 0, 2, 2, 2, 2, 2].getD k 0
  | 9 => [0, 0, 0, 0, 2, 2].getD k 0
  | 10 => [2, 2, 2].getD k 0
  | 11 => [2, 2, 2, 2, 2, 2, 0, 2, 0, 0, 2, 2, 2, 2, 2].getD k 0
  | 12 => [0, 2, 0, 0, 2, 2, 2, 0, 0, 2, 2, 2, 2, 0, 2, 2, 2, 2, 0, 0, 2, 0, 2, 2, 2, 0, 2, 2, 0, 0, 0, 0, 2, 2, 0, 0, 0, 2, 2, 2, 2, 2, 0, 2, 2, 0, 0, 0, 0, 2, 2, 2, 0, 0, 1].getD k 0
  | _ => 0
/-- fields by own class: pool index, class, number, place of the word -/
def FT (o : Nat) : List (Nat × Nat × Nat × Nat) := match o with
  | 0 => [(91, 1, 2, 144), (94, 1, 3, 151), (86, 1, 7, 165), (82, 6, 1, 238), (73, 6, 2, 245), (27, 9, 0, 301), (45, 9, 1, 307), (9, 0, 0, 420), (15, 0, 1, 421), (18, 0, 2, 422), (21, 0, 3, 423), (24, 0, 4, 424), (60, 0, 5, 425), (33, 0, 6, 426), (36, 0, 7, 427)]
  | 2 => [(94, 1, 2, 141), (99, 1, 3, 148), (90, 6, 1, 234), (87, 6, 2, 243), (64, 9, 0, 304), (69, 9, 1, 308), (50, 3, 0, 338), (121, 3, 4, 346), (124, 3, 5, 349), (127, 3, 6, 351), (130, 3, 7, 353), (27, 2, 0, 451), (31, 2, 1, 453), (34, 2, 2, 455), (37, 2, 3, 457), (84, 2, 4, 459), (108, 2, 5, 461), (40, 2, 6, 463), (81, 2, 7, 464), (9, 2, 8, 465), (15, 2, 9, 466), (18, 2, 10, 467), (21, 2, 11, 468), (24, 2, 12, 469)]
  | 3 => [(12, 3, 0, 337), (35, 3, 1, 340), (18, 3, 2, 343), (22, 3, 3, 344), (39, 3, 4, 345), (25, 3, 5, 348), (28, 3, 6, 350), (42, 3, 7, 352)]
  | 5 => [(110, 1, 2, 146), (115, 1, 3, 153), (33, 4, 1, 200), (65, 4, 2, 206), (59, 4, 3, 210), (165, 4, 4, 216), (106, 6, 1, 240), (103, 6, 2, 247), (27, 6, 3, 250), (132, 6, 4, 259), (23, 9, 0, 302), (46, 9, 1, 310), (156, 9, 2, 314), (62, 9, 3, 316), (18, 9, 4, 319), (68, 5, 0, 380), (9, 5, 1, 382), (15, 5, 2, 384), (75, 5, 3, 385), (82, 5, 4, 386)]
  | 6 => [(51, 1, 0, 136), (67, 1, 1, 140), (77, 1, 2, 147), (70, 1, 3, 154), (80, 1, 4, 157), (83, 1, 5, 160), (86, 1, 6, 163), (60, 1, 8, 172), (55, 4, 0, 198), (9, 6, 0, 228), (17, 6, 1, 232), (42, 6, 2, 241), (23, 6, 3, 249), (45, 6, 4, 255), (27, 6, 5, 261), (48, 6, 6, 262), (31, 6, 7, 264), (34, 6, 8, 265), (37, 6, 9, 266)]
  | 7 => [(35, 7, 0, 91), (9, 7, 1, 92), (15, 7, 2, 93), (64, 7, 3, 94), (209, 7, 4, 95), (212, 7, 5, 96), (174, 7, 6, 97), (67, 7, 7, 98), (61, 7, 8, 99), (106, 1, 0, 137), (125, 1, 1, 139), (112, 1, 2, 142), (118, 1, 3, 149), (130, 1, 4, 156), (133, 1, 5, 159), (136, 1, 6, 162), (139, 1, 7, 167), (142, 1, 8, 170), (152, 4, 0, 199), (155, 4, 1, 203), (158, 4, 2, 207), (161, 4, 3, 213), (164, 4, 4, 215), (54, 6, 0, 229), (95, 6, 1, 236), (92, 6, 2, 244), (148, 6, 3, 254), (145, 6, 4, 258), (167, 6, 6, 263), (83, 3, 1, 341)]
  | 8 => [(119, 1, 2, 145), (116, 1, 3, 152), (47, 1, 8, 168), (79, 4, 1, 201), (95, 4, 3, 211), (43, 6, 1, 233), (38, 6, 2, 242), (75, 6, 3, 252), (68, 6, 4, 257), (56, 9, 0, 303), (61, 9, 1, 309), (102, 9, 4, 320), (27, 8, 0, 503), (31, 8, 1, 504), (9, 8, 2, 505), (15, 8, 3, 506), (18, 8, 4, 507), (21, 8, 5, 508), (24, 8, 6, 509)]
  | 9 => [(77, 1, 7, 164), (66, 4, 1, 202), (46, 4, 2, 205), (51, 4, 3, 209), (73, 6, 1, 237), (42, 6, 3, 251), (37, 6, 4, 256), (18, 9, 0, 300), (22, 9, 1, 306), (25, 9, 2, 312), (28, 9, 3, 315), (9, 9, 4, 318), (15, 9, 5, 322)]
  | 10 => [(54, 1, 8, 171), (31, 6, 0, 230), (50, 6, 1, 239), (47, 6, 2, 246), (9, 10, 0, 404), (15, 10, 1, 405), (18, 10, 2, 406)]
  | 11 => [(86, 7, 0, 90), (123, 1, 1, 138), (128, 1, 2, 143), (131, 1, 3, 150), (134, 1, 4, 155), (137, 1, 5, 158), (140, 1, 6, 161), (143, 1, 7, 166), (146, 1, 8, 169), (167, 4, 1, 204), (172, 4, 2, 208), (175, 4, 3, 212), (178, 4, 4, 214), (267, 6, 0, 231), (119, 6, 1, 235), (345, 6, 2, 248), (163, 6, 3, 253), (254, 6, 4, 260), (216, 9, 0, 305), (153, 9, 1, 311), (187, 9, 2, 313), (184, 9, 3, 317), (181, 9, 4, 321), (156, 9, 5, 323), (149, 3, 0, 339), (354, 3, 1, 342), (357, 3, 4, 347), (245, 5, 0, 381), (248, 5, 1, 383), (296, 2, 0, 452), (302, 2, 1, 454), (305, 2, 2, 456), (315, 2, 3, 458), (308, 2, 4, 460), (299, 2, 5, 462), (10, 11, 0, 526), (19, 11, 1, 527), (23, 11, 2, 528), (29, 11, 3, 529), (33, 11, 4, 530), (36, 11, 5, 531), (101, 11, 6, 532), (42, 11, 7, 533), (219, 11, 8, 534), (104, 11, 9, 535), (49, 11, 10, 536), (56, 11, 11, 537), (63, 11, 12, 538), (70, 11, 13, 539), (77, 11, 14, 540)]
  | 12 => [(1, 12, 0, 1247), (14, 12, 1, 1248), (11, 12, 2, 1249), (188, 12, 3, 1250), (24, 12, 4, 1251), (27, 12, 5, 1252), (30, 12, 6, 1253), (207, 12, 7, 1254), (210, 12, 8, 1255), (92, 12, 9, 1256), (95, 12, 10, 1257), (98, 12, 11, 1258), (101, 12, 12, 1259), (244, 12, 13, 1260), (104, 12, 14, 1261), (107, 12, 15, 1262), (110, 12, 16, 1263), (113, 12, 17, 1264), (238, 12, 18, 1265), (235, 12, 19, 1266), (116, 12, 20, 1267), (288, 12, 21, 1268), (119, 12, 22, 1269), (122, 12, 23, 1270), (125, 12, 24, 1271), (322, 12, 25, 1272), (128, 12, 26, 1273), (132, 12, 27, 1274), (135, 12, 28, 1275), (138, 12, 29, 1276), (341, 12, 30, 1277), (344, 12, 31, 1278), (141, 12, 32, 1279), (144, 12, 33, 1280), (400, 12, 34, 1281), (410, 12, 35, 1282), (413, 12, 36, 1283), (147, 12, 37, 1284), (150, 12, 38, 1285), (153, 12, 39, 1286), (156, 12, 40, 1287), (159, 12, 41, 1288), (438, 12, 42, 1289), (162, 12, 43, 1290), (165, 12, 44, 1291), (459, 12, 45, 1292), (462, 12, 46, 1293), (465, 12, 47, 1294), (468, 12, 48, 1295), (168, 12, 49, 1296), (171, 12, 50, 1297), (174, 12, 51, 1298), (483, 12, 52, 1299), (486, 12, 53, 1300), (492, 12, 54, 1301)]
  | _ => []
/-- int constants -/
def CT (o : Nat) : List (Nat × Int × Nat) := match o with
  | 0 => [(97, 1000000, 1013)]
  | 8 => [(109, 1000000, 1096)]
  | 12 => [(396, 1000000, 1678)]
  | 14 => [(265, 1431655765, 973), (266, 858993459, 974), (267, 252645135, 975)]
  | _ => []
/-- long constants -/
def CLT (o : Nat) : List (Nat × Int × Nat) := match o with
  | 5 => [(184, 1103515245, 1162), (186, 12345, 1163), (188, 2147483648, 1164), (190, 65536, 1168)]
  | 7 => [(234, 32, 88), (236, 97, 89), (230, 10, 612), (232, 48, 613)]
  | 12 => [(34, 34515728, 1202), (36, 223720, 1203), (38, 755, 1204), (40, 781898, 1205), (42, 8787, 1206), (44, 15769678, 1207), (46, 30910767, 1208), (48, 1119812451, 1209), (50, 57, 1210), (52, 381368328, 1211), (54, 99, 1212), (56, 16633, 1213), (58, 274, 1214), (60, 426554, 1215), (62, 30596128, 1216), (64, 52805208163, 1217), (66, 15468595, 1218), (68, 4358056, 1219), (70, 1396960994, 1220), (72, 49811666194, 1221), (74, 6040476, 1222), (76, 4164, 1223), (78, 19741, 1224), (80, 1891, 1225), (82, 573, 1226), (84, 1025867, 1227), (86, 983628, 1228), (88, 173217, 1229), (90, 932857, 1230), (191, 37, 1425), (200, 10, 1432), (202, 48, 1433), (496, 1103515245, 1810), (498, 12345, 1811), (500, 2147483648, 1812), (502, 65536, 1813)]
  | 13 => [(13, 4294967295, 1822)]
  | _ => []
/-- classes by pool index -/
def KT (o : Nat) : List (Nat × Nat × Nat) := match o with
  | 3 => [(9, 9, 294)]
  | 6 => [(15, 1, 127), (21, 4, 129)]
  | 11 => [(7, 7, 30), (16, 6, 121), (26, 3, 288), (40, 9, 372), (46, 5, 374), (53, 10, 398), (60, 0, 414), (67, 2, 445), (74, 8, 497)]
  | 13 => [(7, 11, 22), (10, 12, 1197)]
  | _ => []
/-- calls: pool index, method, 1 a nest mate's, place -/
def MTC (o : Nat) : List (Nat × Nat × Nat × Nat) := match o with
  | 0 => [(39, 53, 0, 991), (48, 112, 0, 992), (63, 113, 0, 996), (66, 114, 0, 1000), (78, 67, 0, 1004), (70, 115, 0, 1005), (52, 116, 0, 1009), (56, 117, 0, 1015)]
  | 2 => [(44, 53, 0, 1035), (56, 122, 0, 1036), (72, 68, 0, 1040), (78, 69, 0, 1041), (102, 107, 0, 1042), (60, 123, 0, 1043), (111, 124, 0, 1047), (133, 125, 0, 1051)]
  | 3 => [(11, 7, 1, 296), (31, 52, 0, 727), (59, 75, 0, 850), (63, 72, 0, 851), (45, 71, 0, 1182), (49, 59, 0, 1183)]
  | 5 => [(38, 82, 0, 860), (42, 83, 0, 864), (49, 68, 0, 867), (53, 69, 0, 868), (56, 84, 0, 869), (71, 86, 0, 885), (78, 88, 0, 886), (118, 89, 0, 891), (85, 90, 0, 896), (89, 91, 0, 900), (128, 67, 0, 904), (93, 92, 0, 905), (135, 144, 0, 1134), (159, 87, 0, 1138), (162, 72, 0, 1139), (139, 145, 0, 1140), (143, 146, 0, 1144), (147, 75, 0, 1147), (151, 107, 0, 1148), (168, 149, 0, 1159), (172, 150, 0, 1165), (176, 52, 0, 1169), (180, 151, 0, 1170)]
  | 6 => [(40, 4, 1, 132), (41, 5, 1, 194), (56, 45, 0, 701), (63, 46, 0, 705), (73, 47, 0, 709), (89, 48, 0, 713), (93, 49, 0, 717), (97, 50, 0, 720), (101, 68, 0, 793), (104, 69, 0, 797)]
  | 7 => [(31, 2, 0, 85), (38, 17, 0, 588), (99, 18, 0, 592), (215, 19, 0, 596), (218, 20, 0, 600), (221, 21, 0, 604), (224, 22, 0, 608), (227, 23, 0, 614), (41, 24, 0, 617), (46, 25, 0, 621), (80, 26, 0, 625), (50, 27, 0, 629), (57, 28, 0, 633), (201, 29, 0, 637), (70, 30, 0, 641), (102, 31, 0, 645), (205, 32, 0, 649), (184, 33, 0, 653), (177, 34, 0, 657), (115, 35, 0, 661), (121, 36, 0, 665), (126, 37, 0, 669), (74, 38, 0, 673), (77, 39, 0, 677), (170, 40, 0, 681), (191, 41, 0, 685), (198, 42, 0, 689), (195, 43, 0, 693), (88, 56, 0, 742), (181, 57, 0, 746), (187, 58, 0, 750)]
  | 8 => [(34, 130, 0, 1073), (64, 46, 0, 1077), (52, 131, 0, 1078), (71, 132, 0, 1082), (84, 68, 0, 1086), (88, 69, 0, 1087), (91, 133, 0, 1088), (98, 134, 0, 1092), (110, 53, 0, 1097), (105, 135, 0, 1098), (122, 137, 0, 1106)]
  | 9 => [(31, 53, 0, 731), (69, 67, 0, 814)]
  | 10 => [(27, 100, 0, 938), (21, 84, 0, 941), (41, 68, 0, 964), (44, 69, 0, 965), (59, 46, 0, 966), (63, 106, 0, 967), (67, 107, 0, 970), (73, 141, 0, 1122)]
  | 11 => [(9, 1, 0, 32), (18, 3, 0, 123), (28, 6, 1, 290), (48, 8, 1, 376), (55, 9, 1, 400), (62, 10, 1, 416), (69, 11, 1, 447), (76, 12, 1, 499), (81, 7, 1, 525), (82, 14, 0, 576), (90, 16, 0, 584), (94, 44, 0, 697), (97, 51, 0, 723), (107, 55, 0, 738), (111, 59, 0, 754), (115, 61, 0, 765), (160, 63, 0, 773), (190, 65, 0, 781), (193, 66, 0, 785), (197, 67, 0, 789), (201, 71, 0, 805), (205, 72, 0, 810), (209, 73, 0, 815), (212, 75, 0, 826), (228, 52, 0, 845), (229, 79, 0, 846), (233, 81, 0, 856), (237, 86, 0, 877), (241, 87, 0, 881), (251, 94, 0, 913), (257, 97, 0, 925), (360, 68, 0, 929), (260, 98, 0, 930), (364, 69, 0, 934), (263, 99, 0, 935), (270, 100, 0, 946), (273, 103, 0, 951), (277, 105, 0, 961), (280, 109, 0, 980), (284, 111, 0, 987), (288, 119, 0, 1023), (292, 121, 0, 1031), (311, 126, 0, 1056), (318, 128, 0, 1065), (321, 129, 0, 1069), (324, 136, 0, 1102), (328, 138, 0, 1110), (331, 140, 0, 1118), (334, 143, 0, 1130), (337, 145, 0, 1149), (340, 107, 0, 1150), (348, 148, 0, 1155), (352, 153, 0, 1178)]
  | 12 => [(7, 156, 0, 1192), (177, 158, 0, 1231), (181, 159, 0, 1235), (319, 160, 0, 1239), (325, 161, 0, 1243), (241, 163, 0, 1418), (184, 164, 0, 1422), (193, 165, 0, 1426), (197, 166, 0, 1429), (204, 167, 0, 1434), (225, 168, 0, 1437), (222, 169, 0, 1441), (219, 170, 0, 1445), (216, 171, 0, 1449), (228, 172, 0, 1453), (247, 173, 0, 1457), (213, 174, 0, 1461), (250, 175, 0, 1465), (267, 176, 0, 1469), (259, 177, 0, 1473), (232, 178, 0, 1477), (263, 179, 0, 1481), (270, 180, 0, 1485), (274, 181, 0, 1489), (278, 182, 0, 1493), (253, 183, 0, 1497), (256, 184, 0, 1501), (281, 185, 0, 1505), (301, 186, 0, 1509), (304, 187, 0, 1513), (310, 188, 0, 1517), (313, 189, 0, 1521), (284, 190, 0, 1525), (307, 191, 0, 1529), (291, 193, 0, 1537), (294, 194, 0, 1541), (297, 195, 0, 1545), (364, 197, 0, 1552), (335, 198, 0, 1556), (347, 199, 0, 1560), (367, 201, 0, 1568), (338, 202, 0, 1572), (370, 204, 0, 1580), (332, 205, 0, 1584), (373, 206, 0, 1588), (360, 207, 0, 1592), (350, 208, 0, 1596), (354, 209, 0, 1599), (357, 210, 0, 1603), (316, 211, 0, 1607), (328, 213, 0, 1614), (377, 214, 0, 1618), (380, 215, 0, 1622), (383, 217, 0, 1630), (393, 222, 0, 1650), (386, 223, 0, 1654), (389, 224, 0, 1658), (416, 226, 0, 1666), (397, 227, 0, 1670), (403, 228, 0, 1674), (406, 229, 0, 1679), (422, 233, 0, 1695), (425, 234, 0, 1699), (419, 235, 0, 1703), (429, 236, 0, 1707), (432, 239, 0, 1719), (435, 241, 0, 1727), (453, 244, 0, 1738), (441, 245, 0, 1742), (447, 246, 0, 1746), (444, 247, 0, 1750), (450, 248, 0, 1754), (471, 251, 0, 1766), (456, 252, 0, 1770), (474, 253, 0, 1774), (477, 255, 0, 1782), (480, 257, 0, 1790), (489, 259, 0, 1798), (504, 261, 0, 1806)]
  | 13 => [(9, 0, 0, 24), (15, 13, 0, 572), (20, 15, 0, 580), (25, 54, 0, 734), (29, 60, 0, 761), (34, 62, 0, 769), (38, 64, 0, 777), (43, 70, 0, 801), (47, 74, 0, 822), (52, 76, 0, 833), (57, 77, 0, 837), (62, 78, 0, 841), (66, 80, 0, 852), (70, 85, 0, 873), (74, 93, 0, 909), (78, 95, 0, 917), (82, 96, 0, 921), (87, 101, 0, 942), (91, 102, 0, 947), (95, 104, 0, 957), (99, 108, 0, 976), (103, 110, 0, 983), (107, 118, 0, 1019), (112, 120, 0, 1027), (116, 127, 0, 1061), (120, 139, 0, 1114), (124, 142, 0, 1126), (128, 147, 0, 1151), (132, 152, 0, 1174), (136, 154, 0, 1184), (19, 155, 0, 1188), (12, 157, 0, 1198), (24, 162, 0, 1414), (28, 192, 0, 1533), (33, 196, 0, 1548), (37, 200, 0, 1564), (42, 203, 0, 1576), (46, 212, 0, 1610), (51, 216, 0, 1626), (56, 218, 0, 1634), (61, 219, 0, 1638), (65, 220, 0, 1642), (69, 221, 0, 1646), (73, 225, 0, 1662), (77, 230, 0, 1683), (81, 231, 0, 1687), (86, 232, 0, 1691), (90, 237, 0, 1711), (94, 238, 0, 1715), (98, 240, 0, 1723), (102, 242, 0, 1730), (106, 243, 0, 1734), (111, 249, 0, 1758), (115, 250, 0, 1762), (119, 254, 0, 1778), (123, 256, 0, 1786), (127, 258, 0, 1794), (131, 260, 0, 1802), (135, 262, 0, 1814), (139, 263, 0, 1818)]
  | _ => []
/-- calls of what is no row here: 0 Object.<init>, 1 arraycopy, 2 length, 3 charAt -/
def PTC (o : Nat) : List (Nat × Nat × Nat) := match o with
  | 0 => [(3, 0, 419), (98, 4, 1014)]
  | 1 => [(1, 0, 135)]
  | 2 => [(3, 0, 450), (115, 1, 1055), (137, 4, 1060)]
  | 3 => [(3, 0, 293), (53, 1, 758)]
  | 4 => [(1, 0, 197)]
  | 5 => [(3, 0, 379), (97, 1, 890), (122, 4, 895)]
  | 6 => [(3, 0, 126)]
  | 7 => [(3, 0, 35), (21, 2, 37), (27, 3, 47)]
  | 8 => [(3, 0, 502)]
  | 9 => [(3, 0, 299), (54, 1, 809), (60, 4, 830)]
  | 10 => [(3, 0, 403), (35, 5, 954)]
  | 11 => [(1, 0, 27), (222, 6, 819)]
  | 12 => [(18, 0, 1201)]
  | _ => []
/-- methods: name, code, locals, answer; own class, arguments, 1 static, places of the words: code, instanceMethod or static, selects (1000000 + i: the i-th of lw_privs) -/
abbrev LM_M : Type := MethodName × ByteArray × Nat × Option FieldType × Nat × Nat × Nat × Nat × Nat × Nat
def MTB0 : List LM_M := [(⟨"OneSided", "<init>", "()V"⟩, prog_1_method_1_code, 2, none, 11, 1, 0, 26, 25, 0),
  (⟨"OneSided$Reader", "<init>", "()V"⟩, prog_9_method_1_code, 4, none, 7, 1, 0, 34, 33, 0),
  (⟨"OneSided$Reader", "withLetter", "(JC)J"⟩, prog_9_method_30_code, 3, (some .long), 7, 2, 1, 87, 86, 0),
  (⟨"OneSided$Quarter", "<init>", "()V"⟩, prog_8_method_1_code, 2, none, 6, 1, 0, 125, 124, 0),
  (⟨"OneSided$Door", "<init>", "()V"⟩, prog_3_method_1_code, 1, none, 1, 1, 0, 134, 133, 0),
  (⟨"OneSided$Person", "<init>", "()V"⟩, prog_6_method_1_code, 1, none, 4, 1, 0, 196, 195, 0),
  (⟨"OneSided$Memory", "<init>", "()V"⟩, prog_5_method_1_code, 1, none, 3, 1, 0, 292, 291, 0),
  (⟨"OneSided$Scene", "<init>", "()V"⟩, prog_11_method_1_code, 1, none, 9, 1, 0, 298, 297, 0),
  (⟨"OneSided$Plans", "<init>", "()V"⟩, prog_7_method_1_code, 1, none, 5, 1, 0, 378, 377, 0),
  (⟨"OneSided$Web", "<init>", "()V"⟩, prog_12_method_1_code, 1, none, 10, 1, 0, 402, 401, 0),
  (⟨"OneSided$Crowd", "<init>", "()V"⟩, prog_2_method_1_code, 1, none, 0, 1, 0, 418, 417, 0),
  (⟨"OneSided$Finder", "<init>", "()V"⟩, prog_4_method_1_code, 1, none, 2, 1, 0, 449, 448, 0),
  (⟨"OneSided$Rents", "<init>", "()V"⟩, prog_10_method_1_code, 1, none, 8, 1, 0, 501, 500, 0),
  (⟨"OneSided", "feed", "(JJJ)I"⟩, prog_1_method_2_code, 7, (some .int), 11, 4, 0, 575, 573, 574),
  (⟨"OneSided$Reader", "putBytes", "(J)V"⟩, prog_9_method_2_code, 6, none, 7, 2, 0, 579, 577, 578),
  (⟨"OneSided", "quarter", "()I"⟩, prog_1_method_3_code, 3, (some .int), 11, 1, 0, 583, 581, 582),
  (⟨"OneSided$Reader", "readQuarter", "(LOneSided$Quarter;)I"⟩, prog_9_method_3_code, 3, (some .int), 7, 2, 0, 587, 585, 586),
  (⟨"OneSided$Reader", "begin", "()V"⟩, prog_9_method_23_code, 1, none, 7, 1, 0, 591, 590, 1000000),
  (⟨"OneSided$Reader", "step", "()V"⟩, prog_9_method_24_code, 2, none, 7, 1, 0, 595, 594, 1000001),
  (⟨"OneSided$Reader", "isLetter", "(I)Z"⟩, prog_9_method_27_code, 2, (some .boolean), 7, 2, 0, 599, 598, 1000002),
  (⟨"OneSided$Reader", "scanWord", "()V"⟩, prog_9_method_25_code, 3, none, 7, 1, 0, 603, 602, 1000003),
  (⟨"OneSided$Reader", "isDigit", "(I)Z"⟩, prog_9_method_28_code, 2, (some .boolean), 7, 2, 0, 607, 606, 1000004),
  (⟨"OneSided$Reader", "scanNumber", "()V"⟩, prog_9_method_26_code, 2, none, 7, 1, 0, 611, 610, 1000005),
  (⟨"OneSided$Reader", "isTokenSign", "(I)Z"⟩, prog_9_method_29_code, 1, (some .boolean), 7, 1, 1, 616, 615, 0),
  (⟨"OneSided$Quarter", "clear", "()V"⟩, prog_8_method_2_code, 1, none, 6, 1, 0, 620, 618, 619),
  (⟨"OneSided$Reader", "takeWord", "(I)V"⟩, prog_9_method_12_code, 2, none, 7, 2, 0, 624, 623, 1000006),
  (⟨"OneSided$Reader", "fail", "(I)V"⟩, prog_9_method_22_code, 2, none, 7, 2, 0, 628, 627, 1000007),
  (⟨"OneSided$Reader", "takeNumber", "(II)I"⟩, prog_9_method_16_code, 4, (some .int), 7, 3, 0, 632, 631, 1000008),
  (⟨"OneSided$Reader", "takeSign", "(C)V"⟩, prog_9_method_14_code, 2, none, 7, 2, 0, 636, 635, 1000009),
  (⟨"OneSided$Reader", "isSign", "(C)Z"⟩, prog_9_method_21_code, 2, (some .boolean), 7, 2, 0, 640, 639, 1000010),
  (⟨"OneSided$Reader", "doorLine", "(LOneSided$Quarter;)V"⟩, prog_9_method_5_code, 4, none, 7, 2, 0, 644, 643, 1000011),
  (⟨"OneSided$Reader", "takeNewName", "(LOneSided$Quarter;)J"⟩, prog_9_method_18_code, 4, (some .long), 7, 2, 0, 648, 647, 1000012),
  (⟨"OneSided$Reader", "isName", "()Z"⟩, prog_9_method_20_code, 1, (some .boolean), 7, 1, 0, 652, 651, 1000013),
  (⟨"OneSided$Quarter", "doorNamed", "(J)I"⟩, prog_8_method_4_code, 4, (some .int), 6, 2, 0, 656, 654, 655),
  (⟨"OneSided$Quarter", "personNamed", "(J)I"⟩, prog_8_method_5_code, 4, (some .int), 6, 2, 0, 660, 658, 659),
  (⟨"OneSided$Reader", "takeOtherRoom", "(II)I"⟩, prog_9_method_17_code, 3, (some .int), 7, 3, 0, 664, 663, 1000014),
  (⟨"OneSided$Reader", "takeOneOfFour", "(I)I"⟩, prog_9_method_15_code, 3, (some .int), 7, 2, 0, 668, 667, 1000015),
  (⟨"OneSided$Reader", "skipWord", "(I)Z"⟩, prog_9_method_13_code, 2, (some .boolean), 7, 2, 0, 672, 671, 1000016),
  (⟨"OneSided$Reader", "personLine", "(LOneSided$Quarter;)V"⟩, prog_9_method_6_code, 3, none, 7, 2, 0, 676, 675, 1000017),
  (⟨"OneSided$Reader", "letLine", "(LOneSided$Quarter;)V"⟩, prog_9_method_7_code, 2, none, 7, 2, 0, 680, 679, 1000018)]
def MTB1 : List LM_M := [(⟨"OneSided$Reader", "expression", "(LOneSided$Quarter;II)V"⟩, prog_9_method_9_code, 6, none, 7, 4, 0, 684, 683, 1000019),
  (⟨"OneSided$Reader", "part", "(LOneSided$Quarter;I)V"⟩, prog_9_method_11_code, 6, none, 7, 3, 0, 688, 687, 1000020),
  (⟨"OneSided$Quarter", "addLaw", "(I)V"⟩, prog_8_method_3_code, 2, none, 6, 2, 0, 692, 690, 691),
  (⟨"OneSided$Reader", "operatorOf", "(I)I"⟩, prog_9_method_10_code, 2, (some .int), 7, 2, 0, 696, 695, 1000021),
  (⟨"OneSided$Quarter", "settle", "()V"⟩, prog_8_method_6_code, 3, none, 6, 1, 0, 700, 698, 699),
  (⟨"OneSided$Quarter", "settleHour", "(II)V"⟩, prog_8_method_7_code, 7, none, 6, 3, 0, 704, 703, 1000022),
  (⟨"OneSided$Quarter", "ways", "(IIIIZ)I"⟩, prog_8_method_8_code, 9, (some .int), 6, 6, 0, 708, 706, 707),
  (⟨"OneSided$Quarter", "letsInto", "(LOneSided$Door;IIII)Z"⟩, prog_8_method_9_code, 6, (some .boolean), 6, 6, 0, 712, 711, 1000023),
  (⟨"OneSided$Quarter", "lawFor", "(IIII)I"⟩, prog_8_method_10_code, 8, (some .int), 6, 5, 0, 716, 715, 1000024),
  (⟨"OneSided$Quarter", "join", "(III)I"⟩, prog_8_method_12_code, 3, (some .int), 6, 3, 1, 719, 718, 0),
  (⟨"OneSided$Quarter", "fact", "(IIIII)I"⟩, prog_8_method_11_code, 5, (some .int), 6, 5, 1, 722, 721, 0),
  (⟨"OneSided$Memory", "begin", "(LOneSided$Quarter;)V"⟩, prog_5_method_2_code, 2, none, 3, 2, 0, 726, 724, 725),
  (⟨"OneSided$Scene", "begin", "(LOneSided$Quarter;)V"⟩, prog_11_method_2_code, 4, none, 9, 2, 0, 730, 728, 729),
  (⟨"java/util/Arrays", "fill", "([II)V"⟩, prog_21_method_103_code, 4, none, 16, 2, 1, 733, 732, 0),
  (⟨"OneSided", "day", "()I"⟩, prog_1_method_4_code, 2, (some .int), 11, 1, 0, 737, 735, 736),
  (⟨"OneSided$Reader", "readDay", "(LOneSided$Quarter;LOneSided$Memory;)I"⟩, prog_9_method_4_code, 4, (some .int), 7, 3, 0, 741, 739, 740),
  (⟨"OneSided$Reader", "dayLine", "(LOneSided$Quarter;LOneSided$Memory;)V"⟩, prog_9_method_8_code, 6, none, 7, 3, 0, 745, 744, 1000025),
  (⟨"OneSided$Reader", "takeKnownName", "(I)I"⟩, prog_9_method_19_code, 2, (some .int), 7, 2, 0, 749, 748, 1000026),
  (⟨"OneSided$Memory", "addLine", "(II)V"⟩, prog_5_method_5_code, 3, none, 3, 3, 0, 753, 751, 752),
  (⟨"OneSided$Memory", "copyDay", "(LOneSided$Memory;)V"⟩, prog_5_method_4_code, 2, none, 3, 2, 0, 757, 755, 756),
  (⟨"OneSided", "door", "(II)I"⟩, prog_1_method_5_code, 4, (some .int), 11, 3, 0, 764, 762, 763),
  (⟨"OneSided", "isDoor", "(I)Z"⟩, prog_1_method_31_code, 2, (some .boolean), 11, 2, 0, 768, 767, 1000027),
  (⟨"OneSided", "person", "(II)I"⟩, prog_1_method_6_code, 4, (some .int), 11, 3, 0, 772, 770, 771),
  (⟨"OneSided", "isPerson", "(I)Z"⟩, prog_1_method_33_code, 2, (some .boolean), 11, 2, 0, 776, 775, 1000028),
  (⟨"OneSided", "leads", "(IIII)I"⟩, prog_1_method_7_code, 5, (some .int), 11, 5, 0, 780, 778, 779),
  (⟨"OneSided", "isRoom", "(I)Z"⟩, prog_1_method_34_code, 2, (some .boolean), 11, 2, 0, 784, 783, 1000029),
  (⟨"OneSided", "isSortInHour", "(II)Z"⟩, prog_1_method_35_code, 3, (some .boolean), 11, 3, 0, 788, 787, 1000030),
  (⟨"OneSided$Quarter", "into", "(IIIII)I"⟩, prog_8_method_15_code, 7, (some .int), 6, 6, 0, 792, 790, 791),
  (⟨"OneSided$Quarter", "aheadIn", "(III)I"⟩, prog_8_method_13_code, 4, (some .int), 6, 4, 0, 796, 794, 795),
  (⟨"OneSided$Quarter", "backIn", "(III)I"⟩, prog_8_method_14_code, 4, (some .int), 6, 4, 0, 800, 798, 799),
  (⟨"OneSided", "go", "(II)I"⟩, prog_1_method_8_code, 4, (some .int), 11, 3, 0, 804, 802, 803),
  (⟨"OneSided$Scene", "copy", "(LOneSided$Scene;)V"⟩, prog_11_method_3_code, 2, none, 9, 2, 0, 808, 806, 807),
  (⟨"OneSided$Scene", "tryDoor", "(LOneSided$Quarter;II)I"⟩, prog_11_method_5_code, 6, (some .int), 9, 4, 0, 813, 811, 812),
  (⟨"OneSided", "keepForUndo", "(LOneSided$Scene;)V"⟩, prog_1_method_38_code, 2, none, 11, 2, 0, 818, 817, 1000031),
  (⟨"OneSided", "hours", "(I)I"⟩, prog_1_method_9_code, 2, (some .int), 11, 2, 0, 825, 823, 824),
  (⟨"OneSided$Scene", "pass", "(I)V"⟩, prog_11_method_4_code, 2, none, 9, 2, 0, 829, 827, 828),
  (⟨"OneSided", "shut", "(IZ)Z"⟩, prog_1_method_10_code, 4, (some .boolean), 11, 3, 0, 836, 834, 835),
  (⟨"OneSided", "undo", "()Z"⟩, prog_1_method_11_code, 1, (some .boolean), 11, 1, 0, 840, 838, 839),
  (⟨"OneSided", "judged", "(I)I"⟩, prog_1_method_12_code, 4, (some .int), 11, 2, 0, 844, 842, 843),
  (⟨"OneSided$Memory", "playDay", "(LOneSided$Quarter;LOneSided$Scene;)I"⟩, prog_5_method_6_code, 5, (some .int), 3, 3, 0, 849, 847, 848)]
def MTB2 : List LM_M := [(⟨"OneSided", "soonest", "(II)I"⟩, prog_1_method_13_code, 3, (some .int), 11, 3, 0, 855, 853, 854),
  (⟨"OneSided$Plans", "firstHourIn", "(LOneSided$Quarter;LOneSided$Scene;II)I"⟩, prog_7_method_2_code, 8, (some .int), 5, 5, 0, 859, 857, 858),
  (⟨"OneSided$Scene", "firstFreeHour", "(I)I"⟩, prog_11_method_6_code, 2, (some .int), 9, 2, 0, 863, 861, 862),
  (⟨"OneSided$Plans", "nextRooms", "(LOneSided$Quarter;LOneSided$Scene;III)I"⟩, prog_7_method_4_code, 7, (some .int), 5, 5, 1, 866, 865, 0),
  (⟨"OneSided$Quarter", "entered", "(III)I"⟩, prog_8_method_16_code, 7, (some .int), 6, 4, 0, 872, 870, 871),
  (⟨"OneSided", "errand", "(II)I"⟩, prog_1_method_14_code, 4, (some .int), 11, 3, 0, 876, 874, 875),
  (⟨"OneSided$Plans", "homeHour", "(LOneSided$Quarter;LOneSided$Scene;I)I"⟩, prog_7_method_5_code, 11, (some .int), 5, 4, 0, 880, 878, 879),
  (⟨"OneSided$Plans", "findWay", "(LOneSided$Quarter;LOneSided$Scene;I)V"⟩, prog_7_method_6_code, 9, none, 5, 4, 0, 884, 882, 883),
  (⟨"OneSided$Plans", "fillNeed", "(LOneSided$Quarter;LOneSided$Person;III)V"⟩, prog_7_method_7_code, 12, none, 5, 6, 0, 889, 888, 1000032),
  (⟨"OneSided$Plans", "lessenNeed", "(LOneSided$Person;III)V"⟩, prog_7_method_8_code, 9, none, 5, 5, 0, 894, 893, 1000033),
  (⟨"OneSided$Plans", "nextDoor", "(LOneSided$Quarter;LOneSided$Person;II)I"⟩, prog_7_method_9_code, 8, (some .int), 5, 5, 0, 899, 898, 1000034),
  (⟨"OneSided$Plans", "hourThrough", "(LOneSided$Quarter;IIII)I"⟩, prog_7_method_10_code, 7, (some .int), 5, 6, 0, 903, 902, 1000035),
  (⟨"OneSided$Plans", "stateThrough", "(LOneSided$Quarter;II)I"⟩, prog_7_method_11_code, 6, (some .int), 5, 4, 0, 908, 907, 1000036),
  (⟨"OneSided", "reach", "(I)I"⟩, prog_1_method_15_code, 2, (some .int), 11, 2, 0, 912, 910, 911),
  (⟨"OneSided$Plans", "roomsByTheEnd", "(LOneSided$Quarter;LOneSided$Scene;I)I"⟩, prog_7_method_3_code, 7, (some .int), 5, 4, 0, 916, 914, 915),
  (⟨"OneSided", "stuck", "()I"⟩, prog_1_method_16_code, 3, (some .int), 11, 1, 0, 920, 918, 919),
  (⟨"OneSided", "ring", "(III)I"⟩, prog_1_method_17_code, 4, (some .int), 11, 4, 0, 924, 922, 923),
  (⟨"OneSided", "ahead", "(II)I"⟩, prog_1_method_36_code, 3, (some .int), 11, 3, 0, 928, 927, 1000037),
  (⟨"OneSided", "back", "(II)I"⟩, prog_1_method_37_code, 3, (some .int), 11, 3, 0, 933, 932, 1000038),
  (⟨"OneSided$Web", "ringOf", "(LOneSided$Quarter;III)I"⟩, prog_12_method_3_code, 4, (some .int), 10, 4, 1, 937, 936, 0),
  (⟨"OneSided$Web", "roomsFrom", "(LOneSided$Quarter;III)I"⟩, prog_12_method_2_code, 7, (some .int), 10, 4, 1, 940, 939, 0),
  (⟨"OneSided", "homeless", "(III)I"⟩, prog_1_method_18_code, 5, (some .int), 11, 4, 0, 945, 943, 944),
  (⟨"OneSided", "add", "(II)I"⟩, prog_1_method_19_code, 3, (some .int), 11, 3, 0, 950, 948, 949),
  (⟨"OneSided$Web", "doorsToAdd", "(LOneSided$Quarter;IIZ)I"⟩, prog_12_method_5_code, 11, (some .int), 10, 4, 1, 953, 952, 0),
  (⟨"OneSided", "turn", "(II)I"⟩, prog_1_method_20_code, 3, (some .int), 11, 3, 0, 960, 958, 959),
  (⟨"OneSided$Web", "doorsToTurn", "(LOneSided$Quarter;III)I"⟩, prog_12_method_6_code, 14, (some .int), 10, 4, 1, 963, 962, 0),
  (⟨"OneSided$Web", "isOneRing", "(LOneSided$Quarter;II)Z"⟩, prog_12_method_4_code, 4, (some .boolean), 10, 3, 1, 969, 968, 0),
  (⟨"java/lang/Integer", "bitCount", "(I)I"⟩, prog_15_method_49_code, 1, (some .int), 14, 1, 1, 972, 971, 0),
  (⟨"OneSided", "cut", "(IIII)I"⟩, prog_1_method_21_code, 5, (some .int), 11, 5, 0, 979, 977, 978),
  (⟨"OneSided$Web", "doorsToShut", "(LOneSided$Quarter;IIII)I"⟩, prog_12_method_7_code, 10, (some .int), 10, 5, 1, 982, 981, 0),
  (⟨"OneSided", "crowd", "(III)I"⟩, prog_1_method_22_code, 4, (some .int), 11, 4, 0, 986, 984, 985),
  (⟨"OneSided$Crowd", "most", "(LOneSided$Quarter;LOneSided$Scene;III)I"⟩, prog_2_method_2_code, 10, (some .int), 0, 6, 0, 990, 988, 989),
  (⟨"OneSided$Crowd", "findPath", "(LOneSided$Quarter;III)Z"⟩, prog_2_method_3_code, 6, (some .boolean), 0, 5, 0, 995, 994, 1000039),
  (⟨"OneSided$Crowd", "visit", "(III)V"⟩, prog_2_method_4_code, 4, none, 0, 4, 0, 999, 998, 1000040),
  (⟨"OneSided$Crowd", "goForward", "(LOneSided$Quarter;II)V"⟩, prog_2_method_5_code, 8, none, 0, 4, 0, 1003, 1002, 1000041),
  (⟨"OneSided$Crowd", "goBack", "(LOneSided$Quarter;II)V"⟩, prog_2_method_6_code, 9, none, 0, 4, 0, 1008, 1007, 1000042),
  (⟨"OneSided$Crowd", "narrowest", "(LOneSided$Quarter;II)I"⟩, prog_2_method_7_code, 11, (some .int), 0, 4, 0, 1012, 1011, 1000043),
  (⟨"OneSided$Crowd", "send", "(III)V"⟩, prog_2_method_8_code, 10, none, 0, 4, 0, 1018, 1017, 1000044),
  (⟨"OneSided", "told", "(IIZ)Z"⟩, prog_1_method_23_code, 4, (some .boolean), 11, 4, 0, 1022, 1020, 1021),
  (⟨"OneSided$Memory", "noteWalk", "(IIZ)Z"⟩, prog_5_method_7_code, 5, (some .boolean), 3, 4, 0, 1026, 1024, 1025)]
def MTB3 : List LM_M := [(⟨"OneSided", "found", "(I)I"⟩, prog_1_method_24_code, 2, (some .int), 11, 2, 0, 1030, 1028, 1029),
  (⟨"OneSided$Finder", "search", "(LOneSided$Quarter;LOneSided$Memory;Z)V"⟩, prog_4_method_2_code, 5, none, 2, 4, 0, 1034, 1032, 1033),
  (⟨"OneSided$Finder", "listArcs", "(LOneSided$Quarter;LOneSided$Scene;)V"⟩, prog_4_method_3_code, 8, none, 2, 3, 0, 1039, 1038, 1000045),
  (⟨"OneSided$Finder", "grow", "(LOneSided$Memory;II)V"⟩, prog_4_method_4_code, 8, none, 2, 4, 0, 1046, 1045, 1000046),
  (⟨"OneSided$Finder", "weigh", "(LOneSided$Memory;I)V"⟩, prog_4_method_5_code, 6, none, 2, 3, 0, 1050, 1049, 1000047),
  (⟨"OneSided$Finder", "countComers", "(I)V"⟩, prog_4_method_6_code, 5, none, 2, 2, 0, 1054, 1053, 1000048),
  (⟨"OneSided$Finder", "tellingPair", "(I)I"⟩, prog_4_method_7_code, 8, (some .int), 2, 2, 0, 1059, 1057, 1058),
  (⟨"OneSided", "rests", "(III)I"⟩, prog_1_method_25_code, 4, (some .int), 11, 4, 0, 1064, 1062, 1063),
  (⟨"OneSided", "isHinge", "(I)Z"⟩, prog_1_method_32_code, 2, (some .boolean), 11, 2, 0, 1068, 1067, 1000049),
  (⟨"OneSided$Rents", "settle", "(LOneSided$Quarter;LOneSided$Scene;II)V"⟩, prog_10_method_2_code, 6, none, 8, 5, 0, 1072, 1070, 1071),
  (⟨"OneSided$Rents", "tryPrices", "(LOneSided$Quarter;LOneSided$Scene;II)V"⟩, prog_10_method_3_code, 9, none, 8, 5, 0, 1076, 1075, 1000050),
  (⟨"OneSided$Rents", "takeRents", "(LOneSided$Quarter;LOneSided$Scene;I)V"⟩, prog_10_method_4_code, 8, none, 8, 4, 0, 1081, 1080, 1000051),
  (⟨"OneSided$Rents", "doorsOf", "(LOneSided$Quarter;LOneSided$Scene;II)I"⟩, prog_10_method_5_code, 8, (some .int), 8, 5, 0, 1085, 1084, 1000052),
  (⟨"OneSided$Rents", "withHinges", "(IIII)I"⟩, prog_10_method_6_code, 8, (some .int), 8, 5, 0, 1091, 1090, 1000053),
  (⟨"OneSided$Rents", "fillBest", "(LOneSided$Quarter;III)V"⟩, prog_10_method_7_code, 11, none, 8, 5, 0, 1095, 1094, 1000054),
  (⟨"OneSided$Rents", "cheapest", "(LOneSided$Quarter;IIII)I"⟩, prog_10_method_8_code, 14, (some .int), 8, 6, 0, 1101, 1100, 1000055),
  (⟨"OneSided$Rents", "restCount", "()I"⟩, prog_10_method_9_code, 3, (some .int), 8, 1, 0, 1105, 1103, 1104),
  (⟨"OneSided$Rents", "isRest", "(I)Z"⟩, prog_10_method_11_code, 3, (some .boolean), 8, 2, 0, 1109, 1108, 1000056),
  (⟨"OneSided$Rents", "restAt", "(I)I"⟩, prog_10_method_10_code, 4, (some .int), 8, 2, 0, 1113, 1111, 1112),
  (⟨"OneSided", "chase", "(II)I"⟩, prog_1_method_26_code, 4, (some .int), 11, 3, 0, 1117, 1115, 1116),
  (⟨"OneSided$Web", "movesToCatch", "(LOneSided$Quarter;IIII)I"⟩, prog_12_method_8_code, 7, (some .int), 10, 6, 0, 1121, 1119, 1120),
  (⟨"OneSided$Web", "growCaught", "(LOneSided$Quarter;II)Z"⟩, prog_12_method_9_code, 8, (some .boolean), 10, 4, 0, 1125, 1124, 1000057),
  (⟨"OneSided", "run", "(I)I"⟩, prog_1_method_27_code, 4, (some .int), 11, 2, 0, 1129, 1127, 1128),
  (⟨"OneSided$Plans", "runDay", "(LOneSided$Quarter;LOneSided$Scene;)I"⟩, prog_7_method_12_code, 6, (some .int), 5, 3, 0, 1133, 1131, 1132),
  (⟨"OneSided$Plans", "goOn", "(LOneSided$Quarter;LOneSided$Scene;I)V"⟩, prog_7_method_13_code, 4, none, 5, 4, 0, 1137, 1136, 1000058),
  (⟨"OneSided$Scene", "homeAndDone", "(LOneSided$Quarter;)I"⟩, prog_11_method_7_code, 4, (some .int), 9, 2, 0, 1143, 1141, 1142),
  (⟨"OneSided$Plans", "peopleDueFrom", "(LOneSided$Quarter;I)I"⟩, prog_7_method_14_code, 4, (some .int), 5, 2, 1, 1146, 1145, 0),
  (⟨"OneSided", "years", "(III)I"⟩, prog_1_method_28_code, 4, (some .int), 11, 4, 0, 1154, 1152, 1153),
  (⟨"OneSided$Plans", "runYears", "(LOneSided$Quarter;LOneSided$Scene;IIIZ)I"⟩, prog_7_method_15_code, 14, (some .int), 5, 7, 0, 1158, 1156, 1157),
  (⟨"OneSided$Plans", "nextDraw", "(J)J"⟩, prog_7_method_16_code, 2, (some .long), 5, 1, 1, 1161, 1160, 0),
  (⟨"OneSided$Plans", "below", "(JI)I"⟩, prog_7_method_17_code, 3, (some .int), 5, 2, 1, 1167, 1166, 0),
  (⟨"OneSided$Plans", "doneInTime", "(LOneSided$Quarter;LOneSided$Scene;)I"⟩, prog_7_method_18_code, 6, (some .int), 5, 3, 0, 1173, 1172, 1000059),
  (⟨"OneSided", "mark", "(IZ)Z"⟩, prog_1_method_29_code, 3, (some .boolean), 11, 3, 0, 1177, 1175, 1176),
  (⟨"OneSided$Memory", "copy", "(LOneSided$Memory;)V"⟩, prog_5_method_3_code, 2, none, 3, 2, 0, 1181, 1179, 1180),
  (⟨"OneSided", "count", "(I)I"⟩, prog_1_method_30_code, 2, (some .int), 11, 2, 0, 1187, 1185, 1186),
  (⟨"OneSidedModel", "feed", "(JJJ)I"⟩, prog_14_method_2_code, 7, (some .int), 12, 4, 0, 1191, 1189, 1190),
  (⟨"OneSidedModel", "lay", "(J)V"⟩, prog_14_method_3_code, 5, none, 12, 2, 0, 1196, 1194, 1000060),
  (⟨"OneSidedModel", "<init>", "()V"⟩, prog_14_method_4_code, 1, none, 12, 1, 0, 1200, 1199, 0),
  (⟨"OneSidedModel", "standsAsAlways", "(I)V"⟩, prog_14_method_18_code, 3, none, 12, 2, 0, 1234, 1233, 1000061),
  (⟨"OneSidedModel", "begins", "()V"⟩, prog_14_method_43_code, 2, none, 12, 1, 0, 1238, 1237, 1000062)]
def MTB4 : List LM_M := [(⟨"OneSidedModel", "startsDay", "(I)V"⟩, prog_14_method_44_code, 3, none, 12, 2, 0, 1242, 1241, 1000063),
  (⟨"OneSidedModel", "personOf", "(II)I"⟩, prog_14_method_50_code, 3, (some .int), 12, 3, 0, 1246, 1245, 1000064),
  (⟨"OneSidedModel", "quarter", "()I"⟩, prog_14_method_24_code, 2, (some .int), 12, 1, 0, 1417, 1415, 1416),
  (⟨"OneSidedModel", "cutAll", "()V"⟩, prog_14_method_9_code, 7, none, 12, 1, 0, 1421, 1420, 1000065),
  (⟨"OneSidedModel", "isLetter", "(I)Z"⟩, prog_14_method_5_code, 1, (some .boolean), 12, 1, 1, 1424, 1423, 0),
  (⟨"OneSidedModel", "rank", "(I)I"⟩, prog_14_method_7_code, 1, (some .int), 12, 1, 1, 1428, 1427, 0),
  (⟨"OneSidedModel", "isDigit", "(I)Z"⟩, prog_14_method_6_code, 1, (some .boolean), 12, 1, 1, 1431, 1430, 0),
  (⟨"OneSidedModel", "isSignOf", "(I)Z"⟩, prog_14_method_8_code, 1, (some .boolean), 12, 1, 1, 1436, 1435, 0),
  (⟨"OneSidedModel", "takeWord", "(I)V"⟩, prog_14_method_16_code, 2, none, 12, 2, 0, 1440, 1439, 1000066),
  (⟨"OneSidedModel", "hasWord", "(I)Z"⟩, prog_14_method_15_code, 3, (some .boolean), 12, 2, 0, 1444, 1443, 1000067),
  (⟨"OneSidedModel", "isWord", "(I)Z"⟩, prog_14_method_12_code, 2, (some .boolean), 12, 2, 0, 1448, 1447, 1000068),
  (⟨"OneSidedModel", "wrong", "(I)V"⟩, prog_14_method_10_code, 2, none, 12, 2, 0, 1452, 1451, 1000069),
  (⟨"OneSidedModel", "takeNumber", "(II)I"⟩, prog_14_method_19_code, 3, (some .int), 12, 3, 0, 1456, 1455, 1000070),
  (⟨"OneSidedModel", "takeSign", "(I)V"⟩, prog_14_method_13_code, 2, none, 12, 2, 0, 1460, 1459, 1000071),
  (⟨"OneSidedModel", "isSign", "(I)Z"⟩, prog_14_method_11_code, 2, (some .boolean), 12, 2, 0, 1464, 1463, 1000072),
  (⟨"OneSidedModel", "readDoor", "()V"⟩, prog_14_method_27_code, 5, none, 12, 1, 0, 1468, 1467, 1000073),
  (⟨"OneSidedModel", "readName", "(I)V"⟩, prog_14_method_25_code, 2, none, 12, 2, 0, 1472, 1471, 1000074),
  (⟨"OneSidedModel", "isName", "()Z"⟩, prog_14_method_22_code, 1, (some .boolean), 12, 1, 0, 1476, 1475, 1000075),
  (⟨"OneSidedModel", "wordHere", "(II)I"⟩, prog_14_method_21_code, 5, (some .int), 12, 3, 0, 1480, 1479, 1000076),
  (⟨"OneSidedModel", "find", "(Z)I"⟩, prog_14_method_23_code, 3, (some .int), 12, 2, 0, 1484, 1483, 1000077),
  (⟨"OneSidedModel", "takeRoom", "()I"⟩, prog_14_method_26_code, 1, (some .int), 12, 1, 0, 1488, 1487, 1000078),
  (⟨"OneSidedModel", "takeAfter", "(III)I"⟩, prog_14_method_20_code, 4, (some .int), 12, 4, 0, 1492, 1491, 1000079),
  (⟨"OneSidedModel", "takeSort", "()I"⟩, prog_14_method_28_code, 2, (some .int), 12, 1, 0, 1496, 1495, 1000080),
  (⟨"OneSidedModel", "readPerson", "()V"⟩, prog_14_method_29_code, 3, none, 12, 1, 0, 1500, 1499, 1000081),
  (⟨"OneSidedModel", "readLet", "()V"⟩, prog_14_method_30_code, 1, none, 12, 1, 0, 1504, 1503, 1000082),
  (⟨"OneSidedModel", "all", "(I)V"⟩, prog_14_method_35_code, 3, none, 12, 2, 0, 1508, 1507, 1000083),
  (⟨"OneSidedModel", "test", "(I)V"⟩, prog_14_method_36_code, 3, none, 12, 2, 0, 1512, 1511, 1000084),
  (⟨"OneSidedModel", "sums", "(I)V"⟩, prog_14_method_37_code, 3, none, 12, 2, 0, 1516, 1515, 1000085),
  (⟨"OneSidedModel", "products", "(I)V"⟩, prog_14_method_38_code, 2, none, 12, 2, 0, 1520, 1519, 1000086),
  (⟨"OneSidedModel", "takePart", "(I)V"⟩, prog_14_method_39_code, 4, none, 12, 2, 0, 1524, 1523, 1000087),
  (⟨"OneSidedModel", "emit", "(II)V"⟩, prog_14_method_34_code, 3, none, 12, 3, 0, 1528, 1527, 1000088),
  (⟨"OneSidedModel", "hasSign", "(I)Z"⟩, prog_14_method_14_code, 3, (some .boolean), 12, 2, 0, 1532, 1531, 1000089),
  (⟨"OneSidedModel", "day", "()I"⟩, prog_14_method_31_code, 2, (some .int), 12, 1, 0, 1536, 1534, 1535),
  (⟨"OneSidedModel", "readTurn", "()V"⟩, prog_14_method_32_code, 3, none, 12, 1, 0, 1540, 1539, 1000090),
  (⟨"OneSidedModel", "takeTold", "(II)I"⟩, prog_14_method_33_code, 4, (some .int), 12, 3, 0, 1544, 1543, 1000091),
  (⟨"OneSidedModel", "within", "(III)Z"⟩, prog_14_method_17_code, 3, (some .boolean), 12, 3, 1, 1547, 1546, 0),
  (⟨"OneSidedModel", "door", "(II)I"⟩, prog_14_method_58_code, 3, (some .int), 12, 3, 0, 1551, 1549, 1550),
  (⟨"OneSidedModel", "isDoor", "(I)Z"⟩, prog_14_method_52_code, 2, (some .boolean), 12, 2, 0, 1555, 1554, 1000092),
  (⟨"OneSidedModel", "doors", "()I"⟩, prog_14_method_47_code, 1, (some .int), 12, 1, 0, 1559, 1558, 1000093),
  (⟨"OneSidedModel", "doorOf", "(II)I"⟩, prog_14_method_49_code, 3, (some .int), 12, 3, 0, 1563, 1562, 1000094)]
def MTB5 : List LM_M := [(⟨"OneSidedModel", "person", "(II)I"⟩, prog_14_method_59_code, 3, (some .int), 12, 3, 0, 1567, 1565, 1566),
  (⟨"OneSidedModel", "isPerson", "(I)Z"⟩, prog_14_method_53_code, 2, (some .boolean), 12, 2, 0, 1571, 1570, 1000095),
  (⟨"OneSidedModel", "people", "()I"⟩, prog_14_method_48_code, 1, (some .int), 12, 1, 0, 1575, 1574, 1000096),
  (⟨"OneSidedModel", "leads", "(IIII)I"⟩, prog_14_method_60_code, 5, (some .int), 12, 5, 0, 1579, 1577, 1578),
  (⟨"OneSidedModel", "isRoom", "(I)Z"⟩, prog_14_method_51_code, 2, (some .boolean), 12, 2, 0, 1583, 1582, 1000097),
  (⟨"OneSidedModel", "rooms", "()I"⟩, prog_14_method_46_code, 1, (some .int), 12, 1, 0, 1587, 1586, 1000098),
  (⟨"OneSidedModel", "leadsNow", "(IIIII)I"⟩, prog_14_method_57_code, 6, (some .int), 12, 6, 0, 1591, 1590, 1000099),
  (⟨"OneSidedModel", "leadsTo", "(IIIIII)I"⟩, prog_14_method_56_code, 12, (some .int), 12, 7, 0, 1595, 1594, 1000100),
  (⟨"OneSidedModel", "isIn", "(II)Z"⟩, prog_14_method_54_code, 2, (some .boolean), 12, 2, 1, 1598, 1597, 0),
  (⟨"OneSidedModel", "priceOf", "(I)I"⟩, prog_14_method_55_code, 2, (some .int), 12, 2, 0, 1602, 1601, 1000101),
  (⟨"OneSidedModel", "worthAt", "(I)I"⟩, prog_14_method_40_code, 5, (some .int), 12, 2, 0, 1606, 1605, 1000102),
  (⟨"OneSidedModel", "both", "(III)I"⟩, prog_14_method_41_code, 3, (some .int), 12, 3, 1, 1609, 1608, 0),
  (⟨"OneSidedModel", "go", "(II)I"⟩, prog_14_method_62_code, 3, (some .int), 12, 3, 0, 1613, 1611, 1612),
  (⟨"OneSidedModel", "copies", "(III)V"⟩, prog_14_method_42_code, 5, none, 12, 4, 0, 1617, 1616, 1000103),
  (⟨"OneSidedModel", "goes", "(III)I"⟩, prog_14_method_61_code, 5, (some .int), 12, 4, 0, 1621, 1620, 1000104),
  (⟨"OneSidedModel", "keeps", "()V"⟩, prog_14_method_45_code, 2, none, 12, 1, 0, 1625, 1624, 1000105),
  (⟨"OneSidedModel", "hours", "(I)I"⟩, prog_14_method_64_code, 3, (some .int), 12, 2, 0, 1629, 1627, 1628),
  (⟨"OneSidedModel", "passes", "(I)V"⟩, prog_14_method_63_code, 3, none, 12, 2, 0, 1633, 1632, 1000106),
  (⟨"OneSidedModel", "shut", "(IZ)Z"⟩, prog_14_method_65_code, 3, (some .boolean), 12, 3, 0, 1637, 1635, 1636),
  (⟨"OneSidedModel", "undo", "()Z"⟩, prog_14_method_66_code, 1, (some .boolean), 12, 1, 0, 1641, 1639, 1640),
  (⟨"OneSidedModel", "judged", "(I)I"⟩, prog_14_method_67_code, 6, (some .int), 12, 2, 0, 1645, 1643, 1644),
  (⟨"OneSidedModel", "soonest", "(II)I"⟩, prog_14_method_71_code, 3, (some .int), 12, 3, 0, 1649, 1647, 1648),
  (⟨"OneSidedModel", "firstHour", "(III)I"⟩, prog_14_method_70_code, 6, (some .int), 12, 4, 0, 1653, 1652, 1000107),
  (⟨"OneSidedModel", "startOf", "(II)I"⟩, prog_14_method_69_code, 3, (some .int), 12, 3, 0, 1657, 1656, 1000108),
  (⟨"OneSidedModel", "stepOf", "(IIII)I"⟩, prog_14_method_68_code, 10, (some .int), 12, 5, 0, 1661, 1660, 1000109),
  (⟨"OneSidedModel", "errand", "(II)I"⟩, prog_14_method_76_code, 4, (some .int), 12, 3, 0, 1665, 1663, 1664),
  (⟨"OneSidedModel", "findWay", "(II)I"⟩, prog_14_method_74_code, 8, (some .int), 12, 3, 0, 1669, 1668, 1000110),
  (⟨"OneSidedModel", "errandHour", "(II)I"⟩, prog_14_method_72_code, 3, (some .int), 12, 3, 0, 1673, 1672, 1000111),
  (⟨"OneSidedModel", "findFewest", "(III)V"⟩, prog_14_method_73_code, 11, none, 12, 4, 0, 1677, 1676, 1000112),
  (⟨"OneSidedModel", "isNext", "(IIIIIII)Z"⟩, prog_14_method_75_code, 10, (some .boolean), 12, 8, 0, 1682, 1681, 1000113),
  (⟨"OneSidedModel", "reach", "(I)I"⟩, prog_14_method_77_code, 4, (some .int), 12, 2, 0, 1686, 1684, 1685),
  (⟨"OneSidedModel", "stuck", "()I"⟩, prog_14_method_78_code, 3, (some .int), 12, 1, 0, 1690, 1688, 1689),
  (⟨"OneSidedModel", "ring", "(III)I"⟩, prog_14_method_84_code, 4, (some .int), 12, 4, 0, 1694, 1692, 1693),
  (⟨"OneSidedModel", "mayAsk", "(II)Z"⟩, prog_14_method_81_code, 3, (some .boolean), 12, 3, 0, 1698, 1697, 1000114),
  (⟨"OneSidedModel", "laysInto", "(IIII)V"⟩, prog_14_method_79_code, 8, none, 12, 5, 0, 1702, 1701, 1000115),
  (⟨"OneSidedModel", "closure", "(I)I"⟩, prog_14_method_80_code, 5, (some .int), 12, 2, 0, 1706, 1705, 1000116),
  (⟨"OneSidedModel", "homelessOf", "(I)I"⟩, prog_14_method_82_code, 4, (some .int), 12, 2, 0, 1710, 1709, 1000117),
  (⟨"OneSidedModel", "homeless", "(III)I"⟩, prog_14_method_85_code, 4, (some .int), 12, 4, 0, 1714, 1712, 1713),
  (⟨"OneSidedModel", "add", "(II)I"⟩, prog_14_method_86_code, 8, (some .int), 12, 3, 0, 1718, 1716, 1717),
  (⟨"OneSidedModel", "every", "()I"⟩, prog_14_method_83_code, 1, (some .int), 12, 1, 0, 1722, 1721, 1000118)]
def MTB6 : List LM_M := [(⟨"OneSidedModel", "turn", "(II)I"⟩, prog_14_method_88_code, 5, (some .int), 12, 3, 0, 1726, 1724, 1725),
  (⟨"OneSidedModel", "bits", "(I)I"⟩, prog_14_method_87_code, 3, (some .int), 12, 1, 1, 1729, 1728, 0),
  (⟨"OneSidedModel", "cut", "(IIII)I"⟩, prog_14_method_89_code, 7, (some .int), 12, 5, 0, 1733, 1731, 1732),
  (⟨"OneSidedModel", "crowd", "(III)I"⟩, prog_14_method_95_code, 5, (some .int), 12, 4, 0, 1737, 1735, 1736),
  (⟨"OneSidedModel", "isMore", "(III)Z"⟩, prog_14_method_93_code, 5, (some .boolean), 12, 4, 0, 1741, 1740, 1000119),
  (⟨"OneSidedModel", "comes", "(II)V"⟩, prog_14_method_91_code, 3, none, 12, 3, 0, 1745, 1744, 1000120),
  (⟨"OneSidedModel", "spreads", "(III)V"⟩, prog_14_method_92_code, 8, none, 12, 4, 0, 1749, 1748, 1000121),
  (⟨"OneSidedModel", "toOf", "(III)I"⟩, prog_14_method_90_code, 4, (some .int), 12, 4, 0, 1753, 1752, 1000122),
  (⟨"OneSidedModel", "goesBack", "(I)I"⟩, prog_14_method_94_code, 6, (some .int), 12, 2, 0, 1757, 1756, 1000123),
  (⟨"OneSidedModel", "told", "(IIZ)Z"⟩, prog_14_method_96_code, 5, (some .boolean), 12, 4, 0, 1761, 1759, 1760),
  (⟨"OneSidedModel", "found", "(I)I"⟩, prog_14_method_100_code, 3, (some .int), 12, 2, 0, 1765, 1763, 1764),
  (⟨"OneSidedModel", "looks", "(I)V"⟩, prog_14_method_98_code, 5, none, 12, 2, 0, 1769, 1768, 1000124),
  (⟨"OneSidedModel", "laysNow", "(I)V"⟩, prog_14_method_97_code, 3, none, 12, 2, 0, 1773, 1772, 1000125),
  (⟨"OneSidedModel", "tellsMost", "()I"⟩, prog_14_method_99_code, 6, (some .int), 12, 1, 0, 1777, 1776, 1000126),
  (⟨"OneSidedModel", "rests", "(III)I"⟩, prog_14_method_102_code, 8, (some .int), 12, 4, 0, 1781, 1779, 1780),
  (⟨"OneSidedModel", "goesBy", "(I)I"⟩, prog_14_method_101_code, 8, (some .int), 12, 2, 0, 1785, 1784, 1000127),
  (⟨"OneSidedModel", "chase", "(II)I"⟩, prog_14_method_103_code, 5, (some .int), 12, 3, 0, 1789, 1787, 1788),
  (⟨"OneSidedModel", "afterMove", "(II)Z"⟩, prog_14_method_104_code, 11, (some .boolean), 12, 3, 0, 1793, 1792, 1000128),
  (⟨"OneSidedModel", "run", "(I)I"⟩, prog_14_method_106_code, 2, (some .int), 12, 2, 0, 1797, 1795, 1796),
  (⟨"OneSidedModel", "findRun", "()V"⟩, prog_14_method_105_code, 6, none, 12, 1, 0, 1801, 1800, 1000129),
  (⟨"OneSidedModel", "years", "(III)I"⟩, prog_14_method_108_code, 10, (some .int), 12, 4, 0, 1805, 1803, 1804),
  (⟨"OneSidedModel", "draw", "(I)I"⟩, prog_14_method_107_code, 2, (some .int), 12, 2, 0, 1809, 1808, 1000130),
  (⟨"OneSidedModel", "mark", "(IZ)Z"⟩, prog_14_method_109_code, 4, (some .boolean), 12, 3, 0, 1817, 1815, 1816),
  (⟨"OneSidedModel", "count", "(I)I"⟩, prog_14_method_110_code, 4, (some .int), 12, 2, 0, 1821, 1819, 1820)]
def MTB (i : Nat) : Option LM_M := match i / 40 with
  | 0 => MTB0[i % 40]?
  | 1 => MTB1[i % 40]?
  | 2 => MTB2[i % 40]?
  | 3 => MTB3[i % 40]?
  | 4 => MTB4[i % 40]?
  | 5 => MTB5[i % 40]?
  | 6 => MTB6[i % 40]?
  | _ => none
/-- the cells in the order in which they are made: (0, class, fields); (1 int, 2 long, 3 byte, 4 boolean, 5 of a class; class; length) -/
def LAYL : List (Nat × Nat × Nat) := [(6, 0, 0), (0, 11, 15), (0, 7, 9), (3, 0, 1000), (2, 0, 29), (0, 6, 10), (5, 1, 14), (5, 4, 6), (1, 0, 1000), (1, 0, 32), (1, 0, 96), (1, 0, 96), (0, 1, 9), (0, 1, 9), (0, 1, 9), (0, 1, 9), (0, 1, 9), (0, 1, 9), (0, 1, 9), (0, 1, 9), (0, 1, 9), (0, 1, 9), (0, 1, 9), (0, 1, 9), (0, 1, 9), (0, 1, 9), (0, 4, 5), (0, 4, 5), (0, 4, 5), (0, 4, 5), (0, 4, 5), (0, 4, 5), (0, 6, 10), (5, 1, 14), (5, 4, 6), (1, 0, 1000), (1, 0, 32), (1, 0, 96), (1, 0, 96), (0, 1, 9), (0, 1, 9), (0, 1, 9), (0, 1, 9), (0, 1, 9), (0, 1, 9), (0, 1, 9), (0, 1, 9), (0, 1, 9), (0, 1, 9), (0, 1, 9), (0, 1, 9), (0, 1, 9), (0, 1, 9), (0, 4, 5), (0, 4, 5), (0, 4, 5), (0, 4, 5), (0, 4, 5), (0, 4, 5), (0, 3, 8), (0, 9, 6), (1, 0, 6), (1, 0, 14), (1, 0, 24), (1, 0, 24), (1, 0, 10), (1, 0, 10), (0, 3, 8), (0, 9, 6), (1, 0, 6), (1, 0, 14), (1, 0, 24), (1, 0, 24), (1, 0, 10), (1, 0, 10), (5, 3, 4), (5, 9, 16), (0, 5, 5), (1, 0, 24), (1, 0, 500), (0, 10, 3), (1, 0, 10), (1, 0, 10), (1, 0, 10), (0, 0, 8), (1, 0, 336), (1, 0, 240), (1, 0, 250), (1, 0, 250), (1, 0, 250), (0, 2, 13), (1, 0, 14), (1, 0, 14), (1, 0, 14), (1, 0, 150), (1, 0, 100), (0, 8, 7), (1, 0, 10), (1, 0, 14), (1, 0, 80), (1, 0, 100), (1, 0, 100), (0, 3, 8), (0, 9, 6), (1, 0, 6), (1, 0, 14), (1, 0, 24), (1, 0, 24), (1, 0, 10), (1, 0, 10), (0, 3, 8), (0, 9, 6), (1, 0, 6), (1, 0, 14), (1, 0, 24), (1, 0, 24), (1, 0, 10), (1, 0, 10), (0, 3, 8), (0, 9, 6), (1, 0, 6), (1, 0, 14), (1, 0, 24), (1, 0, 24), (1, 0, 10), (1, 0, 10), (0, 3, 8), (0, 9, 6), (1, 0, 6), (1, 0, 14), (1, 0, 24), (1, 0, 24), (1, 0, 10), (1, 0, 10), (0, 9, 6), (1, 0, 6), (1, 0, 14), (0, 9, 6), (1, 0, 6), (1, 0, 14), (0, 9, 6), (1, 0, 6), (1, 0, 14), (0, 9, 6), (1, 0, 6), (1, 0, 14), (0, 9, 6), (1, 0, 6), (1, 0, 14), (0, 9, 6), (1, 0, 6), (1, 0, 14), (0, 9, 6), (1, 0, 6), (1, 0, 14), (0, 9, 6), (1, 0, 6), (1, 0, 14), (0, 9, 6), (1, 0, 6), (1, 0, 14), (0, 9, 6), (1, 0, 6), (1, 0, 14), (0, 9, 6), (1, 0, 6), (1, 0, 14), (0, 9, 6), (1, 0, 6), (1, 0, 14), (0, 9, 6), (1, 0, 6), (1, 0, 14), (0, 9, 6), (1, 0, 6), (1, 0, 14), (0, 9, 6), (1, 0, 6), (1, 0, 14), (0, 9, 6), (1, 0, 6), (1, 0, 14), (0, 12, 55), (1, 0, 1000), (1, 0, 1002), (1, 0, 1002), (2, 0, 1002), (2, 0, 29), (1, 0, 300), (1, 0, 2200), (1, 0, 2200), (2, 0, 20), (2, 0, 20), (1, 0, 20), (1, 0, 20), (1, 0, 100), (1, 0, 4), (1, 0, 1100), (1, 0, 1610), (4, 0, 4), (1, 0, 200), (1, 0, 500), (1, 0, 30), (1, 0, 10), (1, 0, 336), (1, 0, 250), (1, 0, 250), (1, 0, 250), (1, 0, 100), (1, 0, 10), (1, 0, 10), (1, 0, 200), (1, 0, 200)]
def NC : Nat := 212
def lay (a : Nat) : Nat × Nat × Nat := LAYL.getD a (6, 0, 0)
end
section
/-! LM, part 4: a light machine over the same code. A value: an int, a long, or a cell's number (0 null, -1 the text, -2 the script). The heap: what was written, the last first; what was never written is 0. -/
abbrev LL : Type := List (Option LV)
abbrev LH : Type := List (Int × Int × Int)
def rd : LH → Int → Int → Int
  | [], _, _ => 0
  | (b, j, v) :: t, a, i => if b = a ∧ j = i then v else rd t a i
def wr (h : LH) (a i v : Int) : LH := (a, i, v) :: h
theorem rd_wr (h : LH) (a i v b j : Int) : rd (wr h a i v) b j = if a = b ∧ i = j then v else rd h b j := rfl
def isL (v : LV) : Bool := match v with
  | .inr (.inl _) => true
  | _ => false
def vcat (v : LV) : Nat := if isL v then 2 else 1
def lcat (st : List LV) : Nat := (st.map vcat).sum
-- locals
def lget (ls : LL) (i : Nat) : Option LV := (ls[i]?).join
def lkill (ls : LL) (i : Nat) : LL := match i with
  | 0 => ls
  | j + 1 => match lget ls j with
    | some v => if isL v then ls.set j none else ls
    | none => ls
def lst (ls : LL) (i : Nat) (v : LV) : LL := if isL v then ((lkill ls i).set i (some v)).set (i + 1) none else (lkill ls i).set i (some v)
def lent : List LV → LL
  | [] => []
  | v :: r => if isL v then some v :: none :: lent r else some v :: lent r
def lpad (n : Nat) (ls : LL) : LL := ls ++ List.replicate (n - ls.length) none
-- what reads and makes values alone
def lmA (i : Instr) (st : List LV) : Option (List LV) := match i with
  | .iconst v => if -1 ≤ v ∧ v ≤ 5 then some (.inl v :: st) else none
  | .bipush v => if -128 ≤ v ∧ v ≤ 127 then some (.inl v :: st) else none
  | .sipush v => if -32768 ≤ v ∧ v ≤ 32767 then some (.inl v :: st) else none
  | .lconst v => some (.inr (.inl (v.val : Int)) :: st)
  | .iadd => match st with | .inl b :: .inl a :: r => some (.inl (w32 (a + b)) :: r) | _ => none
  | .isub => match st with | .inl b :: .inl a :: r => some (.inl (w32 (a - b)) :: r) | _ => none
  | .imul => match st with | .inl b :: .inl a :: r => some (.inl (w32 (a * b)) :: r) | _ => none
  | .idiv => match st with | .inl b :: .inl a :: r => if b = 0 then none else some (.inl (w32 (a.tdiv b)) :: r) | _ => none
  | .irem => match st with | .inl b :: .inl a :: r => if b = 0 then none else some (.inl (w32 (a - w32 (w32 (a.tdiv b) * b))) :: r) | _ => none
  | .ineg => match st with | .inl a :: r => some (.inl (w32 (-a)) :: r) | _ => none
  | .iand => match st with | .inl b :: .inl a :: r => some (.inl (zand a b) :: r) | _ => none
  | .ior => match st with | .inl b :: .inl a :: r => some (.inl (zor a b) :: r) | _ => none
  | .ixor => match st with | .inl b :: .inl a :: r => some (.inl (zxor a b) :: r) | _ => none
  | .ishl => match st with | .inl b :: .inl a :: r => some (.inl (zshl a b) :: r) | _ => none
  | .ishr => match st with | .inl b :: .inl a :: r => some (.inl (zshr a b) :: r) | _ => none
  | .iushr => match st with | .inl b :: .inl a :: r => some (.inl (zushr a b) :: r) | _ => none
  | .ladd => match st with | .inr (.inl b) :: .inr (.inl a) :: r => some (.inr (.inl (w64 (a + b))) :: r) | _ => none
  | .lsub => match st with | .inr (.inl b) :: .inr (.inl a) :: r => some (.inr (.inl (w64 (a - b))) :: r) | _ => none
  | .lmul => match st with | .inr (.inl b) :: .inr (.inl a) :: r => some (.inr (.inl (w64 (a * b))) :: r) | _ => none
  | .ldiv => match st with | .inr (.inl b) :: .inr (.inl a) :: r => if b = 0 then none else some (.inr (.inl (w64 (a.tdiv b))) :: r) | _ => none
  | .lrem => match st with | .inr (.inl b) :: .inr (.inl a) :: r => if b = 0 then none else some (.inr (.inl (w64 (a - w64 (w64 (a.tdiv b) * b)))) :: r) | _ => none
  | .land => match st with | .inr (.inl b) :: .inr (.inl a) :: r => some (.inr (.inl (land_ a b)) :: r) | _ => none
  | .lor => match st with | .inr (.inl b) :: .inr (.inl a) :: r => some (.inr (.inl (lor_ a b)) :: r) | _ => none
  | .lshl => match st with | .inl b :: .inr (.inl a) :: r => some (.inr (.inl (lshl_ a b)) :: r) | _ => none
  | .lshr => match st with | .inl b :: .inr (.inl a) :: r => some (.inr (.inl (lshr_ a b)) :: r) | _ => none
  | .lushr => match st with | .inl b :: .inr (.inl a) :: r => some (.inr (.inl (lushr_ a b)) :: r) | _ => none
  | .lcmp => match st with | .inr (.inl b) :: .inr (.inl a) :: r => some (.inl (lcmp_ a b) :: r) | _ => none
  | .i2l => match st with | .inl a :: r => some (.inr (.inl a) :: r) | _ => none
  | .l2i => match st with | .inr (.inl a) :: r => some (.inl (w32 a) :: r) | _ => none
  | .i2b => match st with | .inl a :: r => some (.inl ((Int32.ofInt a).toInt8.toInt32.toInt) :: r) | _ => none
  | .i2c => match st with | .inl a :: r => some (.inl (((Int32.ofInt a).toUInt32 % 65536).toInt32.toInt) :: r) | _ => none
  | .dup => match st with | a :: r => if isL a then none else some (a :: a :: r) | _ => none
  | .pop => match st with | a :: r => if isL a then none else some r | _ => none
  | .dup2 => match st with | b :: a :: r => if isL a || isL b then none else some (b :: a :: b :: a :: r) | _ => none
  | _ => none
-- constants of the pool
def STRL : List Int := [114, 111, 111, 109, 115, 32, 100, 111, 111, 114, 32, 116, 111, 32, 111, 112, 101, 110, 32, 102, 111, 114, 32, 104, 111, 108, 100, 115, 32, 112, 114, 105, 99, 101, 32, 112, 101, 114, 115, 111, 110, 32, 97, 116, 32, 101, 114, 114, 97, 110, 100, 32, 98, 121, 32, 108, 101, 116, 32, 103, 111, 32, 104, 111, 117, 114, 32, 112, 108, 97, 105, 110, 32, 116, 117, 114, 110, 105, 110, 103, 32, 104, 105, 110, 103, 101, 32, 98, 108, 97, 110, 107, 32, 116, 101, 110, 97, 110, 116, 32, 115, 111, 108, 100, 105, 101, 114, 32, 99, 104, 105, 108, 100, 32, 99, 97, 116, 32, 110, 111, 116, 32, 97, 110, 100, 32, 111, 114, 32, 116, 105, 109, 101, 32, 115, 111, 114, 116, 32, 99, 111, 115, 116, 32, 114, 111, 111, 109, 32]
def lmC (o : Nat) (i : Instr) : Option LV := match i with
  | .ldc x => if o = 7 ∧ x = 19 then some (.inr (.inr (-1))) else ((CT o).find? (fun q => q.1 == x)).map (fun q => .inl q.2.1)
  | .ldc_w x => ((CT o).find? (fun q => q.1 == x)).map (fun q => .inl q.2.1)
  | .ldc2_w x => ((CLT o).find? (fun q => q.1 == x)).map (fun q => .inr (.inl q.2.1))
  | _ => none
-- locals
def isI (v : LV) : Bool := match v with
  | .inl _ => true
  | _ => false
def isR (v : LV) : Bool := match v with
  | .inr (.inr _) => true
  | _ => false
def lmLd (i : Instr) (ls : LL) : Option LV := match i with
  | .iload k => (lget ls k).filter isI
  | .iload_n k => (lget ls k.val).filter isI
  | .lload k => (lget ls k).filter isL
  | .lload_n k => (lget ls k.val).filter isL
  | .aload k => (lget ls k).filter isR
  | .aload_n k => (lget ls k.val).filter isR
  | _ => none
def lmSt (i : Instr) (v : LV) : Option Nat := match i with
  | .istore k => if isI v then some k else none
  | .istore_n k => if isI v then some k.val else none
  | .lstore k => if isL v then some k else none
  | .lstore_n k => if isL v then some k.val else none
  | .astore k => if isR v then some k else none
  | .astore_n k => if isR v then some k.val else none
  | _ => none
def lmInc (i : Instr) (ls : LL) : Option LL := match i with
  | .iinc k n => match lget ls k with
    | some (.inl x) => if -32768 ≤ n ∧ n ≤ 32767 then some (lst ls k (.inl (w32 (x + n)))) else none
    | _ => none
  | _ => none
-- jumps: the new place and stack
def cnd (c : ClassFile.Cond) (a b : Int) : Bool := match c with
  | .eq => decide (a = b)
  | .ne => decide (a ≠ b)
  | .lt => decide (a < b)
  | .ge => decide (b ≤ a)
  | .gt => decide (b < a)
  | .le => decide (a ≤ b)
def lmJ (i : Instr) (pc len : Nat) (st : List LV) : Option (Int × List LV) := match i with
  | .goto off => some (pc + off, st)
  | .ifCond c off => match st with | .inl a :: r => if 0 ≤ (pc : Int) + off then some (if cnd c a 0 then ((pc : Int) + off, r) else ((pc : Int) + len, r)) else none | _ => none
  | .if_icmp c off => match st with | .inl b :: .inl a :: r => if 0 ≤ (pc : Int) + off then some (if cnd c a b then ((pc : Int) + off, r) else ((pc : Int) + len, r)) else none | _ => none
  | .tableswitch d lo hi offs => match st with
    | .inl x :: r => if x < lo ∨ hi < x then some (pc + d, r) else match offs[(x - lo).toNat]? with
      | some f => some (pc + f, r)
      | none => none
    | _ => none
  | .lookupswitch d ps => match st with
    | .inl x :: r => if (ps.toList.zip (ps.toList.drop 1)).all (fun (a, b) => a.1 < b.1) then some (pc + Op.lookupswitch.offset ps.toList d x, r) else none
    | _ => none
  | _ => none
-- cells
def mkv (k : Nat) (x : Int) : LV := match k with
  | 1 => .inr (.inl x)
  | 2 => .inr (.inr x)
  | _ => .inl x
def fld (o x : Nat) : Option (Nat × Nat) := ((FT o).find? (fun q => q.1 == x)).map (fun q => (q.2.1, q.2.2.1))
def isO (n : Nat) (a : Int) (c : Nat) : Bool := decide (1 ≤ a) && decide (a ≤ n) && (lay a.toNat).1 == 0 && (lay a.toNat).2.1 == c
def isA (n : Nat) (a : Int) (k : Nat) : Bool := decide (1 ≤ a) && decide (a ≤ n) && (lay a.toNat).1 == k
def inA (a i : Int) : Bool := decide (0 ≤ i) && decide (i < ((lay a.toNat).2.2 : Int))
def fin (c k : Nat) : Bool := match zcl[c]? with
  | some q => (q.2.1 k).2.2.2
  | none => true
/-- what may be kept in a place of that kind -/
def okk (k : Nat) (v : LV) : Option Int := match k, v with
  | 0, .inl x => some x
  | 1, .inr (.inl x) => some x
  | 2, .inr (.inr x) => if 0 ≤ x then some x else none
  | 3, .inl x => if x = 0 ∨ x = 1 then some x else none
  | _, _ => none
/-- gets: the new stack -/
def lmG (o n : Nat) (xs : Nat → Int) (xl : Nat) (i : Instr) (st : List LV) (h : LH) : Option (List LV) := match i with
  | .getfield x => match st with
    | .inr (.inr a) :: r => match fld o x with
      | some (c, k) => if isO n a c then some (mkv (fkd c k) (rd h a k) :: r) else none
      | none => none
    | _ => none
  | .iaload => match st with
    | .inl i :: .inr (.inr a) :: r => if a = -2 then (if 0 ≤ i ∧ i < xl then some (.inl (xs i.toNat) :: r) else none) else if isA n a 1 && inA a i then some (.inl (rd h a i) :: r) else none
    | _ => none
  | .laload => match st with
    | .inl i :: .inr (.inr a) :: r => if isA n a 2 && inA a i then some (.inr (.inl (rd h a i)) :: r) else none
    | _ => none
  | .baload => match st with
    | .inl i :: .inr (.inr a) :: r => if (isA n a 3 || isA n a 4) && inA a i then some (.inl (rd h a i) :: r) else none
    | _ => none
  | .aaload => match st with
    | .inl i :: .inr (.inr a) :: r => if isA n a 5 && inA a i then some (.inr (.inr (rd h a i)) :: r) else none
    | _ => none
  | .arraylength => match st with
    | .inr (.inr a) :: r => if a = -2 then some (.inl xl :: r) else if isA n a 1 then some (.inl ((lay a.toNat).2.2 : Int) :: r) else none
    | _ => none
  | _ => none
/-- the text's length and signs; Math's min, max, floorMod -/
def zfm (a b : Int) : Int := if 0 ≤ zxor a b then w32 (a - w32 (w32 (a.tdiv b) * b)) else if w32 (a - w32 (w32 (a.tdiv b) * b)) = 0 then 0 else w32 (w32 (a - w32 (w32 (a.tdiv b) * b)) + b)
def lmX (o : Nat) (i : Instr) (st : List LV) : Option (List LV) := match i with
  | .invokevirtual x => match (PTC o).find? (fun q => q.1 == x) with
    | some q => if q.2.1 = 2 then (match st with
        | .inr (.inr a) :: r => if a = -1 ∧ lcat r ≤ 8 then some (.inl (STRL.length : Int) :: r) else none
        | _ => none)
      else if q.2.1 = 3 then (match st with
        | .inl i :: .inr (.inr a) :: r => if a = -1 ∧ lcat r ≤ 8 ∧ 0 ≤ i ∧ i < (STRL.length : Int) then some (.inl (STRL.getD i.toNat 0) :: r) else none
        | _ => none)
      else none
    | none => none
  | .invokestatic x => match (PTC o).find? (fun q => q.1 == x) with
    | some q => match st with
      | .inl b :: .inl a :: r => if lcat r ≤ 8 then (if q.2.1 = 4 then some (.inl (if b < a then b else a) :: r) else if q.2.1 = 5 then some (.inl (if a < b then b else a) :: r) else if q.2.1 = 6 ∧ b ≠ 0 then some (.inl (zfm a b) :: r) else none) else none
      | _ => none
    | none => none
  | _ => none
/-- puts: the new stack and heap; ini: in a constructor -/
def lmP (o n : Nat) (ini : Bool) (i : Instr) (st : List LV) (h : LH) : Option (List LV × LH) := match i with
  | .putfield x => match st with
    | v :: .inr (.inr a) :: r => match fld o x with
      | some (c, k) => if isO n a c && (!(fin c k) || (ini && o == c)) then (okk (fkd c k) v).map (fun z => (r, wr h a k z)) else none
      | none => none
    | _ => none
  | .iastore => match st with
    | .inl x :: .inl i :: .inr (.inr a) :: r => if isA n a 1 && inA a i then some (r, wr h a i x) else none
    | _ => none
  | .lastore => match st with
    | .inr (.inl x) :: .inl i :: .inr (.inr a) :: r => if isA n a 2 && inA a i then some (r, wr h a i x) else none
    | _ => none
  | .bastore => match st with
    | .inl x :: .inl i :: .inr (.inr a) :: r => if inA a i && ((isA n a 3 && decide (-128 ≤ x ∧ x ≤ 127)) || (isA n a 4 && decide (x = 0 ∨ x = 1))) then some (r, wr h a i x) else none
    | _ => none
  | .aastore => match st with
    | .inr (.inr x) :: .inl i :: .inr (.inr a) :: r => if isA n a 5 && inA a i && isO n x (lay a.toNat).2.1 then some (r, wr h a i x) else none
    | _ => none
  | _ => none
def akd (ty : ArrayType) : Nat := match ty with
  | .int => 1
  | .long => 2
  | .byte => 3
  | .boolean => 4
  | _ => 9
/-- makes: the new stack; a cell more -/
def lmN (o n : Nat) (i : Instr) (st : List LV) : Option (List LV) := match i with
  | .new x => match (KT o).find? (fun q => q.1 == x) with
    | some q => if (lay (n + 1)).1 == 0 && (lay (n + 1)).2.1 == q.2.1 then some (.inr (.inr ((n : Int) + 1)) :: st) else none
    | none => none
  | .newarray ty => match st with
    | .inl m :: r => if decide (m = ((lay (n + 1)).2.2 : Int)) && ((lay (n + 1)).1 == akd ty) then some (.inr (.inr ((n : Int) + 1)) :: r) else none
    | _ => none
  | .anewarray x => match st with
    | .inl m :: r => match (KT o).find? (fun q => q.1 == x) with
      | some q => if decide (m = ((lay (n + 1)).2.2 : Int)) && (lay (n + 1)).1 == 5 && (lay (n + 1)).2.1 == q.2.1 then some (.inr (.inr ((n : Int) + 1)) :: r) else none
      | none => none
    | _ => none
  | _ => none
-- returns
def lmR (ret : Option FieldType) (i : Instr) (st : List LV) : Option (Option LV) := match i with
  | .return_ => match st with | [] => if ret = none then some none else none | _ => none
  | .ireturn => match st with
    | [.inl x] => if ret = some .int then some (some (.inl x)) else if ret = some .boolean ∧ (x = 0 ∨ x = 1) then some (some (.inl x)) else none
    | _ => none
  | .lreturn => match st with | [.inr (.inl x)] => if ret = some .long then some (some (.inr (.inl x))) else none | _ => none
  | _ => none
-- calls: the method, its arguments (the first first), the rest of the stack
def lmK (o n : Nat) (i : Instr) (st : List LV) : Option (Nat × List LV × List LV) :=
  let go (x kind : Nat) : Option (Nat × List LV × List LV) := match (MTC o).find? (fun q => q.1 == x) with
    | some q => match MTB q.2.1 with
      | some M =>
        let np := M.2.2.2.2.2.1
        let st1 := M.2.2.2.2.2.2.1
        if np ≤ st.length ∧ lcat (st.drop np) ≤ 8 ∧ (lent ((st.take np).reverse)).length ≤ M.2.2.1 ∧ st1 = (if kind = 1 then 1 else 0) then
          let as := (st.take np).reverse
          if kind = 1 then (if q.2.2.1 = 0 then some (q.2.1, as, st.drop np) else none)
          else match as with
            | .inr (.inr a) :: _ => if isO n a M.2.2.2.2.1 && (if kind = 2 then M.1.name == "<init>" else !(M.1.name == "<init>") && q.2.2.1 == 0) then some (q.2.1, as, st.drop np) else none
            | _ => none
        else none
      | none => none
    | none => none
  match i with
  | .invokevirtual x => go x 0
  | .invokestatic x => go x 1
  | .invokespecial x => go x 2
  | _ => none
/-- arraycopy within int rows -/
def cpyL (h : LH) (a sp b dp : Int) : Nat → LH
  | 0 => []
  | k + 1 => (b, dp + k, rd h a (sp + k)) :: cpyL h a sp b dp k
/-- calls of what is no row here: Object.<init>, arraycopy -/
def lmQ (o n : Nat) (i : Instr) (st : List LV) (h : LH) : Option (List LV × LH) := match i with
  | .invokespecial x => match (PTC o).find? (fun q => q.1 == x) with
    | some q => if q.2.1 = 0 then (match st with | .inr (.inr a) :: r => if 1 ≤ a ∧ lcat r ≤ 8 then some (r, h) else none | _ => none) else none
    | none => none
  | .invokestatic x => match (PTC o).find? (fun q => q.1 == x) with
    | some q => if q.2.1 = 1 then (match st with
      | .inl m :: .inl dp :: .inr (.inr b) :: .inl sp :: .inr (.inr a) :: r =>
        if isA n a 1 && isA n b 1 && decide (0 ≤ sp ∧ 0 ≤ dp ∧ 0 ≤ m ∧ sp + m ≤ ((lay a.toNat).2.2 : Int) ∧ dp + m ≤ ((lay b.toNat).2.2 : Int)) && decide (lcat r ≤ 8) then some (r, cpyL h a sp b dp m.toNat ++ h) else none
      | _ => none) else none
    | none => none
  | _ => none
/-- how long an instruction is -/
def ilen (i : Instr) (n : Nat) : Bool := match i with
  | .bipush _ => n == 2
  | .sipush _ => n == 3
  | .ldc _ => n == 2
  | .ldc_w _ => n == 3
  | .ldc2_w _ => n == 3
  | .iload _ => n == 2
  | .lload _ => n == 2
  | .aload _ => n == 2
  | .istore _ => n == 2
  | .lstore _ => n == 2
  | .astore _ => n == 2
  | .iinc _ _ => n == 3
  | .goto _ => n == 3
  | .ifCond _ _ => n == 3
  | .if_icmp _ _ => n == 3
  | .tableswitch _ _ _ _ => true
  | .lookupswitch _ _ => true
  | .getfield _ => n == 3
  | .putfield _ => n == 3
  | .invokevirtual _ => n == 3
  | .invokestatic _ => n == 3
  | .invokespecial _ => n == 3
  | .new _ => n == 3
  | .newarray _ => n == 2
  | .anewarray _ => n == 3
  | _ => n == 1
/-- one instruction that is no call of a method with rows, and no return -/
def lmI (o n : Nat) (ini : Bool) (xs : Nat → Int) (xl : Nat) (i : Instr) (pc len : Nat) (ls : LL) (st : List LV) (h : LH) : Option (Nat × LL × List LV × Nat × LH) :=
  match lmA i st with
  | some st' => some (pc + len, ls, st', n, h)
  | none => match lmLd i ls with
  | some v => some (pc + len, ls, v :: st, n, h)
  | none => match lmG o n xs xl i st h with
  | some st' => some (pc + len, ls, st', n, h)
  | none => match lmJ i pc len st with
  | some (t, st') => if 0 ≤ t then some (t.toNat, ls, st', n, h) else none
  | none => match lmInc i ls with
  | some ls' => some (pc + len, ls', st, n, h)
  | none => match lmP o n ini i st h with
  | some (st', h') => some (pc + len, ls, st', n, h')
  | none => match lmC o i with
  | some v => some (pc + len, ls, v :: st, n, h)
  | none => match lmQ o n i st h with
  | some (st', h') => some (pc + len, ls, st', n, h')
  | none => match lmN o n i st with
  | some st' => some (pc + len, ls, st', n + 1, h)
  | none => match lmX o i st with
  | some st' => some (pc + len, ls, st', n, h)
  | none => match st with
  | v :: r => match lmSt i v with
    | some k => if k + (if isL v then 1 else 0) < ls.length then some (pc + len, lst ls k v, r, n, h) else none
    | none => none
  | [] => none
/-- a run: fuel, depth, method, place, locals, stack, cells made, heap -/
def lmRun (xs : Nat → Int) (xl : Nat) : Nat → Nat → LM_M → Nat → LL → List LV → Nat → LH → Option (Option LV × Nat × LH)
  | 0, _, _, _, _, _, _, _ => none
  | f + 1, d, M, pc, ls, st, n, h =>
    match decode M.2.1 pc with
    | .error _ => none
    | .ok (i, len) => if ilen i len = false then none else match lmR M.2.2.2.1 i st with
      | some r => some (r, n, h)
      | none => match lmK M.2.2.2.2.1 n i st with
        | some (k, as, rest) => match d with
          | 0 => none
          | d' + 1 => match MTB k with
            | none => none
            | some M' => match lmRun xs xl f d' M' 0 (lpad M'.2.2.1 (lent as)) [] n h with
              | none => none
              | some (r, n', h') => lmRun xs xl f d M (pc + 3) ls (r.toList ++ rest) n' h'
        | none => match lmI M.2.2.2.2.1 n (M.1.name == "<init>") xs xl i pc len ls st h with
          | none => none
          | some (pc', ls', st', n', h') => lmRun xs xl f d M pc' ls' st' n' h'
end
section
/-! LM, part 5: what the light machine's values, locals and cells are on the machine -/
def cv (B b sA : Nat) (v : LV) : Value := match v with
  | .inl x => .int (Int32.ofInt x)
  | .inr (.inl x) => .long (Int64.ofInt x)
  | .inr (.inr a) => if a = 0 then .null else if a = -1 then .ref sA else if a = -2 then .ref b else .ref (B + a.toNat)
def okV (v : LV) : Prop := match v with
  | .inl x => i32 x
  | .inr (.inl x) => i64 x
  | .inr (.inr _) => True
def okS (st : List LV) : Prop := ∀ v ∈ st, okV v
def okL (ls : LL) : Prop := ∀ (i : Nat) (v : LV), lget ls i = some v → okV v
def lkd (a i : Int) : Nat := match lay a.toNat with
  | (0, c, _) => fkd c i.toNat
  | (2, _, _) => 1
  | (5, _, _) => 2
  | _ => 0
def okX (k : Nat) (x : Int) : Prop := match k with
  | 1 => i64 x
  | 2 => True
  | _ => i32 x
def okH (h : LH) : Prop := ∀ a i : Int, okX (lkd a i) (rd h a i)
theorem okS_c {v : LV} {st : List LV} (h : okS (v :: st)) : okV v ∧ okS st := ⟨h v List.mem_cons_self, fun w hw => h w (List.mem_cons_of_mem _ hw)⟩
theorem okS_i {v : LV} {st : List LV} (h1 : okV v) (h2 : okS st) : okS (v :: st) := fun w hw => (List.mem_cons.mp hw).elim (fun e => e ▸ h1) (h2 w)
theorem okH_nil : okH [] := fun a i => by
  show okX (lkd a i) 0
  unfold okX
  split
  · exact z64
  · trivial
  · exact z32
theorem okH_wr {h : LH} {a i v : Int} (hh : okH h) (hv : okX (lkd a i) v) : okH (wr h a i v) := fun b j => by
  rw [rd_wr]
  split
  · next e => obtain ⟨rfl, rfl⟩ := e; exact hv
  · exact hh b j
theorem okV_mkv {k : Nat} {x : Int} (h : okX k x) : okV (mkv k x) := by
  unfold mkv
  unfold okX at h
  split <;> simp_all [okV]
def lasc (B b sA : Nat) (ls : LL) : List (Nat × Value) := (List.range ls.length).filterMap (fun i => (lget ls i).map (fun v => (i, cv B b sA v)))
theorem lget_lt {ls : LL} {i : Nat} {v : LV} (h : lget ls i = some v) : i < ls.length := by
  unfold lget at h
  cases e : ls[i]? with
  | none => rw [e] at h; cases h
  | some q => exact (List.getElem?_eq_some_iff.mp e).1
theorem lasc_mem {B b sA : Nat} {ls : LL} {q : Nat × Value} : q ∈ lasc B b sA ls ↔ ∃ v, lget ls q.1 = some v ∧ q.2 = cv B b sA v := by
  unfold lasc
  simp only [List.mem_filterMap, List.mem_range, Option.map_eq_some_iff]
  constructor
  · rintro ⟨i, hi, v, hv, rfl⟩
    exact ⟨v, hv, rfl⟩
  · rintro ⟨v, hv, he⟩
    exact ⟨q.1, lget_lt hv, v, hv, by rw [← he]⟩
theorem lv_mono {ls : Array Slot} {nL : Nat} {l l' : List (Nat × Value)} (h : lv_has ls nL l) (hm : ∀ q ∈ l', q ∈ l) : lv_has ls nL l' := ⟨h.1, h.2.1, fun q hq => h.2.2 q (hm q hq)⟩
def lvR (B b sA : Nat) (sl : Array Slot) (nL : Nat) (ls : LL) : Prop := ls.length = nL ∧ lv_has sl nL (lasc B b sA ls)
theorem lvR_get {B b sA : Nat} {sl : Array Slot} {nL : Nat} {ls : LL} (h : lvR B b sA sl nL ls) {i : Nat} {v : LV} (hv : lget ls i = some v) : sl[i]? = some (.val (cv B b sA v)) := h.2.2.2 (i, cv B b sA v) (lasc_mem.mpr ⟨v, hv, rfl⟩)
theorem cv_cat (B b sA : Nat) (v : LV) : (cv B b sA v).category = vcat v := by
  unfold cv vcat isL
  split
  · rfl
  · rfl
  · simp only
    split
    · rfl
    · split
      · rfl
      · split <;> rfl
theorem lcat_cv (B b sA : Nat) (st : List LV) : ((st.map (cv B b sA)).map fun v => v.category).sum = lcat st := by
  unfold lcat
  rw [List.map_map]
  congr 1
  apply List.map_congr_left
  intro v _
  exact cv_cat B b sA v
theorem lget_set_ne {ls : LL} {i j : Nat} {x : Option LV} (h : i ≠ j) : lget (ls.set i x) j = lget ls j := by
  unfold lget
  rw [List.getElem?_set_ne h]
theorem lget_set_eq {ls : LL} {i : Nat} {x : Option LV} (h : i < ls.length) : lget (ls.set i x) i = x := by
  unfold lget
  rw [List.getElem?_set_self h]
  rfl
theorem lkill_len (ls : LL) (i : Nat) : (lkill ls i).length = ls.length := by
  unfold lkill
  split
  · rfl
  · split
    · split
      · exact List.length_set
      · rfl
    · rfl
theorem lst_len (ls : LL) (i : Nat) (v : LV) : (lst ls i v).length = ls.length := by
  unfold lst
  split
  · rw [List.length_set, List.length_set, lkill_len]
  · rw [List.length_set, lkill_len]
theorem lkill_get {ls : LL} {i j : Nat} {v : LV} (h : lget (lkill ls i) j = some v) : lget ls j = some v ∧ ¬ (j + 1 = i ∧ isL v = true) := by
  unfold lkill at h
  split at h
  · exact ⟨h, fun q => by omega⟩
  · next k =>
    split at h
    · next w hw =>
      split at h
      · next hl =>
        by_cases e : k = j
        · subst e
          rw [lget_set_eq (lget_lt hw)] at h
          cases h
        · rw [lget_set_ne e] at h
          exact ⟨h, fun q => e (by omega)⟩
      · next hl =>
        refine ⟨h, fun q => ?_⟩
        have e : j = k := by omega
        subst e
        rw [hw] at h
        cases h
        exact hl q.2
    · next hw =>
      refine ⟨h, fun q => ?_⟩
      have e : j = k := by omega
      subst e
      rw [hw] at h
      cases h
theorem lst_get {ls : LL} {i j : Nat} {v w : LV} (hi : i < ls.length) (h : lget (lst ls i v) j = some w) : (j = i ∧ w = v) ∨ (j ≠ i ∧ lget ls j = some w ∧ ¬ (j + 1 = i ∧ isL w = true) ∧ (isL v = true → j ≠ i + 1)) := by
  have hk : i < (lkill ls i).length := by rw [lkill_len]; exact hi
  unfold lst at h
  split at h
  · next hl =>
    have e1 : j ≠ i + 1 := by
      intro e
      subst e
      by_cases hlt : i + 1 < ls.length
      · rw [lget_set_eq (by rw [List.length_set, lkill_len]; exact hlt)] at h
        cases h
      · have := lget_lt h
        rw [List.length_set, List.length_set, lkill_len] at this
        exact hlt this
    rw [lget_set_ne (Ne.symm e1)] at h
    by_cases e : j = i
    · subst e
      rw [lget_set_eq hk] at h
      cases h
      exact Or.inl ⟨rfl, rfl⟩
    · rw [lget_set_ne (Ne.symm e)] at h
      exact Or.inr ⟨e, (lkill_get h).1, (lkill_get h).2, fun _ => e1⟩
  · next hl =>
    by_cases e : j = i
    · subst e
      rw [lget_set_eq hk] at h
      cases h
      exact Or.inl ⟨rfl, rfl⟩
    · rw [lget_set_ne (Ne.symm e)] at h
      exact Or.inr ⟨e, (lkill_get h).1, (lkill_get h).2, fun q => absurd q hl⟩
theorem okL_lst {ls : LL} {i : Nat} {v : LV} (hi : i < ls.length) (h : okL ls) (hv : okV v) : okL (lst ls i v) := by
  intro j w hw
  rcases lst_get hi hw with ⟨-, rfl⟩ | ⟨-, h2, -⟩
  · exact hv
  · exact h j w h2
theorem lvR_1 {B b sA : Nat} {sl sl' : Array Slot} {nL : Nat} {ls : LL} {i : Nat} {v : LV} (hi : i < ls.length) (h : lvR B b sA sl nL ls) (h' : lv_has sl' nL ((i, cv B b sA v) :: (lasc B b sA ls).filter (fun q => !(q.1 == i) && !(q.1 + 1 == i && q.2.category == 2)))) (hv : isL v = false) : lvR B b sA sl' nL (lst ls i v) := by
  refine ⟨by rw [lst_len]; exact h.1, lv_mono h' fun q hq => ?_⟩
  obtain ⟨w, h1, h2⟩ := lasc_mem.mp hq
  rcases lst_get hi h1 with ⟨e1, rfl⟩ | ⟨e1, e2, e3, -⟩
  · rw [show q = (i, cv B b sA w) from Prod.ext e1 h2]
    exact List.mem_cons_self
  · refine List.mem_cons_of_mem _ (List.mem_filter.mpr ⟨lasc_mem.mpr ⟨w, e2, h2⟩, ?_⟩)
    rw [h2, cv_cat]
    unfold vcat
    cases hw : isL w
    · simp [e1]
    · have : q.1 + 1 ≠ i := fun e => e3 ⟨e, hw⟩
      simp [e1, this]
theorem lvR_2 {B b sA : Nat} {sl sl' : Array Slot} {nL : Nat} {ls : LL} {i : Nat} {v : LV} (hi : i < ls.length) (h : lvR B b sA sl nL ls) (h' : lv_has sl' nL ((i, cv B b sA v) :: (lasc B b sA ls).filter (fun q => !(q.1 == i) && (!(q.1 == i + 1) && !(q.1 + 1 == i && q.2.category == 2))))) (hv : isL v = true) : lvR B b sA sl' nL (lst ls i v) := by
  refine ⟨by rw [lst_len]; exact h.1, lv_mono h' fun q hq => ?_⟩
  obtain ⟨w, h1, h2⟩ := lasc_mem.mp hq
  rcases lst_get hi h1 with ⟨e1, rfl⟩ | ⟨e1, e2, e3, e4⟩
  · rw [show q = (i, cv B b sA w) from Prod.ext e1 h2]
    exact List.mem_cons_self
  · refine List.mem_cons_of_mem _ (List.mem_filter.mpr ⟨lasc_mem.mpr ⟨w, e2, h2⟩, ?_⟩)
    have e5 := e4 hv
    rw [h2, cv_cat]
    unfold vcat
    cases hw : isL w
    · simp [e1, e5]
    · have : q.1 + 1 ≠ i := fun e => e3 ⟨e, hw⟩
      simp [e1, e5, this]
-- the locals with which a method begins
theorem lent_args (B b sA : Nat) : ∀ (as : List LV) (k : Nat) (i : Nat) (v : LV), lget (lent as) i = some v → (k + i, cv B b sA v) ∈ lv_args k (as.map (cv B b sA))
  | [], k, i, v, h => by simp [lent, lget] at h
  | a :: as, k, i, v, h => by
    have ih := lent_args B b sA as
    unfold lent at h
    rw [List.map_cons, lv_args, cv_cat]
    unfold vcat
    split at h
    · next hl =>
      rw [if_pos hl, if_pos rfl]
      match i, h with
      | 0, h =>
        have e : a = v := by simpa [lget] using h
        subst e
        exact List.mem_cons_self
      | 1, h => simp [lget] at h
      | i + 2, h =>
        have := ih (k + 2) i v (by simpa [lget] using h)
        rw [show k + (i + 2) = k + 2 + i by omega]
        exact List.mem_cons_of_mem _ this
    · next hl =>
      rw [if_neg hl, if_neg (by omega)]
      match i, h with
      | 0, h =>
        have e : a = v := by simpa [lget] using h
        subst e
        exact List.mem_cons_self
      | i + 1, h =>
        have := ih (k + 1) i v (by simpa [lget] using h)
        rw [show k + (i + 1) = k + 1 + i by omega]
        exact List.mem_cons_of_mem _ this
theorem lent_len (B b sA : Nat) : ∀ as : List LV, (lg_sl (as.map (cv B b sA))).length = (lent as).length
  | [] => rfl
  | a :: as => by
    have ih := lent_len B b sA as
    unfold lg_sl at ih ⊢
    rw [List.map_cons, List.flatMap_cons, List.length_append, ih, cv_cat, lent.eq_2]
    unfold vcat
    cases isL a <;> simp <;> omega
theorem lget_pad {n : Nat} {ls : LL} {i : Nat} {v : LV} (h : lget (lpad n ls) i = some v) : lget ls i = some v := by
  unfold lpad lget at h
  unfold lget
  by_cases hi : i < ls.length
  · rw [List.getElem?_append_left hi] at h
    exact h
  · rw [List.getElem?_append_right (by omega), List.getElem?_replicate] at h
    split at h <;> cases h
theorem lent_ok {as : List LV} (h : okS as) : okL (lent as) := by
  intro i v hv
  induction as generalizing i with
  | nil => simp [lent, lget] at hv
  | cons a as ih =>
    obtain ⟨h1, h2⟩ := okS_c h
    unfold lent at hv
    split at hv
    · match i, hv with
      | 0, hv => have e : a = v := by simpa [lget] using hv
                 rw [← e]; exact h1
      | 1, hv => simp [lget] at hv
      | i + 2, hv => exact ih h2 i (by simpa [lget] using hv)
    · match i, hv with
      | 0, hv => have e : a = v := by simpa [lget] using hv
                 rw [← e]; exact h1
      | i + 1, hv => exact ih h2 i (by simpa [lget] using hv)
theorem lent_okL {as : List LV} (h : okS as) (n : Nat) : okL (lpad n (lent as)) := fun i v hv => lent_ok h i v (lget_pad hv)
theorem lvR_entry (B b sA : Nat) {as : List LV} {n : Nat} (h : (lent as).length ≤ n) : lvR B b sA ((lg_sl (as.map (cv B b sA)) ++ List.replicate (n - (lg_sl (as.map (cv B b sA))).length) Slot.unset).toArray) n (lpad n (lent as)) := by
  refine ⟨by unfold lpad; simp; omega, lv_mono (lv_entry (as.map (cv B b sA)) (n := n) (by rw [lent_len]; exact h)) fun q hq => ?_⟩
  obtain ⟨v, h1, h2⟩ := lasc_mem.mp hq
  have := lent_args B b sA as 0 q.1 v (lget_pad h1)
  rw [Nat.zero_add] at this
  rw [show q = (q.1, cv B b sA v) from Prod.ext rfl h2]
  exact this
end
