section
/-! LM, by program (wip/p2/hand.py): p3: rows of the class's reader, takes -/
def mm_Reader_skipWord : LM_M := (⟨"OneSided$Reader", "skipWord", "(I)Z"⟩, prog_9_method_13_code, 2, (some .boolean), 7, 2, 0, 672, 671, 1000016)
def mm_Reader_takeOneOfFour : LM_M := (⟨"OneSided$Reader", "takeOneOfFour", "(I)I"⟩, prog_9_method_15_code, 3, (some .int), 7, 2, 0, 668, 667, 1000015)
def mm_Reader_takeNumber : LM_M := (⟨"OneSided$Reader", "takeNumber", "(II)I"⟩, prog_9_method_16_code, 4, (some .int), 7, 3, 0, 632, 631, 1000008)
def mm_Reader_takeOtherRoom : LM_M := (⟨"OneSided$Reader", "takeOtherRoom", "(II)I"⟩, prog_9_method_17_code, 3, (some .int), 7, 3, 0, 664, 663, 1000014)
def mm_Reader_operatorOf : LM_M := (⟨"OneSided$Reader", "operatorOf", "(I)I"⟩, prog_9_method_10_code, 2, (some .int), 7, 2, 0, 696, 695, 1000021)
theorem dd_Reader_skipWord_0 : decode mm_Reader_skipWord.2.1 0 = .ok (.aload_n 0, 1) := by decide +kernel
theorem dd_Reader_skipWord_1 : decode mm_Reader_skipWord.2.1 1 = .ok (.getfield 61, 3) := by decide +kernel
theorem dd_Reader_skipWord_4 : decode mm_Reader_skipWord.2.1 4 = .ok (.ifCond .ne (11), 3) := by decide +kernel
theorem dd_Reader_skipWord_15 : decode mm_Reader_skipWord.2.1 15 = .ok (.iconst 0, 1) := by decide +kernel
theorem dd_Reader_skipWord_16 : decode mm_Reader_skipWord.2.1 16 = .ok (.ireturn, 1) := by decide +kernel
theorem dd_Reader_skipWord_7 : decode mm_Reader_skipWord.2.1 7 = .ok (.aload_n 0, 1) := by decide +kernel
theorem dd_Reader_skipWord_8 : decode mm_Reader_skipWord.2.1 8 = .ok (.getfield 67, 3) := by decide +kernel
theorem dd_Reader_skipWord_11 : decode mm_Reader_skipWord.2.1 11 = .ok (.iload_n 1, 1) := by decide +kernel
theorem dd_Reader_skipWord_12 : decode mm_Reader_skipWord.2.1 12 = .ok (.if_icmp .eq (5), 3) := by decide +kernel
theorem dd_Reader_skipWord_17 : decode mm_Reader_skipWord.2.1 17 = .ok (.aload_n 0, 1) := by decide +kernel
theorem dd_Reader_skipWord_18 : decode mm_Reader_skipWord.2.1 18 = .ok (.invokevirtual 99, 3) := by decide +kernel
theorem dd_Reader_skipWord_21 : decode mm_Reader_skipWord.2.1 21 = .ok (.iconst 1, 1) := by decide +kernel
theorem dd_Reader_skipWord_22 : decode mm_Reader_skipWord.2.1 22 = .ok (.ireturn, 1) := by decide +kernel
theorem dd_Reader_takeOneOfFour_0 : decode mm_Reader_takeOneOfFour.2.1 0 = .ok (.aload_n 0, 1) := by decide +kernel
theorem dd_Reader_takeOneOfFour_1 : decode mm_Reader_takeOneOfFour.2.1 1 = .ok (.getfield 67, 3) := by decide +kernel
theorem dd_Reader_takeOneOfFour_4 : decode mm_Reader_takeOneOfFour.2.1 4 = .ok (.iload_n 1, 1) := by decide +kernel
theorem dd_Reader_takeOneOfFour_5 : decode mm_Reader_takeOneOfFour.2.1 5 = .ok (.isub, 1) := by decide +kernel
theorem dd_Reader_takeOneOfFour_6 : decode mm_Reader_takeOneOfFour.2.1 6 = .ok (.istore_n 2, 1) := by decide +kernel
theorem dd_Reader_takeOneOfFour_7 : decode mm_Reader_takeOneOfFour.2.1 7 = .ok (.iload_n 2, 1) := by decide +kernel
theorem dd_Reader_takeOneOfFour_8 : decode mm_Reader_takeOneOfFour.2.1 8 = .ok (.ifCond .lt (8), 3) := by decide +kernel
theorem dd_Reader_takeOneOfFour_16 : decode mm_Reader_takeOneOfFour.2.1 16 = .ok (.aload_n 0, 1) := by decide +kernel
theorem dd_Reader_takeOneOfFour_17 : decode mm_Reader_takeOneOfFour.2.1 17 = .ok (.iconst 1, 1) := by decide +kernel
theorem dd_Reader_takeOneOfFour_18 : decode mm_Reader_takeOneOfFour.2.1 18 = .ok (.invokevirtual 80, 3) := by decide +kernel
theorem dd_Reader_takeOneOfFour_11 : decode mm_Reader_takeOneOfFour.2.1 11 = .ok (.iload_n 2, 1) := by decide +kernel
theorem dd_Reader_takeOneOfFour_12 : decode mm_Reader_takeOneOfFour.2.1 12 = .ok (.iconst 3, 1) := by decide +kernel
theorem dd_Reader_takeOneOfFour_13 : decode mm_Reader_takeOneOfFour.2.1 13 = .ok (.if_icmp .le (10), 3) := by decide +kernel
theorem dd_Reader_takeOneOfFour_23 : decode mm_Reader_takeOneOfFour.2.1 23 = .ok (.aload_n 0, 1) := by decide +kernel
theorem dd_Reader_takeOneOfFour_24 : decode mm_Reader_takeOneOfFour.2.1 24 = .ok (.invokevirtual 99, 3) := by decide +kernel
theorem dd_Reader_takeOneOfFour_21 : decode mm_Reader_takeOneOfFour.2.1 21 = .ok (.iconst 0, 1) := by decide +kernel
theorem dd_Reader_takeOneOfFour_22 : decode mm_Reader_takeOneOfFour.2.1 22 = .ok (.ireturn, 1) := by decide +kernel
theorem dd_Reader_takeOneOfFour_27 : decode mm_Reader_takeOneOfFour.2.1 27 = .ok (.iload_n 2, 1) := by decide +kernel
theorem dd_Reader_takeOneOfFour_28 : decode mm_Reader_takeOneOfFour.2.1 28 = .ok (.ireturn, 1) := by decide +kernel
theorem dd_Reader_takeNumber_0 : decode mm_Reader_takeNumber.2.1 0 = .ok (.aload_n 0, 1) := by decide +kernel
theorem dd_Reader_takeNumber_1 : decode mm_Reader_takeNumber.2.1 1 = .ok (.getfield 64, 3) := by decide +kernel
theorem dd_Reader_takeNumber_4 : decode mm_Reader_takeNumber.2.1 4 = .ok (.iconst 3, 1) := by decide +kernel
theorem dd_Reader_takeNumber_5 : decode mm_Reader_takeNumber.2.1 5 = .ok (.if_icmp .eq (10), 3) := by decide +kernel
theorem dd_Reader_takeNumber_15 : decode mm_Reader_takeNumber.2.1 15 = .ok (.aload_n 0, 1) := by decide +kernel
theorem dd_Reader_takeNumber_16 : decode mm_Reader_takeNumber.2.1 16 = .ok (.getfield 174, 3) := by decide +kernel
theorem dd_Reader_takeNumber_19 : decode mm_Reader_takeNumber.2.1 19 = .ok (.iload_n 1, 1) := by decide +kernel
theorem dd_Reader_takeNumber_20 : decode mm_Reader_takeNumber.2.1 20 = .ok (.i2l, 1) := by decide +kernel
theorem dd_Reader_takeNumber_21 : decode mm_Reader_takeNumber.2.1 21 = .ok (.lcmp, 1) := by decide +kernel
theorem dd_Reader_takeNumber_22 : decode mm_Reader_takeNumber.2.1 22 = .ok (.ifCond .lt (13), 3) := by decide +kernel
theorem dd_Reader_takeNumber_35 : decode mm_Reader_takeNumber.2.1 35 = .ok (.aload_n 0, 1) := by decide +kernel
theorem dd_Reader_takeNumber_36 : decode mm_Reader_takeNumber.2.1 36 = .ok (.iconst 4, 1) := by decide +kernel
theorem dd_Reader_takeNumber_37 : decode mm_Reader_takeNumber.2.1 37 = .ok (.invokevirtual 80, 3) := by decide +kernel
theorem dd_Reader_takeNumber_25 : decode mm_Reader_takeNumber.2.1 25 = .ok (.aload_n 0, 1) := by decide +kernel
theorem dd_Reader_takeNumber_26 : decode mm_Reader_takeNumber.2.1 26 = .ok (.getfield 174, 3) := by decide +kernel
theorem dd_Reader_takeNumber_29 : decode mm_Reader_takeNumber.2.1 29 = .ok (.iload_n 2, 1) := by decide +kernel
theorem dd_Reader_takeNumber_30 : decode mm_Reader_takeNumber.2.1 30 = .ok (.i2l, 1) := by decide +kernel
theorem dd_Reader_takeNumber_31 : decode mm_Reader_takeNumber.2.1 31 = .ok (.lcmp, 1) := by decide +kernel
theorem dd_Reader_takeNumber_32 : decode mm_Reader_takeNumber.2.1 32 = .ok (.ifCond .le (10), 3) := by decide +kernel
theorem dd_Reader_takeNumber_42 : decode mm_Reader_takeNumber.2.1 42 = .ok (.aload_n 0, 1) := by decide +kernel
theorem dd_Reader_takeNumber_43 : decode mm_Reader_takeNumber.2.1 43 = .ok (.getfield 174, 3) := by decide +kernel
theorem dd_Reader_takeNumber_46 : decode mm_Reader_takeNumber.2.1 46 = .ok (.l2i, 1) := by decide +kernel
theorem dd_Reader_takeNumber_47 : decode mm_Reader_takeNumber.2.1 47 = .ok (.istore_n 3, 1) := by decide +kernel
theorem dd_Reader_takeNumber_48 : decode mm_Reader_takeNumber.2.1 48 = .ok (.aload_n 0, 1) := by decide +kernel
theorem dd_Reader_takeNumber_49 : decode mm_Reader_takeNumber.2.1 49 = .ok (.invokevirtual 99, 3) := by decide +kernel
theorem dd_Reader_takeNumber_8 : decode mm_Reader_takeNumber.2.1 8 = .ok (.aload_n 0, 1) := by decide +kernel
theorem dd_Reader_takeNumber_9 : decode mm_Reader_takeNumber.2.1 9 = .ok (.iconst 1, 1) := by decide +kernel
theorem dd_Reader_takeNumber_10 : decode mm_Reader_takeNumber.2.1 10 = .ok (.invokevirtual 80, 3) := by decide +kernel
theorem dd_Reader_takeNumber_13 : decode mm_Reader_takeNumber.2.1 13 = .ok (.iload_n 1, 1) := by decide +kernel
theorem dd_Reader_takeNumber_14 : decode mm_Reader_takeNumber.2.1 14 = .ok (.ireturn, 1) := by decide +kernel
theorem dd_Reader_takeNumber_40 : decode mm_Reader_takeNumber.2.1 40 = .ok (.iload_n 1, 1) := by decide +kernel
theorem dd_Reader_takeNumber_41 : decode mm_Reader_takeNumber.2.1 41 = .ok (.ireturn, 1) := by decide +kernel
theorem dd_Reader_takeNumber_52 : decode mm_Reader_takeNumber.2.1 52 = .ok (.iload_n 3, 1) := by decide +kernel
theorem dd_Reader_takeNumber_53 : decode mm_Reader_takeNumber.2.1 53 = .ok (.ireturn, 1) := by decide +kernel
theorem dd_Reader_takeOtherRoom_0 : decode mm_Reader_takeOtherRoom.2.1 0 = .ok (.aload_n 0, 1) := by decide +kernel
theorem dd_Reader_takeOtherRoom_1 : decode mm_Reader_takeOtherRoom.2.1 1 = .ok (.getfield 64, 3) := by decide +kernel
theorem dd_Reader_takeOtherRoom_4 : decode mm_Reader_takeOtherRoom.2.1 4 = .ok (.iconst 3, 1) := by decide +kernel
theorem dd_Reader_takeOtherRoom_5 : decode mm_Reader_takeOtherRoom.2.1 5 = .ok (.if_icmp .ne (20), 3) := by decide +kernel
theorem dd_Reader_takeOtherRoom_25 : decode mm_Reader_takeOtherRoom.2.1 25 = .ok (.aload_n 0, 1) := by decide +kernel
theorem dd_Reader_takeOtherRoom_26 : decode mm_Reader_takeOtherRoom.2.1 26 = .ok (.iconst 0, 1) := by decide +kernel
theorem dd_Reader_takeOtherRoom_27 : decode mm_Reader_takeOtherRoom.2.1 27 = .ok (.iload_n 2, 1) := by decide +kernel
theorem dd_Reader_takeOtherRoom_28 : decode mm_Reader_takeOtherRoom.2.1 28 = .ok (.iconst 1, 1) := by decide +kernel
theorem dd_Reader_takeOtherRoom_29 : decode mm_Reader_takeOtherRoom.2.1 29 = .ok (.isub, 1) := by decide +kernel
theorem dd_Reader_takeOtherRoom_30 : decode mm_Reader_takeOtherRoom.2.1 30 = .ok (.invokevirtual 50, 3) := by decide +kernel
theorem cw_7_50 : cwOk 7 50 0 27 3 4 7 = true := by decide +kernel
theorem mt_Reader_takeNumber : MTB 27 = some mm_Reader_takeNumber := rfl
theorem dd_Reader_takeOtherRoom_8 : decode mm_Reader_takeOtherRoom.2.1 8 = .ok (.aload_n 0, 1) := by decide +kernel
theorem dd_Reader_takeOtherRoom_9 : decode mm_Reader_takeOtherRoom.2.1 9 = .ok (.getfield 174, 3) := by decide +kernel
theorem dd_Reader_takeOtherRoom_12 : decode mm_Reader_takeOtherRoom.2.1 12 = .ok (.iload_n 1, 1) := by decide +kernel
theorem dd_Reader_takeOtherRoom_13 : decode mm_Reader_takeOtherRoom.2.1 13 = .ok (.i2l, 1) := by decide +kernel
theorem dd_Reader_takeOtherRoom_14 : decode mm_Reader_takeOtherRoom.2.1 14 = .ok (.lcmp, 1) := by decide +kernel
theorem dd_Reader_takeOtherRoom_15 : decode mm_Reader_takeOtherRoom.2.1 15 = .ok (.ifCond .ne (10), 3) := by decide +kernel
theorem dd_Reader_takeOtherRoom_18 : decode mm_Reader_takeOtherRoom.2.1 18 = .ok (.aload_n 0, 1) := by decide +kernel
theorem dd_Reader_takeOtherRoom_19 : decode mm_Reader_takeOtherRoom.2.1 19 = .ok (.iconst 3, 1) := by decide +kernel
theorem dd_Reader_takeOtherRoom_20 : decode mm_Reader_takeOtherRoom.2.1 20 = .ok (.invokevirtual 80, 3) := by decide +kernel
theorem dd_Reader_takeOtherRoom_23 : decode mm_Reader_takeOtherRoom.2.1 23 = .ok (.iload_n 1, 1) := by decide +kernel
theorem dd_Reader_takeOtherRoom_24 : decode mm_Reader_takeOtherRoom.2.1 24 = .ok (.ireturn, 1) := by decide +kernel
theorem dd_Reader_takeOtherRoom_33 : decode mm_Reader_takeOtherRoom.2.1 33 = .ok (.ireturn, 1) := by decide +kernel
theorem dd_Reader_operatorOf_0 : decode mm_Reader_operatorOf.2.1 0 = .ok (.iload_n 1, 1) := by decide +kernel
theorem dd_Reader_operatorOf_1 : decode mm_Reader_operatorOf.2.1 1 = .ok (.tableswitch (123) (0) (2) #[27, 59, 91], 27) := by decide +kernel
theorem dd_Reader_operatorOf_28 : decode mm_Reader_operatorOf.2.1 28 = .ok (.aload_n 0, 1) := by decide +kernel
theorem dd_Reader_operatorOf_29 : decode mm_Reader_operatorOf.2.1 29 = .ok (.getfield 67, 3) := by decide +kernel
theorem dd_Reader_operatorOf_32 : decode mm_Reader_operatorOf.2.1 32 = .ok (.bipush 23, 2) := by decide +kernel
theorem dd_Reader_operatorOf_34 : decode mm_Reader_operatorOf.2.1 34 = .ok (.if_icmp .ne (9), 3) := by decide +kernel
theorem dd_Reader_operatorOf_43 : decode mm_Reader_operatorOf.2.1 43 = .ok (.aload_n 0, 1) := by decide +kernel
theorem dd_Reader_operatorOf_44 : decode mm_Reader_operatorOf.2.1 44 = .ok (.getfield 67, 3) := by decide +kernel
theorem dd_Reader_operatorOf_47 : decode mm_Reader_operatorOf.2.1 47 = .ok (.bipush 24, 2) := by decide +kernel
theorem dd_Reader_operatorOf_49 : decode mm_Reader_operatorOf.2.1 49 = .ok (.if_icmp .ne (9), 3) := by decide +kernel
theorem dd_Reader_operatorOf_58 : decode mm_Reader_operatorOf.2.1 58 = .ok (.iconst (-1), 1) := by decide +kernel
theorem dd_Reader_operatorOf_59 : decode mm_Reader_operatorOf.2.1 59 = .ok (.ireturn, 1) := by decide +kernel
theorem dd_Reader_operatorOf_52 : decode mm_Reader_operatorOf.2.1 52 = .ok (.sipush 10006, 3) := by decide +kernel
theorem dd_Reader_operatorOf_55 : decode mm_Reader_operatorOf.2.1 55 = .ok (.goto 4, 3) := by decide +kernel
theorem dd_Reader_operatorOf_37 : decode mm_Reader_operatorOf.2.1 37 = .ok (.sipush 10005, 3) := by decide +kernel
theorem dd_Reader_operatorOf_40 : decode mm_Reader_operatorOf.2.1 40 = .ok (.goto 19, 3) := by decide +kernel
theorem dd_Reader_operatorOf_60 : decode mm_Reader_operatorOf.2.1 60 = .ok (.aload_n 0, 1) := by decide +kernel
theorem dd_Reader_operatorOf_61 : decode mm_Reader_operatorOf.2.1 61 = .ok (.bipush 60, 2) := by decide +kernel
theorem dd_Reader_operatorOf_63 : decode mm_Reader_operatorOf.2.1 63 = .ok (.invokevirtual 201, 3) := by decide +kernel
theorem dd_Reader_operatorOf_66 : decode mm_Reader_operatorOf.2.1 66 = .ok (.ifCond .eq (9), 3) := by decide +kernel
theorem dd_Reader_operatorOf_75 : decode mm_Reader_operatorOf.2.1 75 = .ok (.aload_n 0, 1) := by decide +kernel
theorem dd_Reader_operatorOf_76 : decode mm_Reader_operatorOf.2.1 76 = .ok (.bipush 61, 2) := by decide +kernel
theorem dd_Reader_operatorOf_78 : decode mm_Reader_operatorOf.2.1 78 = .ok (.invokevirtual 201, 3) := by decide +kernel
theorem dd_Reader_operatorOf_69 : decode mm_Reader_operatorOf.2.1 69 = .ok (.sipush 10007, 3) := by decide +kernel
theorem dd_Reader_operatorOf_72 : decode mm_Reader_operatorOf.2.1 72 = .ok (.goto 19, 3) := by decide +kernel
theorem dd_Reader_operatorOf_91 : decode mm_Reader_operatorOf.2.1 91 = .ok (.ireturn, 1) := by decide +kernel
theorem dd_Reader_operatorOf_81 : decode mm_Reader_operatorOf.2.1 81 = .ok (.ifCond .eq (9), 3) := by decide +kernel
theorem dd_Reader_operatorOf_90 : decode mm_Reader_operatorOf.2.1 90 = .ok (.iconst (-1), 1) := by decide +kernel
theorem dd_Reader_operatorOf_84 : decode mm_Reader_operatorOf.2.1 84 = .ok (.sipush 10008, 3) := by decide +kernel
theorem dd_Reader_operatorOf_87 : decode mm_Reader_operatorOf.2.1 87 = .ok (.goto 4, 3) := by decide +kernel
theorem dd_Reader_operatorOf_92 : decode mm_Reader_operatorOf.2.1 92 = .ok (.aload_n 0, 1) := by decide +kernel
theorem dd_Reader_operatorOf_93 : decode mm_Reader_operatorOf.2.1 93 = .ok (.bipush 43, 2) := by decide +kernel
theorem dd_Reader_operatorOf_95 : decode mm_Reader_operatorOf.2.1 95 = .ok (.invokevirtual 201, 3) := by decide +kernel
theorem dd_Reader_operatorOf_98 : decode mm_Reader_operatorOf.2.1 98 = .ok (.ifCond .eq (9), 3) := by decide +kernel
theorem dd_Reader_operatorOf_107 : decode mm_Reader_operatorOf.2.1 107 = .ok (.aload_n 0, 1) := by decide +kernel
theorem dd_Reader_operatorOf_108 : decode mm_Reader_operatorOf.2.1 108 = .ok (.bipush 45, 2) := by decide +kernel
theorem dd_Reader_operatorOf_110 : decode mm_Reader_operatorOf.2.1 110 = .ok (.invokevirtual 201, 3) := by decide +kernel
theorem dd_Reader_operatorOf_101 : decode mm_Reader_operatorOf.2.1 101 = .ok (.sipush 10009, 3) := by decide +kernel
theorem dd_Reader_operatorOf_104 : decode mm_Reader_operatorOf.2.1 104 = .ok (.goto 19, 3) := by decide +kernel
theorem dd_Reader_operatorOf_123 : decode mm_Reader_operatorOf.2.1 123 = .ok (.ireturn, 1) := by decide +kernel
theorem dd_Reader_operatorOf_113 : decode mm_Reader_operatorOf.2.1 113 = .ok (.ifCond .eq (9), 3) := by decide +kernel
theorem dd_Reader_operatorOf_122 : decode mm_Reader_operatorOf.2.1 122 = .ok (.iconst (-1), 1) := by decide +kernel
theorem dd_Reader_operatorOf_116 : decode mm_Reader_operatorOf.2.1 116 = .ok (.sipush 10010, 3) := by decide +kernel
theorem dd_Reader_operatorOf_119 : decode mm_Reader_operatorOf.2.1 119 = .ok (.goto 4, 3) := by decide +kernel
theorem dd_Reader_operatorOf_124 : decode mm_Reader_operatorOf.2.1 124 = .ok (.aload_n 0, 1) := by decide +kernel
theorem dd_Reader_operatorOf_125 : decode mm_Reader_operatorOf.2.1 125 = .ok (.bipush 42, 2) := by decide +kernel
theorem dd_Reader_operatorOf_127 : decode mm_Reader_operatorOf.2.1 127 = .ok (.invokevirtual 201, 3) := by decide +kernel
theorem dd_Reader_operatorOf_130 : decode mm_Reader_operatorOf.2.1 130 = .ok (.ifCond .eq (9), 3) := by decide +kernel
theorem dd_Reader_operatorOf_139 : decode mm_Reader_operatorOf.2.1 139 = .ok (.iconst (-1), 1) := by decide +kernel
theorem dd_Reader_operatorOf_140 : decode mm_Reader_operatorOf.2.1 140 = .ok (.ireturn, 1) := by decide +kernel
theorem dd_Reader_operatorOf_133 : decode mm_Reader_operatorOf.2.1 133 = .ok (.sipush 10011, 3) := by decide +kernel
theorem dd_Reader_operatorOf_136 : decode mm_Reader_operatorOf.2.1 136 = .ok (.goto 4, 3) := by decide +kernel
theorem B_Reader_skipWord_0 {xs : Nat → Int} {xl e : Nat} {h : LH} {Q : Option LV → LH → Prop} {v1 : Int} (hF : RF h)
    (k : ((rd h 2 8) ≠ 0 →
        Q (some (.inl 0)) h) ∧
      ((rd h 2 8) = 0 →
        ((rd h 2 7) = v1 →
          (∃ c, c < e ∧ Rn xs xl c mm_Reader_step 0 [some (.inr (.inr 2)), none] [] h (fun r h' => Rn xs xl e mm_Reader_skipWord 21 [some (.inr (.inr 2)), some (.inl v1)] (r.toList ++ []) h' Q))) ∧
        ((rd h 2 7) ≠ v1 →
          Q (some (.inl 0)) h))) :
    Rn xs xl e mm_Reader_skipWord 0 [some (.inr (.inr 2)), some (.inl v1)] [] h Q := by
  refine R_ld (v := .inr (.inr 2)) dd_Reader_skipWord_0 rfl rfl rfl rfl ?_
  refine R_gf (v := .inl (rd h 2 8)) dd_Reader_skipWord_1 fd_7_61 io_2 (congrArg (fun z : Int => (Sum.inl z : LV)) (rfl)) rfl ?_
  refine R_if dd_Reader_skipWord_4 rfl rfl (fun (c2 : (rd h 2 8) ≠ 0) => ?_) (fun (c2 : (rd h 2 8) = 0) => ?_)
  · replace k := k.1 c2
    refine R_ic dd_Reader_skipWord_15 (by decide) rfl ?_
    exact R_zret dd_Reader_skipWord_16 rfl (by decide) k
  · replace k := k.2 c2
    refine R_ld (v := .inr (.inr 2)) dd_Reader_skipWord_7 rfl rfl rfl rfl ?_
    refine R_gf (v := .inl (rd h 2 7)) dd_Reader_skipWord_8 fd_7_67 io_2 (congrArg (fun z : Int => (Sum.inl z : LV)) (rfl)) rfl ?_
    refine R_ld (v := .inl v1) dd_Reader_skipWord_11 rfl rfl rfl rfl ?_
    refine R_icmp dd_Reader_skipWord_12 rfl rfl (fun (c3 : (rd h 2 7) = v1) => ?_) (fun (c3 : (rd h 2 7) ≠ v1) => ?_)
    · replace k := k.1 c3
      refine R_ld (v := .inr (.inr 2)) dd_Reader_skipWord_17 rfl rfl rfl rfl ?_
      obtain ⟨c, hc, k⟩ := k
      exact R_call (as := [.inr (.inr 2)]) (rest := []) (M' := mm_Reader_step) (ls0 := [some (.inr (.inr 2)), none]) dd_Reader_skipWord_18 rfl rfl (cw_v cw_7_99 io_2 rfl rfl (Nat.le_of_ble_eq_true rfl) (Nat.le_of_ble_eq_true rfl)) mt_Reader_step rfl hc rfl k
    · replace k := k.2 c3
      refine R_ic dd_Reader_skipWord_15 (by decide) rfl ?_
      exact R_zret dd_Reader_skipWord_16 rfl (by decide) k
theorem B_Reader_skipWord_21 {xs : Nat → Int} {xl e : Nat} {h : LH} {Q : Option LV → LH → Prop} {v1 : Int} (hF : RF h)
    (k : Q (some (.inl 1)) h) :
    Rn xs xl e mm_Reader_skipWord 21 [some (.inr (.inr 2)), some (.inl v1)] [] h Q := by
  refine R_ic dd_Reader_skipWord_21 (by decide) rfl ?_
  exact R_zret dd_Reader_skipWord_22 rfl (by decide) k
theorem B_Reader_takeOneOfFour_0 {xs : Nat → Int} {xl e : Nat} {h : LH} {Q : Option LV → LH → Prop} {v1 : Int} (hF : RF h)
    (k : (-2147483648 ≤ (rd h 2 7) - v1 ∧ (rd h 2 7) - v1 ≤ 2147483647) ∧
      (((rd h 2 7) - v1) < 0 →
        (∃ c, c < e ∧ Rn xs xl c mm_Reader_fail 0 [some (.inr (.inr 2)), some (.inl 1)] [] h (fun r h' => Rn xs xl e mm_Reader_takeOneOfFour 21 [some (.inr (.inr 2)), some (.inl v1), some (.inl ((rd h 2 7) - v1))] (r.toList ++ []) h' Q))) ∧
      (0 ≤ ((rd h 2 7) - v1) →
        (((rd h 2 7) - v1) ≤ 3 →
          (∃ c, c < e ∧ Rn xs xl c mm_Reader_step 0 [some (.inr (.inr 2)), none] [] h (fun r h' => Rn xs xl e mm_Reader_takeOneOfFour 27 [some (.inr (.inr 2)), some (.inl v1), some (.inl ((rd h 2 7) - v1))] (r.toList ++ []) h' Q))) ∧
        (3 < ((rd h 2 7) - v1) →
          (∃ c, c < e ∧ Rn xs xl c mm_Reader_fail 0 [some (.inr (.inr 2)), some (.inl 1)] [] h (fun r h' => Rn xs xl e mm_Reader_takeOneOfFour 21 [some (.inr (.inr 2)), some (.inl v1), some (.inl ((rd h 2 7) - v1))] (r.toList ++ []) h' Q))))) :
    Rn xs xl e mm_Reader_takeOneOfFour 0 [some (.inr (.inr 2)), some (.inl v1), none] [] h Q := by
  refine R_ld (v := .inr (.inr 2)) dd_Reader_takeOneOfFour_0 rfl rfl rfl rfl ?_
  refine R_gf (v := .inl (rd h 2 7)) dd_Reader_takeOneOfFour_1 fd_7_67 io_2 (congrArg (fun z : Int => (Sum.inl z : LV)) (rfl)) rfl ?_
  refine R_ld (v := .inl v1) dd_Reader_takeOneOfFour_4 rfl rfl rfl rfl ?_
  obtain ⟨s1, k⟩ := k
  refine R_isub (c := (rd h 2 7) - v1) dd_Reader_takeOneOfFour_5 (by omega) s1 rfl ?_
  refine R_st (ls' := [some (.inr (.inr 2)), some (.inl v1), some (.inl ((rd h 2 7) - v1))]) dd_Reader_takeOneOfFour_6 rfl rfl rfl (Nat.le_of_ble_eq_true rfl) rfl rfl ?_
  refine R_ld (v := .inl ((rd h 2 7) - v1)) dd_Reader_takeOneOfFour_7 rfl rfl rfl rfl ?_
  refine R_if dd_Reader_takeOneOfFour_8 rfl rfl (fun (c5 : ((rd h 2 7) - v1) < 0) => ?_) (fun (c5 : 0 ≤ ((rd h 2 7) - v1)) => ?_)
  · replace k := k.1 c5
    refine R_ld (v := .inr (.inr 2)) dd_Reader_takeOneOfFour_16 rfl rfl rfl rfl ?_
    refine R_ic dd_Reader_takeOneOfFour_17 (by decide) rfl ?_
    obtain ⟨c, hc, k⟩ := k
    exact R_call (as := [.inr (.inr 2), .inl 1]) (rest := []) (M' := mm_Reader_fail) (ls0 := [some (.inr (.inr 2)), some (.inl 1)]) dd_Reader_takeOneOfFour_18 rfl rfl (cw_v cw_7_80 io_2 rfl rfl (Nat.le_of_ble_eq_true rfl) (Nat.le_of_ble_eq_true rfl)) mt_Reader_fail rfl hc rfl k
  · replace k := k.2 c5
    refine R_ld (v := .inl ((rd h 2 7) - v1)) dd_Reader_takeOneOfFour_11 rfl rfl rfl rfl ?_
    refine R_ic dd_Reader_takeOneOfFour_12 (by decide) rfl ?_
    refine R_icmp dd_Reader_takeOneOfFour_13 rfl rfl (fun (c6 : ((rd h 2 7) - v1) ≤ 3) => ?_) (fun (c6 : 3 < ((rd h 2 7) - v1)) => ?_)
    · replace k := k.1 c6
      refine R_ld (v := .inr (.inr 2)) dd_Reader_takeOneOfFour_23 rfl rfl rfl rfl ?_
      obtain ⟨c, hc, k⟩ := k
      exact R_call (as := [.inr (.inr 2)]) (rest := []) (M' := mm_Reader_step) (ls0 := [some (.inr (.inr 2)), none]) dd_Reader_takeOneOfFour_24 rfl rfl (cw_v cw_7_99 io_2 rfl rfl (Nat.le_of_ble_eq_true rfl) (Nat.le_of_ble_eq_true rfl)) mt_Reader_step rfl hc rfl k
    · replace k := k.2 c6
      refine R_ld (v := .inr (.inr 2)) dd_Reader_takeOneOfFour_16 rfl rfl rfl rfl ?_
      refine R_ic dd_Reader_takeOneOfFour_17 (by decide) rfl ?_
      obtain ⟨c, hc, k⟩ := k
      exact R_call (as := [.inr (.inr 2), .inl 1]) (rest := []) (M' := mm_Reader_fail) (ls0 := [some (.inr (.inr 2)), some (.inl 1)]) dd_Reader_takeOneOfFour_18 rfl rfl (cw_v cw_7_80 io_2 rfl rfl (Nat.le_of_ble_eq_true rfl) (Nat.le_of_ble_eq_true rfl)) mt_Reader_fail rfl hc rfl k
theorem B_Reader_takeOneOfFour_21 {xs : Nat → Int} {xl e : Nat} {h : LH} {Q : Option LV → LH → Prop} {v1 v2 : Int} (hF : RF h)
    (k : Q (some (.inl 0)) h) :
    Rn xs xl e mm_Reader_takeOneOfFour 21 [some (.inr (.inr 2)), some (.inl v1), some (.inl v2)] [] h Q := by
  refine R_ic dd_Reader_takeOneOfFour_21 (by decide) rfl ?_
  exact R_iret dd_Reader_takeOneOfFour_22 rfl k
theorem B_Reader_takeOneOfFour_27 {xs : Nat → Int} {xl e : Nat} {h : LH} {Q : Option LV → LH → Prop} {v1 v2 : Int} (hF : RF h)
    (k : Q (some (.inl v2)) h) :
    Rn xs xl e mm_Reader_takeOneOfFour 27 [some (.inr (.inr 2)), some (.inl v1), some (.inl v2)] [] h Q := by
  refine R_ld (v := .inl v2) dd_Reader_takeOneOfFour_27 rfl rfl rfl rfl ?_
  exact R_iret dd_Reader_takeOneOfFour_28 rfl k
theorem B_Reader_takeNumber_0 {xs : Nat → Int} {xl e : Nat} {h : LH} {Q : Option LV → LH → Prop} {v1 v2 : Int} (hF : RF h)
    (k : ((rd h 2 3) = 3 →
        ((lcmp_ (rd h 2 6) v1) < 0 →
          (∃ c, c < e ∧ Rn xs xl c mm_Reader_fail 0 [some (.inr (.inr 2)), some (.inl 4)] [] h (fun r h' => Rn xs xl e mm_Reader_takeNumber 40 [some (.inr (.inr 2)), some (.inl v1), some (.inl v2), none] (r.toList ++ []) h' Q))) ∧
        (0 ≤ (lcmp_ (rd h 2 6) v1) →
          ((lcmp_ (rd h 2 6) v2) ≤ 0 →
            (∃ c, c < e ∧ Rn xs xl c mm_Reader_step 0 [some (.inr (.inr 2)), none] [] h (fun r h' => Rn xs xl e mm_Reader_takeNumber 52 [some (.inr (.inr 2)), some (.inl v1), some (.inl v2), some (.inl (w32 (rd h 2 6)))] (r.toList ++ []) h' Q))) ∧
          (0 < (lcmp_ (rd h 2 6) v2) →
            (∃ c, c < e ∧ Rn xs xl c mm_Reader_fail 0 [some (.inr (.inr 2)), some (.inl 4)] [] h (fun r h' => Rn xs xl e mm_Reader_takeNumber 40 [some (.inr (.inr 2)), some (.inl v1), some (.inl v2), none] (r.toList ++ []) h' Q))))) ∧
      ((rd h 2 3) ≠ 3 →
        (∃ c, c < e ∧ Rn xs xl c mm_Reader_fail 0 [some (.inr (.inr 2)), some (.inl 1)] [] h (fun r h' => Rn xs xl e mm_Reader_takeNumber 13 [some (.inr (.inr 2)), some (.inl v1), some (.inl v2), none] (r.toList ++ []) h' Q)))) :
    Rn xs xl e mm_Reader_takeNumber 0 [some (.inr (.inr 2)), some (.inl v1), some (.inl v2), none] [] h Q := by
  refine R_ld (v := .inr (.inr 2)) dd_Reader_takeNumber_0 rfl rfl rfl rfl ?_
  refine R_gf (v := .inl (rd h 2 3)) dd_Reader_takeNumber_1 fd_7_64 io_2 (congrArg (fun z : Int => (Sum.inl z : LV)) (rfl)) rfl ?_
  refine R_ic dd_Reader_takeNumber_4 (by decide) rfl ?_
  refine R_icmp dd_Reader_takeNumber_5 rfl rfl (fun (c5 : (rd h 2 3) = 3) => ?_) (fun (c5 : (rd h 2 3) ≠ 3) => ?_)
  · replace k := k.1 c5
    refine R_ld (v := .inr (.inr 2)) dd_Reader_takeNumber_15 rfl rfl rfl rfl ?_
    refine R_gf (v := .inr (.inl (rd h 2 6))) dd_Reader_takeNumber_16 fd_7_174 io_2 (congrArg (fun z : Int => (Sum.inr (Sum.inl z) : LV)) (rfl)) rfl ?_
    refine R_ld (v := .inl v1) dd_Reader_takeNumber_19 rfl rfl rfl rfl ?_
    refine R_A dd_Reader_takeNumber_20 rfl rfl rfl rfl ?_
    refine R_A dd_Reader_takeNumber_21 rfl rfl rfl rfl ?_
    refine R_if dd_Reader_takeNumber_22 rfl rfl (fun (c6 : (lcmp_ (rd h 2 6) v1) < 0) => ?_) (fun (c6 : 0 ≤ (lcmp_ (rd h 2 6) v1)) => ?_)
    · replace k := k.1 c6
      refine R_ld (v := .inr (.inr 2)) dd_Reader_takeNumber_35 rfl rfl rfl rfl ?_
      refine R_ic dd_Reader_takeNumber_36 (by decide) rfl ?_
      obtain ⟨c, hc, k⟩ := k
      exact R_call (as := [.inr (.inr 2), .inl 4]) (rest := []) (M' := mm_Reader_fail) (ls0 := [some (.inr (.inr 2)), some (.inl 4)]) dd_Reader_takeNumber_37 rfl rfl (cw_v cw_7_80 io_2 rfl rfl (Nat.le_of_ble_eq_true rfl) (Nat.le_of_ble_eq_true rfl)) mt_Reader_fail rfl hc rfl k
    · replace k := k.2 c6
      refine R_ld (v := .inr (.inr 2)) dd_Reader_takeNumber_25 rfl rfl rfl rfl ?_
      refine R_gf (v := .inr (.inl (rd h 2 6))) dd_Reader_takeNumber_26 fd_7_174 io_2 (congrArg (fun z : Int => (Sum.inr (Sum.inl z) : LV)) (rfl)) rfl ?_
      refine R_ld (v := .inl v2) dd_Reader_takeNumber_29 rfl rfl rfl rfl ?_
      refine R_A dd_Reader_takeNumber_30 rfl rfl rfl rfl ?_
      refine R_A dd_Reader_takeNumber_31 rfl rfl rfl rfl ?_
      refine R_if dd_Reader_takeNumber_32 rfl rfl (fun (c7 : (lcmp_ (rd h 2 6) v2) ≤ 0) => ?_) (fun (c7 : 0 < (lcmp_ (rd h 2 6) v2)) => ?_)
      · replace k := k.1 c7
        refine R_ld (v := .inr (.inr 2)) dd_Reader_takeNumber_42 rfl rfl rfl rfl ?_
        refine R_gf (v := .inr (.inl (rd h 2 6))) dd_Reader_takeNumber_43 fd_7_174 io_2 (congrArg (fun z : Int => (Sum.inr (Sum.inl z) : LV)) (rfl)) rfl ?_
        refine R_A dd_Reader_takeNumber_46 rfl rfl rfl rfl ?_
        refine R_st (ls' := [some (.inr (.inr 2)), some (.inl v1), some (.inl v2), some (.inl (w32 (rd h 2 6)))]) dd_Reader_takeNumber_47 rfl rfl rfl (Nat.le_of_ble_eq_true rfl) rfl rfl ?_
        refine R_ld (v := .inr (.inr 2)) dd_Reader_takeNumber_48 rfl rfl rfl rfl ?_
        obtain ⟨c, hc, k⟩ := k
        exact R_call (as := [.inr (.inr 2)]) (rest := []) (M' := mm_Reader_step) (ls0 := [some (.inr (.inr 2)), none]) dd_Reader_takeNumber_49 rfl rfl (cw_v cw_7_99 io_2 rfl rfl (Nat.le_of_ble_eq_true rfl) (Nat.le_of_ble_eq_true rfl)) mt_Reader_step rfl hc rfl k
      · replace k := k.2 c7
        refine R_ld (v := .inr (.inr 2)) dd_Reader_takeNumber_35 rfl rfl rfl rfl ?_
        refine R_ic dd_Reader_takeNumber_36 (by decide) rfl ?_
        obtain ⟨c, hc, k⟩ := k
        exact R_call (as := [.inr (.inr 2), .inl 4]) (rest := []) (M' := mm_Reader_fail) (ls0 := [some (.inr (.inr 2)), some (.inl 4)]) dd_Reader_takeNumber_37 rfl rfl (cw_v cw_7_80 io_2 rfl rfl (Nat.le_of_ble_eq_true rfl) (Nat.le_of_ble_eq_true rfl)) mt_Reader_fail rfl hc rfl k
  · replace k := k.2 c5
    refine R_ld (v := .inr (.inr 2)) dd_Reader_takeNumber_8 rfl rfl rfl rfl ?_
    refine R_ic dd_Reader_takeNumber_9 (by decide) rfl ?_
    obtain ⟨c, hc, k⟩ := k
    exact R_call (as := [.inr (.inr 2), .inl 1]) (rest := []) (M' := mm_Reader_fail) (ls0 := [some (.inr (.inr 2)), some (.inl 1)]) dd_Reader_takeNumber_10 rfl rfl (cw_v cw_7_80 io_2 rfl rfl (Nat.le_of_ble_eq_true rfl) (Nat.le_of_ble_eq_true rfl)) mt_Reader_fail rfl hc rfl k
theorem B_Reader_takeNumber_13 {xs : Nat → Int} {xl e : Nat} {h : LH} {Q : Option LV → LH → Prop} {v1 v2 : Int} (hF : RF h)
    (k : Q (some (.inl v1)) h) :
    Rn xs xl e mm_Reader_takeNumber 13 [some (.inr (.inr 2)), some (.inl v1), some (.inl v2), none] [] h Q := by
  refine R_ld (v := .inl v1) dd_Reader_takeNumber_13 rfl rfl rfl rfl ?_
  exact R_iret dd_Reader_takeNumber_14 rfl k
theorem B_Reader_takeNumber_40 {xs : Nat → Int} {xl e : Nat} {h : LH} {Q : Option LV → LH → Prop} {v1 v2 : Int} (hF : RF h)
    (k : Q (some (.inl v1)) h) :
    Rn xs xl e mm_Reader_takeNumber 40 [some (.inr (.inr 2)), some (.inl v1), some (.inl v2), none] [] h Q := by
  refine R_ld (v := .inl v1) dd_Reader_takeNumber_40 rfl rfl rfl rfl ?_
  exact R_iret dd_Reader_takeNumber_41 rfl k
theorem B_Reader_takeNumber_52 {xs : Nat → Int} {xl e : Nat} {h : LH} {Q : Option LV → LH → Prop} {v1 v2 v3 : Int} (hF : RF h)
    (k : Q (some (.inl v3)) h) :
    Rn xs xl e mm_Reader_takeNumber 52 [some (.inr (.inr 2)), some (.inl v1), some (.inl v2), some (.inl v3)] [] h Q := by
  refine R_ld (v := .inl v3) dd_Reader_takeNumber_52 rfl rfl rfl rfl ?_
  exact R_iret dd_Reader_takeNumber_53 rfl k
theorem B_Reader_takeOtherRoom_0 {xs : Nat → Int} {xl e : Nat} {h : LH} {Q : Option LV → LH → Prop} {v1 v2 : Int} (hF : RF h)
    (k : ((rd h 2 3) ≠ 3 →
        (-2147483648 ≤ v2 - 1 ∧ v2 - 1 ≤ 2147483647) ∧
        (∃ c, c < e ∧ Rn xs xl c mm_Reader_takeNumber 0 [some (.inr (.inr 2)), some (.inl 0), some (.inl (v2 - 1)), none] [] h (fun r h' => Rn xs xl e mm_Reader_takeOtherRoom 33 [some (.inr (.inr 2)), some (.inl v1), some (.inl v2)] (r.toList ++ []) h' Q))) ∧
      ((rd h 2 3) = 3 →
        ((lcmp_ (rd h 2 6) v1) ≠ 0 →
          (-2147483648 ≤ v2 - 1 ∧ v2 - 1 ≤ 2147483647) ∧
          (∃ c, c < e ∧ Rn xs xl c mm_Reader_takeNumber 0 [some (.inr (.inr 2)), some (.inl 0), some (.inl (v2 - 1)), none] [] h (fun r h' => Rn xs xl e mm_Reader_takeOtherRoom 33 [some (.inr (.inr 2)), some (.inl v1), some (.inl v2)] (r.toList ++ []) h' Q))) ∧
        ((lcmp_ (rd h 2 6) v1) = 0 →
          (∃ c, c < e ∧ Rn xs xl c mm_Reader_fail 0 [some (.inr (.inr 2)), some (.inl 3)] [] h (fun r h' => Rn xs xl e mm_Reader_takeOtherRoom 23 [some (.inr (.inr 2)), some (.inl v1), some (.inl v2)] (r.toList ++ []) h' Q))))) :
    Rn xs xl e mm_Reader_takeOtherRoom 0 [some (.inr (.inr 2)), some (.inl v1), some (.inl v2)] [] h Q := by
  refine R_ld (v := .inr (.inr 2)) dd_Reader_takeOtherRoom_0 rfl rfl rfl rfl ?_
  refine R_gf (v := .inl (rd h 2 3)) dd_Reader_takeOtherRoom_1 fd_7_64 io_2 (congrArg (fun z : Int => (Sum.inl z : LV)) (rfl)) rfl ?_
  refine R_ic dd_Reader_takeOtherRoom_4 (by decide) rfl ?_
  refine R_icmp dd_Reader_takeOtherRoom_5 rfl rfl (fun (c6 : (rd h 2 3) ≠ 3) => ?_) (fun (c6 : (rd h 2 3) = 3) => ?_)
  · replace k := k.1 c6
    refine R_ld (v := .inr (.inr 2)) dd_Reader_takeOtherRoom_25 rfl rfl rfl rfl ?_
    refine R_ic dd_Reader_takeOtherRoom_26 (by decide) rfl ?_
    refine R_ld (v := .inl v2) dd_Reader_takeOtherRoom_27 rfl rfl rfl rfl ?_
    refine R_ic dd_Reader_takeOtherRoom_28 (by decide) rfl ?_
    obtain ⟨s1, k⟩ := k
    refine R_isub (c := v2 - 1) dd_Reader_takeOtherRoom_29 (by omega) s1 rfl ?_
    obtain ⟨c, hc, k⟩ := k
    exact R_call (as := [.inr (.inr 2), .inl 0, .inl (v2 - 1)]) (rest := []) (M' := mm_Reader_takeNumber) (ls0 := [some (.inr (.inr 2)), some (.inl 0), some (.inl (v2 - 1)), none]) dd_Reader_takeOtherRoom_30 rfl rfl (cw_v cw_7_50 io_2 rfl rfl (Nat.le_of_ble_eq_true rfl) (Nat.le_of_ble_eq_true rfl)) mt_Reader_takeNumber rfl hc rfl k
  · replace k := k.2 c6
    refine R_ld (v := .inr (.inr 2)) dd_Reader_takeOtherRoom_8 rfl rfl rfl rfl ?_
    refine R_gf (v := .inr (.inl (rd h 2 6))) dd_Reader_takeOtherRoom_9 fd_7_174 io_2 (congrArg (fun z : Int => (Sum.inr (Sum.inl z) : LV)) (rfl)) rfl ?_
    refine R_ld (v := .inl v1) dd_Reader_takeOtherRoom_12 rfl rfl rfl rfl ?_
    refine R_A dd_Reader_takeOtherRoom_13 rfl rfl rfl rfl ?_
    refine R_A dd_Reader_takeOtherRoom_14 rfl rfl rfl rfl ?_
    refine R_if dd_Reader_takeOtherRoom_15 rfl rfl (fun (c7 : (lcmp_ (rd h 2 6) v1) ≠ 0) => ?_) (fun (c7 : (lcmp_ (rd h 2 6) v1) = 0) => ?_)
    · replace k := k.1 c7
      refine R_ld (v := .inr (.inr 2)) dd_Reader_takeOtherRoom_25 rfl rfl rfl rfl ?_
      refine R_ic dd_Reader_takeOtherRoom_26 (by decide) rfl ?_
      refine R_ld (v := .inl v2) dd_Reader_takeOtherRoom_27 rfl rfl rfl rfl ?_
      refine R_ic dd_Reader_takeOtherRoom_28 (by decide) rfl ?_
      obtain ⟨s3, k⟩ := k
      refine R_isub (c := v2 - 1) dd_Reader_takeOtherRoom_29 (by omega) s3 rfl ?_
      obtain ⟨c, hc, k⟩ := k
      exact R_call (as := [.inr (.inr 2), .inl 0, .inl (v2 - 1)]) (rest := []) (M' := mm_Reader_takeNumber) (ls0 := [some (.inr (.inr 2)), some (.inl 0), some (.inl (v2 - 1)), none]) dd_Reader_takeOtherRoom_30 rfl rfl (cw_v cw_7_50 io_2 rfl rfl (Nat.le_of_ble_eq_true rfl) (Nat.le_of_ble_eq_true rfl)) mt_Reader_takeNumber rfl hc rfl k
    · replace k := k.2 c7
      refine R_ld (v := .inr (.inr 2)) dd_Reader_takeOtherRoom_18 rfl rfl rfl rfl ?_
      refine R_ic dd_Reader_takeOtherRoom_19 (by decide) rfl ?_
      obtain ⟨c, hc, k⟩ := k
      exact R_call (as := [.inr (.inr 2), .inl 3]) (rest := []) (M' := mm_Reader_fail) (ls0 := [some (.inr (.inr 2)), some (.inl 3)]) dd_Reader_takeOtherRoom_20 rfl rfl (cw_v cw_7_80 io_2 rfl rfl (Nat.le_of_ble_eq_true rfl) (Nat.le_of_ble_eq_true rfl)) mt_Reader_fail rfl hc rfl k
theorem B_Reader_takeOtherRoom_23 {xs : Nat → Int} {xl e : Nat} {h : LH} {Q : Option LV → LH → Prop} {v1 v2 : Int} (hF : RF h)
    (k : Q (some (.inl v1)) h) :
    Rn xs xl e mm_Reader_takeOtherRoom 23 [some (.inr (.inr 2)), some (.inl v1), some (.inl v2)] [] h Q := by
  refine R_ld (v := .inl v1) dd_Reader_takeOtherRoom_23 rfl rfl rfl rfl ?_
  exact R_iret dd_Reader_takeOtherRoom_24 rfl k
theorem B_Reader_takeOtherRoom_33 {xs : Nat → Int} {xl e : Nat} {h : LH} {Q : Option LV → LH → Prop} {v1 v2 w0 : Int} (hF : RF h)
    (k : Q (some (.inl w0)) h) :
    Rn xs xl e mm_Reader_takeOtherRoom 33 [some (.inr (.inr 2)), some (.inl v1), some (.inl v2)] [.inl w0] h Q := by
  exact R_iret dd_Reader_takeOtherRoom_33 rfl k
theorem B_Reader_operatorOf_0 {xs : Nat → Int} {xl e : Nat} {h : LH} {Q : Option LV → LH → Prop} {v1 : Int} (hF : RF h)
    (k : (v1 = 0 →
        Rn xs xl e mm_Reader_operatorOf 28 [some (.inr (.inr 2)), some (.inl v1)] [] h Q) ∧
      (v1 = 1 →
        Rn xs xl e mm_Reader_operatorOf 60 [some (.inr (.inr 2)), some (.inl v1)] [] h Q) ∧
      (v1 = 2 →
        Rn xs xl e mm_Reader_operatorOf 92 [some (.inr (.inr 2)), some (.inl v1)] [] h Q) ∧
      (v1 < 0 ∨ 2 < v1 →
        Rn xs xl e mm_Reader_operatorOf 124 [some (.inr (.inr 2)), some (.inl v1)] [] h Q)) :
    Rn xs xl e mm_Reader_operatorOf 0 [some (.inr (.inr 2)), some (.inl v1)] [] h Q := by
  refine R_ld (v := .inl v1) dd_Reader_operatorOf_0 rfl rfl rfl rfl ?_
  rcases (show (v1 = 0) ∨ (v1 = 1) ∨ (v1 = 2) ∨ (v1 < 0 ∨ 2 < v1) by omega) with c1 | c1 | c1 | c1
  · replace k := k.1 c1
    refine R_swj (v := 0) dd_Reader_operatorOf_1 c1 (by decide) rfl rfl ?_
    exact k
  · replace k := k.2.1 c1
    refine R_swj (v := 1) dd_Reader_operatorOf_1 c1 (by decide) rfl rfl ?_
    exact k
  · replace k := k.2.2.1 c1
    refine R_swj (v := 2) dd_Reader_operatorOf_1 c1 (by decide) rfl rfl ?_
    exact k
  · replace k := k.2.2.2 c1
    refine R_swd dd_Reader_operatorOf_1 c1 rfl ?_
    exact k
theorem B_Reader_operatorOf_28 {xs : Nat → Int} {xl e : Nat} {h : LH} {Q : Option LV → LH → Prop} {v1 : Int} (hF : RF h)
    (k : ((rd h 2 7) ≠ 23 →
        ((rd h 2 7) ≠ 24 →
          Q (some (.inl (-1))) h) ∧
        ((rd h 2 7) = 24 →
          Q (some (.inl 10006)) h)) ∧
      ((rd h 2 7) = 23 →
        Q (some (.inl 10005)) h)) :
    Rn xs xl e mm_Reader_operatorOf 28 [some (.inr (.inr 2)), some (.inl v1)] [] h Q := by
  refine R_ld (v := .inr (.inr 2)) dd_Reader_operatorOf_28 rfl rfl rfl rfl ?_
  refine R_gf (v := .inl (rd h 2 7)) dd_Reader_operatorOf_29 fd_7_67 io_2 (congrArg (fun z : Int => (Sum.inl z : LV)) (rfl)) rfl ?_
  refine R_bi dd_Reader_operatorOf_32 (by decide) rfl ?_
  refine R_icmp dd_Reader_operatorOf_34 rfl rfl (fun (c1 : (rd h 2 7) ≠ 23) => ?_) (fun (c1 : (rd h 2 7) = 23) => ?_)
  · replace k := k.1 c1
    refine R_ld (v := .inr (.inr 2)) dd_Reader_operatorOf_43 rfl rfl rfl rfl ?_
    refine R_gf (v := .inl (rd h 2 7)) dd_Reader_operatorOf_44 fd_7_67 io_2 (congrArg (fun z : Int => (Sum.inl z : LV)) (rfl)) rfl ?_
    refine R_bi dd_Reader_operatorOf_47 (by decide) rfl ?_
    refine R_icmp dd_Reader_operatorOf_49 rfl rfl (fun (c2 : (rd h 2 7) ≠ 24) => ?_) (fun (c2 : (rd h 2 7) = 24) => ?_)
    · replace k := k.1 c2
      refine R_ic dd_Reader_operatorOf_58 (by decide) rfl ?_
      exact R_iret dd_Reader_operatorOf_59 rfl k
    · replace k := k.2 c2
      refine R_si dd_Reader_operatorOf_52 (by decide) rfl ?_
      refine R_goto dd_Reader_operatorOf_55 rfl ?_
      exact R_iret dd_Reader_operatorOf_59 rfl k
  · replace k := k.2 c1
    refine R_si dd_Reader_operatorOf_37 (by decide) rfl ?_
    refine R_goto dd_Reader_operatorOf_40 rfl ?_
    exact R_iret dd_Reader_operatorOf_59 rfl k
theorem B_Reader_operatorOf_60 {xs : Nat → Int} {xl e : Nat} {h : LH} {Q : Option LV → LH → Prop} {v1 : Int} (hF : RF h)
    (k : (∃ c, c < e ∧ Rn xs xl c mm_Reader_isSign 0 [some (.inr (.inr 2)), some (.inl 60)] [] h (fun r h' => Rn xs xl e mm_Reader_operatorOf 66 [some (.inr (.inr 2)), some (.inl v1)] (r.toList ++ []) h' Q))) :
    Rn xs xl e mm_Reader_operatorOf 60 [some (.inr (.inr 2)), some (.inl v1)] [] h Q := by
  refine R_ld (v := .inr (.inr 2)) dd_Reader_operatorOf_60 rfl rfl rfl rfl ?_
  refine R_bi dd_Reader_operatorOf_61 (by decide) rfl ?_
  obtain ⟨c, hc, k⟩ := k
  exact R_call (as := [.inr (.inr 2), .inl 60]) (rest := []) (M' := mm_Reader_isSign) (ls0 := [some (.inr (.inr 2)), some (.inl 60)]) dd_Reader_operatorOf_63 rfl rfl (cw_v cw_7_201 io_2 rfl rfl (Nat.le_of_ble_eq_true rfl) (Nat.le_of_ble_eq_true rfl)) mt_Reader_isSign rfl hc rfl k
theorem B_Reader_operatorOf_66 {xs : Nat → Int} {xl e : Nat} {h : LH} {Q : Option LV → LH → Prop} {v1 w0 : Int} (hF : RF h)
    (k : (w0 = 0 →
        (∃ c, c < e ∧ Rn xs xl c mm_Reader_isSign 0 [some (.inr (.inr 2)), some (.inl 61)] [] h (fun r h' => Rn xs xl e mm_Reader_operatorOf 81 [some (.inr (.inr 2)), some (.inl v1)] (r.toList ++ []) h' Q))) ∧
      (w0 ≠ 0 →
        Q (some (.inl 10007)) h)) :
    Rn xs xl e mm_Reader_operatorOf 66 [some (.inr (.inr 2)), some (.inl v1)] [.inl w0] h Q := by
  refine R_if dd_Reader_operatorOf_66 rfl rfl (fun (c2 : w0 = 0) => ?_) (fun (c2 : w0 ≠ 0) => ?_)
  · replace k := k.1 c2
    refine R_ld (v := .inr (.inr 2)) dd_Reader_operatorOf_75 rfl rfl rfl rfl ?_
    refine R_bi dd_Reader_operatorOf_76 (by decide) rfl ?_
    obtain ⟨c, hc, k⟩ := k
    exact R_call (as := [.inr (.inr 2), .inl 61]) (rest := []) (M' := mm_Reader_isSign) (ls0 := [some (.inr (.inr 2)), some (.inl 61)]) dd_Reader_operatorOf_78 rfl rfl (cw_v cw_7_201 io_2 rfl rfl (Nat.le_of_ble_eq_true rfl) (Nat.le_of_ble_eq_true rfl)) mt_Reader_isSign rfl hc rfl k
  · replace k := k.2 c2
    refine R_si dd_Reader_operatorOf_69 (by decide) rfl ?_
    refine R_goto dd_Reader_operatorOf_72 rfl ?_
    exact R_iret dd_Reader_operatorOf_91 rfl k
theorem B_Reader_operatorOf_81 {xs : Nat → Int} {xl e : Nat} {h : LH} {Q : Option LV → LH → Prop} {v1 w0 : Int} (hF : RF h)
    (k : (w0 = 0 →
        Q (some (.inl (-1))) h) ∧
      (w0 ≠ 0 →
        Q (some (.inl 10008)) h)) :
    Rn xs xl e mm_Reader_operatorOf 81 [some (.inr (.inr 2)), some (.inl v1)] [.inl w0] h Q := by
  refine R_if dd_Reader_operatorOf_81 rfl rfl (fun (c1 : w0 = 0) => ?_) (fun (c1 : w0 ≠ 0) => ?_)
  · replace k := k.1 c1
    refine R_ic dd_Reader_operatorOf_90 (by decide) rfl ?_
    exact R_iret dd_Reader_operatorOf_91 rfl k
  · replace k := k.2 c1
    refine R_si dd_Reader_operatorOf_84 (by decide) rfl ?_
    refine R_goto dd_Reader_operatorOf_87 rfl ?_
    exact R_iret dd_Reader_operatorOf_91 rfl k
theorem B_Reader_operatorOf_92 {xs : Nat → Int} {xl e : Nat} {h : LH} {Q : Option LV → LH → Prop} {v1 : Int} (hF : RF h)
    (k : (∃ c, c < e ∧ Rn xs xl c mm_Reader_isSign 0 [some (.inr (.inr 2)), some (.inl 43)] [] h (fun r h' => Rn xs xl e mm_Reader_operatorOf 98 [some (.inr (.inr 2)), some (.inl v1)] (r.toList ++ []) h' Q))) :
    Rn xs xl e mm_Reader_operatorOf 92 [some (.inr (.inr 2)), some (.inl v1)] [] h Q := by
  refine R_ld (v := .inr (.inr 2)) dd_Reader_operatorOf_92 rfl rfl rfl rfl ?_
  refine R_bi dd_Reader_operatorOf_93 (by decide) rfl ?_
  obtain ⟨c, hc, k⟩ := k
  exact R_call (as := [.inr (.inr 2), .inl 43]) (rest := []) (M' := mm_Reader_isSign) (ls0 := [some (.inr (.inr 2)), some (.inl 43)]) dd_Reader_operatorOf_95 rfl rfl (cw_v cw_7_201 io_2 rfl rfl (Nat.le_of_ble_eq_true rfl) (Nat.le_of_ble_eq_true rfl)) mt_Reader_isSign rfl hc rfl k
theorem B_Reader_operatorOf_98 {xs : Nat → Int} {xl e : Nat} {h : LH} {Q : Option LV → LH → Prop} {v1 w0 : Int} (hF : RF h)
    (k : (w0 = 0 →
        (∃ c, c < e ∧ Rn xs xl c mm_Reader_isSign 0 [some (.inr (.inr 2)), some (.inl 45)] [] h (fun r h' => Rn xs xl e mm_Reader_operatorOf 113 [some (.inr (.inr 2)), some (.inl v1)] (r.toList ++ []) h' Q))) ∧
      (w0 ≠ 0 →
        Q (some (.inl 10009)) h)) :
    Rn xs xl e mm_Reader_operatorOf 98 [some (.inr (.inr 2)), some (.inl v1)] [.inl w0] h Q := by
  refine R_if dd_Reader_operatorOf_98 rfl rfl (fun (c2 : w0 = 0) => ?_) (fun (c2 : w0 ≠ 0) => ?_)
  · replace k := k.1 c2
    refine R_ld (v := .inr (.inr 2)) dd_Reader_operatorOf_107 rfl rfl rfl rfl ?_
    refine R_bi dd_Reader_operatorOf_108 (by decide) rfl ?_
    obtain ⟨c, hc, k⟩ := k
    exact R_call (as := [.inr (.inr 2), .inl 45]) (rest := []) (M' := mm_Reader_isSign) (ls0 := [some (.inr (.inr 2)), some (.inl 45)]) dd_Reader_operatorOf_110 rfl rfl (cw_v cw_7_201 io_2 rfl rfl (Nat.le_of_ble_eq_true rfl) (Nat.le_of_ble_eq_true rfl)) mt_Reader_isSign rfl hc rfl k
  · replace k := k.2 c2
    refine R_si dd_Reader_operatorOf_101 (by decide) rfl ?_
    refine R_goto dd_Reader_operatorOf_104 rfl ?_
    exact R_iret dd_Reader_operatorOf_123 rfl k
theorem B_Reader_operatorOf_113 {xs : Nat → Int} {xl e : Nat} {h : LH} {Q : Option LV → LH → Prop} {v1 w0 : Int} (hF : RF h)
    (k : (w0 = 0 →
        Q (some (.inl (-1))) h) ∧
      (w0 ≠ 0 →
        Q (some (.inl 10010)) h)) :
    Rn xs xl e mm_Reader_operatorOf 113 [some (.inr (.inr 2)), some (.inl v1)] [.inl w0] h Q := by
  refine R_if dd_Reader_operatorOf_113 rfl rfl (fun (c1 : w0 = 0) => ?_) (fun (c1 : w0 ≠ 0) => ?_)
  · replace k := k.1 c1
    refine R_ic dd_Reader_operatorOf_122 (by decide) rfl ?_
    exact R_iret dd_Reader_operatorOf_123 rfl k
  · replace k := k.2 c1
    refine R_si dd_Reader_operatorOf_116 (by decide) rfl ?_
    refine R_goto dd_Reader_operatorOf_119 rfl ?_
    exact R_iret dd_Reader_operatorOf_123 rfl k
theorem B_Reader_operatorOf_124 {xs : Nat → Int} {xl e : Nat} {h : LH} {Q : Option LV → LH → Prop} {v1 : Int} (hF : RF h)
    (k : (∃ c, c < e ∧ Rn xs xl c mm_Reader_isSign 0 [some (.inr (.inr 2)), some (.inl 42)] [] h (fun r h' => Rn xs xl e mm_Reader_operatorOf 130 [some (.inr (.inr 2)), some (.inl v1)] (r.toList ++ []) h' Q))) :
    Rn xs xl e mm_Reader_operatorOf 124 [some (.inr (.inr 2)), some (.inl v1)] [] h Q := by
  refine R_ld (v := .inr (.inr 2)) dd_Reader_operatorOf_124 rfl rfl rfl rfl ?_
  refine R_bi dd_Reader_operatorOf_125 (by decide) rfl ?_
  obtain ⟨c, hc, k⟩ := k
  exact R_call (as := [.inr (.inr 2), .inl 42]) (rest := []) (M' := mm_Reader_isSign) (ls0 := [some (.inr (.inr 2)), some (.inl 42)]) dd_Reader_operatorOf_127 rfl rfl (cw_v cw_7_201 io_2 rfl rfl (Nat.le_of_ble_eq_true rfl) (Nat.le_of_ble_eq_true rfl)) mt_Reader_isSign rfl hc rfl k
theorem B_Reader_operatorOf_130 {xs : Nat → Int} {xl e : Nat} {h : LH} {Q : Option LV → LH → Prop} {v1 w0 : Int} (hF : RF h)
    (k : (w0 = 0 →
        Q (some (.inl (-1))) h) ∧
      (w0 ≠ 0 →
        Q (some (.inl 10011)) h)) :
    Rn xs xl e mm_Reader_operatorOf 130 [some (.inr (.inr 2)), some (.inl v1)] [.inl w0] h Q := by
  refine R_if dd_Reader_operatorOf_130 rfl rfl (fun (c1 : w0 = 0) => ?_) (fun (c1 : w0 ≠ 0) => ?_)
  · replace k := k.1 c1
    refine R_ic dd_Reader_operatorOf_139 (by decide) rfl ?_
    exact R_iret dd_Reader_operatorOf_140 rfl k
  · replace k := k.2 c1
    refine R_si dd_Reader_operatorOf_133 (by decide) rfl ?_
    refine R_goto dd_Reader_operatorOf_136 rfl ?_
    exact R_iret dd_Reader_operatorOf_140 rfl k
end
section
/-! p3, part a6: what a reader of the text does, token by token; the class's takes -/
section SPC
variable (o v w p : Nat → Int)
def tkE (c : Int) (s : Int × Nat) : Int × Nat := if s.1 = 0 then (c + 16 * p s.2, s.2) else s
def tkA (s : Int × Nat) : Int × Nat := if s.1 = 0 then (0, s.2 + 1) else s
def tkW (x : Int) (s : Int × Nat) : Int × Nat := if w s.2 = x then tkA s else tkE p 1 s
def tkS (c : Int) (s : Int × Nat) : Int × Nat := if o s.2 = 3 ∧ v s.2 = c then tkA s else tkE p 1 s
def tkN (lo hi : Int) (s : Int × Nat) : Int × Nat := if o s.2 = 2 then (if lo ≤ v s.2 ∧ v s.2 ≤ hi then tkA s else tkE p 4 s) else tkE p 1 s
def tkF (x : Int) (s : Int × Nat) : Int × Nat := if x ≤ w s.2 ∧ w s.2 ≤ x + 3 then tkA s else tkE p 1 s
def tkB (x : Int) (s : Int × Nat) : Bool := decide (s.1 = 0 ∧ w s.2 = x)
def tkR (a R : Int) (s : Int × Nat) : Int × Nat := if o s.2 = 2 ∧ v s.2 = a then tkE p 3 s else tkN o v p 0 (R - 1) s
def isNm (k : Nat) : Bool := decide (o k = 1 ∧ (w k = -1 ∨ 25 ≤ w k))
def tkM (N : List Nat) (s : Int × Nat) : Int × Nat := if isNm o w s.2 = true then (if N.any (fun j => decide (v j = v s.2)) = true then tkE p 3 s else tkA s) else tkE p 1 s
end SPC
section SPD
variable {o v w p : Nat → Int} {s : Int × Nat}
theorem tkA_f (h : s.1 ≠ 0) : tkA s = s := by unfold tkA; rw [if_neg h]
theorem tkE_f {c : Int} (h : s.1 ≠ 0) : tkE p c s = s := by unfold tkE; rw [if_neg h]
theorem tkA_0 (h : s.1 = 0) : tkA s = (0, s.2 + 1) := by unfold tkA; rw [if_pos h]
theorem tkE_0 {c : Int} (h : s.1 = 0) : tkE p c s = (c + 16 * p s.2, s.2) := by unfold tkE; rw [if_pos h]
theorem tkW_f {x : Int} (h : s.1 ≠ 0) : tkW w p x s = s := by unfold tkW; rw [tkA_f h, tkE_f h, ite_self]
theorem tkS_f {x : Int} (h : s.1 ≠ 0) : tkS o v p x s = s := by unfold tkS; rw [tkA_f h, tkE_f h, ite_self]
theorem tkN_f {x y : Int} (h : s.1 ≠ 0) : tkN o v p x y s = s := by unfold tkN; rw [tkA_f h, tkE_f h, tkE_f h, ite_self, ite_self]
theorem tkF_f {x : Int} (h : s.1 ≠ 0) : tkF w p x s = s := by unfold tkF; rw [tkA_f h, tkE_f h, ite_self]
theorem tkR_f {x y : Int} (h : s.1 ≠ 0) : tkR o v p x y s = s := by unfold tkR; rw [tkN_f h, tkE_f h, ite_self]
theorem tkM_f {N : List Nat} (h : s.1 ≠ 0) : tkM o v w p N s = s := by unfold tkM; rw [tkA_f h, tkE_f h, tkE_f h, ite_self, ite_self]
theorem ck_0 {x : Int} : ck x = 0 ↔ x = 0 := by unfold ck; split <;> (try split) <;> (try split) <;> (try split) <;> omega
theorem ck_2 {x : Int} : ck x = 2 ↔ x = 1 := by unfold ck; split <;> (try split) <;> (try split) <;> (try split) <;> omega
theorem ck_3 {x : Int} : ck x = 3 ↔ x = 2 := by unfold ck; split <;> (try split) <;> (try split) <;> (try split) <;> omega
theorem ck_4 {x : Int} : ck x = 4 ↔ x = 3 := by unfold ck; split <;> (try split) <;> (try split) <;> (try split) <;> omega
end SPD
theorem tW_in {T : Int → Int} {n b : Int} {W : Int → Int} (k : Nat) : -1 ≤ tW T n b W k ∧ tW T n b W k ≤ 28 := by
  unfold tW
  split
  · have := wl_in (W := W) (v := tV T n b k) 29
    omega
  · omega
theorem tW_o {T : Int → Int} {n b : Int} {W : Int → Int} {k : Nat} (h : 0 ≤ tW T n b W k) : tO T n k = 1 := by
  unfold tW at h
  split at h
  · assumption
  · omega
/-- the class's reader is in state s -/
def CSK (T : Int → Int) (n : Int) (W : Int → Int) (h : LH) (s : Int × Nat) : Prop := CX T n W h ∧ rd h 2 8 = s.1 ∧ (-1 ≤ rd h 2 7 ∧ rd h 2 7 ≤ 28) ∧ (s.1 = 0 → CTK T n W h s.2)
def frK (h h' : LH) : Prop := ∀ a i, ¬ muR a i → rd h' a i = rd h a i
theorem frK.refl {h : LH} : frK h h := fun _ _ _ => rfl
theorem frK.trans {h h1 h2 : LH} (a : frK h h1) (b : frK h1 h2) : frK h h2 := fun x i hn => (b x i hn).trans (a x i hn)
section C9
variable {xs : Nat → Int} {xl e : Nat} {h : LH} {Q : Option LV → LH → Prop} {v1 v2 v3 : Int} {T : Int → Int} {n : Int} {W : Int → Int} {s : Int × Nat}
theorem CS_w (hs : CSK T n W h s) (h0 : s.1 = 0) : rd h 2 7 = tW T n 32 W s.2 := (hs.2.2.2 h0).2.2.2.2
theorem CS_k (hs : CSK T n W h s) (h0 : s.1 = 0) : rd h 2 3 = ck (tO T n s.2) := (hs.2.2.2 h0).1
theorem CS_v (hs : CSK T n W h s) (h0 : s.1 = 0) (h1 : 1 ≤ tO T n s.2) (h3 : tO T n s.2 ≤ 3) : rd h 2 6 = tV T n 32 s.2 := (hs.2.2.2 h0).2.2.2.1 h1 h3
theorem F_stp (he : 2 ≤ e) (hs : CSK T n W h s) (ho : s.1 = 0 → tO T n s.2 ≠ 0) (k : ∀ h', CSK T n W h' (tkA s) → frK h h' → Q none h') : Rn xs xl e mm_Reader_step 0 [some (.inr (.inr 2)), none] [] h Q := by
  obtain ⟨h1, h2, h3, h4⟩ := hs
  by_cases hz : s.1 = 0
  · obtain ⟨c1, c2, c3, c4, c5⟩ := h4 hz
    refine F_step he h1 (h2.trans hz) (c3 (ho hz)) (fun h' hc hf => ?_)
    have fr : frK h h' := fun a i hn => hf a i (fun q => hn (muS_R q))
    refine k h' ⟨CX_fr h1 fr, ?_, ?_, fun _ => ?_⟩ fr
    · rw [tkA_0 hz, hf _ _ (by unfold muS; omega), h2, hz]
    · rw [hc.2.2.2.2]; exact tW_in _
    · rw [tkA_0 hz]; exact hc
  · exact B_Reader_step_0 h1.1 ⟨fun q => absurd (h2.symm.trans q) hz, fun _ => k h (by rw [tkA_f hz]; exact ⟨h1, h2, h3, h4⟩) frK.refl⟩
theorem F_fl (hs : CSK T n W h s) (hw : 1 ≤ v1 ∧ v1 ≤ 5) (k : ∀ h', CSK T n W h' (tkE (tP T n) v1 s) → frK h h' → Q none h') : Rn xs xl e mm_Reader_fail 0 [some (.inr (.inr 2)), some (.inl v1)] [] h Q := by
  obtain ⟨h1, h2, h3, h4⟩ := hs
  by_cases hz : s.1 = 0
  · obtain ⟨c1, c2, c3, c4, c5⟩ := h4 hz
    have t := h1.2.1
    have s0 := tS_in (T := T) t.2.2.2 t.2.2.1 s.2
    have pin := tP_in (T := T) t.2.2.2 t.2.2.1 s.2
    have fr : frK h (wr h 2 8 (v1 + 16 * rd h 2 4)) := by
      intro a i hn
      unfold muR at hn
      rw [rd_wr, if_neg (fun q => hn (by omega))]
    have t4 := t.2.2.2
    refine B_Reader_fail_0 h1.1 ⟨fun q => absurd (h2.trans hz) q, fun _ => ⟨by omega, by omega, k _ ⟨CX_fr h1 fr, ?_, ?_, fun q => ?_⟩ fr⟩⟩
    · rw [tkE_0 hz, rdw_eq, c2]
    · rw [rdw_nei (by decide)]; exact h3
    · rw [tkE_0 hz] at q
      have : v1 + 16 * tP T n s.2 = 0 := q
      omega
  · exact B_Reader_fail_0 h1.1 ⟨fun _ => k h (by rw [tkE_f hz]; exact ⟨h1, h2, h3, h4⟩) frK.refl, fun q => absurd (h2.symm.trans q) hz⟩
theorem F_isSign (hs : CSK T n W h s) (k : ∀ r, (r = 0 ∨ r = 1) → (s.1 = 0 → (r = 1 ↔ tO T n s.2 = 3 ∧ tV T n 32 s.2 = v1)) → Q (some (.inl r)) h) : Rn xs xl e mm_Reader_isSign 0 [some (.inr (.inr 2)), some (.inl v1)] [] h Q := by
  refine B_Reader_isSign_0 hs.1.1 ⟨fun c => k 0 (Or.inl rfl) (fun hz => ?_), fun c => ⟨fun c2 => k 0 (Or.inl rfl) (fun hz => ?_), fun c2 => k 1 (Or.inr rfl) (fun hz => ?_)⟩⟩
  · rw [CS_k hs hz] at c
    exact ⟨fun q => absurd q (by decide), fun q => absurd (ck_4.mpr q.1) c⟩
  · rw [CS_k hs hz] at c
    have o3 := ck_4.mp c
    rw [CS_v hs hz (by omega) (by omega)] at c2
    exact ⟨fun q => absurd q (by decide), fun q => absurd (lcmp0.mpr q.2) c2⟩
  · rw [CS_k hs hz] at c
    have o3 := ck_4.mp c
    rw [CS_v hs hz (by omega) (by omega)] at c2
    exact ⟨fun _ => ⟨o3, lcmp0.mp c2⟩, fun _ => rfl⟩
theorem F_takeWord (he : 3 ≤ e) (hs : CSK T n W h s) (hx : 0 ≤ v1) (k : ∀ h', CSK T n W h' (tkW (tW T n 32 W) (tP T n) v1 s) → frK h h' → Q none h') : Rn xs xl e mm_Reader_takeWord 0 [some (.inr (.inr 2)), some (.inl v1)] [] h Q := by
  refine B_Reader_takeWord_0 hs.1.1 ⟨fun c => ⟨0, by omega, F_fl hs (by omega) (fun h' c1 c2 => B_Reader_takeWord_20 c1.1.1 (k h' ?_ c2))⟩, fun c => ⟨2, by omega, F_stp (by omega) hs (fun hz => ?_) (fun h' c1 c2 => B_Reader_takeWord_12 c1.1.1 (k h' ?_ c2))⟩⟩
  · by_cases hz : s.1 = 0
    · rw [CS_w hs hz] at c
      unfold tkW
      rw [if_neg c]; exact c1
    · rw [tkW_f hz]; rw [tkE_f hz] at c1; exact c1
  · rw [CS_w hs hz] at c
    rw [tW_o (W := W) (b := 32) (by omega)]; decide
  · by_cases hz : s.1 = 0
    · rw [CS_w hs hz] at c
      unfold tkW
      rw [if_pos c]; exact c1
    · rw [tkW_f hz]; rw [tkA_f hz] at c1; exact c1
theorem F_takeSign (he : 3 ≤ e) (hs : CSK T n W h s) (k : ∀ h', CSK T n W h' (tkS (tO T n) (tV T n 32) (tP T n) v1 s) → frK h h' → Q none h') : Rn xs xl e mm_Reader_takeSign 0 [some (.inr (.inr 2)), some (.inl v1)] [] h Q := by
  refine B_Reader_takeSign_0 hs.1.1 ⟨0, by omega, F_isSign hs (fun r r01 hr => B_Reader_takeSign_5 hs.1.1 ⟨fun c => ⟨0, by omega, F_fl hs (by omega) (fun h' c1 c2 => B_Reader_takeSign_20 c1.1.1 (k h' ?_ c2))⟩, fun c => ⟨2, by omega, F_stp (by omega) hs (fun hz => ?_) (fun h' c1 c2 => B_Reader_takeSign_12 c1.1.1 (k h' ?_ c2))⟩⟩)⟩
  · by_cases hz : s.1 = 0
    · unfold tkS
      rw [if_neg (fun q => by have := (hr hz).mpr q; omega)]; exact c1
    · rw [tkS_f hz]; rw [tkE_f hz] at c1; exact c1
  · have := ((hr hz).mp (by omega)).1
    omega
  · by_cases hz : s.1 = 0
    · unfold tkS
      rw [if_pos ((hr hz).mp (by omega))]; exact c1
    · rw [tkS_f hz]; rw [tkA_f hz] at c1; exact c1
theorem F_skipWord (he : 3 ≤ e) (hs : CSK T n W h s) (hx : 0 ≤ v1) (k : ∀ h', CSK T n W h' (if tkB (tW T n 32 W) v1 s = true then tkA s else s) → frK h h' → Q (some (.inl (if tkB (tW T n 32 W) v1 s = true then 1 else 0))) h') : Rn xs xl e mm_Reader_skipWord 0 [some (.inr (.inr 2)), some (.inl v1)] [] h Q := by
  have k0 : ¬ (s.1 = 0 ∧ tW T n 32 W s.2 = v1) → Q (some (.inl 0)) h := by
    intro q
    have := k h
    rw [if_neg (by unfold tkB; rw [decide_eq_true_iff]; exact q), if_neg (by unfold tkB; rw [decide_eq_true_iff]; exact q)] at this
    exact this hs frK.refl
  refine B_Reader_skipWord_0 hs.1.1 ⟨fun c => k0 (fun q => c (hs.2.1.trans q.1)), fun c => ⟨fun c2 => ⟨2, by omega, ?_⟩, fun c2 => k0 (fun q => c2 ((CS_w hs q.1).trans q.2))⟩⟩
  have hz : s.1 = 0 := hs.2.1.symm.trans c
  rw [CS_w hs hz] at c2
  have b : tkB (tW T n 32 W) v1 s = true := by unfold tkB; rw [decide_eq_true_iff]; exact ⟨hz, c2⟩
  rw [if_pos b, if_pos b] at k
  exact F_stp (by omega) hs (fun _ => by rw [tW_o (W := W) (b := 32) (by omega)]; decide) (fun h' c1 c2 => B_Reader_skipWord_21 c1.1.1 (k h' c1 c2))
theorem F_takeOneOfFour (he : 3 ≤ e) (hs : CSK T n W h s) (hx : 0 ≤ v1 ∧ v1 ≤ 25) (k : ∀ h' r, CSK T n W h' (tkF (tW T n 32 W) (tP T n) v1 s) → frK h h' → 0 ≤ r → r ≤ 3 → ((tkF (tW T n 32 W) (tP T n) v1 s).1 = 0 → r = tW T n 32 W s.2 - v1) → Q (some (.inl r)) h') : Rn xs xl e mm_Reader_takeOneOfFour 0 [some (.inr (.inr 2)), some (.inl v1), none] [] h Q := by
  have h7 := hs.2.2.1
  have bad : ¬ (v1 ≤ rd h 2 7 ∧ rd h 2 7 ≤ v1 + 3) → Rn xs xl 0 mm_Reader_fail 0 [some (.inr (.inr 2)), some (.inl 1)] [] h (fun r h' => Rn xs xl e mm_Reader_takeOneOfFour 21 [some (.inr (.inr 2)), some (.inl v1), some (.inl (rd h 2 7 - v1))] (r.toList ++ []) h' Q) := by
    intro c
    refine F_fl hs (by omega) (fun h' c1 c2 => B_Reader_takeOneOfFour_21 c1.1.1 ?_)
    have e1 : tkF (tW T n 32 W) (tP T n) v1 s = tkE (tP T n) 1 s := by
      by_cases hz : s.1 = 0
      · rw [CS_w hs hz] at c
        unfold tkF; rw [if_neg c]
      · rw [tkF_f hz, tkE_f hz]
    rw [e1] at k
    refine k h' 0 c1 c2 (by omega) (by omega) (fun q => ?_)
    by_cases hz : s.1 = 0
    · rw [tkE_0 hz] at q
      have t := hs.1.2.1
      have pin := tP_in (T := T) t.2.2.2 t.2.2.1 s.2
      have s0 := tS_in (T := T) t.2.2.2 t.2.2.1 s.2
      have : 1 + 16 * tP T n s.2 = 0 := q
      omega
    · rw [tkE_f hz] at q; exact absurd q hz
  refine B_Reader_takeOneOfFour_0 hs.1.1 ⟨by omega, fun c => ⟨0, by omega, bad (by omega)⟩, fun c => ⟨fun c2 => ⟨2, by omega, ?_⟩, fun c2 => ⟨0, by omega, bad (by omega)⟩⟩⟩
  refine F_stp (by omega) hs (fun hz => ?_) (fun h' c1 c2' => B_Reader_takeOneOfFour_27 c1.1.1 ?_)
  · rw [CS_w hs hz] at c
    rw [tW_o (W := W) (b := 32) (by omega)]; decide
  · have e1 : tkF (tW T n 32 W) (tP T n) v1 s = tkA s := by
      by_cases hz : s.1 = 0
      · rw [CS_w hs hz] at c c2
        unfold tkF; rw [if_pos (by omega)]
      · rw [tkF_f hz, tkA_f hz]
    rw [e1] at k
    refine k h' _ c1 c2' (by omega) (by omega) (fun q => ?_)
    by_cases hz : s.1 = 0
    · rw [CS_w hs hz]
    · rw [tkA_f hz] at q; exact absurd q hz
theorem tkE_ne (ht : TP T n h) (hc : 1 ≤ v1) : (tkE (tP T n) v1 s).1 ≠ 0 := by
  by_cases hz : s.1 = 0
  · rw [tkE_0 hz]
    have pin := tP_in (T := T) ht.2.2.2 ht.2.2.1 s.2
    have s0 := tS_in (T := T) ht.2.2.2 ht.2.2.1 s.2
    show v1 + 16 * tP T n s.2 ≠ 0
    omega
  · rw [tkE_f hz]; exact hz
theorem F_takeNumber (he : 3 ≤ e) (hs : CSK T n W h s) (hx : i32 v1 ∧ i32 v2) (k : ∀ h' r, CSK T n W h' (tkN (tO T n) (tV T n 32) (tP T n) v1 v2 s) → frK h h' → v1 ≤ r → (r ≤ v2 ∨ r = v1) → ((tkN (tO T n) (tV T n 32) (tP T n) v1 v2 s).1 = 0 → r = tV T n 32 s.2 ∧ r ≤ v2) → Q (some (.inl r)) h') : Rn xs xl e mm_Reader_takeNumber 0 [some (.inr (.inr 2)), some (.inl v1), some (.inl v2), none] [] h Q := by
  have bad4 : rd h 2 3 = 3 → ¬ (v1 ≤ rd h 2 6 ∧ rd h 2 6 ≤ v2) → Rn xs xl 0 mm_Reader_fail 0 [some (.inr (.inr 2)), some (.inl 4)] [] h (fun r h' => Rn xs xl e mm_Reader_takeNumber 40 [some (.inr (.inr 2)), some (.inl v1), some (.inl v2), none] (r.toList ++ []) h' Q) := by
    intro c c'
    refine F_fl hs (by omega) (fun h' c1 c2 => B_Reader_takeNumber_40 c1.1.1 ?_)
    have e1 : tkN (tO T n) (tV T n 32) (tP T n) v1 v2 s = tkE (tP T n) 4 s := by
      by_cases hz : s.1 = 0
      · rw [CS_k hs hz] at c
        have o2 := ck_3.mp c
        rw [CS_v hs hz (by omega) (by omega)] at c'
        unfold tkN; rw [if_pos o2, if_neg c']
      · rw [tkN_f hz, tkE_f hz]
    rw [e1] at k
    exact k h' v1 c1 c2 (by omega) (Or.inr rfl) (fun q => absurd q (tkE_ne hs.1.2.1 (by decide)))
  refine B_Reader_takeNumber_0 hs.1.1 ⟨fun c => ⟨fun c2 => ⟨0, by omega, bad4 c (fun q => ?_)⟩, fun c2 => ⟨fun c3 => ⟨2, by omega, ?_⟩, fun c3 => ⟨0, by omega, bad4 c (fun q => ?_)⟩⟩⟩, fun c => ⟨0, by omega, ?_⟩⟩
  · have := lcmp_ge.mpr q.1
    omega
  · have a1 := lcmp_ge.mp c2
    have a2 := lcmp_le.mp c3
    have ew : w32 (rd h 2 6) = rd h 2 6 := w32_id (by unfold i32 at *; omega)
    refine F_stp (by omega) hs (fun hz => ?_) (fun h' c1 c2' => B_Reader_takeNumber_52 c1.1.1 ?_)
    · rw [CS_k hs hz] at c
      have o2 := ck_3.mp c
      omega
    · have e1 : tkN (tO T n) (tV T n 32) (tP T n) v1 v2 s = tkA s := by
        by_cases hz : s.1 = 0
        · rw [CS_k hs hz] at c
          have o2 := ck_3.mp c
          rw [CS_v hs hz (by omega) (by omega)] at a1 a2
          unfold tkN; rw [if_pos o2, if_pos ⟨a1, a2⟩]
        · rw [tkN_f hz, tkA_f hz]
      rw [e1] at k
      rw [ew]
      refine k h' _ c1 c2' a1 (Or.inl a2) (fun q => ?_)
      by_cases hz : s.1 = 0
      · rw [CS_k hs hz] at c
        have o2 := ck_3.mp c
        rw [CS_v hs hz (by omega) (by omega)] at a2 ⊢
        exact ⟨rfl, a2⟩
      · rw [tkA_f hz] at q; exact absurd q hz
  · have := lcmp_le.mpr q.2
    omega
  · refine F_fl hs (by omega) (fun h' c1 c2 => B_Reader_takeNumber_13 c1.1.1 ?_)
    have e1 : tkN (tO T n) (tV T n 32) (tP T n) v1 v2 s = tkE (tP T n) 1 s := by
      by_cases hz : s.1 = 0
      · rw [CS_k hs hz] at c
        unfold tkN; rw [if_neg (fun q => c (ck_3.mpr q))]
      · rw [tkN_f hz, tkE_f hz]
    rw [e1] at k
    exact k h' v1 c1 c2 (by omega) (Or.inr rfl) (fun q => absurd q (tkE_ne hs.1.2.1 (by decide)))
theorem F_takeOtherRoom (he : 4 ≤ e) (hs : CSK T n W h s) (h1 : 0 ≤ v1 ∧ v1 ≤ 9) (h2 : 1 ≤ v2 ∧ v2 ≤ 10) (k : ∀ h' r, CSK T n W h' (tkR (tO T n) (tV T n 32) (tP T n) v1 v2 s) → frK h h' → 0 ≤ r → r ≤ 9 → ((tkR (tO T n) (tV T n 32) (tP T n) v1 v2 s).1 = 0 → r = tV T n 32 s.2 ∧ r ≤ v2 - 1) → Q (some (.inl r)) h') : Rn xs xl e mm_Reader_takeOtherRoom 0 [some (.inr (.inr 2)), some (.inl v1), some (.inl v2)] [] h Q := by
  have tk : ¬ (rd h 2 3 = 3 ∧ rd h 2 6 = v1) → Rn xs xl 3 mm_Reader_takeNumber 0 [some (.inr (.inr 2)), some (.inl 0), some (.inl (v2 - 1)), none] [] h (fun r h' => Rn xs xl e mm_Reader_takeOtherRoom 33 [some (.inr (.inr 2)), some (.inl v1), some (.inl v2)] (r.toList ++ []) h' Q) := by
    intro c
    refine F_takeNumber (by omega) hs ⟨by unfold i32; omega, by unfold i32; omega⟩ (fun h' r c1 c2 r0 r1 r2 => B_Reader_takeOtherRoom_33 c1.1.1 ?_)
    have e1 : tkR (tO T n) (tV T n 32) (tP T n) v1 v2 s = tkN (tO T n) (tV T n 32) (tP T n) 0 (v2 - 1) s := by
      by_cases hz : s.1 = 0
      · unfold tkR
        rw [if_neg]
        intro q
        apply c
        rw [CS_k hs hz, ck_3, CS_v hs hz (by omega) (by omega)]
        exact q
      · rw [tkR_f hz, tkN_f hz]
    rw [e1] at k
    exact k h' r c1 c2 (by omega) (by omega) r2
  refine B_Reader_takeOtherRoom_0 hs.1.1 ⟨fun c => ⟨by omega, 3, by omega, tk (fun q => c q.1)⟩, fun c => ⟨fun c2 => ⟨by omega, 3, by omega, tk (fun q => c2 (lcmp0.mpr q.2))⟩, fun c2 => ⟨0, by omega, ?_⟩⟩⟩
  refine F_fl hs (by omega) (fun h' c1 c3 => B_Reader_takeOtherRoom_23 c1.1.1 ?_)
  have e1 : tkR (tO T n) (tV T n 32) (tP T n) v1 v2 s = tkE (tP T n) 3 s := by
    by_cases hz : s.1 = 0
    · rw [CS_k hs hz] at c
      have o2 := ck_3.mp c
      have c2' := lcmp0.mp c2
      rw [CS_v hs hz (by omega) (by omega)] at c2'
      unfold tkR; rw [if_pos ⟨o2, c2'⟩]
    · rw [tkR_f hz, tkE_f hz]
  rw [e1] at k
  exact k h' v1 c1 c3 (by omega) (by omega) (fun q => absurd q (tkE_ne hs.1.2.1 (by decide)))
theorem F_isName (hs : CSK T n W h s) (k : ∀ r, (r = 0 ∨ r = 1) → (s.1 = 0 → (r = 1 ↔ isNm (tO T n) (tW T n 32 W) s.2 = true)) → Q (some (.inl r)) h) : Rn xs xl e mm_Reader_isName 0 [some (.inr (.inr 2))] [] h Q := by
  have nm : s.1 = 0 → (isNm (tO T n) (tW T n 32 W) s.2 = true ↔ rd h 2 3 = 2 ∧ (rd h 2 7 = -1 ∨ 25 ≤ rd h 2 7)) := by
    intro hz
    unfold isNm
    rw [decide_eq_true_iff, CS_k hs hz, CS_w hs hz, ck_2]
  refine B_Reader_isName_0 hs.1.1 ⟨fun c => k 0 (Or.inl rfl) (fun hz => ?_), fun c => ⟨fun c2 => k 1 (Or.inr rfl) (fun hz => ?_), fun c2 => ⟨fun c3 => k 0 (Or.inl rfl) (fun hz => ?_), fun c3 => k 1 (Or.inr rfl) (fun hz => ?_)⟩⟩⟩
  · rw [nm hz]; omega
  · rw [nm hz]; omega
  · rw [nm hz]; omega
  · rw [nm hz]; omega
end C9
end
section
/-! p3, part a7: the reference's tokens are the tape's -/
theorem hA_value (i : Int) : hav 186 i = (1, -9223372036854775808, 9223372036854775807, 1) := by
  unfold hav
  rw [show RGL[(186 : Int).toNat]? = some [(1, -9223372036854775808, 9223372036854775807, 1)] by decide +kernel]
  simp only [List.length_singleton, Nat.mod_one]
  rfl
theorem hav_C {j : Nat} (h0 : j = 2 ∨ j = 3 ∨ j = 7 ∨ j = 8) : (hav 182 (j : Int)).1 ≠ 2 := by
  rcases h0 with rfl | rfl | rfl | rfl <;> decide +kernel
theorem RF_fc {h h' : LH} (hF : RF h) (hf : ∀ a i, ¬ muC a i → rd h' a i = rd h a i) : RF h' := by
  intro a j c hv he
  by_cases q : muC a j
  · exfalso
    rcases q with ⟨rfl, q⟩ | rfl | rfl | rfl
    · have := hav_C (j := j) (by omega)
      rw [he] at this
      exact absurd rfl this
    · rw [hA_sort] at he
      injection he with h1
      exact absurd h1 (by decide)
    · rw [hA_place] at he
      injection he with h1
      exact absurd h1 (by decide)
    · rw [hA_value] at he
      injection he with h1
      exact absurd h1 (by decide)
  · rw [hf a j q]
    exact hF a j c hv he
/-- the reference holds token j -/
def RTK (T : Int → Int) (n : Int) (g : LH) (j : Nat) : Prop := rd g 184 j = tO T n j ∧ rd g 185 j = tP T n j ∧ (1 ≤ tO T n j → tO T n j ≤ 3 → rd g 186 j = tV T n 37 j)
section CA
variable {xs : Nat → Int} {xl e : Nat} {h : LH} {Q : Option LV → LH → Prop} {v1 v2 v3 : Int} {T : Int → Int} {n : Int}
theorem F_isSignOf (hF : RF h) (k : Q (some (.inl (if isSn v1 = true then 1 else 0))) h) : Rn xs xl e mm_isSignOf 0 [some (.inl v1)] [] h Q := by
  have k1 : isSn v1 = true → Q (some (.inl 1)) h := fun q => by rw [if_pos q] at k; exact k
  have k0 : ¬ isSn v1 = true → Q (some (.inl 0)) h := fun q => by rw [if_neg q] at k; exact k
  exact B_isSignOf_0 hF ⟨fun q => k1 (by rw [q]; rfl), fun q1 => ⟨fun q => k1 (by rw [q]; rfl), fun q2 => ⟨fun q => k1 (by rw [q]; rfl), fun q3 => ⟨fun q => k1 (by rw [q]; rfl), fun q4 => ⟨fun q => k1 (by rw [q]; rfl), fun q5 => ⟨fun q => k1 (by rw [q]; rfl), fun q6 => ⟨fun q => k1 (by rw [q]; rfl), fun q7 => ⟨fun q8 => k0 (by simp [isSn]; omega), fun q => k1 (by rw [q]; rfl)⟩⟩⟩⟩⟩⟩⟩⟩
theorem F_cutAll (he : 2 ≤ e) (hF : RF h) (h2 : rd h 182 2 = n) (n0 : 0 ≤ n) (n1 : n ≤ 1000) (hT : ∀ i, 0 ≤ i → i < n → rd h 183 i = T i)
    (k : ∀ h' (m : Nat), (∀ j : Nat, j ≤ m → RTK T n h' j) → tO T n m = 0 → (∀ j : Nat, j < m → tO T n j ≠ 0) → m ≤ 1000 → rd h' 182 7 = 0 → rd h' 182 8 = 0 → rd h' 182 2 = 0 → (∀ a i, ¬ muC a i → rd h' a i = rd h a i) → Q none h') :
    Rn xs xl e mm_cutAll 0 [some (.inr (.inr 182)), none, none, none, none, none, none] [] h Q := by
  have loop : ∀ (m : Nat) (g : LH) (a : Nat) (b : Int) (o3 o4 o5 o6 : Option LV), n - b ≤ m → rd g 182 3 = n → rd g 182 2 = 0 → (∀ x i, ¬ muC x i → rd g x i = rd h x i) → (a : Int) ≤ b → b ≤ n → tS_ T n a ≤ b → (∀ r, tS_ T n a ≤ r → r < b → r < n ∧ isWs (T r) = true) → (∀ j : Nat, j < a → RTK T n g j ∧ tO T n j ≠ 0) → Rn xs xl e mm_cutAll 17 [some (.inr (.inr 182)), some (.inl (a : Int)), some (.inl b), o3, o4, o5, o6] [] g Q := by
    intro m
    induction m with
    | zero =>
      intro g a b o3 o4 o5 o6 hm g3 g2 gf ab bn sb ws old
      have gF := RF_fc hF gf
      have s0 := tS_in (T := T) n1 n0 a
      have ep : tP T n a = b := fw_eq s0.1 n1 sb ws (fun q => by omega)
      have eo : tO T n a = 0 := tO_0.mpr (by omega)
      refine B_cutAll_17 gF (by omega) ⟨fun c => ⟨by omega, by omega, ?_⟩, fun c => by omega⟩
      rw [g3]
      refine k _ a (fun j hj => ?_) eo (fun j hj => (old j hj).2) (by omega) ((rdw_nei (by decide)).trans rdw_eq) rdw_eq ?_ (fun x i hx => ?_)
      · by_cases ej : j = a
        · subst ej
          refine ⟨?_, ?_, fun q => by omega⟩
          · rw [eo]; exact (rdw_ne (by decide)).trans ((rdw_ne (by decide)).trans ((rdw_ne (by decide)).trans rdw_eq))
          · rw [ep, show b = n by omega]; exact (rdw_ne (by decide)).trans ((rdw_ne (by decide)).trans rdw_eq)
        · obtain ⟨r1, r2, r3⟩ := (old j (by omega)).1
          refine ⟨?_, ?_, fun q1 q2 => ?_⟩
          · rw [← r1]; exact (rdw_ne (by decide)).trans ((rdw_ne (by decide)).trans ((rdw_ne (by decide)).trans (rdw_nei (by omega))))
          · rw [← r2]; exact (rdw_ne (by decide)).trans ((rdw_ne (by decide)).trans ((rdw_nei (by omega)).trans (rdw_ne (by decide))))
          · rw [← r3 q1 q2]; exact (rdw_ne (by decide)).trans ((rdw_ne (by decide)).trans ((rdw_ne (by decide)).trans (rdw_ne (by decide))))
      · exact ((rdw_nei (by decide)).trans ((rdw_nei (by decide)).trans ((rdw_ne (by decide)).trans (rdw_ne (by decide))))).trans g2
      · rw [← gf x i hx, rd_wr, if_neg, rd_wr, if_neg, rd_wr, if_neg, rd_wr, if_neg] <;> (rintro ⟨rfl, rfl⟩; exact hx (by unfold muC; omega))
    | succ m ih =>
      intro g a b o3 o4 o5 o6 hm g3 g2 gf ab bn sb ws old
      have gF := RF_fc hF gf
      have s0 := tS_in (T := T) n1 n0 a
      by_cases hb : n ≤ b
      · have ep : tP T n a = b := fw_eq s0.1 n1 sb ws (fun q => by omega)
        have eo : tO T n a = 0 := tO_0.mpr (by omega)
        refine B_cutAll_17 gF (by omega) ⟨fun c => ⟨by omega, by omega, ?_⟩, fun c => by omega⟩
        rw [g3]
        refine k _ a (fun j hj => ?_) eo (fun j hj => (old j hj).2) (by omega) ((rdw_nei (by decide)).trans rdw_eq) rdw_eq ?_ (fun x i hx => ?_)
        · by_cases ej : j = a
          · subst ej
            refine ⟨?_, ?_, fun q => by omega⟩
            · rw [eo]; exact (rdw_ne (by decide)).trans ((rdw_ne (by decide)).trans ((rdw_ne (by decide)).trans rdw_eq))
            · rw [ep, show b = n by omega]; exact (rdw_ne (by decide)).trans ((rdw_ne (by decide)).trans rdw_eq)
          · obtain ⟨r1, r2, r3⟩ := (old j (by omega)).1
            refine ⟨?_, ?_, fun q1 q2 => ?_⟩
            · rw [← r1]; exact (rdw_ne (by decide)).trans ((rdw_ne (by decide)).trans ((rdw_ne (by decide)).trans (rdw_nei (by omega))))
            · rw [← r2]; exact (rdw_ne (by decide)).trans ((rdw_ne (by decide)).trans ((rdw_nei (by omega)).trans (rdw_ne (by decide))))
            · rw [← r3 q1 q2]; exact (rdw_ne (by decide)).trans ((rdw_ne (by decide)).trans ((rdw_ne (by decide)).trans (rdw_ne (by decide))))
        · exact ((rdw_nei (by decide)).trans ((rdw_nei (by decide)).trans ((rdw_ne (by decide)).trans (rdw_ne (by decide))))).trans g2
        · rw [← gf x i hx, rd_wr, if_neg, rd_wr, if_neg, rd_wr, if_neg, rd_wr, if_neg] <;> (rintro ⟨rfl, rfl⟩; exact hx (by unfold muC; omega))
      have gT : ∀ i, 0 ≤ i → i < n → rd g 183 i = T i := fun i i0 i1 => (gf _ _ (by unfold muC; omega)).trans (hT i i0 i1)
      have gb := gT b (by omega) (by omega)
      have f1 : ∀ x i, ¬ muC x i → rd (wr g 185 a b) x i = rd h x i := by
        intro x i hx
        rw [← gf x i hx, rd_wr, if_neg]
        rintro ⟨rfl, rfl⟩
        exact hx (by unfold muC; omega)
      have hF1 : RF (wr g 185 a b) := RF_fc hF f1
      have z3 : rd (wr g 185 a b) 182 3 = n := (rdw_ne (by decide)).trans g3
      have zt : ∀ i, 0 ≤ i → i < n → rd (wr g 185 a b) 183 i = T i := fun i i0 i1 => (rdw_ne (by decide)).trans (gT i i0 i1)
      -- behind a token
      have t265 : ¬ isWs (T b) = true → ∀ (s b' c v5 : Int), tP T n a = b → s = tO T n a → b' = tS_ T n (a + 1) → (1 ≤ tO T n a → tO T n a ≤ 3 → v5 = tV T n 37 a) → Rn xs xl e mm_cutAll 265 [some (.inr (.inr 182)), some (.inl (a : Int)), some (.inl b'), some (.inl c), some (.inl b), some (.inr (.inl v5)), none] [] (wr (wr g 185 a b) 184 a s) Q := by
        intro hw s b' c v5 ep es eb ev
        have pin := tP_in (T := T) n1 n0 a
        have s1 := tS_in (T := T) n1 n0 (a + 1)
        have f2 : ∀ x i, ¬ muC x i → rd (wr (wr g 185 a b) 184 a s) x i = rd h x i := by
          intro x i hx
          rw [← f1 x i hx, rd_wr, if_neg]
          rintro ⟨rfl, rfl⟩
          exact hx (by unfold muC; omega)
        refine B_cutAll_265 (RF_fc hF f2) ⟨by omega, by omega, ?_⟩
        rw [show (a : Int) + 1 = ((a + 1 : Nat) : Int) by omega]
        refine ih _ (a + 1) b' _ _ _ _ (by omega) ?_ ?_ (fun x i hx => ?_) (by omega) (by omega) (by omega) (fun r r0 r1 => by omega) (fun j hj => ?_)
        · exact ((rdw_ne (by decide)).trans ((rdw_ne (by decide)).trans (rdw_ne (by decide)))).trans g3
        · exact ((rdw_ne (by decide)).trans ((rdw_ne (by decide)).trans (rdw_ne (by decide)))).trans g2
        · rw [← f2 x i hx, rd_wr, if_neg]
          rintro ⟨rfl, rfl⟩
          exact hx (by unfold muC; omega)
        · by_cases ej : j = a
          · subst ej
            refine ⟨⟨?_, ?_, fun q1 q2 => ?_⟩, fun q => ?_⟩
            · rw [← es]; exact (rdw_ne (by decide)).trans rdw_eq
            · rw [ep]; exact (rdw_ne (by decide)).trans ((rdw_ne (by decide)).trans rdw_eq)
            · rw [rdw_eq]; exact ev q1 q2
            · have := tO_0.mp q
              omega
          · obtain ⟨⟨r1, r2, r3⟩, r4⟩ := old j (by omega)
            refine ⟨⟨?_, ?_, fun q1 q2 => ?_⟩, r4⟩
            · rw [← r1]; exact (rdw_ne (by decide)).trans ((rdw_nei (by omega)).trans (rdw_ne (by decide)))
            · rw [← r2]; exact (rdw_ne (by decide)).trans ((rdw_ne (by decide)).trans (rdw_nei (by omega)))
            · rw [← r3 q1 q2]; exact (rdw_nei (by omega)).trans ((rdw_ne (by decide)).trans (rdw_ne (by decide)))
      have epw : ¬ isWs (T b) = true → tP T n a = b := fun hw => fw_eq s0.1 n1 sb ws (fun q => hw q.2)
      -- letters
      have t70 : ¬ isWs (T b) = true → isLt (T b) = true → ∀ (m' : Nat) (b' c v5 : Int), n - b' ≤ m' → b ≤ b' → b' ≤ n → (∀ r, b ≤ r → r < b' → r < n ∧ isLt (T r) = true) → (b' - b ≤ 8 → v5 = enc T 37 b (b' - b).toNat) → Rn xs xl e mm_cutAll 70 [some (.inr (.inr 182)), some (.inl (a : Int)), some (.inl b'), some (.inl c), some (.inl b), some (.inr (.inl v5)), none] [] (wr g 185 a b) Q := by
        intro hw hl m'
        have ep := epw hw
        have kw := tk_w (T := T) (n := n) (k := a) (by omega) (by rw [ep]; exact hl)
        rw [ep] at kw
        have ex : ∀ (b' c v5 : Int), b ≤ b' → b' ≤ n → fw T n isLt b = b' → (b' - b ≤ 8 → v5 = enc T 37 b (b' - b).toNat) → Rn xs xl e mm_cutAll 129 [some (.inr (.inr 182)), some (.inl (a : Int)), some (.inl b'), some (.inl c), some (.inl b), some (.inr (.inl v5)), none] [] (wr g 185 a b) Q := by
          intro b' c v5 b0 b1 ef ev
          rw [ef] at kw
          refine B_cutAll_129 hF1 ⟨by omega, fun c1 => ⟨by omega, t265 hw 1 b' c v5 ep ?_ kw.1.symm (fun q1 q2 => ?_)⟩, fun c1 => ⟨by omega, t265 hw 4 b' c v5 ep ?_ kw.1.symm (fun q1 q2 => ?_)⟩⟩
          · rw [kw.2, if_neg (by omega)]
          · unfold tV tN
            rw [if_pos (by rw [kw.2, if_neg (by omega)]), ep, kw.1]
            exact ev (by omega)
          · rw [kw.2, if_pos (by omega)]
          · rw [kw.2, if_pos (by omega)] at q2
            omega
        induction m' with
        | zero =>
          intro b' c v5 hm' b0 b1 hd ev
          exact B_cutAll_70 hF1 he ⟨fun _ => ex b' c v5 b0 b1 (fw_eq (by omega) n1 b0 hd (fun q => by omega)) ev, fun q => by omega⟩
        | succ m' im =>
          intro b' c v5 hm' b0 b1 hd ev
          by_cases hq : b' < n ∧ isLt (T b') = true
          · have tc := zt b' (by omega) hq.1
            have dl := isLt_iff.mp hq.2
            have hd' : ∀ r, b ≤ r → r < b' + 1 → r < n ∧ isLt (T r) = true := by
              intro r r0 r1
              by_cases er : r = b'
              · rw [er]; exact hq
              · exact hd r r0 (by omega)
            refine B_cutAll_70 hF1 he ⟨fun q => by omega, fun _ => ⟨by omega, fun q => by omega, fun _ => ⟨fun q => by omega, fun _ => ⟨by omega, fun q8 => ?_, fun q8 => ⟨by omega, fun q => by omega, fun _ => ⟨fun q => by omega, fun _ => ⟨by omega, ?_⟩⟩⟩⟩⟩⟩⟩
            · exact B_cutAll_123 hF1 ⟨by omega, im (b' + 1) c v5 (by omega) (by omega) (by omega) hd' (fun q => by omega)⟩
            · refine B_cutAll_123 hF1 ⟨by omega, im (b' + 1) c _ (by omega) (by omega) (by omega) hd' (fun q => ?_)⟩
              rw [ev (by omega), tc, show (b' + 1 - b).toNat = (b' - b).toNat + 1 by omega]
              have bd := enc_bd (T := T) (p := b) (b' - b).toNat (by omega) (fun r r0 r1 => isLt_iff.mp (hd r r0 (by omega)).2)
              have pw := pow_le8 (b := 37) (m := (b' - b).toNat) (k := 7) (by decide) (by omega)
              show _ = 37 * enc T 37 b (b' - b).toNat + (T (b + ((b' - b).toNat : Nat)) - 96)
              rw [show b + (((b' - b).toNat : Nat) : Int) = b' by omega]
              have bb1 := bd.2.2.1
              have bb2 := bd.2.2.2
              clear bd
              generalize enc T 37 b (b' - b).toNat = y at bb1 bb2
              have pw2 : (37 : Int) ^ 7 = 94931877133 := by decide
              unfold w64
              omega
          · have x := ex b' c v5 b0 b1 (fw_eq (by omega) n1 b0 hd hq) ev
            refine B_cutAll_70 hF1 he ⟨fun _ => x, fun q => ⟨by omega, fun _ => x, fun q1 => ⟨fun _ => x, fun q2 => ?_⟩⟩⟩
            have tc := zt b' (by omega) (by omega)
            exact absurd ⟨by omega, isLt_iff.mpr (by omega)⟩ hq
      -- digits
      have t159 : ¬ isWs (T b) = true → ¬ isLt (T b) = true → isDg (T b) = true → ∀ (m' : Nat) (b' c v5 : Int), n - b' ≤ m' → b ≤ b' → b' ≤ n → (∀ r, b ≤ r → r < b' → r < n ∧ isDg (T r) = true) → (b' - b ≤ 4 → v5 = num T b (b' - b).toNat) → Rn xs xl e mm_cutAll 159 [some (.inr (.inr 182)), some (.inl (a : Int)), some (.inl b'), some (.inl c), some (.inl b), some (.inr (.inl v5)), none] [] (wr g 185 a b) Q := by
        intro hw hnl hl m'
        have ep := epw hw
        have kw := tk_n (T := T) (n := n) (k := a) (by omega) (by rw [ep]; exact hnl) (by rw [ep]; exact hl)
        rw [ep] at kw
        have ex : ∀ (b' c v5 : Int), b ≤ b' → b' ≤ n → fw T n isDg b = b' → (b' - b ≤ 4 → v5 = num T b (b' - b).toNat) → Rn xs xl e mm_cutAll 218 [some (.inr (.inr 182)), some (.inl (a : Int)), some (.inl b'), some (.inl c), some (.inl b), some (.inr (.inl v5)), none] [] (wr g 185 a b) Q := by
          intro b' c v5 b0 b1 ef ev
          rw [ef] at kw
          refine B_cutAll_218 hF1 ⟨by omega, fun c1 => ⟨by omega, t265 hw 2 b' c v5 ep ?_ kw.1.symm (fun q1 q2 => ?_)⟩, fun c1 => ⟨by omega, t265 hw 4 b' c v5 ep ?_ kw.1.symm (fun q1 q2 => ?_)⟩⟩
          · rw [kw.2, if_neg (by omega)]
          · have e2 : tO T n a = 2 := by rw [kw.2, if_neg (by omega)]
            unfold tV tN
            rw [if_neg (by omega), if_pos e2, ep, kw.1]
            exact ev (by omega)
          · rw [kw.2, if_pos (by omega)]
          · rw [kw.2, if_pos (by omega)] at q2
            omega
        induction m' with
        | zero =>
          intro b' c v5 hm' b0 b1 hd ev
          exact B_cutAll_159 hF1 (by omega) ⟨fun _ => ex b' c v5 b0 b1 (fw_eq (by omega) n1 b0 hd (fun q => by omega)) ev, fun q => by omega⟩
        | succ m' im =>
          intro b' c v5 hm' b0 b1 hd ev
          by_cases hq : b' < n ∧ isDg (T b') = true
          · have tc := zt b' (by omega) hq.1
            have dl := isDg_iff.mp hq.2
            have hd' : ∀ r, b ≤ r → r < b' + 1 → r < n ∧ isDg (T r) = true := by
              intro r r0 r1
              by_cases er : r = b'
              · rw [er]; exact hq
              · exact hd r r0 (by omega)
            refine B_cutAll_159 hF1 (by omega) ⟨fun q => by omega, fun _ => ⟨by omega, fun q => by omega, fun _ => ⟨fun q => by omega, fun _ => ⟨by omega, fun q8 => ?_, fun q8 => ⟨by omega, ?_⟩⟩⟩⟩⟩
            · exact B_cutAll_212 hF1 ⟨by omega, im (b' + 1) c v5 (by omega) (by omega) (by omega) hd' (fun q => by omega)⟩
            · refine B_cutAll_212 hF1 ⟨by omega, im (b' + 1) c _ (by omega) (by omega) (by omega) hd' (fun q => ?_)⟩
              rw [ev (by omega), tc, show (b' + 1 - b).toNat = (b' - b).toNat + 1 by omega]
              have bd := num_bd (T := T) (p := b) (b' - b).toNat (fun r r0 r1 => isDg_iff.mp (hd r r0 (by omega)).2)
              have pw := pow_le8 (b := 10) (m := (b' - b).toNat) (k := 4) (by decide) (by omega)
              show _ = 10 * num T b (b' - b).toNat + T (b + ((b' - b).toNat : Nat)) - 48
              rw [show b + (((b' - b).toNat : Nat) : Int) = b' by omega]
              generalize num T b (b' - b).toNat = y at bd
              have pw2 : (10 : Int) ^ 4 = 10000 := by decide
              unfold w64
              omega
          · have x := ex b' c v5 b0 b1 (fw_eq (by omega) n1 b0 hd hq) ev
            refine B_cutAll_159 hF1 (by omega) ⟨fun _ => x, fun q => ⟨by omega, fun _ => x, fun q1 => ⟨fun _ => x, fun q2 => ?_⟩⟩⟩
            have tc := zt b' (by omega) (by omega)
            exact absurd ⟨by omega, isDg_iff.mpr (by omega)⟩ hq
      -- signs
      have k240 : ¬ isWs (T b) = true → ¬ isLt (T b) = true → ¬ isDg (T b) = true → Rn xs xl e mm_cutAll 240 [some (.inr (.inr 182)), some (.inl (a : Int)), some (.inl b), some (.inl (rd g 183 b)), some (.inl b), some (.inr (.inl 0)), none] [] (wr g 185 a b) Q := by
        intro hw hl hd
        have ep := epw hw
        have kw := tk_s (T := T) (n := n) (k := a) (by omega) (by rw [ep]; exact hl) (by rw [ep]; exact hd)
        rw [ep] at kw
        rw [gb]
        refine B_cutAll_240 hF1 ⟨0, by omega, F_isSignOf hF1 ?_⟩
        have tv : 1 ≤ tO T n a → tO T n a ≤ 3 → T b = tV T n 37 a := by
          intro q1 q2
          have n1' : ¬ tO T n a = 1 := by rw [kw.2]; split <;> omega
          have n2' : ¬ tO T n a = 2 := by rw [kw.2]; split <;> omega
          unfold tV
          rw [if_neg n1', if_neg n2', ep]
        by_cases sn : isSn (T b) = true
        · rw [if_pos sn] at kw ⊢
          exact B_cutAll_253 hF1 ⟨fun q => absurd q (by decide), fun _ => ⟨by omega, by omega, t265 hw 3 (b + 1) _ _ ep kw.2.symm kw.1.symm tv⟩⟩
        · rw [if_neg sn] at kw ⊢
          exact B_cutAll_253 hF1 ⟨fun _ => ⟨by omega, by omega, t265 hw 4 (b + 1) _ _ ep kw.2.symm kw.1.symm tv⟩, fun q => absurd rfl q⟩
      have bl : isWs (T b) = true → ∀ x, Rn xs xl e mm_cutAll 17 [some (.inr (.inr 182)), some (.inl (a : Int)), some (.inl (b + 1)), x, o4, o5, o6] [] g Q := by
        intro hw x
        refine ih g a (b + 1) _ _ _ _ (by omega) g3 g2 gf (by omega) (by omega) (by omega) (fun r r0 r1 => ?_) old
        by_cases er : r = b
        · rw [er]; exact ⟨by omega, hw⟩
        · exact ws r r0 (by omega)
      have nws : rd g 183 b ≠ 10 → rd g 183 b ≠ 32 → ¬ isWs (T b) = true := by
        intro q1 q2 q
        have := isWs_iff.mp q
        omega
      have st0 : (0 : Int) = enc T 37 b (b - b).toNat := by rw [show (b - b).toNat = 0 by omega]; rfl
      have st1 : (0 : Int) = num T b (b - b).toNat := by rw [show (b - b).toNat = 0 by omega]; rfl
      have K240 : ∀ (q1 : rd g 183 b ≠ 10) (q2 : rd g 183 b ≠ 32), ¬ (97 ≤ rd g 183 b ∧ rd g 183 b ≤ 122) → ¬ (48 ≤ rd g 183 b ∧ rd g 183 b ≤ 57) → Rn xs xl e mm_cutAll 240 [some (.inr (.inr 182)), some (.inl (a : Int)), some (.inl b), some (.inl (rd g 183 b)), some (.inl b), some (.inr (.inl 0)), none] [] (wr g 185 a b) Q := fun q1 q2 q3 q4 => k240 (nws q1 q2) (fun q => q3 (by have := isLt_iff.mp q; omega)) (fun q => q4 (by have := isDg_iff.mp q; omega))
      have K159 : ∀ (q1 : rd g 183 b ≠ 10) (q2 : rd g 183 b ≠ 32), 48 ≤ rd g 183 b → rd g 183 b ≤ 57 → Rn xs xl e mm_cutAll 159 [some (.inr (.inr 182)), some (.inl (a : Int)), some (.inl b), some (.inl (rd g 183 b)), some (.inl b), some (.inr (.inl 0)), none] [] (wr g 185 a b) Q := fun q1 q2 q3 q4 => t159 (nws q1 q2) (fun q => by have := isLt_iff.mp q; omega) (isDg_iff.mpr (by omega)) (n - b).toNat b _ 0 (by omega) (by omega) (by omega) (fun r r0 r1 => by omega) (fun _ => st1)
      have K70 : ∀ (q1 : rd g 183 b ≠ 10) (q2 : rd g 183 b ≠ 32), 97 ≤ rd g 183 b → rd g 183 b ≤ 122 → Rn xs xl e mm_cutAll 70 [some (.inr (.inr 182)), some (.inl (a : Int)), some (.inl b), some (.inl (rd g 183 b)), some (.inl b), some (.inr (.inl 0)), none] [] (wr g 185 a b) Q := fun q1 q2 q3 q4 => t70 (nws q1 q2) (isLt_iff.mpr (by omega)) (n - b).toNat b _ 0 (by omega) (by omega) (by omega) (fun r r0 r1 => by omega) (fun _ => st0)
      exact B_cutAll_17 gF (by omega) ⟨fun c => by omega, fun _ => ⟨by omega, fun c => ⟨by omega, bl (isWs_iff.mpr (by omega)) _⟩, fun d1 => ⟨fun d2 => ⟨by omega, fun c1 => ⟨fun c2 => K240 d1 d2 (by omega) (by omega), fun c2 => ⟨fun c3 => K240 d1 d2 (by omega) (by omega), fun c3 => K159 d1 d2 c2 c3⟩⟩, fun c1 => ⟨fun c2 => ⟨fun c3 => K240 d1 d2 (by omega) (by omega), fun c3 => ⟨fun c4 => K240 d1 d2 (by omega) (by omega), fun c4 => K159 d1 d2 c3 c4⟩⟩, fun c2 => K70 d1 d2 c1 c2⟩⟩, fun d2 => ⟨by omega, bl (isWs_iff.mpr (by omega)) _⟩⟩⟩⟩
  have e3 : rd (wr (wr h 182 3 (rd h 182 2)) 182 2 0) 182 3 = n := (rdw_nei (by decide)).trans (rdw_eq.trans h2)
  refine B_cutAll_0 hF (loop n.toNat _ 0 0 none none none none (by omega) e3 rdw_eq (fun x i hx => ?_) (by omega) (by omega) (Int.le_refl _) (fun r r0 r1 => ?_) (fun j hj => by omega))
  · rw [rd_wr, if_neg, rd_wr, if_neg] <;> (rintro ⟨rfl, rfl⟩; exact hx (by unfold muC; omega))
  · have : tS_ T n 0 = 0 := rfl
    omega
end CA
end
section
/-! p3, part a8: the reference's takes -/
def Vinj (V : Int → Int) : Prop := ∀ i j : Nat, i < 29 → j < 29 → V i = V j → i = j
theorem wl_get {V : Int → Int} {v : Int} : ∀ m : Nat, 0 ≤ wl V v m → ∃ j : Nat, j < m ∧ wl V v m = j ∧ V j = v
  | 0, h => by unfold wl at h; omega
  | m + 1, h => by
    unfold wl at h ⊢
    by_cases c : V m = v
    · rw [if_pos c]; exact ⟨m, by omega, rfl, c⟩
    · rw [if_neg c] at h ⊢
      obtain ⟨j, j1, j2, j3⟩ := wl_get m h
      exact ⟨j, by omega, j2, j3⟩
theorem wl_ge {V : Int → Int} {v : Int} {j : Nat} (hj : V j = v) : ∀ m : Nat, j < m → (j : Int) ≤ wl V v m
  | 0, h => by omega
  | m + 1, h => by
    unfold wl
    by_cases c : V m = v
    · rw [if_pos c]; omega
    · rw [if_neg c]
      have : j ≠ m := fun q => c (by rw [← q]; exact hj)
      exact wl_ge hj m (by omega)
theorem wl_iff {V : Int → Int} {v : Int} (hi : Vinj V) {j : Nat} (hj : j < 29) : wl V v 29 = j ↔ V j = v := by
  constructor
  · intro q
    obtain ⟨i, i1, i2, i3⟩ := wl_get 29 (show 0 ≤ wl V v 29 by omega)
    rw [show j = i by omega]; exact i3
  · intro q
    have g := wl_ge q 29 hj
    obtain ⟨i, i1, i2, i3⟩ := wl_get 29 (show 0 ≤ wl V v 29 by omega)
    have := hi i j i1 hj (i3.trans q.symm)
    omega
def muTK (a i : Int) : Prop := a = 182 ∧ (i = 7 ∨ i = 8)
def frT (h h' : LH) : Prop := ∀ a i, ¬ muTK a i → rd h' a i = rd h a i
theorem frT.refl {h : LH} : frT h h := fun _ _ _ => rfl
theorem frT.trans {h h1 h2 : LH} (a : frT h h1) (b : frT h1 h2) : frT h h2 := fun x i hn => (b x i hn).trans (a x i hn)
/-- what the reference has cut: tokens 0 .. m, its words -/
def RXK (T : Int → Int) (n : Int) (V : Int → Int) (m : Nat) (h : LH) : Prop := RF h ∧ (∀ j : Nat, j ≤ m → RTK T n h j) ∧ tO T n m = 0 ∧ (∀ j : Nat, j < m → tO T n j ≠ 0) ∧ m ≤ 1000 ∧ 0 ≤ n ∧ n ≤ 1000 ∧ rd h 187 = V ∧ Vinj V
theorem RXK_fr {T : Int → Int} {n : Int} {V : Int → Int} {m : Nat} {h h' : LH} (hx : RXK T n V m h) (hF : RF h') (hf : ∀ a i, (a = 184 ∨ a = 185 ∨ a = 186 ∨ a = 187) → rd h' a i = rd h a i) : RXK T n V m h' := by
  obtain ⟨h1, h2, h3, h4, h5, h6, h7, h8, h9⟩ := hx
  refine ⟨hF, fun j hj => ?_, h3, h4, h5, h6, h7, ?_, h9⟩
  · obtain ⟨r1, r2, r3⟩ := h2 j hj
    exact ⟨(hf _ _ (by omega)).trans r1, (hf _ _ (by omega)).trans r2, fun q1 q2 => (hf _ _ (by omega)).trans (r3 q1 q2)⟩
  · rw [← h8]; funext i; exact hf _ _ (by omega)
/-- the reference's reader is in state s -/
def RSK (T : Int → Int) (n : Int) (V : Int → Int) (m : Nat) (h : LH) (s : Int × Nat) : Prop := RXK T n V m h ∧ rd h 182 8 = s.1 ∧ 0 ≤ s.1 ∧ (0 ≤ rd h 182 7 ∧ rd h 182 7 ≤ 1000) ∧ (s.1 = 0 → rd h 182 7 = s.2 ∧ s.2 ≤ m)
section CB
variable {xs : Nat → Int} {xl e : Nat} {h : LH} {Q : Option LV → LH → Prop} {v1 v2 v3 : Int} {T : Int → Int} {n : Int} {V : Int → Int} {m : Nat} {s : Int × Nat}
theorem frT_C {h' : LH} (hf : frT h h') : ∀ a i, ¬ muC a i → rd h' a i = rd h a i := fun a i hn => hf a i (fun q => hn (by unfold muTK at q; unfold muC; omega))
theorem RXK_T {h' : LH} (hx : RXK T n V m h) (hf : frT h h') : RXK T n V m h' := RXK_fr hx (RF_fc hx.1 (frT_C hf)) (fun a i ha => hf a i (by unfold muTK; omega))
theorem fr7 {v : Int} : frT h (wr h 182 7 v) := fun a i hn => by unfold muTK at hn; rw [rd_wr, if_neg (fun q => hn (by omega))]
theorem fr8 {v : Int} : frT h (wr h 182 8 v) := fun a i hn => by unfold muTK at hn; rw [rd_wr, if_neg (fun q => hn (by omega))]
theorem RS_o (hs : RSK T n V m h s) (h0 : s.1 = 0) : rd h 184 (rd h 182 7) = tO T n s.2 := by
  obtain ⟨a, b⟩ := hs.2.2.2.2 h0
  rw [a]; exact (hs.1.2.1 s.2 b).1
theorem RS_p (hs : RSK T n V m h s) (h0 : s.1 = 0) : rd h 185 (rd h 182 7) = tP T n s.2 := by
  obtain ⟨a, b⟩ := hs.2.2.2.2 h0
  rw [a]; exact (hs.1.2.1 s.2 b).2.1
theorem RS_v (hs : RSK T n V m h s) (h0 : s.1 = 0) (h1 : 1 ≤ tO T n s.2) (h3 : tO T n s.2 ≤ 3) : rd h 186 (rd h 182 7) = tV T n 37 s.2 := by
  obtain ⟨a, b⟩ := hs.2.2.2.2 h0
  rw [a]; exact (hs.1.2.1 s.2 b).2.2 h1 h3
theorem RS_lt (hs : RSK T n V m h s) (h0 : s.1 = 0) (ho : tO T n s.2 ≠ 0) : s.2 < m := by
  obtain ⟨a, b⟩ := hs.2.2.2.2 h0
  rcases Nat.lt_or_ge s.2 m with q | q
  · exact q
  · exact absurd (by rw [show s.2 = m by omega]; exact hs.1.2.2.1) ho
/-- one on -/
theorem RS_adv (hs : RSK T n V m h s) (h0 : s.1 = 0) (ho : tO T n s.2 ≠ 0) : RSK T n V m (wr h 182 7 (rd h 182 7 + 1)) (tkA s) := by
  obtain ⟨a, b⟩ := hs.2.2.2.2 h0
  have lt := RS_lt hs h0 ho
  have m1 := hs.1.2.2.2.2.1
  rw [tkA_0 h0]
  refine ⟨RXK_T hs.1 fr7, (rdw_nei (by decide)).trans (hs.2.1.trans h0), by show (0 : Int) ≤ 0; decide, ?_, fun _ => ⟨?_, ?_⟩⟩
  · rw [rdw_eq]; omega
  · rw [rdw_eq, a]; show (s.2 : Int) + 1 = ((s.2 + 1 : Nat) : Int); omega
  · show s.2 + 1 ≤ m; omega
theorem RS_same (hs : RSK T n V m h s) : RSK T n V m (wr h 182 7 (rd h 182 7)) s := by
  have e7 : rd (wr h 182 7 (rd h 182 7)) 182 7 = rd h 182 7 := rdw_eq
  refine ⟨RXK_T hs.1 fr7, (rdw_nei (by decide)).trans hs.2.1, hs.2.2.1, by rw [e7]; exact hs.2.2.2.1, by rw [e7]; exact hs.2.2.2.2⟩
theorem G_wrong (hs : RSK T n V m h s) (hw : 1 ≤ v1 ∧ v1 ≤ 5) (k : ∀ h', RSK T n V m h' (tkE (tP T n) v1 s) → frT h h' → Q none h') : Rn xs xl e mm_wrong 0 [some (.inr (.inr 182)), some (.inl v1)] [] h Q := by
  have hF := hs.1.1
  have a7 := hs.2.2.2.1
  by_cases hz : s.1 = 0
  · have ep := RS_p hs hz
    have pin := tP_in (T := T) hs.1.2.2.2.2.2.2.1 hs.1.2.2.2.2.2.1 s.2
    have s0 := tS_in (T := T) hs.1.2.2.2.2.2.2.1 hs.1.2.2.2.2.2.1 s.2
    have n1 := hs.1.2.2.2.2.2.2.1
    refine B_wrong_0 hF ⟨fun c => absurd (hs.2.1.trans hz) c, fun _ => ⟨by omega, by omega, by omega, k _ ?_ fr8⟩⟩
    rw [tkE_0 hz, ep]
    refine ⟨RXK_T hs.1 fr8, rdw_eq, ?_, by rw [rdw_nei (by decide)]; exact a7, fun q => ?_⟩
    · show (0 : Int) ≤ v1 + 16 * tP T n s.2; omega
    · have : v1 + 16 * tP T n s.2 = 0 := q
      omega
  · exact B_wrong_0 hF ⟨fun _ => k h (by rw [tkE_f hz]; exact hs) frT.refl, fun c => absurd (hs.2.1.symm.trans c) hz⟩
theorem tkE_ne' (hs : RSK T n V m h s) (hc : 1 ≤ v1) : (tkE (tP T n) v1 s).1 ≠ 0 := by
  by_cases hz : s.1 = 0
  · rw [tkE_0 hz]
    have pin := tP_in (T := T) hs.1.2.2.2.2.2.2.1 hs.1.2.2.2.2.2.1 s.2
    have s0 := tS_in (T := T) hs.1.2.2.2.2.2.2.1 hs.1.2.2.2.2.2.1 s.2
    show v1 + 16 * tP T n s.2 ≠ 0
    omega
  · rw [tkE_f hz]; exact hz
theorem G_isSign (hs : RSK T n V m h s) (k1 : s.1 = 0 → tO T n s.2 = 3 → tV T n 37 s.2 = v1 → Q (some (.inl 1)) h) (k0 : (s.1 = 0 → ¬ (tO T n s.2 = 3 ∧ tV T n 37 s.2 = v1)) → Q (some (.inl 0)) h) : Rn xs xl e mm_isSign 0 [some (.inr (.inr 182)), some (.inl v1)] [] h Q := by
  have a7 := hs.2.2.2.1
  refine B_isSign_0 hs.1.1 ⟨fun c => k0 (fun hz => absurd (hs.2.1.trans hz) c), fun c => ?_⟩
  have hz : s.1 = 0 := hs.2.1.symm.trans c
  have eo := RS_o hs hz
  refine ⟨by omega, fun c2 => k0 (fun _ q => c2 (eo.trans q.1)), fun c2 => ?_⟩
  have o3 : tO T n s.2 = 3 := eo.symm.trans c2
  have ev := RS_v hs hz (by omega) (by omega)
  exact ⟨by omega, fun c3 => k0 (fun _ q => c3 (lcmp0.mpr (ev.trans q.2))), fun c3 => k1 hz o3 (ev.symm.trans (lcmp0.mp c3))⟩
theorem tW_iff {j : Nat} (hi : Vinj V) (hj : j < 29) {k : Nat} : tW T n 37 V k = j ↔ tO T n k = 1 ∧ V j = tV T n 37 k := by
  unfold tW
  split
  · next c => rw [wl_iff hi hj]; exact ⟨fun q => ⟨c, q⟩, fun q => q.2⟩
  · next c => exact ⟨fun q => by omega, fun q => absurd q.1 c⟩
theorem G_isWord (hs : RSK T n V m h s) (hw : 0 ≤ v1 ∧ v1 < 29) (k1 : s.1 = 0 → tW T n 37 V s.2 = v1 → Q (some (.inl 1)) h) (k0 : (s.1 = 0 → ¬ tW T n 37 V s.2 = v1) → Q (some (.inl 0)) h) : Rn xs xl e mm_isWord 0 [some (.inr (.inr 182)), some (.inl v1)] [] h Q := by
  have a7 := hs.2.2.2.1
  have iff := tW_iff (T := T) (n := n) (V := V) (j := v1.toNat) hs.1.2.2.2.2.2.2.2.2 (by omega) (k := s.2)
  rw [show ((v1.toNat : Nat) : Int) = v1 by omega] at iff
  have e8 : rd h 187 v1 = V v1 := by rw [hs.1.2.2.2.2.2.2.2.1]
  refine B_isWord_0 hs.1.1 ⟨fun c => k0 (fun hz => absurd (hs.2.1.trans hz) c), fun c => ?_⟩
  have hz : s.1 = 0 := hs.2.1.symm.trans c
  have eo := RS_o hs hz
  refine ⟨by omega, fun c2 => k0 (fun _ q => c2 (eo.trans (iff.mp q).1)), fun c2 => ?_⟩
  have o3 : tO T n s.2 = 1 := eo.symm.trans c2
  have ev := RS_v hs hz (by omega) (by omega)
  refine ⟨by omega, hw, fun c3 => k0 (fun _ q => c3 (lcmp0.mpr ?_)), fun c3 => k1 hz (iff.mpr ⟨o3, ?_⟩)⟩
  · rw [ev, e8]; exact (iff.mp q).2.symm
  · rw [← e8, ← ev]; exact (lcmp0.mp c3).symm
theorem G_takeSign (he : 1 ≤ e) (hs : RSK T n V m h s) (k : ∀ h', RSK T n V m h' (tkS (tO T n) (tV T n 37) (tP T n) v1 s) → frT h h' → Q none h') : Rn xs xl e mm_takeSign 0 [some (.inr (.inr 182)), some (.inl v1)] [] h Q := by
  have a7 := hs.2.2.2.1
  refine B_takeSign_0 hs.1.1 ⟨0, by omega, G_isSign hs (fun hz o3 ev => ?_) (fun q => ?_)⟩
  · refine B_takeSign_5_1 hs.1.1 ⟨by omega, k _ ?_ fr7⟩
    unfold tkS
    rw [if_pos ⟨o3, ev⟩]
    exact RS_adv hs hz (by omega)
  · refine B_takeSign_5_0 hs.1.1 ⟨0, by omega, G_wrong hs (by omega) (fun h' c1 c2 => B_takeSign_26 c1.1.1 (k h' ?_ c2))⟩
    by_cases hz : s.1 = 0
    · unfold tkS; rw [if_neg (q hz)]; exact c1
    · rw [tkS_f hz]; rw [tkE_f hz] at c1; exact c1
theorem G_hasSign (he : 1 ≤ e) (hs : RSK T n V m h s) (k1 : ∀ h', s.1 = 0 → tO T n s.2 = 3 → tV T n 37 s.2 = v1 → RSK T n V m h' (tkA s) → frT h h' → Q (some (.inl 1)) h') (k0 : ∀ h', (s.1 = 0 → ¬ (tO T n s.2 = 3 ∧ tV T n 37 s.2 = v1)) → RSK T n V m h' s → frT h h' → Q (some (.inl 0)) h') : Rn xs xl e mm_hasSign 0 [some (.inr (.inr 182)), some (.inl v1), none] [] h Q := by
  have a7 := hs.2.2.2.1
  refine B_hasSign_0 hs.1.1 ⟨0, by omega, G_isSign hs (fun hz o3 ev => ?_) (fun q => ?_)⟩
  · exact B_hasSign_5_1 hs.1.1 ⟨by omega, k1 _ hz o3 ev (RS_adv hs hz (by omega)) fr7⟩
  · exact B_hasSign_5_0 hs.1.1 ⟨by omega, k0 _ q (RS_same hs) fr7⟩
theorem G_hasWord (he : 1 ≤ e) (hs : RSK T n V m h s) (hw : 0 ≤ v1 ∧ v1 < 29) (k : ∀ h', RSK T n V m h' (if tkB (tW T n 37 V) v1 s = true then tkA s else s) → frT h h' → Q (some (.inl (if tkB (tW T n 37 V) v1 s = true then 1 else 0))) h') : Rn xs xl e mm_hasWord 0 [some (.inr (.inr 182)), some (.inl v1), none] [] h Q := by
  have a7 := hs.2.2.2.1
  refine B_hasWord_0 hs.1.1 ⟨0, by omega, G_isWord hs hw (fun hz q => ?_) (fun q => ?_)⟩
  · have b : tkB (tW T n 37 V) v1 s = true := by unfold tkB; rw [decide_eq_true_iff]; exact ⟨hz, q⟩
    rw [if_pos b, if_pos b] at k
    exact B_hasWord_5_1 hs.1.1 ⟨by omega, k _ (RS_adv hs hz (by rw [tW_o (W := V) (b := 37) (by omega)]; decide)) fr7⟩
  · have b : ¬ tkB (tW T n 37 V) v1 s = true := by unfold tkB; rw [decide_eq_true_iff]; exact fun z => q z.1 z.2
    rw [if_neg b, if_neg b] at k
    exact B_hasWord_5_0 hs.1.1 ⟨by omega, k _ (RS_same hs) fr7⟩
theorem G_takeWord (he : 2 ≤ e) (hs : RSK T n V m h s) (hw : 0 ≤ v1 ∧ v1 < 29) (k : ∀ h', RSK T n V m h' (tkW (tW T n 37 V) (tP T n) v1 s) → frT h h' → Q none h') : Rn xs xl e mm_takeWord 0 [some (.inr (.inr 182)), some (.inl v1)] [] h Q := by
  refine B_takeWord_0 hs.1.1 ⟨1, by omega, G_hasWord (by omega) hs hw (fun h1 c1 f1 => ?_)⟩
  by_cases b : tkB (tW T n 37 V) v1 s = true
  · rw [if_pos b] at c1 ⊢
    have b' := b
    unfold tkB at b'
    rw [decide_eq_true_iff] at b'
    refine B_takeWord_5_1 c1.1.1 (k h1 ?_ f1)
    unfold tkW
    rw [if_pos b'.2]; exact c1
  · rw [if_neg b] at c1 ⊢
    have b' := b
    unfold tkB at b'
    rw [decide_eq_true_iff] at b'
    refine B_takeWord_5_0 c1.1.1 ⟨0, by omega, G_wrong c1 (by omega) (fun h' c2 f2 => B_takeWord_13 c2.1.1 (k h' ?_ (f1.trans f2)))⟩
    by_cases hz : s.1 = 0
    · unfold tkW; rw [if_neg (fun q => b' ⟨hz, q⟩)]; exact c2
    · rw [tkW_f hz]; rw [tkE_f hz] at c2; exact c2
/-- which of the words from a on, b of them -/
def whr (w : Nat → Int) (s : Int × Nat) (a b : Int) : Int := if s.1 = 0 ∧ a ≤ w s.2 ∧ w s.2 < a + b then w s.2 - a else -1
theorem G_wordHere (he : 1 ≤ e) (hs : RSK T n V m h s) (hw : 0 ≤ v1 ∧ 0 ≤ v2 ∧ v1 + v2 ≤ 29) (k : Q (some (.inl (whr (tW T n 37 V) s v1 v2))) h) : Rn xs xl e mm_wordHere 0 [some (.inr (.inr 182)), some (.inl v1), some (.inl v2), none, none] [] h Q := by
  have hF := hs.1.1
  have loop : ∀ (d : Nat) (b : Int), v2 - b ≤ d → 0 ≤ b → b ≤ v2 → Rn xs xl e mm_wordHere 5 [some (.inr (.inr 182)), some (.inl v1), some (.inl v2), some (.inl (whr (tW T n 37 V) s v1 b)), some (.inl b)] [] h Q := by
    intro d
    induction d with
    | zero =>
      intro b hd b0 b1
      refine B_wordHere_5 hF ⟨fun _ => ?_, fun c => by omega⟩
      rw [show b = v2 by omega]; exact k
    | succ d ih =>
      intro b hd b0 b1
      refine B_wordHere_5 hF ⟨fun _ => by rw [show b = v2 by omega]; exact k, fun c => ⟨by omega, 0, by omega, G_isWord hs (by omega) (fun hz q => ?_) (fun q => ?_)⟩⟩
      · refine B_wordHere_19_1 hF ⟨by omega, ?_⟩
        have e1 : whr (tW T n 37 V) s v1 (b + 1) = b := by unfold whr; rw [if_pos ⟨hz, by omega, by omega⟩]; omega
        have := ih (b + 1) (by omega) (by omega) (by omega)
        rw [e1] at this
        exact this
      · refine B_wordHere_19_0 hF ⟨by omega, ?_⟩
        have e1 : whr (tW T n 37 V) s v1 (b + 1) = whr (tW T n 37 V) s v1 b := by
          unfold whr
          by_cases c3 : s.1 = 0 ∧ v1 ≤ tW T n 37 V s.2 ∧ tW T n 37 V s.2 < v1 + b
          · rw [if_pos c3, if_pos ⟨c3.1, c3.2.1, by omega⟩]
          · rw [if_neg c3, if_neg]
            intro z
            have := q z.1
            exact c3 ⟨z.1, z.2.1, by omega⟩
        have := ih (b + 1) (by omega) (by omega) (by omega)
        rw [e1] at this
        exact this
  have e0 : whr (tW T n 37 V) s v1 0 = -1 := by unfold whr; rw [if_neg (by omega)]
  have := loop v2.toNat 0 (by omega) (by omega) (by omega)
  rw [e0] at this
  exact B_wordHere_0 hF this
theorem G_isName (he : 2 ≤ e) (hs : RSK T n V m h s) (k1 : s.1 = 0 → isNm (tO T n) (tW T n 37 V) s.2 = true → Q (some (.inl 1)) h) (k0 : (s.1 = 0 → ¬ isNm (tO T n) (tW T n 37 V) s.2 = true) → Q (some (.inl 0)) h) : Rn xs xl e mm_isName 0 [some (.inr (.inr 182))] [] h Q := by
  have a7 := hs.2.2.2.1
  have win := tW_in (T := T) (n := n) (b := 37) (W := V) s.2
  refine B_isName_0 hs.1.1 ⟨fun c => k0 (fun hz => absurd (hs.2.1.trans hz) c), fun c => ?_⟩
  have hz : s.1 = 0 := hs.2.1.symm.trans c
  have eo := RS_o hs hz
  refine ⟨by omega, fun c2 => k0 (fun _ q => ?_), fun c2 => ⟨1, by omega, G_wordHere (by omega) hs (by omega) (B_isName_27 hs.1.1 ⟨fun c3 => k0 (fun _ q => ?_), fun c3 => k1 hz ?_⟩)⟩⟩
  · unfold isNm at q
    rw [decide_eq_true_iff] at q
    omega
  · unfold isNm at q
    rw [decide_eq_true_iff] at q
    unfold whr at c3
    rw [if_neg (by omega)] at c3
    omega
  · unfold isNm
    rw [decide_eq_true_iff]
    unfold whr at c3
    refine ⟨by omega, ?_⟩
    by_cases z : s.1 = 0 ∧ 0 ≤ tW T n 37 V s.2 ∧ tW T n 37 V s.2 < 0 + 25
    · rw [if_pos z] at c3; omega
    · omega
theorem G_takeNumber (he : 1 ≤ e) (hs : RSK T n V m h s) (hx : i32 v1 ∧ i32 v2) (k : ∀ h' r, RSK T n V m h' (tkN (tO T n) (tV T n 37) (tP T n) v1 v2 s) → frT h h' → ((tkN (tO T n) (tV T n 37) (tP T n) v1 v2 s).1 = 0 → r = tV T n 37 s.2 ∧ v1 ≤ r ∧ r ≤ v2) → ((tkN (tO T n) (tV T n 37) (tP T n) v1 v2 s).1 ≠ 0 → r = 0) → Q (some (.inl r)) h') : Rn xs xl e mm_takeNumber 0 [some (.inr (.inr 182)), some (.inl v1), some (.inl v2)] [] h Q := by
  have a7 := hs.2.2.2.1
  have bad : ∀ {h'} {s' : Int × Nat}, RSK T n V m h' s' → s'.1 ≠ 0 → frT h h' → s' = tkN (tO T n) (tV T n 37) (tP T n) v1 v2 s → Rn xs xl e mm_takeNumber 70 [some (.inr (.inr 182)), some (.inl v1), some (.inl v2)] [] h' Q := by
    intro h' s' c1 c2 f1 es
    have p := c1.2.2.1
    have p8 := c1.2.1
    refine B_takeNumber_70 c1.1.1 ⟨fun c => by omega, fun _ => k h' 0 (by rw [← es]; exact c1) f1 (fun q => absurd (by rw [es]; exact q) c2) (fun _ => rfl)⟩
  by_cases hz : s.1 = 0
  · have eo := RS_o hs hz
    have e8 := hs.2.1
    refine B_takeNumber_0 hs.1.1 ⟨fun c => absurd (e8.trans hz) c, fun _ => ⟨by omega, fun c => ?_, fun c => ?_⟩⟩
    · have o2 : tO T n s.2 = 2 := eo.symm.trans c
      have ev := RS_v hs hz (by omega) (by omega)
      refine B_takeNumber_28 hs.1.1 ⟨fun c => absurd (e8.trans hz) c, fun _ => ⟨by omega, fun d1 => ⟨0, by omega, G_wrong hs (by omega) (fun h' c1 c2 => bad c1 (tkE_ne' hs (by decide)) c2 ?_)⟩, fun d1 => ⟨by omega, fun d2 => ?_, fun d2 => ⟨0, by omega, G_wrong hs (by omega) (fun h' c1 c2 => bad c1 (tkE_ne' hs (by decide)) c2 ?_)⟩⟩⟩⟩
      · unfold tkN
        rw [if_pos o2, if_neg]
        intro q
        have := lcmp_ge.mpr q.1
        rw [ev] at d1
        omega
      · have b1 := lcmp_ge.mp d1
        have b2 := lcmp_le.mp d2
        rw [ev] at b1 b2
        have en : tkN (tO T n) (tV T n 37) (tP T n) v1 v2 s = tkA s := by unfold tkN; rw [if_pos o2, if_pos ⟨b1, b2⟩]
        rw [en] at k
        refine B_takeNumber_70 hs.1.1 ⟨fun _ => ⟨by omega, by omega, by omega, ?_⟩, fun c => by omega⟩
        rw [show rd h 182 7 + 1 - 1 = rd h 182 7 by omega, ev, w32_id (by unfold i32 at *; omega)]
        refine k _ _ (RS_adv hs hz (by omega)) fr7 (fun _ => ⟨rfl, b1, b2⟩) (fun q => ?_)
        rw [tkA_0 hz] at q
        exact absurd rfl q
      · unfold tkN
        rw [if_pos o2, if_neg]
        intro q
        have := lcmp_le.mpr q.2
        rw [ev] at d2
        omega
    · refine ⟨0, by omega, G_wrong hs (by omega) (fun h' c1 c2 => B_takeNumber_25 c1.1.1 (bad c1 (tkE_ne' hs (by decide)) c2 ?_))⟩
      unfold tkN
      rw [if_neg (fun q => c (eo.trans q))]
  · have e8 := hs.2.1
    refine B_takeNumber_0 hs.1.1 ⟨fun _ => B_takeNumber_28 hs.1.1 ⟨fun _ => bad hs hz frT.refl (tkN_f hz).symm, fun c => absurd (e8.symm.trans c) hz⟩, fun c => absurd (e8.symm.trans c) hz⟩
theorem G_takeSort (he : 2 ≤ e) (hs : RSK T n V m h s) (k : ∀ h' r, RSK T n V m h' (tkF (tW T n 37 V) (tP T n) 18 s) → frT h h' → ((tkF (tW T n 37 V) (tP T n) 18 s).1 = 0 → r = tW T n 37 V s.2 - 18) → 0 ≤ r → r ≤ 3 → Q (some (.inl r)) h') : Rn xs xl e mm_takeSort 0 [some (.inr (.inr 182)), none] [] h Q := by
  have a7 := hs.2.2.2.1
  have bad : ∀ w0 : Int, w0 < 0 → tkF (tW T n 37 V) (tP T n) 18 s = tkE (tP T n) 1 s → Rn xs xl e mm_takeSort 18 [some (.inr (.inr 182)), none] [.inl w0] h Q := by
    intro w0 hw0 ef
    rw [ef] at k
    exact B_takeSort_18 hs.1.1 ⟨fun c => by omega, fun _ => ⟨0, by omega, G_wrong hs (by omega) (fun h' c1 c2 => B_takeSort_28 c1.1.1 (k h' 0 c1 c2 (fun q => absurd q (tkE_ne' hs (by decide))) (by omega) (by omega)))⟩⟩
  have p0 := hs.2.2.1
  have e8 := hs.2.1
  by_cases hz : s.1 = 0
  · refine B_takeSort_0 hs.1.1 ⟨fun _ => ⟨1, by omega, G_wordHere (by omega) hs (by omega) ?_⟩, fun c => by omega⟩
    by_cases q : 18 ≤ tW T n 37 V s.2 ∧ tW T n 37 V s.2 ≤ 18 + 3
    · have ef : tkF (tW T n 37 V) (tP T n) 18 s = tkA s := by unfold tkF; rw [if_pos q]
      have ew : whr (tW T n 37 V) s 18 4 = tW T n 37 V s.2 - 18 := by unfold whr; rw [if_pos ⟨hz, by omega, by omega⟩]
      rw [ew]
      rw [ef] at k
      refine B_takeSort_18 hs.1.1 ⟨fun _ => ⟨by omega, k _ _ (RS_adv hs hz (by rw [tW_o (W := V) (b := 37) (by omega)]; decide)) fr7 (fun _ => rfl) (by omega) (by omega)⟩, fun c => by omega⟩
    · have ew : whr (tW T n 37 V) s 18 4 = -1 := by unfold whr; rw [if_neg (by omega)]
      rw [ew]
      exact bad (-1) (by decide) (by unfold tkF; rw [if_neg q])
  · exact B_takeSort_0 hs.1.1 ⟨fun c => by omega, fun _ => bad (-1) (by decide) (by rw [tkF_f hz, tkE_f hz])⟩
end CB
end
