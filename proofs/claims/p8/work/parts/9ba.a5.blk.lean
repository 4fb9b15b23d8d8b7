/-! LM, by program (wip/p2/hand.py): p3: rows of the class's reader, takes -/
def mm_Reader_skipWord : LM_M := (⟨"OneSided$Reader", "skipWord", "(I)Z"⟩, prog_9_method_13_code, 2, (some .boolean), 7, 2, 0, 672, 671, 1000016)
def mm_Reader_takeOneOfFour : LM_M := (⟨"OneSided$Reader", "takeOneOfFour", "(I)I"⟩, prog_9_method_15_code, 3, (some .int), 7, 2, 0, 668, 667, 1000015)
def mm_Reader_takeNumber : LM_M := (⟨"OneSided$Reader", "takeNumber", "(II)I"⟩, prog_9_method_16_code, 4, (some .int), 7, 3, 0, 632, 631, 1000008)
def mm_Reader_takeOtherRoom : LM_M := (⟨"OneSided$Reader", "takeOtherRoom", "(II)I"⟩, prog_9_method_17_code, 3, (some .int), 7, 3, 0, 664, 663, 1000014)
def mm_Reader_operatorOf : LM_M := (⟨"OneSided$Reader", "operatorOf", "(I)I"⟩, prog_9_method_10_code, 2, (some .int), 7, 2, 0, 696, 695, 1000021)
theorem dd_Reader_skipWord_0 : decode mm_Reader_skipWord.2.1 0 = .ok (.aload_n 0, 1) := by decide +kernel
theorem dd_Reader_skipWord_1 : decode mm_Reader_skipWord.2.1 1 = .ok (.getfield 61, 3) := by decide +kernel
theorem dd_Reader_skipWord_4 : decode mm_Reader_skipWord.2.1 4 = .ok (.ifCond .ne (11), 3) := by decide +kernel
theorem dd_Reader_skipWord_15 : decode mm_Reader_skipWord.2.1 15 = .ok (.iconst 0, 1) := by decide +kernel
theorem dd_Reader_skipWord_16 : decode mm_Reader_skipWord.2.1 16 = .ok (.ireturn, 1) := by decide +kernel
theorem dd_Reader_skipWord_7 : decode mm_Reader_skipWord.2.1 7 = .ok (.aload_n 0, 1) := by decide +kernel
theorem dd_Reader_skipWord_8 : decode mm_Reader_skipWord.2.1 8 = .ok (.getfield 67, 3) := by decide +kernel
theorem dd_Reader_skipWord_11 : decode mm_Reader_skipWord.2.1 11 = .ok (.iload_n 1, 1) := by decide +kernel
theorem dd_Reader_skipWord_12 : decode mm_Reader_skipWord.2.1 12 = .ok (.if_icmp .eq (5), 3) := by decide +kernel
theorem dd_Reader_skipWord_17 : decode mm_Reader_skipWord.2.1 17 = .ok (.aload_n 0, 1) := by decide +kernel
theorem dd_Reader_skipWord_18 : decode mm_Reader_skipWord.2.1 18 = .ok (.invokevirtual 99, 3) := by decide +kernel
theorem dd_Reader_skipWord_21 : decode mm_Reader_skipWord.2.1 21 = .ok (.iconst 1, 1) := by decide +kernel
theorem dd_Reader_skipWord_22 : decode mm_Reader_skipWord.2.1 22 = .ok (.ireturn, 1) := by decide +kernel
theorem dd_Reader_takeOneOfFour_0 : decode mm_Reader_takeOneOfFour.2.1 0 = .ok (.aload_n 0, 1) := by decide +kernel
theorem dd_Reader_takeOneOfFour_1 : decode mm_Reader_takeOneOfFour.2.1 1 = .ok (.getfield 67, 3) := by decide +kernel
theorem dd_Reader_takeOneOfFour_4 : decode mm_Reader_takeOneOfFour.2.1 4 = .ok (.iload_n 1, 1) := by decide +kernel
theorem dd_Reader_takeOneOfFour_5 : decode mm_Reader_takeOneOfFour.2.1 5 = .ok (.isub, 1) := by decide +kernel
theorem dd_Reader_takeOneOfFour_6 : decode mm_Reader_takeOneOfFour.2.1 6 = .ok (.istore_n 2, 1) := by decide +kernel
theorem dd_Reader_takeOneOfFour_7 : decode mm_Reader_takeOneOfFour.2.1 7 = .ok (.iload_n 2, 1) := by decide +kernel
theorem dd_Reader_takeOneOfFour_8 : decode mm_Reader_takeOneOfFour.2.1 8 = .ok (.ifCond .lt (8), 3) := by decide +kernel
theorem dd_Reader_takeOneOfFour_16 : decode mm_Reader_takeOneOfFour.2.1 16 = .ok (.aload_n 0, 1) := by decide +kernel
theorem dd_Reader_takeOneOfFour_17 : decode mm_Reader_takeOneOfFour.2.1 17 = .ok (.iconst 1, 1) := by decide +kernel
theorem dd_Reader_takeOneOfFour_18 : decode mm_Reader_takeOneOfFour.2.1 18 = .ok (.invokevirtual 80, 3) := by decide +kernel
theorem dd_Reader_takeOneOfFour_11 : decode mm_Reader_takeOneOfFour.2.1 11 = .ok (.iload_n 2, 1) := by decide +kernel
theorem dd_Reader_takeOneOfFour_12 : decode mm_Reader_takeOneOfFour.2.1 12 = .ok (.iconst 3, 1) := by decide +kernel
theorem dd_Reader_takeOneOfFour_13 : decode mm_Reader_takeOneOfFour.2.1 13 = .ok (.if_icmp .le (10), 3) := by decide +kernel
theorem dd_Reader_takeOneOfFour_23 : decode mm_Reader_takeOneOfFour.2.1 23 = .ok (.aload_n 0, 1) := by decide +kernel
theorem dd_Reader_takeOneOfFour_24 : decode mm_Reader_takeOneOfFour.2.1 24 = .ok (.invokevirtual 99, 3) := by decide +kernel
theorem dd_Reader_takeOneOfFour_21 : decode mm_Reader_takeOneOfFour.2.1 21 = .ok (.iconst 0, 1) := by decide +kernel
theorem dd_Reader_takeOneOfFour_22 : decode mm_Reader_takeOneOfFour.2.1 22 = .ok (.ireturn, 1) := by decide +kernel
theorem dd_Reader_takeOneOfFour_27 : decode mm_Reader_takeOneOfFour.2.1 27 = .ok (.iload_n 2, 1) := by decide +kernel
theorem dd_Reader_takeOneOfFour_28 : decode mm_Reader_takeOneOfFour.2.1 28 = .ok (.ireturn, 1) := by decide +kernel
theorem dd_Reader_takeNumber_0 : decode mm_Reader_takeNumber.2.1 0 = .ok (.aload_n 0, 1) := by decide +kernel
theorem dd_Reader_takeNumber_1 : decode mm_Reader_takeNumber.2.1 1 = .ok (.getfield 64, 3) := by decide +kernel
theorem dd_Reader_takeNumber_4 : decode mm_Reader_takeNumber.2.1 4 = .ok (.iconst 3, 1) := by decide +kernel
theorem dd_Reader_takeNumber_5 : decode mm_Reader_takeNumber.2.1 5 = .ok (.if_icmp .eq (10), 3) := by decide +kernel
theorem dd_Reader_takeNumber_15 : decode mm_Reader_takeNumber.2.1 15 = .ok (.aload_n 0, 1) := by decide +kernel
theorem dd_Reader_takeNumber_16 : decode mm_Reader_takeNumber.2.1 16 = .ok (.getfield 174, 3) := by decide +kernel
theorem dd_Reader_takeNumber_19 : decode mm_Reader_takeNumber.2.1 19 = .ok (.iload_n 1, 1) := by decide +kernel
theorem dd_Reader_takeNumber_20 : decode mm_Reader_takeNumber.2.1 20 = .ok (.i2l, 1) := by decide +kernel
theorem dd_Reader_takeNumber_21 : decode mm_Reader_takeNumber.2.1 21 = .ok (.lcmp, 1) := by decide +kernel
theorem dd_Reader_takeNumber_22 : decode mm_Reader_takeNumber.2.1 22 = .ok (.ifCond .lt (13), 3) := by decide +kernel
theorem dd_Reader_takeNumber_35 : decode mm_Reader_takeNumber.2.1 35 = .ok (.aload_n 0, 1) := by decide +kernel
theorem dd_Reader_takeNumber_36 : decode mm_Reader_takeNumber.2.1 36 = .ok (.iconst 4, 1) := by decide +kernel
theorem dd_Reader_takeNumber_37 : decode mm_Reader_takeNumber.2.1 37 = .ok (.invokevirtual 80, 3) := by decide +kernel
theorem dd_Reader_takeNumber_25 : decode mm_Reader_takeNumber.2.1 25 = .ok (.aload_n 0, 1) := by decide +kernel
theorem dd_Reader_takeNumber_26 : decode mm_Reader_takeNumber.2.1 26 = .ok (.getfield 174, 3) := by decide +kernel
theorem dd_Reader_takeNumber_29 : decode mm_Reader_takeNumber.2.1 29 = .ok (.iload_n 2, 1) := by decide +kernel
theorem dd_Reader_takeNumber_30 : decode mm_Reader_takeNumber.2.1 30 = .ok (.i2l, 1) := by decide +kernel
theorem dd_Reader_takeNumber_31 : decode mm_Reader_takeNumber.2.1 31 = .ok (.lcmp, 1) := by decide +kernel
theorem dd_Reader_takeNumber_32 : decode mm_Reader_takeNumber.2.1 32 = .ok (.ifCond .le (10), 3) := by decide +kernel
theorem dd_Reader_takeNumber_42 : decode mm_Reader_takeNumber.2.1 42 = .ok (.aload_n 0, 1) := by decide +kernel
theorem dd_Reader_takeNumber_43 : decode mm_Reader_takeNumber.2.1 43 = .ok (.getfield 174, 3) := by decide +kernel
theorem dd_Reader_takeNumber_46 : decode mm_Reader_takeNumber.2.1 46 = .ok (.l2i, 1) := by decide +kernel
theorem dd_Reader_takeNumber_47 : decode mm_Reader_takeNumber.2.1 47 = .ok (.istore_n 3, 1) := by decide +kernel
theorem dd_Reader_takeNumber_48 : decode mm_Reader_takeNumber.2.1 48 = .ok (.aload_n 0, 1) := by decide +kernel
theorem dd_Reader_takeNumber_49 : decode mm_Reader_takeNumber.2.1 49 = .ok (.invokevirtual 99, 3) := by decide +kernel
theorem dd_Reader_takeNumber_8 : decode mm_Reader_takeNumber.2.1 8 = .ok (.aload_n 0, 1) := by decide +kernel
theorem dd_Reader_takeNumber_9 : decode mm_Reader_takeNumber.2.1 9 = .ok (.iconst 1, 1) := by decide +kernel
theorem dd_Reader_takeNumber_10 : decode mm_Reader_takeNumber.2.1 10 = .ok (.invokevirtual 80, 3) := by decide +kernel
theorem dd_Reader_takeNumber_13 : decode mm_Reader_takeNumber.2.1 13 = .ok (.iload_n 1, 1) := by decide +kernel
theorem dd_Reader_takeNumber_14 : decode mm_Reader_takeNumber.2.1 14 = .ok (.ireturn, 1) := by decide +kernel
theorem dd_Reader_takeNumber_40 : decode mm_Reader_takeNumber.2.1 40 = .ok (.iload_n 1, 1) := by decide +kernel
theorem dd_Reader_takeNumber_41 : decode mm_Reader_takeNumber.2.1 41 = .ok (.ireturn, 1) := by decide +kernel
theorem dd_Reader_takeNumber_52 : decode mm_Reader_takeNumber.2.1 52 = .ok (.iload_n 3, 1) := by decide +kernel
theorem dd_Reader_takeNumber_53 : decode mm_Reader_takeNumber.2.1 53 = .ok (.ireturn, 1) := by decide +kernel
theorem dd_Reader_takeOtherRoom_0 : decode mm_Reader_takeOtherRoom.2.1 0 = .ok (.aload_n 0, 1) := by decide +kernel
theorem dd_Reader_takeOtherRoom_1 : decode mm_Reader_takeOtherRoom.2.1 1 = .ok (.getfield 64, 3) := by decide +kernel
theorem dd_Reader_takeOtherRoom_4 : decode mm_Reader_takeOtherRoom.2.1 4 = .ok (.iconst 3, 1) := by decide +kernel
theorem dd_Reader_takeOtherRoom_5 : decode mm_Reader_takeOtherRoom.2.1 5 = .ok (.if_icmp .ne (20), 3) := by decide +kernel
theorem dd_Reader_takeOtherRoom_25 : decode mm_Reader_takeOtherRoom.2.1 25 = .ok (.aload_n 0, 1) := by decide +kernel
theorem dd_Reader_takeOtherRoom_26 : decode mm_Reader_takeOtherRoom.2.1 26 = .ok (.iconst 0, 1) := by decide +kernel
theorem dd_Reader_takeOtherRoom_27 : decode mm_Reader_takeOtherRoom.2.1 27 = .ok (.iload_n 2, 1) := by decide +kernel
theorem dd_Reader_takeOtherRoom_28 : decode mm_Reader_takeOtherRoom.2.1 28 = .ok (.iconst 1, 1) := by decide +kernel
theorem dd_Reader_takeOtherRoom_29 : decode mm_Reader_takeOtherRoom.2.1 29 = .ok (.isub, 1) := by decide +kernel
theorem dd_Reader_takeOtherRoom_30 : decode mm_Reader_takeOtherRoom.2.1 30 = .ok (.invokevirtual 50, 3) := by decide +kernel
theorem cw_7_50 : cwOk 7 50 0 27 3 4 7 = true := by decide +kernel
theorem mt_Reader_takeNumber : MTB 27 = some mm_Reader_takeNumber := rfl
theorem dd_Reader_takeOtherRoom_8 : decode mm_Reader_takeOtherRoom.2.1 8 = .ok (.aload_n 0, 1) := by decide +kernel
theorem dd_Reader_takeOtherRoom_9 : decode mm_Reader_takeOtherRoom.2.1 9 = .ok (.getfield 174, 3) := by decide +kernel
theorem dd_Reader_takeOtherRoom_12 : decode mm_Reader_takeOtherRoom.2.1 12 = .ok (.iload_n 1, 1) := by decide +kernel
theorem dd_Reader_takeOtherRoom_13 : decode mm_Reader_takeOtherRoom.2.1 13 = .ok (.i2l, 1) := by decide +kernel
theorem dd_Reader_takeOtherRoom_14 : decode mm_Reader_takeOtherRoom.2.1 14 = .ok (.lcmp, 1) := by decide +kernel
theorem dd_Reader_takeOtherRoom_15 : decode mm_Reader_takeOtherRoom.2.1 15 = .ok (.ifCond .ne (10), 3) := by decide +kernel
theorem dd_Reader_takeOtherRoom_18 : decode mm_Reader_takeOtherRoom.2.1 18 = .ok (.aload_n 0, 1) := by decide +kernel
theorem dd_Reader_takeOtherRoom_19 : decode mm_Reader_takeOtherRoom.2.1 19 = .ok (.iconst 3, 1) := by decide +kernel
theorem dd_Reader_takeOtherRoom_20 : decode mm_Reader_takeOtherRoom.2.1 20 = .ok (.invokevirtual 80, 3) := by decide +kernel
theorem dd_Reader_takeOtherRoom_23 : decode mm_Reader_takeOtherRoom.2.1 23 = .ok (.iload_n 1, 1) := by decide +kernel
theorem dd_Reader_takeOtherRoom_24 : decode mm_Reader_takeOtherRoom.2.1 24 = .ok (.ireturn, 1) := by decide +kernel
theorem dd_Reader_takeOtherRoom_33 : decode mm_Reader_takeOtherRoom.2.1 33 = .ok (.ireturn, 1) := by decide +kernel
theorem dd_Reader_operatorOf_0 : decode mm_Reader_operatorOf.2.1 0 = .ok (.iload_n 1, 1) := by decide +kernel
theorem dd_Reader_operatorOf_1 : decode mm_Reader_operatorOf.2.1 1 = .ok (.tableswitch (123) (0) (2) #[27, 59, 91], 27) := by decide +kernel
theorem dd_Reader_operatorOf_28 : decode mm_Reader_operatorOf.2.1 28 = .ok (.aload_n 0, 1) := by decide +kernel
theorem dd_Reader_operatorOf_29 : decode mm_Reader_operatorOf.2.1 29 = .ok (.getfield 67, 3) := by decide +kernel
theorem dd_Reader_operatorOf_32 : decode mm_Reader_operatorOf.2.1 32 = .ok (.bipush 23, 2) := by decide +kernel
theorem dd_Reader_operatorOf_34 : decode mm_Reader_operatorOf.2.1 34 = .ok (.if_icmp .ne (9), 3) := by decide +kernel
theorem dd_Reader_operatorOf_43 : decode mm_Reader_operatorOf.2.1 43 = .ok (.aload_n 0, 1) := by decide +kernel
theorem dd_Reader_operatorOf_44 : decode mm_Reader_operatorOf.2.1 44 = .ok (.getfield 67, 3) := by decide +kernel
theorem dd_Reader_operatorOf_47 : decode mm_Reader_operatorOf.2.1 47 = .ok (.bipush 24, 2) := by decide +kernel
theorem dd_Reader_operatorOf_49 : decode mm_Reader_operatorOf.2.1 49 = .ok (.if_icmp .ne (9), 3) := by decide +kernel
theorem dd_Reader_operatorOf_58 : decode mm_Reader_operatorOf.2.1 58 = .ok (.iconst (-1), 1) := by decide +kernel
theorem dd_Reader_operatorOf_59 : decode mm_Reader_operatorOf.2.1 59 = .ok (.ireturn, 1) := by decide +kernel
theorem dd_Reader_operatorOf_52 : decode mm_Reader_operatorOf.2.1 52 = .ok (.sipush 10006, 3) := by decide +kernel
theorem dd_Reader_operatorOf_55 : decode mm_Reader_operatorOf.2.1 55 = .ok (.goto 4, 3) := by decide +kernel
theorem dd_Reader_operatorOf_37 : decode mm_Reader_operatorOf.2.1 37 = .ok (.sipush 10005, 3) := by decide +kernel
theorem dd_Reader_operatorOf_40 : decode mm_Reader_operatorOf.2.1 40 = .ok (.goto 19, 3) := by decide +kernel
theorem dd_Reader_operatorOf_60 : decode mm_Reader_operatorOf.2.1 60 = .ok (.aload_n 0, 1) := by decide +kernel
theorem dd_Reader_operatorOf_61 : decode mm_Reader_operatorOf.2.1 61 = .ok (.bipush 60, 2) := by decide +kernel
theorem dd_Reader_operatorOf_63 : decode mm_Reader_operatorOf.2.1 63 = .ok (.invokevirtual 201, 3) := by decide +kernel
theorem dd_Reader_operatorOf_66 : decode mm_Reader_operatorOf.2.1 66 = .ok (.ifCond .eq (9), 3) := by decide +kernel
theorem dd_Reader_operatorOf_75 : decode mm_Reader_operatorOf.2.1 75 = .ok (.aload_n 0, 1) := by decide +kernel
theorem dd_Reader_operatorOf_76 : decode mm_Reader_operatorOf.2.1 76 = .ok (.bipush 61, 2) := by decide +kernel
theorem dd_Reader_operatorOf_78 : decode mm_Reader_operatorOf.2.1 78 = .ok (.invokevirtual 201, 3) := by decide +kernel
theorem dd_Reader_operatorOf_69 : decode mm_Reader_operatorOf.2.1 69 = .ok (.sipush 10007, 3) := by decide +kernel
theorem dd_Reader_operatorOf_72 : decode mm_Reader_operatorOf.2.1 72 = .ok (.goto 19, 3) := by decide +kernel
theorem dd_Reader_operatorOf_91 : decode mm_Reader_operatorOf.2.1 91 = .ok (.ireturn, 1) := by decide +kernel
theorem dd_Reader_operatorOf_81 : decode mm_Reader_operatorOf.2.1 81 = .ok (.ifCond .eq (9), 3) := by decide +kernel
theorem dd_Reader_operatorOf_90 : decode mm_Reader_operatorOf.2.1 90 = .ok (.iconst (-1), 1) := by decide +kernel
theorem dd_Reader_operatorOf_84 : decode mm_Reader_operatorOf.2.1 84 = .ok (.sipush 10008, 3) := by decide +kernel
theorem dd_Reader_operatorOf_87 : decode mm_Reader_operatorOf.2.1 87 = .ok (.goto 4, 3) := by decide +kernel
theorem dd_Reader_operatorOf_92 : decode mm_Reader_operatorOf.2.1 92 = .ok (.aload_n 0, 1) := by decide +kernel
theorem dd_Reader_operatorOf_93 : decode mm_Reader_operatorOf.2.1 93 = .ok (.bipush 43, 2) := by decide +kernel
theorem dd_Reader_operatorOf_95 : decode mm_Reader_operatorOf.2.1 95 = .ok (.invokevirtual 201, 3) := by decide +kernel
theorem dd_Reader_operatorOf_98 : decode mm_Reader_operatorOf.2.1 98 = .ok (.ifCond .eq (9), 3) := by decide +kernel
theorem dd_Reader_operatorOf_107 : decode mm_Reader_operatorOf.2.1 107 = .ok (.aload_n 0, 1) := by decide +kernel
theorem dd_Reader_operatorOf_108 : decode mm_Reader_operatorOf.2.1 108 = .ok (.bipush 45, 2) := by decide +kernel
theorem dd_Reader_operatorOf_110 : decode mm_Reader_operatorOf.2.1 110 = .ok (.invokevirtual 201, 3) := by decide +kernel
theorem dd_Reader_operatorOf_101 : decode mm_Reader_operatorOf.2.1 101 = .ok (.sipush 10009, 3) := by decide +kernel
theorem dd_Reader_operatorOf_104 : decode mm_Reader_operatorOf.2.1 104 = .ok (.goto 19, 3) := by decide +kernel
theorem dd_Reader_operatorOf_123 : decode mm_Reader_operatorOf.2.1 123 = .ok (.ireturn, 1) := by decide +kernel
theorem dd_Reader_operatorOf_113 : decode mm_Reader_operatorOf.2.1 113 = .ok (.ifCond .eq (9), 3) := by decide +kernel
theorem dd_Reader_operatorOf_122 : decode mm_Reader_operatorOf.2.1 122 = .ok (.iconst (-1), 1) := by decide +kernel
theorem dd_Reader_operatorOf_116 : decode mm_Reader_operatorOf.2.1 116 = .ok (.sipush 10010, 3) := by decide +kernel
theorem dd_Reader_operatorOf_119 : decode mm_Reader_operatorOf.2.1 119 = .ok (.goto 4, 3) := by decide +kernel
theorem dd_Reader_operatorOf_124 : decode mm_Reader_operatorOf.2.1 124 = .ok (.aload_n 0, 1) := by decide +kernel
theorem dd_Reader_operatorOf_125 : decode mm_Reader_operatorOf.2.1 125 = .ok (.bipush 42, 2) := by decide +kernel
theorem dd_Reader_operatorOf_127 : decode mm_Reader_operatorOf.2.1 127 = .ok (.invokevirtual 201, 3) := by decide +kernel
theorem dd_Reader_operatorOf_130 : decode mm_Reader_operatorOf.2.1 130 = .ok (.ifCond .eq (9), 3) := by decide +kernel
theorem dd_Reader_operatorOf_139 : decode mm_Reader_operatorOf.2.1 139 = .ok (.iconst (-1), 1) := by decide +kernel
theorem dd_Reader_operatorOf_140 : decode mm_Reader_operatorOf.2.1 140 = .ok (.ireturn, 1) := by decide +kernel
theorem dd_Reader_operatorOf_133 : decode mm_Reader_operatorOf.2.1 133 = .ok (.sipush 10011, 3) := by decide +kernel
theorem dd_Reader_operatorOf_136 : decode mm_Reader_operatorOf.2.1 136 = .ok (.goto 4, 3) := by decide +kernel
theorem B_Reader_skipWord_0 {xs : Nat → Int} {xl e : Nat} {h : LH} {Q : Option LV → LH → Prop} {v1 : Int} (hF : RF h)
    (k : ((rd h 2 8) ≠ 0 →
        Q (some (.inl 0)) h) ∧
      ((rd h 2 8) = 0 →
        ((rd h 2 7) = v1 →
          (∃ c, c < e ∧ Rn xs xl c mm_Reader_step 0 [some (.inr (.inr 2)), none] [] h (fun r h' => Rn xs xl e mm_Reader_skipWord 21 [some (.inr (.inr 2)), some (.inl v1)] (r.toList ++ []) h' Q))) ∧
        ((rd h 2 7) ≠ v1 →
          Q (some (.inl 0)) h))) :
    Rn xs xl e mm_Reader_skipWord 0 [some (.inr (.inr 2)), some (.inl v1)] [] h Q := by
  refine R_ld (v := .inr (.inr 2)) dd_Reader_skipWord_0 rfl rfl rfl rfl ?_
  refine R_gf (v := .inl (rd h 2 8)) dd_Reader_skipWord_1 fd_7_61 io_2 (congrArg (fun z : Int => (Sum.inl z : LV)) (rfl)) rfl ?_
  refine R_if dd_Reader_skipWord_4 rfl rfl (fun (c2 : (rd h 2 8) ≠ 0) => ?_) (fun (c2 : (rd h 2 8) = 0) => ?_)
  · replace k := k.1 c2
    refine R_ic dd_Reader_skipWord_15 (by decide) rfl ?_
    exact R_zret dd_Reader_skipWord_16 rfl (by decide) k
  · replace k := k.2 c2
    refine R_ld (v := .inr (.inr 2)) dd_Reader_skipWord_7 rfl rfl rfl rfl ?_
    refine R_gf (v := .inl (rd h 2 7)) dd_Reader_skipWord_8 fd_7_67 io_2 (congrArg (fun z : Int => (Sum.inl z : LV)) (rfl)) rfl ?_
    refine R_ld (v := .inl v1) dd_Reader_skipWord_11 rfl rfl rfl rfl ?_
    refine R_icmp dd_Reader_skipWord_12 rfl rfl (fun (c3 : (rd h 2 7) = v1) => ?_) (fun (c3 : (rd h 2 7) ≠ v1) => ?_)
    · replace k := k.1 c3
      refine R_ld (v := .inr (.inr 2)) dd_Reader_skipWord_17 rfl rfl rfl rfl ?_
      obtain ⟨c, hc, k⟩ := k
      exact R_call (as := [.inr (.inr 2)]) (rest := []) (M' := mm_Reader_step) (ls0 := [some (.inr (.inr 2)), none]) dd_Reader_skipWord_18 rfl rfl (cw_v cw_7_99 io_2 rfl rfl (Nat.le_of_ble_eq_true rfl) (Nat.le_of_ble_eq_true rfl)) mt_Reader_step rfl hc rfl k
    · replace k := k.2 c3
      refine R_ic dd_Reader_skipWord_15 (by decide) rfl ?_
      exact R_zret dd_Reader_skipWord_16 rfl (by decide) k
theorem B_Reader_skipWord_21 {xs : Nat → Int} {xl e : Nat} {h : LH} {Q : Option LV → LH → Prop} {v1 : Int} (hF : RF h)
    (k : Q (some (.inl 1)) h) :
    Rn xs xl e mm_Reader_skipWord 21 [some (.inr (.inr 2)), some (.inl v1)] [] h Q := by
  refine R_ic dd_Reader_skipWord_21 (by decide) rfl ?_
  exact R_zret dd_Reader_skipWord_22 rfl (by decide) k
theorem B_Reader_takeOneOfFour_0 {xs : Nat → Int} {xl e : Nat} {h : LH} {Q : Option LV → LH → Prop} {v1 : Int} (hF : RF h)
    (k : (-2147483648 ≤ (rd h 2 7) - v1 ∧ (rd h 2 7) - v1 ≤ 2147483647) ∧
      (((rd h 2 7) - v1) < 0 →
        (∃ c, c < e ∧ Rn xs xl c mm_Reader_fail 0 [some (.inr (.inr 2)), some (.inl 1)] [] h (fun r h' => Rn xs xl e mm_Reader_takeOneOfFour 21 [some (.inr (.inr 2)), some (.inl v1), some (.inl ((rd h 2 7) - v1))] (r.toList ++ []) h' Q))) ∧
      (0 ≤ ((rd h 2 7) - v1) →
        (((rd h 2 7) - v1) ≤ 3 →
          (∃ c, c < e ∧ Rn xs xl c mm_Reader_step 0 [some (.inr (.inr 2)), none] [] h (fun r h' => Rn xs xl e mm_Reader_takeOneOfFour 27 [some (.inr (.inr 2)), some (.inl v1), some (.inl ((rd h 2 7) - v1))] (r.toList ++ []) h' Q))) ∧
        (3 < ((rd h 2 7) - v1) →
          (∃ c, c < e ∧ Rn xs xl c mm_Reader_fail 0 [some (.inr (.inr 2)), some (.inl 1)] [] h (fun r h' => Rn xs xl e mm_Reader_takeOneOfFour 21 [some (.inr (.inr 2)), some (.inl v1), some (.inl ((rd h 2 7) - v1))] (r.toList ++ []) h' Q))))) :
    Rn xs xl e mm_Reader_takeOneOfFour 0 [some (.inr (.inr 2)), some (.inl v1), none] [] h Q := by
  refine R_ld (v := .inr (.inr 2)) dd_Reader_takeOneOfFour_0 rfl rfl rfl rfl ?_
  refine R_gf (v := .inl (rd h 2 7)) dd_Reader_takeOneOfFour_1 fd_7_67 io_2 (congrArg (fun z : Int => (Sum.inl z : LV)) (rfl)) rfl ?_
  refine R_ld (v := .inl v1) dd_Reader_takeOneOfFour_4 rfl rfl rfl rfl ?_
  obtain ⟨s1, k⟩ := k
  refine R_isub (c := (rd h 2 7) - v1) dd_Reader_takeOneOfFour_5 (by omega) s1 rfl ?_
  refine R_st (ls' := [some (.inr (.inr 2)), some (.inl v1), some (.inl ((rd h 2 7) - v1))]) dd_Reader_takeOneOfFour_6 rfl rfl rfl (Nat.le_of_ble_eq_true rfl) rfl rfl ?_
  refine R_ld (v := .inl ((rd h 2 7) - v1)) dd_Reader_takeOneOfFour_7 rfl rfl rfl rfl ?_
  refine R_if dd_Reader_takeOneOfFour_8 rfl rfl (fun (c5 : ((rd h 2 7) - v1) < 0) => ?_) (fun (c5 : 0 ≤ ((rd h 2 7) - v1)) => ?_)
  · replace k := k.1 c5
    refine R_ld (v := .inr (.inr 2)) dd_Reader_takeOneOfFour_16 rfl rfl rfl rfl ?_
    refine R_ic dd_Reader_takeOneOfFour_17 (by decide) rfl ?_
    obtain ⟨c, hc, k⟩ := k
    exact R_call (as := [.inr (.inr 2), .inl 1]) (rest := []) (M' := mm_Reader_fail) (ls0 := [some (.inr (.inr 2)), some (.inl 1)]) dd_Reader_takeOneOfFour_18 rfl rfl (cw_v cw_7_80 io_2 rfl rfl (Nat.le_of_ble_eq_true rfl) (Nat.le_of_ble_eq_true rfl)) mt_Reader_fail rfl hc rfl k
  · replace k := k.2 c5
    refine R_ld (v := .inl ((rd h 2 7) - v1)) dd_Reader_takeOneOfFour_11 rfl rfl rfl rfl ?_
    refine R_ic dd_Reader_takeOneOfFour_12 (by decide) rfl ?_
    refine R_icmp dd_Reader_takeOneOfFour_13 rfl rfl (fun (c6 : ((rd h 2 7) - v1) ≤ 3) => ?_) (fun (c6 : 3 < ((rd h 2 7) - v1)) => ?_)
    · replace k := k.1 c6
      refine R_ld (v := .inr (.inr 2)) dd_Reader_takeOneOfFour_23 rfl rfl rfl rfl ?_
      obtain ⟨c, hc, k⟩ := k
      exact R_call (as := [.inr (.inr 2)]) (rest := []) (M' := mm_Reader_step) (ls0 := [some (.inr (.inr 2)), none]) dd_Reader_takeOneOfFour_24 rfl rfl (cw_v cw_7_99 io_2 rfl rfl (Nat.le_of_ble_eq_true rfl) (Nat.le_of_ble_eq_true rfl)) mt_Reader_step rfl hc rfl k
    · replace k := k.2 c6
      refine R_ld (v := .inr (.inr 2)) dd_Reader_takeOneOfFour_16 rfl rfl rfl rfl ?_
      refine R_ic dd_Reader_takeOneOfFour_17 (by decide) rfl ?_
      obtain ⟨c, hc, k⟩ := k
      exact R_call (as := [.inr (.inr 2), .inl 1]) (rest := []) (M' := mm_Reader_fail) (ls0 := [some (.inr (.inr 2)), some (.inl 1)]) dd_Reader_takeOneOfFour_18 rfl rfl (cw_v cw_7_80 io_2 rfl rfl (Nat.le_of_ble_eq_true rfl) (Nat.le_of_ble_eq_true rfl)) mt_Reader_fail rfl hc rfl k
theorem B_Reader_takeOneOfFour_21 {xs : Nat → Int} {xl e : Nat} {h : LH} {Q : Option LV → LH → Prop} {v1 v2 : Int} (hF : RF h)
    (k : Q (some (.inl 0)) h) :
    Rn xs xl e mm_Reader_takeOneOfFour 21 [some (.inr (.inr 2)), some (.inl v1), some (.inl v2)] [] h Q := by
  refine R_ic dd_Reader_takeOneOfFour_21 (by decide) rfl ?_
  exact R_iret dd_Reader_takeOneOfFour_22 rfl k
theorem B_Reader_takeOneOfFour_27 {xs : Nat → Int} {xl e : Nat} {h : LH} {Q : Option LV → LH → Prop} {v1 v2 : Int} (hF : RF h)
    (k : Q (some (.inl v2)) h) :
    Rn xs xl e mm_Reader_takeOneOfFour 27 [some (.inr (.inr 2)), some (.inl v1), some (.inl v2)] [] h Q := by
  refine R_ld (v := .inl v2) dd_Reader_takeOneOfFour_27 rfl rfl rfl rfl ?_
  exact R_iret dd_Reader_takeOneOfFour_28 rfl k
theorem B_Reader_takeNumber_0 {xs : Nat → Int} {xl e : Nat} {h : LH} {Q : Option LV → LH → Prop} {v1 v2 : Int} (hF : RF h)
    (k : ((rd h 2 3) = 3 →
        ((lcmp_ (rd h 2 6) v1) < 0 →
          (∃ c, c < e ∧ Rn xs xl c mm_Reader_fail 0 [some (.inr (.inr 2)), some (.inl 4)] [] h (fun r h' => Rn xs xl e mm_Reader_takeNumber 40 [some (.inr (.inr 2)), some (.inl v1), some (.inl v2), none] (r.toList ++ []) h' Q))) ∧
        (0 ≤ (lcmp_ (rd h 2 6) v1) →
          ((lcmp_ (rd h 2 6) v2) ≤ 0 →
            (∃ c, c < e ∧ Rn xs xl c mm_Reader_step 0 [some (.inr (.inr 2)), none] [] h (fun r h' => Rn xs xl e mm_Reader_takeNumber 52 [some (.inr (.inr 2)), some (.inl v1), some (.inl v2), some (.inl (w32 (rd h 2 6)))] (r.toList ++ []) h' Q))) ∧
          (0 < (lcmp_ (rd h 2 6) v2) →
            (∃ c, c < e ∧ Rn xs xl c mm_Reader_fail 0 [some (.inr (.inr 2)), some (.inl 4)] [] h (fun r h' => Rn xs xl e mm_Reader_takeNumber 40 [some (.inr (.inr 2)), some (.inl v1), some (.inl v2), none] (r.toList ++ []) h' Q))))) ∧
      ((rd h 2 3) ≠ 3 →
        (∃ c, c < e ∧ Rn xs xl c mm_Reader_fail 0 [some (.inr (.inr 2)), some (.inl 1)] [] h (fun r h' => Rn xs xl e mm_Reader_takeNumber 13 [some (.inr (.inr 2)), some (.inl v1), some (.inl v2), none] (r.toList ++ []) h' Q)))) :
    Rn xs xl e mm_Reader_takeNumber 0 [some (.inr (.inr 2)), some (.inl v1), some (.inl v2), none] [] h Q := by
  refine R_ld (v := .inr (.inr 2)) dd_Reader_takeNumber_0 rfl rfl rfl rfl ?_
  refine R_gf (v := .inl (rd h 2 3)) dd_Reader_takeNumber_1 fd_7_64 io_2 (congrArg (fun z : Int => (Sum.inl z : LV)) (rfl)) rfl ?_
  refine R_ic dd_Reader_takeNumber_4 (by decide) rfl ?_
  refine R_icmp dd_Reader_takeNumber_5 rfl rfl (fun (c5 : (rd h 2 3) = 3) => ?_) (fun (c5 : (rd h 2 3) ≠ 3) => ?_)
  · replace k := k.1 c5
    refine R_ld (v := .inr (.inr 2)) dd_Reader_takeNumber_15 rfl rfl rfl rfl ?_
    refine R_gf (v := .inr (.inl (rd h 2 6))) dd_Reader_takeNumber_16 fd_7_174 io_2 (congrArg (fun z : Int => (Sum.inr (Sum.inl z) : LV)) (rfl)) rfl ?_
    refine R_ld (v := .inl v1) dd_Reader_takeNumber_19 rfl rfl rfl rfl ?_
    refine R_A dd_Reader_takeNumber_20 rfl rfl rfl rfl ?_
    refine R_A dd_Reader_takeNumber_21 rfl rfl rfl rfl ?_
    refine R_if dd_Reader_takeNumber_22 rfl rfl (fun (c6 : (lcmp_ (rd h 2 6) v1) < 0) => ?_) (fun (c6 : 0 ≤ (lcmp_ (rd h 2 6) v1)) => ?_)
    · replace k := k.1 c6
      refine R_ld (v := .inr (.inr 2)) dd_Reader_takeNumber_35 rfl rfl rfl rfl ?_
      refine R_ic dd_Reader_takeNumber_36 (by decide) rfl ?_
      obtain ⟨c, hc, k⟩ := k
      exact R_call (as := [.inr (.inr 2), .inl 4]) (rest := []) (M' := mm_Reader_fail) (ls0 := [some (.inr (.inr 2)), some (.inl 4)]) dd_Reader_takeNumber_37 rfl rfl (cw_v cw_7_80 io_2 rfl rfl (Nat.le_of_ble_eq_true rfl) (Nat.le_of_ble_eq_true rfl)) mt_Reader_fail rfl hc rfl k
    · replace k := k.2 c6
      refine R_ld (v := .inr (.inr 2)) dd_Reader_takeNumber_25 rfl rfl rfl rfl ?_
      refine R_gf (v := .inr (.inl (rd h 2 6))) dd_Reader_takeNumber_26 fd_7_174 io_2 (congrArg (fun z : Int => (Sum.inr (Sum.inl z) : LV)) (rfl)) rfl ?_
      refine R_ld (v := .inl v2) dd_Reader_takeNumber_29 rfl rfl rfl rfl ?_
      refine R_A dd_Reader_takeNumber_30 rfl rfl rfl rfl ?_
      refine R_A dd_Reader_takeNumber_31 rfl rfl rfl rfl ?_
      refine R_if dd_Reader_takeNumber_32 rfl rfl (fun (c7 : (lcmp_ (rd h 2 6) v2) ≤ 0) => ?_) (fun (c7 : 0 < (lcmp_ (rd h 2 6) v2)) => ?_)
      · replace k := k.1 c7
        refine R_ld (v := .inr (.inr 2)) dd_Reader_takeNumber_42 rfl rfl rfl rfl ?_
        refine R_gf (v := .inr (.inl (rd h 2 6))) dd_Reader_takeNumber_43 fd_7_174 io_2 (congrArg (fun z : Int => (Sum.inr (Sum.inl z) : LV)) (rfl)) rfl ?_
        refine R_A dd_Reader_takeNumber_46 rfl rfl rfl rfl ?_
        refine R_st (ls' := [some (.inr (.inr 2)), some (.inl v1), some (.inl v2), some (.inl (w32 (rd h 2 6)))]) dd_Reader_takeNumber_47 rfl rfl rfl (Nat.le_of_ble_eq_true rfl) rfl rfl ?_
        refine R_ld (v := .inr (.inr 2)) dd_Reader_takeNumber_48 rfl rfl rfl rfl ?_
        obtain ⟨c, hc, k⟩ := k
        exact R_call (as := [.inr (.inr 2)]) (rest := []) (M' := mm_Reader_step) (ls0 := [some (.inr (.inr 2)), none]) dd_Reader_takeNumber_49 rfl rfl (cw_v cw_7_99 io_2 rfl rfl (Nat.le_of_ble_eq_true rfl) (Nat.le_of_ble_eq_true rfl)) mt_Reader_step rfl hc rfl k
      · replace k := k.2 c7
        refine R_ld (v := .inr (.inr 2)) dd_Reader_takeNumber_35 rfl rfl rfl rfl ?_
        refine R_ic dd_Reader_takeNumber_36 (by decide) rfl ?_
        obtain ⟨c, hc, k⟩ := k
        exact R_call (as := [.inr (.inr 2), .inl 4]) (rest := []) (M' := mm_Reader_fail) (ls0 := [some (.inr (.inr 2)), some (.inl 4)]) dd_Reader_takeNumber_37 rfl rfl (cw_v cw_7_80 io_2 rfl rfl (Nat.le_of_ble_eq_true rfl) (Nat.le_of_ble_eq_true rfl)) mt_Reader_fail rfl hc rfl k
  · replace k := k.2 c5
    refine R_ld (v := .inr (.inr 2)) dd_Reader_takeNumber_8 rfl rfl rfl rfl ?_
    refine R_ic dd_Reader_takeNumber_9 (by decide) rfl ?_
    obtain ⟨c, hc, k⟩ := k
    exact R_call (as := [.inr (.inr 2), .inl 1]) (rest := []) (M' := mm_Reader_fail) (ls0 := [some (.inr (.inr 2)), some (.inl 1)]) dd_Reader_takeNumber_10 rfl rfl (cw_v cw_7_80 io_2 rfl rfl (Nat.le_of_ble_eq_true rfl) (Nat.le_of_ble_eq_true rfl)) mt_Reader_fail rfl hc rfl k
theorem B_Reader_takeNumber_13 {xs : Nat → Int} {xl e : Nat} {h : LH} {Q : Option LV → LH → Prop} {v1 v2 : Int} (hF : RF h)
    (k : Q (some (.inl v1)) h) :
    Rn xs xl e mm_Reader_takeNumber 13 [some (.inr (.inr 2)), some (.inl v1), some (.inl v2), none] [] h Q := by
  refine R_ld (v := .inl v1) dd_Reader_takeNumber_13 rfl rfl rfl rfl ?_
  exact R_iret dd_Reader_takeNumber_14 rfl k
theorem B_Reader_takeNumber_40 {xs : Nat → Int} {xl e : Nat} {h : LH} {Q : Option LV → LH → Prop} {v1 v2 : Int} (hF : RF h)
    (k : Q (some (.inl v1)) h) :
    Rn xs xl e mm_Reader_takeNumber 40 [some (.inr (.inr 2)), some (.inl v1), some (.inl v2), none] [] h Q := by
  refine R_ld (v := .inl v1) dd_Reader_takeNumber_40 rfl rfl rfl rfl ?_
  exact R_iret dd_Reader_takeNumber_41 rfl k
theorem B_Reader_takeNumber_52 {xs : Nat → Int} {xl e : Nat} {h : LH} {Q : Option LV → LH → Prop} {v1 v2 v3 : Int} (hF : RF h)
    (k : Q (some (.inl v3)) h) :
    Rn xs xl e mm_Reader_takeNumber 52 [some (.inr (.inr 2)), some (.inl v1), some (.inl v2), some (.inl v3)] [] h Q := by
  refine R_ld (v := .inl v3) dd_Reader_takeNumber_52 rfl rfl rfl rfl ?_
  exact R_iret dd_Reader_takeNumber_53 rfl k
theorem B_Reader_takeOtherRoom_0 {xs : Nat → Int} {xl e : Nat} {h : LH} {Q : Option LV → LH → Prop} {v1 v2 : Int} (hF : RF h)
    (k : ((rd h 2 3) ≠ 3 →
        (-2147483648 ≤ v2 - 1 ∧ v2 - 1 ≤ 2147483647) ∧
        (∃ c, c < e ∧ Rn xs xl c mm_Reader_takeNumber 0 [some (.inr (.inr 2)), some (.inl 0), some (.inl (v2 - 1)), none] [] h (fun r h' => Rn xs xl e mm_Reader_takeOtherRoom 33 [some (.inr (.inr 2)), some (.inl v1), some (.inl v2)] (r.toList ++ []) h' Q))) ∧
      ((rd h 2 3) = 3 →
        ((lcmp_ (rd h 2 6) v1) ≠ 0 →
          (-2147483648 ≤ v2 - 1 ∧ v2 - 1 ≤ 2147483647) ∧
          (∃ c, c < e ∧ Rn xs xl c mm_Reader_takeNumber 0 [some (.inr (.inr 2)), some (.inl 0), some (.inl (v2 - 1)), none] [] h (fun r h' => Rn xs xl e mm_Reader_takeOtherRoom 33 [some (.inr (.inr 2)), some (.inl v1), some (.inl v2)] (r.toList ++ []) h' Q))) ∧
        ((lcmp_ (rd h 2 6) v1) = 0 →
          (∃ c, c < e ∧ Rn xs xl c mm_Reader_fail 0 [some (.inr (.inr 2)), some (.inl 3)] [] h (fun r h' => Rn xs xl e mm_Reader_takeOtherRoom 23 [some (.inr (.inr 2)), some (.inl v1), some (.inl v2)] (r.toList ++ []) h' Q))))) :
    Rn xs xl e mm_Reader_takeOtherRoom 0 [some (.inr (.inr 2)), some (.inl v1), some (.inl v2)] [] h Q := by
  refine R_ld (v := .inr (.inr 2)) dd_Reader_takeOtherRoom_0 rfl rfl rfl rfl ?_
  refine R_gf (v := .inl (rd h 2 3)) dd_Reader_takeOtherRoom_1 fd_7_64 io_2 (congrArg (fun z : Int => (Sum.inl z : LV)) (rfl)) rfl ?_
  refine R_ic dd_Reader_takeOtherRoom_4 (by decide) rfl ?_
  refine R_icmp dd_Reader_takeOtherRoom_5 rfl rfl (fun (c6 : (rd h 2 3) ≠ 3) => ?_) (fun (c6 : (rd h 2 3) = 3) => ?_)
  · replace k := k.1 c6
    refine R_ld (v := .inr (.inr 2)) dd_Reader_takeOtherRoom_25 rfl rfl rfl rfl ?_
    refine R_ic dd_Reader_takeOtherRoom_26 (by decide) rfl ?_
    refine R_ld (v := .inl v2) dd_Reader_takeOtherRoom_27 rfl rfl rfl rfl ?_
    refine R_ic dd_Reader_takeOtherRoom_28 (by decide) rfl ?_
    obtain ⟨s1, k⟩ := k
    refine R_isub (c := v2 - 1) dd_Reader_takeOtherRoom_29 (by omega) s1 rfl ?_
    obtain ⟨c, hc, k⟩ := k
    exact R_call (as := [.inr (.inr 2), .inl 0, .inl (v2 - 1)]) (rest := []) (M' := mm_Reader_takeNumber) (ls0 := [some (.inr (.inr 2)), some (.inl 0), some (.inl (v2 - 1)), none]) dd_Reader_takeOtherRoom_30 rfl rfl (cw_v cw_7_50 io_2 rfl rfl (Nat.le_of_ble_eq_true rfl) (Nat.le_of_ble_eq_true rfl)) mt_Reader_takeNumber rfl hc rfl k
  · replace k := k.2 c6
    refine R_ld (v := .inr (.inr 2)) dd_Reader_takeOtherRoom_8 rfl rfl rfl rfl ?_
    refine R_gf (v := .inr (.inl (rd h 2 6))) dd_Reader_takeOtherRoom_9 fd_7_174 io_2 (congrArg (fun z : Int => (Sum.inr (Sum.inl z) : LV)) (rfl)) rfl ?_
    refine R_ld (v := .inl v1) dd_Reader_takeOtherRoom_12 rfl rfl rfl rfl ?_
    refine R_A dd_Reader_takeOtherRoom_13 rfl rfl rfl rfl ?_
    refine R_A dd_Reader_takeOtherRoom_14 rfl rfl rfl rfl ?_
    refine R_if dd_Reader_takeOtherRoom_15 rfl rfl (fun (c7 : (lcmp_ (rd h 2 6) v1) ≠ 0) => ?_) (fun (c7 : (lcmp_ (rd h 2 6) v1) = 0) => ?_)
    · replace k := k.1 c7
      refine R_ld (v := .inr (.inr 2)) dd_Reader_takeOtherRoom_25 rfl rfl rfl rfl ?_
      refine R_ic dd_Reader_takeOtherRoom_26 (by decide) rfl ?_
      refine R_ld (v := .inl v2) dd_Reader_takeOtherRoom_27 rfl rfl rfl rfl ?_
      refine R_ic dd_Reader_takeOtherRoom_28 (by decide) rfl ?_
      obtain ⟨s3, k⟩ := k
      refine R_isub (c := v2 - 1) dd_Reader_takeOtherRoom_29 (by omega) s3 rfl ?_
      obtain ⟨c, hc, k⟩ := k
      exact R_call (as := [.inr (.inr 2), .inl 0, .inl (v2 - 1)]) (rest := []) (M' := mm_Reader_takeNumber) (ls0 := [some (.inr (.inr 2)), some (.inl 0), some (.inl (v2 - 1)), none]) dd_Reader_takeOtherRoom_30 rfl rfl (cw_v cw_7_50 io_2 rfl rfl (Nat.le_of_ble_eq_true rfl) (Nat.le_of_ble_eq_true rfl)) mt_Reader_takeNumber rfl hc rfl k
    · replace k := k.2 c7
      refine R_ld (v := .inr (.inr 2)) dd_Reader_takeOtherRoom_18 rfl rfl rfl rfl ?_
      refine R_ic dd_Reader_takeOtherRoom_19 (by decide) rfl ?_
      obtain ⟨c, hc, k⟩ := k
      exact R_call (as := [.inr (.inr 2), .inl 3]) (rest := []) (M' := mm_Reader_fail) (ls0 := [some (.inr (.inr 2)), some (.inl 3)]) dd_Reader_takeOtherRoom_20 rfl rfl (cw_v cw_7_80 io_2 rfl rfl (Nat.le_of_ble_eq_true rfl) (Nat.le_of_ble_eq_true rfl)) mt_Reader_fail rfl hc rfl k
theorem B_Reader_takeOtherRoom_23 {xs : Nat → Int} {xl e : Nat} {h : LH} {Q : Option LV → LH → Prop} {v1 v2 : Int} (hF : RF h)
    (k : Q (some (.inl v1)) h) :
    Rn xs xl e mm_Reader_takeOtherRoom 23 [some (.inr (.inr 2)), some (.inl v1), some (.inl v2)] [] h Q := by
  refine R_ld (v := .inl v1) dd_Reader_takeOtherRoom_23 rfl rfl rfl rfl ?_
  exact R_iret dd_Reader_takeOtherRoom_24 rfl k
theorem B_Reader_takeOtherRoom_33 {xs : Nat → Int} {xl e : Nat} {h : LH} {Q : Option LV → LH → Prop} {v1 v2 w0 : Int} (hF : RF h)
    (k : Q (some (.inl w0)) h) :
    Rn xs xl e mm_Reader_takeOtherRoom 33 [some (.inr (.inr 2)), some (.inl v1), some (.inl v2)] [.inl w0] h Q := by
  exact R_iret dd_Reader_takeOtherRoom_33 rfl k
theorem B_Reader_operatorOf_0 {xs : Nat → Int} {xl e : Nat} {h : LH} {Q : Option LV → LH → Prop} {v1 : Int} (hF : RF h)
    (k : (v1 = 0 →
        Rn xs xl e mm_Reader_operatorOf 28 [some (.inr (.inr 2)), some (.inl v1)] [] h Q) ∧
      (v1 = 1 →
        Rn xs xl e mm_Reader_operatorOf 60 [some (.inr (.inr 2)), some (.inl v1)] [] h Q) ∧
      (v1 = 2 →
        Rn xs xl e mm_Reader_operatorOf 92 [some (.inr (.inr 2)), some (.inl v1)] [] h Q) ∧
      (v1 < 0 ∨ 2 < v1 →
        Rn xs xl e mm_Reader_operatorOf 124 [some (.inr (.inr 2)), some (.inl v1)] [] h Q)) :
    Rn xs xl e mm_Reader_operatorOf 0 [some (.inr (.inr 2)), some (.inl v1)] [] h Q := by
  refine R_ld (v := .inl v1) dd_Reader_operatorOf_0 rfl rfl rfl rfl ?_
  rcases (show (v1 = 0) ∨ (v1 = 1) ∨ (v1 = 2) ∨ (v1 < 0 ∨ 2 < v1) by omega) with c1 | c1 | c1 | c1
  · replace k := k.1 c1
    refine R_swj (v := 0) dd_Reader_operatorOf_1 c1 (by decide) rfl rfl ?_
    exact k
  · replace k := k.2.1 c1
    refine R_swj (v := 1) dd_Reader_operatorOf_1 c1 (by decide) rfl rfl ?_
    exact k
  · replace k := k.2.2.1 c1
    refine R_swj (v := 2) dd_Reader_operatorOf_1 c1 (by decide) rfl rfl ?_
    exact k
  · replace k := k.2.2.2 c1
    refine R_swd dd_Reader_operatorOf_1 c1 rfl ?_
    exact k
theorem B_Reader_operatorOf_28 {xs : Nat → Int} {xl e : Nat} {h : LH} {Q : Option LV → LH → Prop} {v1 : Int} (hF : RF h)
    (k : ((rd h 2 7) ≠ 23 →
        ((rd h 2 7) ≠ 24 →
          Q (some (.inl (-1))) h) ∧
        ((rd h 2 7) = 24 →
          Q (some (.inl 10006)) h)) ∧
      ((rd h 2 7) = 23 →
        Q (some (.inl 10005)) h)) :
    Rn xs xl e mm_Reader_operatorOf 28 [some (.inr (.inr 2)), some (.inl v1)] [] h Q := by
  refine R_ld (v := .inr (.inr 2)) dd_Reader_operatorOf_28 rfl rfl rfl rfl ?_
  refine R_gf (v := .inl (rd h 2 7)) dd_Reader_operatorOf_29 fd_7_67 io_2 (congrArg (fun z : Int => (Sum.inl z : LV)) (rfl)) rfl ?_
  refine R_bi dd_Reader_operatorOf_32 (by decide) rfl ?_
  refine R_icmp dd_Reader_operatorOf_34 rfl rfl (fun (c1 : (rd h 2 7) ≠ 23) => ?_) (fun (c1 : (rd h 2 7) = 23) => ?_)
  · replace k := k.1 c1
    refine R_ld (v := .inr (.inr 2)) dd_Reader_operatorOf_43 rfl rfl rfl rfl ?_
    refine R_gf (v := .inl (rd h 2 7)) dd_Reader_operatorOf_44 fd_7_67 io_2 (congrArg (fun z : Int => (Sum.inl z : LV)) (rfl)) rfl ?_
    refine R_bi dd_Reader_operatorOf_47 (by decide) rfl ?_
    refine R_icmp dd_Reader_operatorOf_49 rfl rfl (fun (c2 : (rd h 2 7) ≠ 24) => ?_) (fun (c2 : (rd h 2 7) = 24) => ?_)
    · replace k := k.1 c2
      refine R_ic dd_Reader_operatorOf_58 (by decide) rfl ?_
      exact R_iret dd_Reader_operatorOf_59 rfl k
    · replace k := k.2 c2
      refine R_si dd_Reader_operatorOf_52 (by decide) rfl ?_
      refine R_goto dd_Reader_operatorOf_55 rfl ?_
      exact R_iret dd_Reader_operatorOf_59 rfl k
  · replace k := k.2 c1
    refine R_si dd_Reader_operatorOf_37 (by decide) rfl ?_
    refine R_goto dd_Reader_operatorOf_40 rfl ?_
    exact R_iret dd_Reader_operatorOf_59 rfl k
theorem B_Reader_operatorOf_60 {xs : Nat → Int} {xl e : Nat} {h : LH} {Q : Option LV → LH → Prop} {v1 : Int} (hF : RF h)
    (k : (∃ c, c < e ∧ Rn xs xl c mm_Reader_isSign 0 [some (.inr (.inr 2)), some (.inl 60)] [] h (fun r h' => Rn xs xl e mm_Reader_operatorOf 66 [some (.inr (.inr 2)), some (.inl v1)] (r.toList ++ []) h' Q))) :
    Rn xs xl e mm_Reader_operatorOf 60 [some (.inr (.inr 2)), some (.inl v1)] [] h Q := by
  refine R_ld (v := .inr (.inr 2)) dd_Reader_operatorOf_60 rfl rfl rfl rfl ?_
  refine R_bi dd_Reader_operatorOf_61 (by decide) rfl ?_
  obtain ⟨c, hc, k⟩ := k
  exact R_call (as := [.inr (.inr 2), .inl 60]) (rest := []) (M' := mm_Reader_isSign) (ls0 := [some (.inr (.inr 2)), some (.inl 60)]) dd_Reader_operatorOf_63 rfl rfl (cw_v cw_7_201 io_2 rfl rfl (Nat.le_of_ble_eq_true rfl) (Nat.le_of_ble_eq_true rfl)) mt_Reader_isSign rfl hc rfl k
theorem B_Reader_operatorOf_66 {xs : Nat → Int} {xl e : Nat} {h : LH} {Q : Option LV → LH → Prop} {v1 w0 : Int} (hF : RF h)
    (k : (w0 = 0 →
        (∃ c, c < e ∧ Rn xs xl c mm_Reader_isSign 0 [some (.inr (.inr 2)), some (.inl 61)] [] h (fun r h' => Rn xs xl e mm_Reader_operatorOf 81 [some (.inr (.inr 2)), some (.inl v1)] (r.toList ++ []) h' Q))) ∧
      (w0 ≠ 0 →
        Q (some (.inl 10007)) h)) :
    Rn xs xl e mm_Reader_operatorOf 66 [some (.inr (.inr 2)), some (.inl v1)] [.inl w0] h Q := by
  refine R_if dd_Reader_operatorOf_66 rfl rfl (fun (c2 : w0 = 0) => ?_) (fun (c2 : w0 ≠ 0) => ?_)
  · replace k := k.1 c2
    refine R_ld (v := .inr (.inr 2)) dd_Reader_operatorOf_75 rfl rfl rfl rfl ?_
    refine R_bi dd_Reader_operatorOf_76 (by decide) rfl ?_
    obtain ⟨c, hc, k⟩ := k
    exact R_call (as := [.inr (.inr 2), .inl 61]) (rest := []) (M' := mm_Reader_isSign) (ls0 := [some (.inr (.inr 2)), some (.inl 61)]) dd_Reader_operatorOf_78 rfl rfl (cw_v cw_7_201 io_2 rfl rfl (Nat.le_of_ble_eq_true rfl) (Nat.le_of_ble_eq_true rfl)) mt_Reader_isSign rfl hc rfl k
  · replace k := k.2 c2
    refine R_si dd_Reader_operatorOf_69 (by decide) rfl ?_
    refine R_goto dd_Reader_operatorOf_72 rfl ?_
    exact R_iret dd_Reader_operatorOf_91 rfl k
theorem B_Reader_operatorOf_81 {xs : Nat → Int} {xl e : Nat} {h : LH} {Q : Option LV → LH → Prop} {v1 w0 : Int} (hF : RF h)
    (k : (w0 = 0 →
        Q (some (.inl (-1))) h) ∧
      (w0 ≠ 0 →
        Q (some (.inl 10008)) h)) :
    Rn xs xl e mm_Reader_operatorOf 81 [some (.inr (.inr 2)), some (.inl v1)] [.inl w0] h Q := by
  refine R_if dd_Reader_operatorOf_81 rfl rfl (fun (c1 : w0 = 0) => ?_) (fun (c1 : w0 ≠ 0) => ?_)
  · replace k := k.1 c1
    refine R_ic dd_Reader_operatorOf_90 (by decide) rfl ?_
    exact R_iret dd_Reader_operatorOf_91 rfl k
  · replace k := k.2 c1
    refine R_si dd_Reader_operatorOf_84 (by decide) rfl ?_
    refine R_goto dd_Reader_operatorOf_87 rfl ?_
    exact R_iret dd_Reader_operatorOf_91 rfl k
theorem B_Reader_operatorOf_92 {xs : Nat → Int} {xl e : Nat} {h : LH} {Q : Option LV → LH → Prop} {v1 : Int} (hF : RF h)
    (k : (∃ c, c < e ∧ Rn xs xl c mm_Reader_isSign 0 [some (.inr (.inr 2)), some (.inl 43)] [] h (fun r h' => Rn xs xl e mm_Reader_operatorOf 98 [some (.inr (.inr 2)), some (.inl v1)] (r.toList ++ []) h' Q))) :
    Rn xs xl e mm_Reader_operatorOf 92 [some (.inr (.inr 2)), some (.inl v1)] [] h Q := by
  refine R_ld (v := .inr (.inr 2)) dd_Reader_operatorOf_92 rfl rfl rfl rfl ?_
  refine R_bi dd_Reader_operatorOf_93 (by decide) rfl ?_
  obtain ⟨c, hc, k⟩ := k
  exact R_call (as := [.inr (.inr 2), .inl 43]) (rest := []) (M' := mm_Reader_isSign) (ls0 := [some (.inr (.inr 2)), some (.inl 43)]) dd_Reader_operatorOf_95 rfl rfl (cw_v cw_7_201 io_2 rfl rfl (Nat.le_of_ble_eq_true rfl) (Nat.le_of_ble_eq_true rfl)) mt_Reader_isSign rfl hc rfl k
theorem B_Reader_operatorOf_98 {xs : Nat → Int} {xl e : Nat} {h : LH} {Q : Option LV → LH → Prop} {v1 w0 : Int} (hF : RF h)
    (k : (w0 = 0 →
        (∃ c, c < e ∧ Rn xs xl c mm_Reader_isSign 0 [some (.inr (.inr 2)), some (.inl 45)] [] h (fun r h' => Rn xs xl e mm_Reader_operatorOf 113 [some (.inr (.inr 2)), some (.inl v1)] (r.toList ++ []) h' Q))) ∧
      (w0 ≠ 0 →
        Q (some (.inl 10009)) h)) :
    Rn xs xl e mm_Reader_operatorOf 98 [some (.inr (.inr 2)), some (.inl v1)] [.inl w0] h Q := by
  refine R_if dd_Reader_operatorOf_98 rfl rfl (fun (c2 : w0 = 0) => ?_) (fun (c2 : w0 ≠ 0) => ?_)
  · replace k := k.1 c2
    refine R_ld (v := .inr (.inr 2)) dd_Reader_operatorOf_107 rfl rfl rfl rfl ?_
    refine R_bi dd_Reader_operatorOf_108 (by decide) rfl ?_
    obtain ⟨c, hc, k⟩ := k
    exact R_call (as := [.inr (.inr 2), .inl 45]) (rest := []) (M' := mm_Reader_isSign) (ls0 := [some (.inr (.inr 2)), some (.inl 45)]) dd_Reader_operatorOf_110 rfl rfl (cw_v cw_7_201 io_2 rfl rfl (Nat.le_of_ble_eq_true rfl) (Nat.le_of_ble_eq_true rfl)) mt_Reader_isSign rfl hc rfl k
  · replace k := k.2 c2
    refine R_si dd_Reader_operatorOf_101 (by decide) rfl ?_
    refine R_goto dd_Reader_operatorOf_104 rfl ?_
    exact R_iret dd_Reader_operatorOf_123 rfl k
theorem B_Reader_operatorOf_113 {xs : Nat → Int} {xl e : Nat} {h : LH} {Q : Option LV → LH → Prop} {v1 w0 : Int} (hF : RF h)
    (k : (w0 = 0 →
        Q (some (.inl (-1))) h) ∧
      (w0 ≠ 0 →
        Q (some (.inl 10010)) h)) :
    Rn xs xl e mm_Reader_operatorOf 113 [some (.inr (.inr 2)), some (.inl v1)] [.inl w0] h Q := by
  refine R_if dd_Reader_operatorOf_113 rfl rfl (fun (c1 : w0 = 0) => ?_) (fun (c1 : w0 ≠ 0) => ?_)
  · replace k := k.1 c1
    refine R_ic dd_Reader_operatorOf_122 (by decide) rfl ?_
    exact R_iret dd_Reader_operatorOf_123 rfl k
  · replace k := k.2 c1
    refine R_si dd_Reader_operatorOf_116 (by decide) rfl ?_
    refine R_goto dd_Reader_operatorOf_119 rfl ?_
    exact R_iret dd_Reader_operatorOf_123 rfl k
theorem B_Reader_operatorOf_124 {xs : Nat → Int} {xl e : Nat} {h : LH} {Q : Option LV → LH → Prop} {v1 : Int} (hF : RF h)
    (k : (∃ c, c < e ∧ Rn xs xl c mm_Reader_isSign 0 [some (.inr (.inr 2)), some (.inl 42)] [] h (fun r h' => Rn xs xl e mm_Reader_operatorOf 130 [some (.inr (.inr 2)), some (.inl v1)] (r.toList ++ []) h' Q))) :
    Rn xs xl e mm_Reader_operatorOf 124 [some (.inr (.inr 2)), some (.inl v1)] [] h Q := by
  refine R_ld (v := .inr (.inr 2)) dd_Reader_operatorOf_124 rfl rfl rfl rfl ?_
  refine R_bi dd_Reader_operatorOf_125 (by decide) rfl ?_
  obtain ⟨c, hc, k⟩ := k
  exact R_call (as := [.inr (.inr 2), .inl 42]) (rest := []) (M' := mm_Reader_isSign) (ls0 := [some (.inr (.inr 2)), some (.inl 42)]) dd_Reader_operatorOf_127 rfl rfl (cw_v cw_7_201 io_2 rfl rfl (Nat.le_of_ble_eq_true rfl) (Nat.le_of_ble_eq_true rfl)) mt_Reader_isSign rfl hc rfl k
theorem B_Reader_operatorOf_130 {xs : Nat → Int} {xl e : Nat} {h : LH} {Q : Option LV → LH → Prop} {v1 w0 : Int} (hF : RF h)
    (k : (w0 = 0 →
        Q (some (.inl (-1))) h) ∧
      (w0 ≠ 0 →
        Q (some (.inl 10011)) h)) :
    Rn xs xl e mm_Reader_operatorOf 130 [some (.inr (.inr 2)), some (.inl v1)] [.inl w0] h Q := by
  refine R_if dd_Reader_operatorOf_130 rfl rfl (fun (c1 : w0 = 0) => ?_) (fun (c1 : w0 ≠ 0) => ?_)
  · replace k := k.1 c1
    refine R_ic dd_Reader_operatorOf_139 (by decide) rfl ?_
    exact R_iret dd_Reader_operatorOf_140 rfl k
  · replace k := k.2 c1
    refine R_si dd_Reader_operatorOf_133 (by decide) rfl ?_
    refine R_goto dd_Reader_operatorOf_136 rfl ?_
    exact R_iret dd_Reader_operatorOf_140 rfl k
