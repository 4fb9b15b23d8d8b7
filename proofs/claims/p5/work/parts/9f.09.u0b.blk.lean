/-! LM, by program (wip/p2/hand.py): rows of rings -/
def mm_Web_roomsFrom : LM_M := (⟨"OneSided$Web", "roomsFrom", "(LOneSided$Quarter;III)I"⟩, prog_12_method_2_code, 7, (some .int), 10, 4, 1, 940, 939, 0)
def mm_Web_ringOf : LM_M := (⟨"OneSided$Web", "ringOf", "(LOneSided$Quarter;III)I"⟩, prog_12_method_3_code, 4, (some .int), 10, 4, 1, 937, 936, 0)
def mm_OneSided_ahead : LM_M := (⟨"OneSided", "ahead", "(II)I"⟩, prog_1_method_36_code, 3, (some .int), 11, 3, 0, 928, 927, 1000037)
def mm_OneSided_back : LM_M := (⟨"OneSided", "back", "(II)I"⟩, prog_1_method_37_code, 3, (some .int), 11, 3, 0, 933, 932, 1000038)
def mm_laysInto : LM_M := (⟨"OneSidedModel", "laysInto", "(IIII)V"⟩, prog_14_method_79_code, 8, none, 12, 5, 0, 1702, 1701, 1000115)
def mm_homelessOf : LM_M := (⟨"OneSidedModel", "homelessOf", "(I)I"⟩, prog_14_method_82_code, 4, (some .int), 12, 2, 0, 1710, 1709, 1000117)
def mm_mayAsk : LM_M := (⟨"OneSidedModel", "mayAsk", "(II)Z"⟩, prog_14_method_81_code, 3, (some .boolean), 12, 3, 0, 1698, 1697, 1000114)
theorem dd_Web_roomsFrom_0 : decode mm_Web_roomsFrom.2.1 0 = .ok (.iconst 1, 1) := by decide +kernel
theorem dd_Web_roomsFrom_1 : decode mm_Web_roomsFrom.2.1 1 = .ok (.iload_n 3, 1) := by decide +kernel
theorem dd_Web_roomsFrom_2 : decode mm_Web_roomsFrom.2.1 2 = .ok (.ishl, 1) := by decide +kernel
theorem dd_Web_roomsFrom_3 : decode mm_Web_roomsFrom.2.1 3 = .ok (.istore 4, 2) := by decide +kernel
theorem dd_Web_roomsFrom_5 : decode mm_Web_roomsFrom.2.1 5 = .ok (.iconst 0, 1) := by decide +kernel
theorem dd_Web_roomsFrom_6 : decode mm_Web_roomsFrom.2.1 6 = .ok (.istore 5, 2) := by decide +kernel
theorem dd_Web_roomsFrom_8 : decode mm_Web_roomsFrom.2.1 8 = .ok (.iload 5, 2) := by decide +kernel
theorem dd_Web_roomsFrom_10 : decode mm_Web_roomsFrom.2.1 10 = .ok (.bipush 10, 2) := by decide +kernel
theorem dd_Web_roomsFrom_12 : decode mm_Web_roomsFrom.2.1 12 = .ok (.if_icmp .ge (36), 3) := by decide +kernel
theorem dd_Web_roomsFrom_48 : decode mm_Web_roomsFrom.2.1 48 = .ok (.iload 4, 2) := by decide +kernel
theorem dd_Web_roomsFrom_50 : decode mm_Web_roomsFrom.2.1 50 = .ok (.ireturn, 1) := by decide +kernel
theorem dd_Web_roomsFrom_15 : decode mm_Web_roomsFrom.2.1 15 = .ok (.iload 4, 2) := by decide +kernel
theorem dd_Web_roomsFrom_17 : decode mm_Web_roomsFrom.2.1 17 = .ok (.aload_n 0, 1) := by decide +kernel
theorem dd_Web_roomsFrom_18 : decode mm_Web_roomsFrom.2.1 18 = .ok (.iload_n 1, 1) := by decide +kernel
theorem dd_Web_roomsFrom_19 : decode mm_Web_roomsFrom.2.1 19 = .ok (.iload_n 2, 1) := by decide +kernel
theorem dd_Web_roomsFrom_20 : decode mm_Web_roomsFrom.2.1 20 = .ok (.iload 4, 2) := by decide +kernel
theorem dd_Web_roomsFrom_22 : decode mm_Web_roomsFrom.2.1 22 = .ok (.invokevirtual 21, 3) := by decide +kernel
theorem cw_10_21 : cwOk 10 21 0 84 4 7 6 = true := by decide +kernel
theorem dd_Web_roomsFrom_25 : decode mm_Web_roomsFrom.2.1 25 = .ok (.ior, 1) := by decide +kernel
theorem dd_Web_roomsFrom_26 : decode mm_Web_roomsFrom.2.1 26 = .ok (.istore 6, 2) := by decide +kernel
theorem dd_Web_roomsFrom_28 : decode mm_Web_roomsFrom.2.1 28 = .ok (.iload 6, 2) := by decide +kernel
theorem dd_Web_roomsFrom_30 : decode mm_Web_roomsFrom.2.1 30 = .ok (.iload 4, 2) := by decide +kernel
theorem dd_Web_roomsFrom_32 : decode mm_Web_roomsFrom.2.1 32 = .ok (.if_icmp .ne (6), 3) := by decide +kernel
theorem dd_Web_roomsFrom_38 : decode mm_Web_roomsFrom.2.1 38 = .ok (.iload 6, 2) := by decide +kernel
theorem dd_Web_roomsFrom_40 : decode mm_Web_roomsFrom.2.1 40 = .ok (.istore 4, 2) := by decide +kernel
theorem dd_Web_roomsFrom_42 : decode mm_Web_roomsFrom.2.1 42 = .ok (.iinc 5 1, 3) := by decide +kernel
theorem dd_Web_roomsFrom_45 : decode mm_Web_roomsFrom.2.1 45 = .ok (.goto (-37), 3) := by decide +kernel
theorem dd_Web_roomsFrom_35 : decode mm_Web_roomsFrom.2.1 35 = .ok (.goto 13, 3) := by decide +kernel
theorem dd_Web_ringOf_0 : decode mm_Web_ringOf.2.1 0 = .ok (.aload_n 0, 1) := by decide +kernel
theorem dd_Web_ringOf_1 : decode mm_Web_ringOf.2.1 1 = .ok (.iload_n 1, 1) := by decide +kernel
theorem dd_Web_ringOf_2 : decode mm_Web_ringOf.2.1 2 = .ok (.iload_n 2, 1) := by decide +kernel
theorem dd_Web_ringOf_3 : decode mm_Web_ringOf.2.1 3 = .ok (.iload_n 3, 1) := by decide +kernel
theorem dd_Web_ringOf_4 : decode mm_Web_ringOf.2.1 4 = .ok (.invokestatic 27, 3) := by decide +kernel
theorem cw_10_27 : cwOk 10 27 1 100 4 7 10 = true := by decide +kernel
theorem mt_Web_roomsFrom : MTB 100 = some mm_Web_roomsFrom := rfl
theorem dd_Web_ringOf_7 : decode mm_Web_ringOf.2.1 7 = .ok (.aload_n 0, 1) := by decide +kernel
theorem dd_Web_ringOf_8 : decode mm_Web_ringOf.2.1 8 = .ok (.iload_n 2, 1) := by decide +kernel
theorem dd_Web_ringOf_9 : decode mm_Web_ringOf.2.1 9 = .ok (.iload_n 1, 1) := by decide +kernel
theorem dd_Web_ringOf_10 : decode mm_Web_ringOf.2.1 10 = .ok (.iload_n 3, 1) := by decide +kernel
theorem dd_Web_ringOf_11 : decode mm_Web_ringOf.2.1 11 = .ok (.invokestatic 27, 3) := by decide +kernel
theorem dd_Web_ringOf_14 : decode mm_Web_ringOf.2.1 14 = .ok (.iand, 1) := by decide +kernel
theorem dd_Web_ringOf_15 : decode mm_Web_ringOf.2.1 15 = .ok (.ireturn, 1) := by decide +kernel
theorem dd_OneSided_ring_0 : decode mm_OneSided_ring.2.1 0 = .ok (.aload_n 0, 1) := by decide +kernel
theorem dd_OneSided_ring_1 : decode mm_OneSided_ring.2.1 1 = .ok (.iload_n 1, 1) := by decide +kernel
theorem dd_OneSided_ring_2 : decode mm_OneSided_ring.2.1 2 = .ok (.invokevirtual 190, 3) := by decide +kernel
theorem dd_OneSided_ring_5 : decode mm_OneSided_ring.2.1 5 = .ok (.ifCond .eq (12), 3) := by decide +kernel
theorem dd_OneSided_ring_17 : decode mm_OneSided_ring.2.1 17 = .ok (.iconst (-1), 1) := by decide +kernel
theorem dd_OneSided_ring_18 : decode mm_OneSided_ring.2.1 18 = .ok (.ireturn, 1) := by decide +kernel
theorem dd_OneSided_ring_8 : decode mm_OneSided_ring.2.1 8 = .ok (.aload_n 0, 1) := by decide +kernel
theorem dd_OneSided_ring_9 : decode mm_OneSided_ring.2.1 9 = .ok (.iload_n 2, 1) := by decide +kernel
theorem dd_OneSided_ring_10 : decode mm_OneSided_ring.2.1 10 = .ok (.iload_n 3, 1) := by decide +kernel
theorem dd_OneSided_ring_11 : decode mm_OneSided_ring.2.1 11 = .ok (.invokevirtual 193, 3) := by decide +kernel
theorem dd_OneSided_ring_14 : decode mm_OneSided_ring.2.1 14 = .ok (.ifCond .ne (5), 3) := by decide +kernel
theorem dd_OneSided_ring_19 : decode mm_OneSided_ring.2.1 19 = .ok (.aload_n 0, 1) := by decide +kernel
theorem dd_OneSided_ring_20 : decode mm_OneSided_ring.2.1 20 = .ok (.getfield 19, 3) := by decide +kernel
theorem dd_OneSided_ring_23 : decode mm_OneSided_ring.2.1 23 = .ok (.aload_n 0, 1) := by decide +kernel
theorem dd_OneSided_ring_24 : decode mm_OneSided_ring.2.1 24 = .ok (.iload_n 2, 1) := by decide +kernel
theorem dd_OneSided_ring_25 : decode mm_OneSided_ring.2.1 25 = .ok (.iload_n 3, 1) := by decide +kernel
theorem dd_OneSided_ring_26 : decode mm_OneSided_ring.2.1 26 = .ok (.invokevirtual 257, 3) := by decide +kernel
theorem cw_11_257 : cwOk 11 257 0 97 3 3 11 = true := by decide +kernel
theorem mt_OneSided_ahead : MTB 97 = some mm_OneSided_ahead := rfl
theorem dd_OneSided_ahead_0 : decode mm_OneSided_ahead.2.1 0 = .ok (.aload_n 0, 1) := by decide +kernel
theorem dd_OneSided_ahead_1 : decode mm_OneSided_ahead.2.1 1 = .ok (.getfield 19, 3) := by decide +kernel
theorem dd_OneSided_ahead_4 : decode mm_OneSided_ahead.2.1 4 = .ok (.iload_n 1, 1) := by decide +kernel
theorem dd_OneSided_ahead_5 : decode mm_OneSided_ahead.2.1 5 = .ok (.iload_n 2, 1) := by decide +kernel
theorem dd_OneSided_ahead_6 : decode mm_OneSided_ahead.2.1 6 = .ok (.aload_n 0, 1) := by decide +kernel
theorem dd_OneSided_ahead_7 : decode mm_OneSided_ahead.2.1 7 = .ok (.getfield 29, 3) := by decide +kernel
theorem dd_OneSided_ahead_10 : decode mm_OneSided_ahead.2.1 10 = .ok (.getfield 149, 3) := by decide +kernel
theorem dd_OneSided_ahead_13 : decode mm_OneSided_ahead.2.1 13 = .ok (.getfield 153, 3) := by decide +kernel
theorem dd_OneSided_ahead_16 : decode mm_OneSided_ahead.2.1 16 = .ok (.invokevirtual 360, 3) := by decide +kernel
theorem cw_11_360 : cwOk 11 360 0 68 4 4 6 = true := by decide +kernel
theorem dd_OneSided_ahead_19 : decode mm_OneSided_ahead.2.1 19 = .ok (.ireturn, 1) := by decide +kernel
theorem dd_OneSided_ring_29 : decode mm_OneSided_ring.2.1 29 = .ok (.aload_n 0, 1) := by decide +kernel
theorem dd_OneSided_ring_30 : decode mm_OneSided_ring.2.1 30 = .ok (.iload_n 2, 1) := by decide +kernel
theorem dd_OneSided_ring_31 : decode mm_OneSided_ring.2.1 31 = .ok (.iload_n 3, 1) := by decide +kernel
theorem dd_OneSided_ring_32 : decode mm_OneSided_ring.2.1 32 = .ok (.invokevirtual 260, 3) := by decide +kernel
theorem cw_11_260 : cwOk 11 260 0 98 3 3 11 = true := by decide +kernel
theorem mt_OneSided_back : MTB 98 = some mm_OneSided_back := rfl
theorem dd_OneSided_back_0 : decode mm_OneSided_back.2.1 0 = .ok (.aload_n 0, 1) := by decide +kernel
theorem dd_OneSided_back_1 : decode mm_OneSided_back.2.1 1 = .ok (.getfield 19, 3) := by decide +kernel
theorem dd_OneSided_back_4 : decode mm_OneSided_back.2.1 4 = .ok (.iload_n 1, 1) := by decide +kernel
theorem dd_OneSided_back_5 : decode mm_OneSided_back.2.1 5 = .ok (.iload_n 2, 1) := by decide +kernel
theorem dd_OneSided_back_6 : decode mm_OneSided_back.2.1 6 = .ok (.aload_n 0, 1) := by decide +kernel
theorem dd_OneSided_back_7 : decode mm_OneSided_back.2.1 7 = .ok (.getfield 29, 3) := by decide +kernel
theorem dd_OneSided_back_10 : decode mm_OneSided_back.2.1 10 = .ok (.getfield 149, 3) := by decide +kernel
theorem dd_OneSided_back_13 : decode mm_OneSided_back.2.1 13 = .ok (.getfield 153, 3) := by decide +kernel
theorem dd_OneSided_back_16 : decode mm_OneSided_back.2.1 16 = .ok (.invokevirtual 364, 3) := by decide +kernel
theorem cw_11_364 : cwOk 11 364 0 69 4 4 6 = true := by decide +kernel
theorem dd_OneSided_back_19 : decode mm_OneSided_back.2.1 19 = .ok (.ireturn, 1) := by decide +kernel
theorem dd_OneSided_ring_35 : decode mm_OneSided_ring.2.1 35 = .ok (.iload_n 1, 1) := by decide +kernel
theorem dd_OneSided_ring_36 : decode mm_OneSided_ring.2.1 36 = .ok (.invokestatic 263, 3) := by decide +kernel
theorem cw_11_263 : cwOk 11 263 1 99 4 4 10 = true := by decide +kernel
theorem mt_Web_ringOf : MTB 99 = some mm_Web_ringOf := rfl
theorem dd_OneSided_ring_39 : decode mm_OneSided_ring.2.1 39 = .ok (.ireturn, 1) := by decide +kernel
theorem dd_OneSided_homeless_0 : decode mm_OneSided_homeless.2.1 0 = .ok (.aload_n 0, 1) := by decide +kernel
theorem dd_OneSided_homeless_1 : decode mm_OneSided_homeless.2.1 1 = .ok (.iload_n 1, 1) := by decide +kernel
theorem dd_OneSided_homeless_2 : decode mm_OneSided_homeless.2.1 2 = .ok (.invokevirtual 190, 3) := by decide +kernel
theorem dd_OneSided_homeless_5 : decode mm_OneSided_homeless.2.1 5 = .ok (.ifCond .eq (12), 3) := by decide +kernel
theorem dd_OneSided_homeless_17 : decode mm_OneSided_homeless.2.1 17 = .ok (.iconst (-1), 1) := by decide +kernel
theorem dd_OneSided_homeless_18 : decode mm_OneSided_homeless.2.1 18 = .ok (.ireturn, 1) := by decide +kernel
theorem dd_OneSided_homeless_8 : decode mm_OneSided_homeless.2.1 8 = .ok (.aload_n 0, 1) := by decide +kernel
theorem dd_OneSided_homeless_9 : decode mm_OneSided_homeless.2.1 9 = .ok (.iload_n 2, 1) := by decide +kernel
theorem dd_OneSided_homeless_10 : decode mm_OneSided_homeless.2.1 10 = .ok (.iload_n 3, 1) := by decide +kernel
theorem dd_OneSided_homeless_11 : decode mm_OneSided_homeless.2.1 11 = .ok (.invokevirtual 193, 3) := by decide +kernel
theorem dd_OneSided_homeless_14 : decode mm_OneSided_homeless.2.1 14 = .ok (.ifCond .ne (5), 3) := by decide +kernel
theorem dd_OneSided_homeless_19 : decode mm_OneSided_homeless.2.1 19 = .ok (.iconst 1, 1) := by decide +kernel
theorem dd_OneSided_homeless_20 : decode mm_OneSided_homeless.2.1 20 = .ok (.aload_n 0, 1) := by decide +kernel
theorem dd_OneSided_homeless_21 : decode mm_OneSided_homeless.2.1 21 = .ok (.getfield 19, 3) := by decide +kernel
theorem dd_OneSided_homeless_24 : decode mm_OneSided_homeless.2.1 24 = .ok (.getfield 267, 3) := by decide +kernel
theorem dd_OneSided_homeless_27 : decode mm_OneSided_homeless.2.1 27 = .ok (.ishl, 1) := by decide +kernel
theorem dd_OneSided_homeless_28 : decode mm_OneSided_homeless.2.1 28 = .ok (.iconst 1, 1) := by decide +kernel
theorem dd_OneSided_homeless_29 : decode mm_OneSided_homeless.2.1 29 = .ok (.isub, 1) := by decide +kernel
theorem dd_OneSided_homeless_30 : decode mm_OneSided_homeless.2.1 30 = .ok (.istore 4, 2) := by decide +kernel
theorem dd_OneSided_homeless_32 : decode mm_OneSided_homeless.2.1 32 = .ok (.iload 4, 2) := by decide +kernel
theorem dd_OneSided_homeless_34 : decode mm_OneSided_homeless.2.1 34 = .ok (.aload_n 0, 1) := by decide +kernel
theorem dd_OneSided_homeless_35 : decode mm_OneSided_homeless.2.1 35 = .ok (.getfield 19, 3) := by decide +kernel
theorem dd_OneSided_homeless_38 : decode mm_OneSided_homeless.2.1 38 = .ok (.aload_n 0, 1) := by decide +kernel
theorem dd_OneSided_homeless_39 : decode mm_OneSided_homeless.2.1 39 = .ok (.iload_n 2, 1) := by decide +kernel
theorem dd_OneSided_homeless_40 : decode mm_OneSided_homeless.2.1 40 = .ok (.iload_n 3, 1) := by decide +kernel
theorem dd_OneSided_homeless_41 : decode mm_OneSided_homeless.2.1 41 = .ok (.invokevirtual 260, 3) := by decide +kernel
theorem dd_OneSided_homeless_44 : decode mm_OneSided_homeless.2.1 44 = .ok (.aload_n 0, 1) := by decide +kernel
theorem dd_OneSided_homeless_45 : decode mm_OneSided_homeless.2.1 45 = .ok (.iload_n 2, 1) := by decide +kernel
theorem dd_OneSided_homeless_46 : decode mm_OneSided_homeless.2.1 46 = .ok (.iload_n 3, 1) := by decide +kernel
theorem dd_OneSided_homeless_47 : decode mm_OneSided_homeless.2.1 47 = .ok (.invokevirtual 257, 3) := by decide +kernel
theorem dd_OneSided_homeless_50 : decode mm_OneSided_homeless.2.1 50 = .ok (.iload_n 1, 1) := by decide +kernel
theorem dd_OneSided_homeless_51 : decode mm_OneSided_homeless.2.1 51 = .ok (.invokestatic 270, 3) := by decide +kernel
theorem cw_11_270 : cwOk 11 270 1 100 4 7 10 = true := by decide +kernel
theorem dd_OneSided_homeless_54 : decode mm_OneSided_homeless.2.1 54 = .ok (.iconst (-1), 1) := by decide +kernel
theorem dd_OneSided_homeless_55 : decode mm_OneSided_homeless.2.1 55 = .ok (.ixor, 1) := by decide +kernel
theorem dd_OneSided_homeless_56 : decode mm_OneSided_homeless.2.1 56 = .ok (.iand, 1) := by decide +kernel
theorem dd_OneSided_homeless_57 : decode mm_OneSided_homeless.2.1 57 = .ok (.ireturn, 1) := by decide +kernel
theorem dd_laysInto_0 : decode mm_laysInto.2.1 0 = .ok (.iconst 0, 1) := by decide +kernel
theorem dd_laysInto_1 : decode mm_laysInto.2.1 1 = .ok (.istore 5, 2) := by decide +kernel
theorem dd_laysInto_3 : decode mm_laysInto.2.1 3 = .ok (.iload 5, 2) := by decide +kernel
theorem dd_laysInto_5 : decode mm_laysInto.2.1 5 = .ok (.bipush 10, 2) := by decide +kernel
theorem dd_laysInto_7 : decode mm_laysInto.2.1 7 = .ok (.if_icmp .ge (82), 3) := by decide +kernel
theorem dd_laysInto_89 : decode mm_laysInto.2.1 89 = .ok (.return_, 1) := by decide +kernel
theorem dd_laysInto_10 : decode mm_laysInto.2.1 10 = .ok (.aload_n 0, 1) := by decide +kernel
theorem dd_laysInto_11 : decode mm_laysInto.2.1 11 = .ok (.getfield 147, 3) := by decide +kernel
theorem dd_laysInto_14 : decode mm_laysInto.2.1 14 = .ok (.iload 5, 2) := by decide +kernel
theorem dd_laysInto_16 : decode mm_laysInto.2.1 16 = .ok (.iconst 0, 1) := by decide +kernel
theorem dd_laysInto_17 : decode mm_laysInto.2.1 17 = .ok (.iastore, 1) := by decide +kernel
theorem dd_laysInto_18 : decode mm_laysInto.2.1 18 = .ok (.iconst 0, 1) := by decide +kernel
theorem dd_laysInto_19 : decode mm_laysInto.2.1 19 = .ok (.istore 6, 2) := by decide +kernel
theorem dd_laysInto_21 : decode mm_laysInto.2.1 21 = .ok (.iload 6, 2) := by decide +kernel
theorem dd_laysInto_23 : decode mm_laysInto.2.1 23 = .ok (.aload_n 0, 1) := by decide +kernel
theorem dd_laysInto_24 : decode mm_laysInto.2.1 24 = .ok (.invokevirtual 335, 3) := by decide +kernel
theorem dd_laysInto_27 : decode mm_laysInto.2.1 27 = .ok (.if_icmp .ge (56), 3) := by decide +kernel
theorem dd_laysInto_83 : decode mm_laysInto.2.1 83 = .ok (.iinc 5 1, 3) := by decide +kernel
theorem dd_laysInto_86 : decode mm_laysInto.2.1 86 = .ok (.goto (-83), 3) := by decide +kernel
theorem dd_laysInto_30 : decode mm_laysInto.2.1 30 = .ok (.iload 5, 2) := by decide +kernel
theorem dd_laysInto_32 : decode mm_laysInto.2.1 32 = .ok (.aload_n 0, 1) := by decide +kernel
theorem dd_laysInto_33 : decode mm_laysInto.2.1 33 = .ok (.invokevirtual 332, 3) := by decide +kernel
theorem dd_laysInto_36 : decode mm_laysInto.2.1 36 = .ok (.if_icmp .ge (47), 3) := by decide +kernel
theorem dd_laysInto_39 : decode mm_laysInto.2.1 39 = .ok (.aload_n 0, 1) := by decide +kernel
theorem dd_laysInto_40 : decode mm_laysInto.2.1 40 = .ok (.iload 6, 2) := by decide +kernel
theorem dd_laysInto_42 : decode mm_laysInto.2.1 42 = .ok (.iload_n 1, 1) := by decide +kernel
theorem dd_laysInto_43 : decode mm_laysInto.2.1 43 = .ok (.iload 5, 2) := by decide +kernel
theorem dd_laysInto_45 : decode mm_laysInto.2.1 45 = .ok (.iload_n 2, 1) := by decide +kernel
theorem dd_laysInto_46 : decode mm_laysInto.2.1 46 = .ok (.iload_n 3, 1) := by decide +kernel
theorem dd_laysInto_47 : decode mm_laysInto.2.1 47 = .ok (.iload 4, 2) := by decide +kernel
theorem dd_laysInto_49 : decode mm_laysInto.2.1 49 = .ok (.invokevirtual 360, 3) := by decide +kernel
theorem dd_laysInto_52 : decode mm_laysInto.2.1 52 = .ok (.istore 7, 2) := by decide +kernel
theorem dd_laysInto_54 : decode mm_laysInto.2.1 54 = .ok (.aload_n 0, 1) := by decide +kernel
theorem dd_laysInto_55 : decode mm_laysInto.2.1 55 = .ok (.getfield 147, 3) := by decide +kernel
theorem dd_laysInto_58 : decode mm_laysInto.2.1 58 = .ok (.iload 5, 2) := by decide +kernel
theorem dd_laysInto_60 : decode mm_laysInto.2.1 60 = .ok (.dup2, 1) := by decide +kernel
theorem dd_laysInto_61 : decode mm_laysInto.2.1 61 = .ok (.iaload, 1) := by decide +kernel
theorem dd_laysInto_62 : decode mm_laysInto.2.1 62 = .ok (.iload 7, 2) := by decide +kernel
theorem dd_laysInto_64 : decode mm_laysInto.2.1 64 = .ok (.ifCond .ge (7), 3) := by decide +kernel
theorem dd_laysInto_71 : decode mm_laysInto.2.1 71 = .ok (.iconst 1, 1) := by decide +kernel
theorem dd_laysInto_72 : decode mm_laysInto.2.1 72 = .ok (.iload 7, 2) := by decide +kernel
theorem dd_laysInto_74 : decode mm_laysInto.2.1 74 = .ok (.ishl, 1) := by decide +kernel
theorem dd_laysInto_75 : decode mm_laysInto.2.1 75 = .ok (.ior, 1) := by decide +kernel
theorem dd_laysInto_76 : decode mm_laysInto.2.1 76 = .ok (.iastore, 1) := by decide +kernel
theorem dd_laysInto_77 : decode mm_laysInto.2.1 77 = .ok (.iinc 6 1, 3) := by decide +kernel
theorem dd_laysInto_80 : decode mm_laysInto.2.1 80 = .ok (.goto (-59), 3) := by decide +kernel
theorem dd_laysInto_67 : decode mm_laysInto.2.1 67 = .ok (.iconst 0, 1) := by decide +kernel
theorem dd_laysInto_68 : decode mm_laysInto.2.1 68 = .ok (.goto 7, 3) := by decide +kernel
theorem dd_homelessOf_0 : decode mm_homelessOf.2.1 0 = .ok (.iconst 0, 1) := by decide +kernel
theorem dd_homelessOf_1 : decode mm_homelessOf.2.1 1 = .ok (.istore_n 2, 1) := by decide +kernel
theorem dd_homelessOf_2 : decode mm_homelessOf.2.1 2 = .ok (.iconst 0, 1) := by decide +kernel
theorem dd_homelessOf_3 : decode mm_homelessOf.2.1 3 = .ok (.istore_n 3, 1) := by decide +kernel
theorem dd_homelessOf_4 : decode mm_homelessOf.2.1 4 = .ok (.iload_n 3, 1) := by decide +kernel
theorem dd_homelessOf_5 : decode mm_homelessOf.2.1 5 = .ok (.aload_n 0, 1) := by decide +kernel
theorem dd_homelessOf_6 : decode mm_homelessOf.2.1 6 = .ok (.invokevirtual 332, 3) := by decide +kernel
theorem dd_homelessOf_9 : decode mm_homelessOf.2.1 9 = .ok (.if_icmp .ge (31), 3) := by decide +kernel
theorem dd_homelessOf_40 : decode mm_homelessOf.2.1 40 = .ok (.iload_n 2, 1) := by decide +kernel
theorem dd_homelessOf_41 : decode mm_homelessOf.2.1 41 = .ok (.ireturn, 1) := by decide +kernel
theorem dd_homelessOf_12 : decode mm_homelessOf.2.1 12 = .ok (.iload_n 2, 1) := by decide +kernel
theorem dd_homelessOf_13 : decode mm_homelessOf.2.1 13 = .ok (.aload_n 0, 1) := by decide +kernel
theorem dd_homelessOf_14 : decode mm_homelessOf.2.1 14 = .ok (.iload_n 3, 1) := by decide +kernel
theorem dd_homelessOf_15 : decode mm_homelessOf.2.1 15 = .ok (.invokevirtual 419, 3) := by decide +kernel
theorem cw_12_419 : cwOk 12 419 0 235 2 5 12 = true := by decide +kernel
theorem mt_closure : MTB 235 = some mm_closure := rfl
theorem dd_homelessOf_18 : decode mm_homelessOf.2.1 18 = .ok (.iload_n 1, 1) := by decide +kernel
theorem dd_homelessOf_19 : decode mm_homelessOf.2.1 19 = .ok (.invokestatic 350, 3) := by decide +kernel
theorem dd_homelessOf_22 : decode mm_homelessOf.2.1 22 = .ok (.ifCond .eq (7), 3) := by decide +kernel
theorem dd_homelessOf_29 : decode mm_homelessOf.2.1 29 = .ok (.iconst 1, 1) := by decide +kernel
theorem dd_homelessOf_30 : decode mm_homelessOf.2.1 30 = .ok (.iload_n 3, 1) := by decide +kernel
theorem dd_homelessOf_31 : decode mm_homelessOf.2.1 31 = .ok (.ishl, 1) := by decide +kernel
theorem dd_homelessOf_32 : decode mm_homelessOf.2.1 32 = .ok (.ior, 1) := by decide +kernel
theorem dd_homelessOf_33 : decode mm_homelessOf.2.1 33 = .ok (.istore_n 2, 1) := by decide +kernel
theorem dd_homelessOf_34 : decode mm_homelessOf.2.1 34 = .ok (.iinc 3 1, 3) := by decide +kernel
theorem dd_homelessOf_37 : decode mm_homelessOf.2.1 37 = .ok (.goto (-33), 3) := by decide +kernel
theorem dd_homelessOf_25 : decode mm_homelessOf.2.1 25 = .ok (.iconst 0, 1) := by decide +kernel
theorem dd_homelessOf_26 : decode mm_homelessOf.2.1 26 = .ok (.goto 6, 3) := by decide +kernel
theorem dd_ring_0 : decode mm_ring.2.1 0 = .ok (.aload_n 0, 1) := by decide +kernel
theorem dd_ring_1 : decode mm_ring.2.1 1 = .ok (.iconst 0, 1) := by decide +kernel
theorem dd_ring_2 : decode mm_ring.2.1 2 = .ok (.putfield 1, 3) := by decide +kernel
theorem dd_ring_5 : decode mm_ring.2.1 5 = .ok (.aload_n 0, 1) := by decide +kernel
theorem dd_ring_6 : decode mm_ring.2.1 6 = .ok (.iload_n 1, 1) := by decide +kernel
theorem dd_ring_7 : decode mm_ring.2.1 7 = .ok (.invokevirtual 370, 3) := by decide +kernel
theorem dd_ring_10 : decode mm_ring.2.1 10 = .ok (.ifCond .eq (12), 3) := by decide +kernel
theorem dd_ring_22 : decode mm_ring.2.1 22 = .ok (.iconst (-1), 1) := by decide +kernel
theorem dd_ring_23 : decode mm_ring.2.1 23 = .ok (.ireturn, 1) := by decide +kernel
theorem dd_ring_13 : decode mm_ring.2.1 13 = .ok (.aload_n 0, 1) := by decide +kernel
theorem dd_ring_14 : decode mm_ring.2.1 14 = .ok (.iload_n 2, 1) := by decide +kernel
theorem dd_ring_15 : decode mm_ring.2.1 15 = .ok (.iload_n 3, 1) := by decide +kernel
theorem dd_ring_16 : decode mm_ring.2.1 16 = .ok (.invokevirtual 422, 3) := by decide +kernel
theorem cw_12_422 : cwOk 12 422 0 233 3 3 12 = true := by decide +kernel
theorem mt_mayAsk : MTB 233 = some mm_mayAsk := rfl
theorem dd_mayAsk_0 : decode mm_mayAsk.2.1 0 = .ok (.iload_n 1, 1) := by decide +kernel
theorem dd_mayAsk_1 : decode mm_mayAsk.2.1 1 = .ok (.iconst 0, 1) := by decide +kernel
theorem dd_mayAsk_2 : decode mm_mayAsk.2.1 2 = .ok (.iconst 3, 1) := by decide +kernel
theorem dd_mayAsk_3 : decode mm_mayAsk.2.1 3 = .ok (.invokestatic 297, 3) := by decide +kernel
theorem dd_mayAsk_6 : decode mm_mayAsk.2.1 6 = .ok (.ifCond .eq (17), 3) := by decide +kernel
theorem dd_mayAsk_23 : decode mm_mayAsk.2.1 23 = .ok (.iconst 0, 1) := by decide +kernel
theorem dd_mayAsk_24 : decode mm_mayAsk.2.1 24 = .ok (.ireturn, 1) := by decide +kernel
theorem dd_ring_19 : decode mm_ring.2.1 19 = .ok (.ifCond .ne (5), 3) := by decide +kernel
theorem dd_mayAsk_9 : decode mm_mayAsk.2.1 9 = .ok (.iload_n 2, 1) := by decide +kernel
theorem dd_mayAsk_10 : decode mm_mayAsk.2.1 10 = .ok (.iconst 0, 1) := by decide +kernel
theorem dd_mayAsk_11 : decode mm_mayAsk.2.1 11 = .ok (.bipush 23, 2) := by decide +kernel
theorem dd_mayAsk_13 : decode mm_mayAsk.2.1 13 = .ok (.invokestatic 297, 3) := by decide +kernel
theorem dd_mayAsk_16 : decode mm_mayAsk.2.1 16 = .ok (.ifCond .eq (7), 3) := by decide +kernel
theorem dd_mayAsk_19 : decode mm_mayAsk.2.1 19 = .ok (.iconst 1, 1) := by decide +kernel
theorem dd_mayAsk_20 : decode mm_mayAsk.2.1 20 = .ok (.goto 4, 3) := by decide +kernel
theorem dd_ring_24 : decode mm_ring.2.1 24 = .ok (.aload_n 0, 1) := by decide +kernel
theorem dd_ring_25 : decode mm_ring.2.1 25 = .ok (.iload_n 2, 1) := by decide +kernel
theorem dd_ring_26 : decode mm_ring.2.1 26 = .ok (.iload_n 3, 1) := by decide +kernel
theorem dd_ring_27 : decode mm_ring.2.1 27 = .ok (.aload_n 0, 1) := by decide +kernel
theorem dd_ring_28 : decode mm_ring.2.1 28 = .ok (.getfield 125, 3) := by decide +kernel
theorem dd_ring_31 : decode mm_ring.2.1 31 = .ok (.iconst 1, 1) := by decide +kernel
theorem dd_ring_32 : decode mm_ring.2.1 32 = .ok (.iaload, 1) := by decide +kernel
theorem dd_ring_33 : decode mm_ring.2.1 33 = .ok (.iconst 0, 1) := by decide +kernel
theorem dd_ring_34 : decode mm_ring.2.1 34 = .ok (.invokevirtual 425, 3) := by decide +kernel
theorem cw_12_425 : cwOk 12 425 0 234 5 8 12 = true := by decide +kernel
theorem mt_laysInto : MTB 234 = some mm_laysInto := rfl
theorem dd_ring_37 : decode mm_ring.2.1 37 = .ok (.aload_n 0, 1) := by decide +kernel
theorem dd_ring_38 : decode mm_ring.2.1 38 = .ok (.iload_n 1, 1) := by decide +kernel
theorem dd_ring_39 : decode mm_ring.2.1 39 = .ok (.invokevirtual 419, 3) := by decide +kernel
theorem dd_ring_42 : decode mm_ring.2.1 42 = .ok (.aload_n 0, 1) := by decide +kernel
theorem dd_ring_43 : decode mm_ring.2.1 43 = .ok (.iload_n 1, 1) := by decide +kernel
theorem dd_ring_44 : decode mm_ring.2.1 44 = .ok (.invokevirtual 429, 3) := by decide +kernel
theorem cw_12_429 : cwOk 12 429 0 236 2 4 12 = true := by decide +kernel
theorem mt_homelessOf : MTB 236 = some mm_homelessOf := rfl
theorem dd_ring_47 : decode mm_ring.2.1 47 = .ok (.iconst (-1), 1) := by decide +kernel
theorem dd_ring_48 : decode mm_ring.2.1 48 = .ok (.ixor, 1) := by decide +kernel
theorem dd_ring_49 : decode mm_ring.2.1 49 = .ok (.iand, 1) := by decide +kernel
theorem dd_ring_50 : decode mm_ring.2.1 50 = .ok (.ireturn, 1) := by decide +kernel
theorem dd_homeless_0 : decode mm_homeless.2.1 0 = .ok (.aload_n 0, 1) := by decide +kernel
theorem dd_homeless_1 : decode mm_homeless.2.1 1 = .ok (.iconst 0, 1) := by decide +kernel
theorem dd_homeless_2 : decode mm_homeless.2.1 2 = .ok (.putfield 1, 3) := by decide +kernel
theorem dd_homeless_5 : decode mm_homeless.2.1 5 = .ok (.aload_n 0, 1) := by decide +kernel
theorem dd_homeless_6 : decode mm_homeless.2.1 6 = .ok (.iload_n 1, 1) := by decide +kernel
theorem dd_homeless_7 : decode mm_homeless.2.1 7 = .ok (.invokevirtual 370, 3) := by decide +kernel
theorem dd_homeless_10 : decode mm_homeless.2.1 10 = .ok (.ifCond .eq (12), 3) := by decide +kernel
theorem dd_homeless_22 : decode mm_homeless.2.1 22 = .ok (.iconst (-1), 1) := by decide +kernel
theorem dd_homeless_23 : decode mm_homeless.2.1 23 = .ok (.ireturn, 1) := by decide +kernel
theorem dd_homeless_13 : decode mm_homeless.2.1 13 = .ok (.aload_n 0, 1) := by decide +kernel
theorem dd_homeless_14 : decode mm_homeless.2.1 14 = .ok (.iload_n 2, 1) := by decide +kernel
theorem dd_homeless_15 : decode mm_homeless.2.1 15 = .ok (.iload_n 3, 1) := by decide +kernel
theorem dd_homeless_16 : decode mm_homeless.2.1 16 = .ok (.invokevirtual 422, 3) := by decide +kernel
theorem dd_homeless_19 : decode mm_homeless.2.1 19 = .ok (.ifCond .ne (5), 3) := by decide +kernel
theorem dd_homeless_24 : decode mm_homeless.2.1 24 = .ok (.aload_n 0, 1) := by decide +kernel
theorem dd_homeless_25 : decode mm_homeless.2.1 25 = .ok (.iload_n 2, 1) := by decide +kernel
theorem dd_homeless_26 : decode mm_homeless.2.1 26 = .ok (.iload_n 3, 1) := by decide +kernel
theorem dd_homeless_27 : decode mm_homeless.2.1 27 = .ok (.aload_n 0, 1) := by decide +kernel
theorem dd_homeless_28 : decode mm_homeless.2.1 28 = .ok (.getfield 125, 3) := by decide +kernel
theorem dd_homeless_31 : decode mm_homeless.2.1 31 = .ok (.iconst 1, 1) := by decide +kernel
theorem dd_homeless_32 : decode mm_homeless.2.1 32 = .ok (.iaload, 1) := by decide +kernel
theorem dd_homeless_33 : decode mm_homeless.2.1 33 = .ok (.iconst 0, 1) := by decide +kernel
theorem dd_homeless_34 : decode mm_homeless.2.1 34 = .ok (.invokevirtual 425, 3) := by decide +kernel
theorem dd_homeless_37 : decode mm_homeless.2.1 37 = .ok (.aload_n 0, 1) := by decide +kernel
theorem dd_homeless_38 : decode mm_homeless.2.1 38 = .ok (.iload_n 1, 1) := by decide +kernel
theorem dd_homeless_39 : decode mm_homeless.2.1 39 = .ok (.invokevirtual 429, 3) := by decide +kernel
theorem dd_homeless_42 : decode mm_homeless.2.1 42 = .ok (.ireturn, 1) := by decide +kernel
theorem B_Web_roomsFrom_0 {xs : Nat → Int} {xl e : Nat} {h : LH} {Q : Option LV → LH → Prop} {v1 v2 v3 : Int} {q : Int} (hq : q = 5 ∨ q = 32) (hF : RF h)
    (k : Rn xs xl e mm_Web_roomsFrom 8 [some (.inr (.inr q)), some (.inl v1), some (.inl v2), some (.inl v3), some (.inl (zshl 1 v3)), some (.inl 0), none] [] h Q) :
    Rn xs xl e mm_Web_roomsFrom 0 [some (.inr (.inr q)), some (.inl v1), some (.inl v2), some (.inl v3), none, none, none] [] h Q := by
  refine R_ic dd_Web_roomsFrom_0 (by decide) rfl ?_
  refine R_ld (v := .inl v3) dd_Web_roomsFrom_1 rfl rfl rfl rfl ?_
  refine R_A dd_Web_roomsFrom_2 rfl rfl rfl rfl ?_
  refine R_st (ls' := [some (.inr (.inr q)), some (.inl v1), some (.inl v2), some (.inl v3), some (.inl (zshl 1 v3)), none, none]) dd_Web_roomsFrom_3 rfl rfl rfl (Nat.le_of_ble_eq_true rfl) rfl rfl ?_
  refine R_ic dd_Web_roomsFrom_5 (by decide) rfl ?_
  refine R_st (ls' := [some (.inr (.inr q)), some (.inl v1), some (.inl v2), some (.inl v3), some (.inl (zshl 1 v3)), some (.inl 0), none]) dd_Web_roomsFrom_6 rfl rfl rfl (Nat.le_of_ble_eq_true rfl) rfl rfl ?_
  exact k
theorem B_Web_roomsFrom_8 {xs : Nat → Int} {xl e : Nat} {h : LH} {Q : Option LV → LH → Prop} {v1 v2 v3 v4 v5 : Int} {q : Int} (hq : q = 5 ∨ q = 32) {o6 : Option LV} (hF : RF h) (r_v5 : 0 ≤ v5 ∧ v5 ≤ 10)
    (k : (10 ≤ v5 →
        Q (some (.inl v4)) h) ∧
      (v5 < 10 →
        (∃ c, c < e ∧ Rn xs xl c mm_Quarter_entered 0 [some (.inr (.inr q)), some (.inl v1), some (.inl v2), some (.inl v4), none, none, none] [] h (fun r h' => Rn xs xl e mm_Web_roomsFrom 25 [some (.inr (.inr q)), some (.inl v1), some (.inl v2), some (.inl v3), some (.inl v4), some (.inl v5), o6] (r.toList ++ [.inl v4]) h' Q)))) :
    Rn xs xl e mm_Web_roomsFrom 8 [some (.inr (.inr q)), some (.inl v1), some (.inl v2), some (.inl v3), some (.inl v4), some (.inl v5), o6] [] h Q := by
  refine R_ld (v := .inl v5) dd_Web_roomsFrom_8 rfl rfl rfl rfl ?_
  refine R_bi dd_Web_roomsFrom_10 (by decide) rfl ?_
  refine R_icmp dd_Web_roomsFrom_12 rfl rfl (fun (c2 : 10 ≤ v5) => ?_) (fun (c2 : v5 < 10) => ?_)
  · replace k := k.1 c2
    refine R_ld (v := .inl v4) dd_Web_roomsFrom_48 rfl rfl rfl rfl ?_
    exact R_iret dd_Web_roomsFrom_50 rfl k
  · replace k := k.2 c2
    refine R_ld (v := .inl v4) dd_Web_roomsFrom_15 rfl rfl rfl rfl ?_
    refine R_ld (v := .inr (.inr q)) dd_Web_roomsFrom_17 rfl rfl rfl rfl ?_
    refine R_ld (v := .inl v1) dd_Web_roomsFrom_18 rfl rfl rfl rfl ?_
    refine R_ld (v := .inl v2) dd_Web_roomsFrom_19 rfl rfl rfl rfl ?_
    refine R_ld (v := .inl v4) dd_Web_roomsFrom_20 rfl rfl rfl rfl ?_
    obtain ⟨c, hc, k⟩ := k
    exact R_call (as := [.inr (.inr q), .inl v1, .inl v2, .inl v4]) (rest := [.inl v4]) (M' := mm_Quarter_entered) (ls0 := [some (.inr (.inr q)), some (.inl v1), some (.inl v2), some (.inl v4), none, none, none]) dd_Web_roomsFrom_22 rfl rfl (cw_v cw_10_21 (io_q hq) rfl rfl (Nat.le_of_ble_eq_true rfl) (Nat.le_of_ble_eq_true rfl)) mt_Quarter_entered rfl hc rfl k
theorem B_Web_roomsFrom_25 {xs : Nat → Int} {xl e : Nat} {h : LH} {Q : Option LV → LH → Prop} {v1 v2 v3 v4 v5 w0 w1 : Int} {q : Int} (hq : q = 5 ∨ q = 32) {o6 : Option LV} (hF : RF h) (r_v5 : 0 ≤ v5 ∧ v5 ≤ 9)
    (k : ((zor w0 w1) ≠ v4 →
        Rn xs xl e mm_Web_roomsFrom 8 [some (.inr (.inr q)), some (.inl v1), some (.inl v2), some (.inl v3), some (.inl (zor w0 w1)), some (.inl (v5 + 1)), some (.inl (zor w0 w1))] [] h Q) ∧
      ((zor w0 w1) = v4 →
        Q (some (.inl v4)) h)) :
    Rn xs xl e mm_Web_roomsFrom 25 [some (.inr (.inr q)), some (.inl v1), some (.inl v2), some (.inl v3), some (.inl v4), some (.inl v5), o6] [.inl w1, .inl w0] h Q := by
  refine R_A dd_Web_roomsFrom_25 rfl rfl rfl rfl ?_
  refine R_st (ls' := [some (.inr (.inr q)), some (.inl v1), some (.inl v2), some (.inl v3), some (.inl v4), some (.inl v5), some (.inl (zor w0 w1))]) dd_Web_roomsFrom_26 rfl rfl rfl (Nat.le_of_ble_eq_true rfl) rfl rfl ?_
  refine R_ld (v := .inl (zor w0 w1)) dd_Web_roomsFrom_28 rfl rfl rfl rfl ?_
  refine R_ld (v := .inl v4) dd_Web_roomsFrom_30 rfl rfl rfl rfl ?_
  refine R_icmp dd_Web_roomsFrom_32 rfl rfl (fun (c1 : (zor w0 w1) ≠ v4) => ?_) (fun (c1 : (zor w0 w1) = v4) => ?_)
  · replace k := k.1 c1
    refine R_ld (v := .inl (zor w0 w1)) dd_Web_roomsFrom_38 rfl rfl rfl rfl ?_
    refine R_st (ls' := [some (.inr (.inr q)), some (.inl v1), some (.inl v2), some (.inl v3), some (.inl (zor w0 w1)), some (.inl v5), some (.inl (zor w0 w1))]) dd_Web_roomsFrom_40 rfl rfl rfl (Nat.le_of_ble_eq_true rfl) rfl rfl ?_
    refine R_inc (y := v5 + 1) (ls' := [some (.inr (.inr q)), some (.inl v1), some (.inl v2), some (.inl v3), some (.inl (zor w0 w1)), some (.inl (v5 + 1)), some (.inl (zor w0 w1))]) dd_Web_roomsFrom_42 rfl (by decide) (by omega) (by omega) rfl rfl ?_
    refine R_goto dd_Web_roomsFrom_45 rfl ?_
    exact k
  · replace k := k.2 c1
    refine R_goto dd_Web_roomsFrom_35 rfl ?_
    refine R_ld (v := .inl v4) dd_Web_roomsFrom_48 rfl rfl rfl rfl ?_
    exact R_iret dd_Web_roomsFrom_50 rfl k
theorem B_Web_ringOf_0 {xs : Nat → Int} {xl e : Nat} {h : LH} {Q : Option LV → LH → Prop} {v1 v2 v3 : Int} {q : Int} (hq : q = 5 ∨ q = 32) (hF : RF h)
    (k : (∃ c, c < e ∧ Rn xs xl c mm_Web_roomsFrom 0 [some (.inr (.inr q)), some (.inl v1), some (.inl v2), some (.inl v3), none, none, none] [] h (fun r h' => Rn xs xl e mm_Web_ringOf 7 [some (.inr (.inr q)), some (.inl v1), some (.inl v2), some (.inl v3)] (r.toList ++ []) h' Q))) :
    Rn xs xl e mm_Web_ringOf 0 [some (.inr (.inr q)), some (.inl v1), some (.inl v2), some (.inl v3)] [] h Q := by
  refine R_ld (v := .inr (.inr q)) dd_Web_ringOf_0 rfl rfl rfl rfl ?_
  refine R_ld (v := .inl v1) dd_Web_ringOf_1 rfl rfl rfl rfl ?_
  refine R_ld (v := .inl v2) dd_Web_ringOf_2 rfl rfl rfl rfl ?_
  refine R_ld (v := .inl v3) dd_Web_ringOf_3 rfl rfl rfl rfl ?_
  obtain ⟨c, hc, k⟩ := k
  exact R_call (as := [.inr (.inr q), .inl v1, .inl v2, .inl v3]) (rest := []) (M' := mm_Web_roomsFrom) (ls0 := [some (.inr (.inr q)), some (.inl v1), some (.inl v2), some (.inl v3), none, none, none]) dd_Web_ringOf_4 rfl rfl (cw_s cw_10_27 rfl rfl (Nat.le_of_ble_eq_true rfl) (Nat.le_of_ble_eq_true rfl)) mt_Web_roomsFrom rfl hc rfl k
theorem B_Web_ringOf_7 {xs : Nat → Int} {xl e : Nat} {h : LH} {Q : Option LV → LH → Prop} {v1 v2 v3 w0 : Int} {q : Int} (hq : q = 5 ∨ q = 32) (hF : RF h)
    (k : (∃ c, c < e ∧ Rn xs xl c mm_Web_roomsFrom 0 [some (.inr (.inr q)), some (.inl v2), some (.inl v1), some (.inl v3), none, none, none] [] h (fun r h' => Rn xs xl e mm_Web_ringOf 14 [some (.inr (.inr q)), some (.inl v1), some (.inl v2), some (.inl v3)] (r.toList ++ [.inl w0]) h' Q))) :
    Rn xs xl e mm_Web_ringOf 7 [some (.inr (.inr q)), some (.inl v1), some (.inl v2), some (.inl v3)] [.inl w0] h Q := by
  refine R_ld (v := .inr (.inr q)) dd_Web_ringOf_7 rfl rfl rfl rfl ?_
  refine R_ld (v := .inl v2) dd_Web_ringOf_8 rfl rfl rfl rfl ?_
  refine R_ld (v := .inl v1) dd_Web_ringOf_9 rfl rfl rfl rfl ?_
  refine R_ld (v := .inl v3) dd_Web_ringOf_10 rfl rfl rfl rfl ?_
  obtain ⟨c, hc, k⟩ := k
  exact R_call (as := [.inr (.inr q), .inl v2, .inl v1, .inl v3]) (rest := [.inl w0]) (M' := mm_Web_roomsFrom) (ls0 := [some (.inr (.inr q)), some (.inl v2), some (.inl v1), some (.inl v3), none, none, none]) dd_Web_ringOf_11 rfl rfl (cw_s cw_10_27 rfl rfl (Nat.le_of_ble_eq_true rfl) (Nat.le_of_ble_eq_true rfl)) mt_Web_roomsFrom rfl hc rfl k
theorem B_Web_ringOf_14 {xs : Nat → Int} {xl e : Nat} {h : LH} {Q : Option LV → LH → Prop} {v1 v2 v3 w0 w1 : Int} {q : Int} (hq : q = 5 ∨ q = 32) (hF : RF h)
    (k : Q (some (.inl (zand w0 w1))) h) :
    Rn xs xl e mm_Web_ringOf 14 [some (.inr (.inr q)), some (.inl v1), some (.inl v2), some (.inl v3)] [.inl w1, .inl w0] h Q := by
  refine R_A dd_Web_ringOf_14 rfl rfl rfl rfl ?_
  exact R_iret dd_Web_ringOf_15 rfl k
theorem B_OneSided_ring_0 {xs : Nat → Int} {xl e : Nat} {h : LH} {Q : Option LV → LH → Prop} {v1 v2 v3 : Int} {q : Int} (hq : q = 5 ∨ q = 32) (hQ : rd h 1 ((1 : Nat) : Int) = q) (hF : RF h) (he : 2 ≤ e)
    (k : (v1 < 0 →
        Q (some (.inl (-1))) h) ∧
      (0 ≤ v1 →
        ((rd h q 0) ≤ v1 →
          Q (some (.inl (-1))) h) ∧
        (v1 < (rd h q 0) →
          (v2 < 0 →
            Q (some (.inl (-1))) h) ∧
          (0 ≤ v2 →
            (4 ≤ v2 →
              Q (some (.inl (-1))) h) ∧
            (v2 < 4 →
              (v3 < 0 →
                Q (some (.inl (-1))) h) ∧
              (0 ≤ v3 →
                (24 ≤ v3 →
                  Q (some (.inl (-1))) h) ∧
                (v3 < 24 →
                  (-2147483648 ≤ 24 * v2 ∧ 24 * v2 ≤ 2147483647) ∧
                  (-2147483648 ≤ 24 * v2 + v3 ∧ 24 * v2 + v3 ≤ 2147483647) ∧
                  (0 ≤ 24 * v2 + v3 ∧ 24 * v2 + v3 < 96) ∧
                  (-2147483648 ≤ 24 * v2 ∧ 24 * v2 ≤ 2147483647) ∧
                  (-2147483648 ≤ 24 * v2 + v3 ∧ 24 * v2 + v3 ≤ 2147483647) ∧
                  (0 ≤ 24 * v2 + v3 ∧ 24 * v2 + v3 < 96) ∧
                  (∃ c, c < e ∧ Rn xs xl c mm_Web_ringOf 0 [some (.inr (.inr q)), some (.inl (zand (rd h (q + 5) (24 * v2 + v3)) (zxor (rd h 60 1) (-1)))), some (.inl (zand (rd h (q + 6) (24 * v2 + v3)) (zxor (rd h 60 1) (-1)))), some (.inl v1)] [] h (fun r h' => Rn xs xl e mm_OneSided_ring 39 [some (.inr (.inr 1)), some (.inl v1), some (.inl v2), some (.inl v3)] (r.toList ++ []) h' Q))))))))) :
    Rn xs xl e mm_OneSided_ring 0 [some (.inr (.inr 1)), some (.inl v1), some (.inl v2), some (.inl v3)] [] h Q := by
  refine R_ld (v := .inr (.inr 1)) dd_OneSided_ring_0 rfl rfl rfl rfl ?_
  refine R_ld (v := .inl v1) dd_OneSided_ring_1 rfl rfl rfl rfl ?_
  refine R_call (as := [.inr (.inr 1), .inl v1]) (rest := []) (M' := mm_OneSided_isRoom) (ls0 := [some (.inr (.inr 1)), some (.inl v1)]) dd_OneSided_ring_2 rfl rfl (cw_v cw_11_190 io_1 rfl rfl (Nat.le_of_ble_eq_true rfl) (Nat.le_of_ble_eq_true rfl)) mt_OneSided_isRoom rfl (c := e - 1) (by omega) rfl ?_
  refine R_ld (v := .inl v1) dd_OneSided_isRoom_0 rfl rfl rfl rfl ?_
  refine R_if dd_OneSided_isRoom_1 rfl rfl (fun (c8 : v1 < 0) => ?_) (fun (c8 : 0 ≤ v1) => ?_)
  · replace k := k.1 c8
    refine R_ic dd_OneSided_isRoom_19 (by decide) rfl ?_
    refine R_zret dd_OneSided_isRoom_20 rfl (by decide) ?_
    change Rn xs xl e mm_OneSided_ring 5 [some (.inr (.inr 1)), some (.inl v1), some (.inl v2), some (.inl v3)] [.inl 0] h _
    refine R_if dd_OneSided_ring_5 rfl rfl (fun (c9 : 0 = 0) => ?_) (fun (c9 : 0 ≠ 0) => ?_)
    · skip
      refine R_ic dd_OneSided_ring_17 (by decide) rfl ?_
      exact R_iret dd_OneSided_ring_18 rfl k
    · exact absurd c9 (by omega)
  · replace k := k.2 c8
    refine R_ld (v := .inl v1) dd_OneSided_isRoom_4 rfl rfl rfl rfl ?_
    refine R_ld (v := .inr (.inr 1)) dd_OneSided_isRoom_5 rfl rfl rfl rfl ?_
    refine R_gf (v := .inr (.inr q)) dd_OneSided_isRoom_6 fd_11_19 io_1 (congrArg (fun z : Int => (Sum.inr (Sum.inr z) : LV)) hQ) rfl ?_
    refine R_gf (v := .inl (rd h q 0)) dd_OneSided_isRoom_9 fd_11_267 (io_q hq) (congrArg (fun z : Int => (Sum.inl z : LV)) (rfl)) rfl ?_
    refine R_icmp dd_OneSided_isRoom_12 rfl rfl (fun (c10 : (rd h q 0) ≤ v1) => ?_) (fun (c10 : v1 < (rd h q 0)) => ?_)
    · replace k := k.1 c10
      refine R_ic dd_OneSided_isRoom_19 (by decide) rfl ?_
      refine R_zret dd_OneSided_isRoom_20 rfl (by decide) ?_
      change Rn xs xl e mm_OneSided_ring 5 [some (.inr (.inr 1)), some (.inl v1), some (.inl v2), some (.inl v3)] [.inl 0] h _
      refine R_if dd_OneSided_ring_5 rfl rfl (fun (c11 : 0 = 0) => ?_) (fun (c11 : 0 ≠ 0) => ?_)
      · skip
        refine R_ic dd_OneSided_ring_17 (by decide) rfl ?_
        exact R_iret dd_OneSided_ring_18 rfl k
      · exact absurd c11 (by omega)
    · replace k := k.2 c10
      refine R_ic dd_OneSided_isRoom_15 (by decide) rfl ?_
      refine R_goto dd_OneSided_isRoom_16 rfl ?_
      refine R_zret dd_OneSided_isRoom_20 rfl (by decide) ?_
      change Rn xs xl e mm_OneSided_ring 5 [some (.inr (.inr 1)), some (.inl v1), some (.inl v2), some (.inl v3)] [.inl 1] h _
      refine R_if dd_OneSided_ring_5 rfl rfl (fun (c12 : 1 = 0) => ?_) (fun (c12 : 1 ≠ 0) => ?_)
      · exact absurd c12 (by omega)
      · skip
        refine R_ld (v := .inr (.inr 1)) dd_OneSided_ring_8 rfl rfl rfl rfl ?_
        refine R_ld (v := .inl v2) dd_OneSided_ring_9 rfl rfl rfl rfl ?_
        refine R_ld (v := .inl v3) dd_OneSided_ring_10 rfl rfl rfl rfl ?_
        refine R_call (as := [.inr (.inr 1), .inl v2, .inl v3]) (rest := []) (M' := mm_OneSided_isSortInHour) (ls0 := [some (.inr (.inr 1)), some (.inl v2), some (.inl v3)]) dd_OneSided_ring_11 rfl rfl (cw_v cw_11_193 io_1 rfl rfl (Nat.le_of_ble_eq_true rfl) (Nat.le_of_ble_eq_true rfl)) mt_OneSided_isSortInHour rfl (c := e - 1) (by omega) rfl ?_
        refine R_ld (v := .inl v2) dd_OneSided_isSortInHour_0 rfl rfl rfl rfl ?_
        refine R_if dd_OneSided_isSortInHour_1 rfl rfl (fun (c13 : v2 < 0) => ?_) (fun (c13 : 0 ≤ v2) => ?_)
        · replace k := k.1 c13
          refine R_ic dd_OneSided_isSortInHour_23 (by decide) rfl ?_
          refine R_zret dd_OneSided_isSortInHour_24 rfl (by decide) ?_
          change Rn xs xl e mm_OneSided_ring 14 [some (.inr (.inr 1)), some (.inl v1), some (.inl v2), some (.inl v3)] [.inl 0] h _
          refine R_if dd_OneSided_ring_14 rfl rfl (fun (c14 : 0 ≠ 0) => ?_) (fun (c14 : 0 = 0) => ?_)
          · exact absurd c14 (by omega)
          · skip
            refine R_ic dd_OneSided_ring_17 (by decide) rfl ?_
            exact R_iret dd_OneSided_ring_18 rfl k
        · replace k := k.2 c13
          refine R_ld (v := .inl v2) dd_OneSided_isSortInHour_4 rfl rfl rfl rfl ?_
          refine R_ic dd_OneSided_isSortInHour_5 (by decide) rfl ?_
          refine R_icmp dd_OneSided_isSortInHour_6 rfl rfl (fun (c15 : 4 ≤ v2) => ?_) (fun (c15 : v2 < 4) => ?_)
          · replace k := k.1 c15
            refine R_ic dd_OneSided_isSortInHour_23 (by decide) rfl ?_
            refine R_zret dd_OneSided_isSortInHour_24 rfl (by decide) ?_
            change Rn xs xl e mm_OneSided_ring 14 [some (.inr (.inr 1)), some (.inl v1), some (.inl v2), some (.inl v3)] [.inl 0] h _
            refine R_if dd_OneSided_ring_14 rfl rfl (fun (c16 : 0 ≠ 0) => ?_) (fun (c16 : 0 = 0) => ?_)
            · exact absurd c16 (by omega)
            · skip
              refine R_ic dd_OneSided_ring_17 (by decide) rfl ?_
              exact R_iret dd_OneSided_ring_18 rfl k
          · replace k := k.2 c15
            refine R_ld (v := .inl v3) dd_OneSided_isSortInHour_9 rfl rfl rfl rfl ?_
            refine R_if dd_OneSided_isSortInHour_10 rfl rfl (fun (c17 : v3 < 0) => ?_) (fun (c17 : 0 ≤ v3) => ?_)
            · replace k := k.1 c17
              refine R_ic dd_OneSided_isSortInHour_23 (by decide) rfl ?_
              refine R_zret dd_OneSided_isSortInHour_24 rfl (by decide) ?_
              change Rn xs xl e mm_OneSided_ring 14 [some (.inr (.inr 1)), some (.inl v1), some (.inl v2), some (.inl v3)] [.inl 0] h _
              refine R_if dd_OneSided_ring_14 rfl rfl (fun (c18 : 0 ≠ 0) => ?_) (fun (c18 : 0 = 0) => ?_)
              · exact absurd c18 (by omega)
              · skip
                refine R_ic dd_OneSided_ring_17 (by decide) rfl ?_
                exact R_iret dd_OneSided_ring_18 rfl k
            · replace k := k.2 c17
              refine R_ld (v := .inl v3) dd_OneSided_isSortInHour_13 rfl rfl rfl rfl ?_
              refine R_bi dd_OneSided_isSortInHour_14 (by decide) rfl ?_
              refine R_icmp dd_OneSided_isSortInHour_16 rfl rfl (fun (c19 : 24 ≤ v3) => ?_) (fun (c19 : v3 < 24) => ?_)
              · replace k := k.1 c19
                refine R_ic dd_OneSided_isSortInHour_23 (by decide) rfl ?_
                refine R_zret dd_OneSided_isSortInHour_24 rfl (by decide) ?_
                change Rn xs xl e mm_OneSided_ring 14 [some (.inr (.inr 1)), some (.inl v1), some (.inl v2), some (.inl v3)] [.inl 0] h _
                refine R_if dd_OneSided_ring_14 rfl rfl (fun (c20 : 0 ≠ 0) => ?_) (fun (c20 : 0 = 0) => ?_)
                · exact absurd c20 (by omega)
                · skip
                  refine R_ic dd_OneSided_ring_17 (by decide) rfl ?_
                  exact R_iret dd_OneSided_ring_18 rfl k
              · replace k := k.2 c19
                refine R_ic dd_OneSided_isSortInHour_19 (by decide) rfl ?_
                refine R_goto dd_OneSided_isSortInHour_20 rfl ?_
                refine R_zret dd_OneSided_isSortInHour_24 rfl (by decide) ?_
                change Rn xs xl e mm_OneSided_ring 14 [some (.inr (.inr 1)), some (.inl v1), some (.inl v2), some (.inl v3)] [.inl 1] h _
                refine R_if dd_OneSided_ring_14 rfl rfl (fun (c21 : 1 ≠ 0) => ?_) (fun (c21 : 1 = 0) => ?_)
                · skip
                  refine R_ld (v := .inr (.inr 1)) dd_OneSided_ring_19 rfl rfl rfl rfl ?_
                  refine R_gf (v := .inr (.inr q)) dd_OneSided_ring_20 fd_11_19 io_1 (congrArg (fun z : Int => (Sum.inr (Sum.inr z) : LV)) hQ) rfl ?_
                  refine R_ld (v := .inr (.inr 1)) dd_OneSided_ring_23 rfl rfl rfl rfl ?_
                  refine R_ld (v := .inl v2) dd_OneSided_ring_24 rfl rfl rfl rfl ?_
                  refine R_ld (v := .inl v3) dd_OneSided_ring_25 rfl rfl rfl rfl ?_
                  refine R_call (as := [.inr (.inr 1), .inl v2, .inl v3]) (rest := [.inr (.inr q)]) (M' := mm_OneSided_ahead) (ls0 := [some (.inr (.inr 1)), some (.inl v2), some (.inl v3)]) dd_OneSided_ring_26 rfl rfl (cw_v cw_11_257 io_1 rfl rfl (Nat.le_of_ble_eq_true rfl) (Nat.le_of_ble_eq_true rfl)) mt_OneSided_ahead rfl (c := e - 1) (by omega) rfl ?_
                  refine R_ld (v := .inr (.inr 1)) dd_OneSided_ahead_0 rfl rfl rfl rfl ?_
                  refine R_gf (v := .inr (.inr q)) dd_OneSided_ahead_1 fd_11_19 io_1 (congrArg (fun z : Int => (Sum.inr (Sum.inr z) : LV)) hQ) rfl ?_
                  refine R_ld (v := .inl v2) dd_OneSided_ahead_4 rfl rfl rfl rfl ?_
                  refine R_ld (v := .inl v3) dd_OneSided_ahead_5 rfl rfl rfl rfl ?_
                  refine R_ld (v := .inr (.inr 1)) dd_OneSided_ahead_6 rfl rfl rfl rfl ?_
                  refine R_gf (v := .inr (.inr 59)) dd_OneSided_ahead_7 fd_11_29 io_1 (congrArg (fun z : Int => (Sum.inr (Sum.inr z) : LV)) (rf_1_3 hF)) rfl ?_
                  refine R_gf (v := .inr (.inr 60)) dd_OneSided_ahead_10 fd_11_149 io_59 (congrArg (fun z : Int => (Sum.inr (Sum.inr z) : LV)) (rf_59_0 hF)) rfl ?_
                  refine R_gf (v := .inl (rd h 60 1)) dd_OneSided_ahead_13 fd_11_153 io_60 (congrArg (fun z : Int => (Sum.inl z : LV)) (rfl)) rfl ?_
                  refine R_call (as := [.inr (.inr q), .inl v2, .inl v3, .inl (rd h 60 1)]) (rest := []) (M' := mm_Quarter_aheadIn) (ls0 := [some (.inr (.inr q)), some (.inl v2), some (.inl v3), some (.inl (rd h 60 1))]) dd_OneSided_ahead_16 rfl rfl (cw_v cw_11_360 (io_q hq) rfl rfl (Nat.le_of_ble_eq_true rfl) (Nat.le_of_ble_eq_true rfl)) mt_Quarter_aheadIn rfl (c := e - 2) (by omega) rfl ?_
                  refine R_ld (v := .inl v3) dd_Quarter_aheadIn_0 rfl rfl rfl rfl ?_
                  refine R_bi dd_Quarter_aheadIn_1 (by decide) rfl ?_
                  refine R_icmp dd_Quarter_aheadIn_3 rfl rfl (fun (c22 : 24 ≤ v3) => ?_) (fun (c22 : v3 < 24) => ?_)
                  · exact absurd c22 (by omega)
                  · skip
                    refine R_ld (v := .inr (.inr q)) dd_Quarter_aheadIn_6 rfl rfl rfl rfl ?_
                    refine R_gf (v := .inr (.inr (q + 5))) dd_Quarter_aheadIn_7 fd_6_34 (io_q hq) (congrArg (fun z : Int => (Sum.inr (Sum.inr z) : LV)) (rq_ahd hF hq)) rfl ?_
                    refine R_ld (v := .inl v2) dd_Quarter_aheadIn_10 rfl rfl rfl rfl ?_
                    refine R_bi dd_Quarter_aheadIn_11 (by decide) rfl ?_
                    obtain ⟨s1, k⟩ := k
                    refine R_imul (c := 24 * v2) dd_Quarter_aheadIn_13 (by omega) s1 rfl ?_
                    refine R_ld (v := .inl v3) dd_Quarter_aheadIn_14 rfl rfl rfl rfl ?_
                    obtain ⟨s2, k⟩ := k
                    refine R_iadd (c := 24 * v2 + v3) dd_Quarter_aheadIn_15 (by omega) s2 rfl ?_
                    obtain ⟨s3, k⟩ := k
                    refine R_iald (v := (rd h (q + 5) (24 * v2 + v3))) (n := 96) dd_Quarter_aheadIn_16 (ia_aq hq) (la_aq hq) s3 (rfl) rfl ?_
                    refine R_ld (v := .inl (rd h 60 1)) dd_Quarter_aheadIn_17 rfl rfl rfl rfl ?_
                    refine R_ic dd_Quarter_aheadIn_18 (by decide) rfl ?_
                    refine R_A dd_Quarter_aheadIn_19 rfl rfl rfl rfl ?_
                    refine R_A dd_Quarter_aheadIn_20 rfl rfl rfl rfl ?_
                    refine R_goto dd_Quarter_aheadIn_21 rfl ?_
                    refine R_iret dd_Quarter_aheadIn_25 rfl ?_
                    change Rn xs xl (e - 1) mm_OneSided_ahead 19 [some (.inr (.inr 1)), some (.inl v2), some (.inl v3)] [.inl (zand (rd h (q + 5) (24 * v2 + v3)) (zxor (rd h 60 1) (-1)))] h _
                    refine R_iret dd_OneSided_ahead_19 rfl ?_
                    change Rn xs xl e mm_OneSided_ring 29 [some (.inr (.inr 1)), some (.inl v1), some (.inl v2), some (.inl v3)] [.inl (zand (rd h (q + 5) (24 * v2 + v3)) (zxor (rd h 60 1) (-1))), .inr (.inr q)] h _
                    refine R_ld (v := .inr (.inr 1)) dd_OneSided_ring_29 rfl rfl rfl rfl ?_
                    refine R_ld (v := .inl v2) dd_OneSided_ring_30 rfl rfl rfl rfl ?_
                    refine R_ld (v := .inl v3) dd_OneSided_ring_31 rfl rfl rfl rfl ?_
                    refine R_call (as := [.inr (.inr 1), .inl v2, .inl v3]) (rest := [.inl (zand (rd h (q + 5) (24 * v2 + v3)) (zxor (rd h 60 1) (-1))), .inr (.inr q)]) (M' := mm_OneSided_back) (ls0 := [some (.inr (.inr 1)), some (.inl v2), some (.inl v3)]) dd_OneSided_ring_32 rfl rfl (cw_v cw_11_260 io_1 rfl rfl (Nat.le_of_ble_eq_true rfl) (Nat.le_of_ble_eq_true rfl)) mt_OneSided_back rfl (c := e - 1) (by omega) rfl ?_
                    refine R_ld (v := .inr (.inr 1)) dd_OneSided_back_0 rfl rfl rfl rfl ?_
                    refine R_gf (v := .inr (.inr q)) dd_OneSided_back_1 fd_11_19 io_1 (congrArg (fun z : Int => (Sum.inr (Sum.inr z) : LV)) hQ) rfl ?_
                    refine R_ld (v := .inl v2) dd_OneSided_back_4 rfl rfl rfl rfl ?_
                    refine R_ld (v := .inl v3) dd_OneSided_back_5 rfl rfl rfl rfl ?_
                    refine R_ld (v := .inr (.inr 1)) dd_OneSided_back_6 rfl rfl rfl rfl ?_
                    refine R_gf (v := .inr (.inr 59)) dd_OneSided_back_7 fd_11_29 io_1 (congrArg (fun z : Int => (Sum.inr (Sum.inr z) : LV)) (rf_1_3 hF)) rfl ?_
                    refine R_gf (v := .inr (.inr 60)) dd_OneSided_back_10 fd_11_149 io_59 (congrArg (fun z : Int => (Sum.inr (Sum.inr z) : LV)) (rf_59_0 hF)) rfl ?_
                    refine R_gf (v := .inl (rd h 60 1)) dd_OneSided_back_13 fd_11_153 io_60 (congrArg (fun z : Int => (Sum.inl z : LV)) (rfl)) rfl ?_
                    refine R_call (as := [.inr (.inr q), .inl v2, .inl v3, .inl (rd h 60 1)]) (rest := []) (M' := mm_Quarter_backIn) (ls0 := [some (.inr (.inr q)), some (.inl v2), some (.inl v3), some (.inl (rd h 60 1))]) dd_OneSided_back_16 rfl rfl (cw_v cw_11_364 (io_q hq) rfl rfl (Nat.le_of_ble_eq_true rfl) (Nat.le_of_ble_eq_true rfl)) mt_Quarter_backIn rfl (c := e - 2) (by omega) rfl ?_
                    refine R_ld (v := .inl v3) dd_Quarter_backIn_0 rfl rfl rfl rfl ?_
                    refine R_bi dd_Quarter_backIn_1 (by decide) rfl ?_
                    refine R_icmp dd_Quarter_backIn_3 rfl rfl (fun (c23 : 24 ≤ v3) => ?_) (fun (c23 : v3 < 24) => ?_)
                    · exact absurd c23 (by omega)
                    · skip
                      refine R_ld (v := .inr (.inr q)) dd_Quarter_backIn_6 rfl rfl rfl rfl ?_
                      refine R_gf (v := .inr (.inr (q + 6))) dd_Quarter_backIn_7 fd_6_37 (io_q hq) (congrArg (fun z : Int => (Sum.inr (Sum.inr z) : LV)) (rq_bck hF hq)) rfl ?_
                      refine R_ld (v := .inl v2) dd_Quarter_backIn_10 rfl rfl rfl rfl ?_
                      refine R_bi dd_Quarter_backIn_11 (by decide) rfl ?_
                      obtain ⟨s4, k⟩ := k
                      refine R_imul (c := 24 * v2) dd_Quarter_backIn_13 (by omega) s4 rfl ?_
                      refine R_ld (v := .inl v3) dd_Quarter_backIn_14 rfl rfl rfl rfl ?_
                      obtain ⟨s5, k⟩ := k
                      refine R_iadd (c := 24 * v2 + v3) dd_Quarter_backIn_15 (by omega) s5 rfl ?_
                      obtain ⟨s6, k⟩ := k
                      refine R_iald (v := (rd h (q + 6) (24 * v2 + v3))) (n := 96) dd_Quarter_backIn_16 (ia_bq hq) (la_bq hq) s6 (rfl) rfl ?_
                      refine R_ld (v := .inl (rd h 60 1)) dd_Quarter_backIn_17 rfl rfl rfl rfl ?_
                      refine R_ic dd_Quarter_backIn_18 (by decide) rfl ?_
                      refine R_A dd_Quarter_backIn_19 rfl rfl rfl rfl ?_
                      refine R_A dd_Quarter_backIn_20 rfl rfl rfl rfl ?_
                      refine R_goto dd_Quarter_backIn_21 rfl ?_
                      refine R_iret dd_Quarter_backIn_25 rfl ?_
                      change Rn xs xl (e - 1) mm_OneSided_back 19 [some (.inr (.inr 1)), some (.inl v2), some (.inl v3)] [.inl (zand (rd h (q + 6) (24 * v2 + v3)) (zxor (rd h 60 1) (-1)))] h _
                      refine R_iret dd_OneSided_back_19 rfl ?_
                      change Rn xs xl e mm_OneSided_ring 35 [some (.inr (.inr 1)), some (.inl v1), some (.inl v2), some (.inl v3)] [.inl (zand (rd h (q + 6) (24 * v2 + v3)) (zxor (rd h 60 1) (-1))), .inl (zand (rd h (q + 5) (24 * v2 + v3)) (zxor (rd h 60 1) (-1))), .inr (.inr q)] h _
                      refine R_ld (v := .inl v1) dd_OneSided_ring_35 rfl rfl rfl rfl ?_
                      obtain ⟨c, hc, k⟩ := k
                      exact R_call (as := [.inr (.inr q), .inl (zand (rd h (q + 5) (24 * v2 + v3)) (zxor (rd h 60 1) (-1))), .inl (zand (rd h (q + 6) (24 * v2 + v3)) (zxor (rd h 60 1) (-1))), .inl v1]) (rest := []) (M' := mm_Web_ringOf) (ls0 := [some (.inr (.inr q)), some (.inl (zand (rd h (q + 5) (24 * v2 + v3)) (zxor (rd h 60 1) (-1)))), some (.inl (zand (rd h (q + 6) (24 * v2 + v3)) (zxor (rd h 60 1) (-1)))), some (.inl v1)]) dd_OneSided_ring_36 rfl rfl (cw_s cw_11_263 rfl rfl (Nat.le_of_ble_eq_true rfl) (Nat.le_of_ble_eq_true rfl)) mt_Web_ringOf rfl hc rfl k
                · exact absurd c21 (by omega)
theorem B_OneSided_ring_39 {xs : Nat → Int} {xl e : Nat} {h : LH} {Q : Option LV → LH → Prop} {v1 v2 v3 w0 : Int} (hF : RF h)
    (k : Q (some (.inl w0)) h) :
    Rn xs xl e mm_OneSided_ring 39 [some (.inr (.inr 1)), some (.inl v1), some (.inl v2), some (.inl v3)] [.inl w0] h Q := by
  exact R_iret dd_OneSided_ring_39 rfl k
theorem B_OneSided_homeless_0 {xs : Nat → Int} {xl e : Nat} {h : LH} {Q : Option LV → LH → Prop} {v1 v2 v3 : Int} {q : Int} (hq : q = 5 ∨ q = 32) (hQ : rd h 1 ((1 : Nat) : Int) = q) (hF : RF h) (he : 2 ≤ e)
    (k : (v1 < 0 →
        Q (some (.inl (-1))) h) ∧
      (0 ≤ v1 →
        ((rd h q 0) ≤ v1 →
          Q (some (.inl (-1))) h) ∧
        (v1 < (rd h q 0) →
          (v2 < 0 →
            Q (some (.inl (-1))) h) ∧
          (0 ≤ v2 →
            (4 ≤ v2 →
              Q (some (.inl (-1))) h) ∧
            (v2 < 4 →
              (v3 < 0 →
                Q (some (.inl (-1))) h) ∧
              (0 ≤ v3 →
                (24 ≤ v3 →
                  Q (some (.inl (-1))) h) ∧
                (v3 < 24 →
                  (-2147483648 ≤ (zshl 1 (rd h q 0)) - 1 ∧ (zshl 1 (rd h q 0)) - 1 ≤ 2147483647) ∧
                  (-2147483648 ≤ 24 * v2 ∧ 24 * v2 ≤ 2147483647) ∧
                  (-2147483648 ≤ 24 * v2 + v3 ∧ 24 * v2 + v3 ≤ 2147483647) ∧
                  (0 ≤ 24 * v2 + v3 ∧ 24 * v2 + v3 < 96) ∧
                  (-2147483648 ≤ 24 * v2 ∧ 24 * v2 ≤ 2147483647) ∧
                  (-2147483648 ≤ 24 * v2 + v3 ∧ 24 * v2 + v3 ≤ 2147483647) ∧
                  (0 ≤ 24 * v2 + v3 ∧ 24 * v2 + v3 < 96) ∧
                  (∃ c, c < e ∧ Rn xs xl c mm_Web_roomsFrom 0 [some (.inr (.inr q)), some (.inl (zand (rd h (q + 6) (24 * v2 + v3)) (zxor (rd h 60 1) (-1)))), some (.inl (zand (rd h (q + 5) (24 * v2 + v3)) (zxor (rd h 60 1) (-1)))), some (.inl v1), none, none, none] [] h (fun r h' => Rn xs xl e mm_OneSided_homeless 54 [some (.inr (.inr 1)), some (.inl v1), some (.inl v2), some (.inl v3), some (.inl ((zshl 1 (rd h q 0)) - 1))] (r.toList ++ [.inl ((zshl 1 (rd h q 0)) - 1)]) h' Q))))))))) :
    Rn xs xl e mm_OneSided_homeless 0 [some (.inr (.inr 1)), some (.inl v1), some (.inl v2), some (.inl v3), none] [] h Q := by
  refine R_ld (v := .inr (.inr 1)) dd_OneSided_homeless_0 rfl rfl rfl rfl ?_
  refine R_ld (v := .inl v1) dd_OneSided_homeless_1 rfl rfl rfl rfl ?_
  refine R_call (as := [.inr (.inr 1), .inl v1]) (rest := []) (M' := mm_OneSided_isRoom) (ls0 := [some (.inr (.inr 1)), some (.inl v1)]) dd_OneSided_homeless_2 rfl rfl (cw_v cw_11_190 io_1 rfl rfl (Nat.le_of_ble_eq_true rfl) (Nat.le_of_ble_eq_true rfl)) mt_OneSided_isRoom rfl (c := e - 1) (by omega) rfl ?_
  refine R_ld (v := .inl v1) dd_OneSided_isRoom_0 rfl rfl rfl rfl ?_
  refine R_if dd_OneSided_isRoom_1 rfl rfl (fun (c9 : v1 < 0) => ?_) (fun (c9 : 0 ≤ v1) => ?_)
  · replace k := k.1 c9
    refine R_ic dd_OneSided_isRoom_19 (by decide) rfl ?_
    refine R_zret dd_OneSided_isRoom_20 rfl (by decide) ?_
    change Rn xs xl e mm_OneSided_homeless 5 [some (.inr (.inr 1)), some (.inl v1), some (.inl v2), some (.inl v3), none] [.inl 0] h _
    refine R_if dd_OneSided_homeless_5 rfl rfl (fun (c10 : 0 = 0) => ?_) (fun (c10 : 0 ≠ 0) => ?_)
    · skip
      refine R_ic dd_OneSided_homeless_17 (by decide) rfl ?_
      exact R_iret dd_OneSided_homeless_18 rfl k
    · exact absurd c10 (by omega)
  · replace k := k.2 c9
    refine R_ld (v := .inl v1) dd_OneSided_isRoom_4 rfl rfl rfl rfl ?_
    refine R_ld (v := .inr (.inr 1)) dd_OneSided_isRoom_5 rfl rfl rfl rfl ?_
    refine R_gf (v := .inr (.inr q)) dd_OneSided_isRoom_6 fd_11_19 io_1 (congrArg (fun z : Int => (Sum.inr (Sum.inr z) : LV)) hQ) rfl ?_
    refine R_gf (v := .inl (rd h q 0)) dd_OneSided_isRoom_9 fd_11_267 (io_q hq) (congrArg (fun z : Int => (Sum.inl z : LV)) (rfl)) rfl ?_
    refine R_icmp dd_OneSided_isRoom_12 rfl rfl (fun (c11 : (rd h q 0) ≤ v1) => ?_) (fun (c11 : v1 < (rd h q 0)) => ?_)
    · replace k := k.1 c11
      refine R_ic dd_OneSided_isRoom_19 (by decide) rfl ?_
      refine R_zret dd_OneSided_isRoom_20 rfl (by decide) ?_
      change Rn xs xl e mm_OneSided_homeless 5 [some (.inr (.inr 1)), some (.inl v1), some (.inl v2), some (.inl v3), none] [.inl 0] h _
      refine R_if dd_OneSided_homeless_5 rfl rfl (fun (c12 : 0 = 0) => ?_) (fun (c12 : 0 ≠ 0) => ?_)
      · skip
        refine R_ic dd_OneSided_homeless_17 (by decide) rfl ?_
        exact R_iret dd_OneSided_homeless_18 rfl k
      · exact absurd c12 (by omega)
    · replace k := k.2 c11
      refine R_ic dd_OneSided_isRoom_15 (by decide) rfl ?_
      refine R_goto dd_OneSided_isRoom_16 rfl ?_
      refine R_zret dd_OneSided_isRoom_20 rfl (by decide) ?_
      change Rn xs xl e mm_OneSided_homeless 5 [some (.inr (.inr 1)), some (.inl v1), some (.inl v2), some (.inl v3), none] [.inl 1] h _
      refine R_if dd_OneSided_homeless_5 rfl rfl (fun (c13 : 1 = 0) => ?_) (fun (c13 : 1 ≠ 0) => ?_)
      · exact absurd c13 (by omega)
      · skip
        refine R_ld (v := .inr (.inr 1)) dd_OneSided_homeless_8 rfl rfl rfl rfl ?_
        refine R_ld (v := .inl v2) dd_OneSided_homeless_9 rfl rfl rfl rfl ?_
        refine R_ld (v := .inl v3) dd_OneSided_homeless_10 rfl rfl rfl rfl ?_
        refine R_call (as := [.inr (.inr 1), .inl v2, .inl v3]) (rest := []) (M' := mm_OneSided_isSortInHour) (ls0 := [some (.inr (.inr 1)), some (.inl v2), some (.inl v3)]) dd_OneSided_homeless_11 rfl rfl (cw_v cw_11_193 io_1 rfl rfl (Nat.le_of_ble_eq_true rfl) (Nat.le_of_ble_eq_true rfl)) mt_OneSided_isSortInHour rfl (c := e - 1) (by omega) rfl ?_
        refine R_ld (v := .inl v2) dd_OneSided_isSortInHour_0 rfl rfl rfl rfl ?_
        refine R_if dd_OneSided_isSortInHour_1 rfl rfl (fun (c14 : v2 < 0) => ?_) (fun (c14 : 0 ≤ v2) => ?_)
        · replace k := k.1 c14
          refine R_ic dd_OneSided_isSortInHour_23 (by decide) rfl ?_
          refine R_zret dd_OneSided_isSortInHour_24 rfl (by decide) ?_
          change Rn xs xl e mm_OneSided_homeless 14 [some (.inr (.inr 1)), some (.inl v1), some (.inl v2), some (.inl v3), none] [.inl 0] h _
          refine R_if dd_OneSided_homeless_14 rfl rfl (fun (c15 : 0 ≠ 0) => ?_) (fun (c15 : 0 = 0) => ?_)
          · exact absurd c15 (by omega)
          · skip
            refine R_ic dd_OneSided_homeless_17 (by decide) rfl ?_
            exact R_iret dd_OneSided_homeless_18 rfl k
        · replace k := k.2 c14
          refine R_ld (v := .inl v2) dd_OneSided_isSortInHour_4 rfl rfl rfl rfl ?_
          refine R_ic dd_OneSided_isSortInHour_5 (by decide) rfl ?_
          refine R_icmp dd_OneSided_isSortInHour_6 rfl rfl (fun (c16 : 4 ≤ v2) => ?_) (fun (c16 : v2 < 4) => ?_)
          · replace k := k.1 c16
            refine R_ic dd_OneSided_isSortInHour_23 (by decide) rfl ?_
            refine R_zret dd_OneSided_isSortInHour_24 rfl (by decide) ?_
            change Rn xs xl e mm_OneSided_homeless 14 [some (.inr (.inr 1)), some (.inl v1), some (.inl v2), some (.inl v3), none] [.inl 0] h _
            refine R_if dd_OneSided_homeless_14 rfl rfl (fun (c17 : 0 ≠ 0) => ?_) (fun (c17 : 0 = 0) => ?_)
            · exact absurd c17 (by omega)
            · skip
              refine R_ic dd_OneSided_homeless_17 (by decide) rfl ?_
              exact R_iret dd_OneSided_homeless_18 rfl k
          · replace k := k.2 c16
            refine R_ld (v := .inl v3) dd_OneSided_isSortInHour_9 rfl rfl rfl rfl ?_
            refine R_if dd_OneSided_isSortInHour_10 rfl rfl (fun (c18 : v3 < 0) => ?_) (fun (c18 : 0 ≤ v3) => ?_)
            · replace k := k.1 c18
              refine R_ic dd_OneSided_isSortInHour_23 (by decide) rfl ?_
              refine R_zret dd_OneSided_isSortInHour_24 rfl (by decide) ?_
              change Rn xs xl e mm_OneSided_homeless 14 [some (.inr (.inr 1)), some (.inl v1), some (.inl v2), some (.inl v3), none] [.inl 0] h _
              refine R_if dd_OneSided_homeless_14 rfl rfl (fun (c19 : 0 ≠ 0) => ?_) (fun (c19 : 0 = 0) => ?_)
              · exact absurd c19 (by omega)
              · skip
                refine R_ic dd_OneSided_homeless_17 (by decide) rfl ?_
                exact R_iret dd_OneSided_homeless_18 rfl k
            · replace k := k.2 c18
              refine R_ld (v := .inl v3) dd_OneSided_isSortInHour_13 rfl rfl rfl rfl ?_
              refine R_bi dd_OneSided_isSortInHour_14 (by decide) rfl ?_
              refine R_icmp dd_OneSided_isSortInHour_16 rfl rfl (fun (c20 : 24 ≤ v3) => ?_) (fun (c20 : v3 < 24) => ?_)
              · replace k := k.1 c20
                refine R_ic dd_OneSided_isSortInHour_23 (by decide) rfl ?_
                refine R_zret dd_OneSided_isSortInHour_24 rfl (by decide) ?_
                change Rn xs xl e mm_OneSided_homeless 14 [some (.inr (.inr 1)), some (.inl v1), some (.inl v2), some (.inl v3), none] [.inl 0] h _
                refine R_if dd_OneSided_homeless_14 rfl rfl (fun (c21 : 0 ≠ 0) => ?_) (fun (c21 : 0 = 0) => ?_)
                · exact absurd c21 (by omega)
                · skip
                  refine R_ic dd_OneSided_homeless_17 (by decide) rfl ?_
                  exact R_iret dd_OneSided_homeless_18 rfl k
              · replace k := k.2 c20
                refine R_ic dd_OneSided_isSortInHour_19 (by decide) rfl ?_
                refine R_goto dd_OneSided_isSortInHour_20 rfl ?_
                refine R_zret dd_OneSided_isSortInHour_24 rfl (by decide) ?_
                change Rn xs xl e mm_OneSided_homeless 14 [some (.inr (.inr 1)), some (.inl v1), some (.inl v2), some (.inl v3), none] [.inl 1] h _
                refine R_if dd_OneSided_homeless_14 rfl rfl (fun (c22 : 1 ≠ 0) => ?_) (fun (c22 : 1 = 0) => ?_)
                · skip
                  refine R_ic dd_OneSided_homeless_19 (by decide) rfl ?_
                  refine R_ld (v := .inr (.inr 1)) dd_OneSided_homeless_20 rfl rfl rfl rfl ?_
                  refine R_gf (v := .inr (.inr q)) dd_OneSided_homeless_21 fd_11_19 io_1 (congrArg (fun z : Int => (Sum.inr (Sum.inr z) : LV)) hQ) rfl ?_
                  refine R_gf (v := .inl (rd h q 0)) dd_OneSided_homeless_24 fd_11_267 (io_q hq) (congrArg (fun z : Int => (Sum.inl z : LV)) (rfl)) rfl ?_
                  refine R_A dd_OneSided_homeless_27 rfl rfl rfl rfl ?_
                  refine R_ic dd_OneSided_homeless_28 (by decide) rfl ?_
                  obtain ⟨s1, k⟩ := k
                  refine R_isub (c := (zshl 1 (rd h q 0)) - 1) dd_OneSided_homeless_29 (by omega) s1 rfl ?_
                  refine R_st (ls' := [some (.inr (.inr 1)), some (.inl v1), some (.inl v2), some (.inl v3), some (.inl ((zshl 1 (rd h q 0)) - 1))]) dd_OneSided_homeless_30 rfl rfl rfl (Nat.le_of_ble_eq_true rfl) rfl rfl ?_
                  refine R_ld (v := .inl ((zshl 1 (rd h q 0)) - 1)) dd_OneSided_homeless_32 rfl rfl rfl rfl ?_
                  refine R_ld (v := .inr (.inr 1)) dd_OneSided_homeless_34 rfl rfl rfl rfl ?_
                  refine R_gf (v := .inr (.inr q)) dd_OneSided_homeless_35 fd_11_19 io_1 (congrArg (fun z : Int => (Sum.inr (Sum.inr z) : LV)) hQ) rfl ?_
                  refine R_ld (v := .inr (.inr 1)) dd_OneSided_homeless_38 rfl rfl rfl rfl ?_
                  refine R_ld (v := .inl v2) dd_OneSided_homeless_39 rfl rfl rfl rfl ?_
                  refine R_ld (v := .inl v3) dd_OneSided_homeless_40 rfl rfl rfl rfl ?_
                  refine R_call (as := [.inr (.inr 1), .inl v2, .inl v3]) (rest := [.inr (.inr q), .inl ((zshl 1 (rd h q 0)) - 1)]) (M' := mm_OneSided_back) (ls0 := [some (.inr (.inr 1)), some (.inl v2), some (.inl v3)]) dd_OneSided_homeless_41 rfl rfl (cw_v cw_11_260 io_1 rfl rfl (Nat.le_of_ble_eq_true rfl) (Nat.le_of_ble_eq_true rfl)) mt_OneSided_back rfl (c := e - 1) (by omega) rfl ?_
                  refine R_ld (v := .inr (.inr 1)) dd_OneSided_back_0 rfl rfl rfl rfl ?_
                  refine R_gf (v := .inr (.inr q)) dd_OneSided_back_1 fd_11_19 io_1 (congrArg (fun z : Int => (Sum.inr (Sum.inr z) : LV)) hQ) rfl ?_
                  refine R_ld (v := .inl v2) dd_OneSided_back_4 rfl rfl rfl rfl ?_
                  refine R_ld (v := .inl v3) dd_OneSided_back_5 rfl rfl rfl rfl ?_
                  refine R_ld (v := .inr (.inr 1)) dd_OneSided_back_6 rfl rfl rfl rfl ?_
                  refine R_gf (v := .inr (.inr 59)) dd_OneSided_back_7 fd_11_29 io_1 (congrArg (fun z : Int => (Sum.inr (Sum.inr z) : LV)) (rf_1_3 hF)) rfl ?_
                  refine R_gf (v := .inr (.inr 60)) dd_OneSided_back_10 fd_11_149 io_59 (congrArg (fun z : Int => (Sum.inr (Sum.inr z) : LV)) (rf_59_0 hF)) rfl ?_
                  refine R_gf (v := .inl (rd h 60 1)) dd_OneSided_back_13 fd_11_153 io_60 (congrArg (fun z : Int => (Sum.inl z : LV)) (rfl)) rfl ?_
                  refine R_call (as := [.inr (.inr q), .inl v2, .inl v3, .inl (rd h 60 1)]) (rest := []) (M' := mm_Quarter_backIn) (ls0 := [some (.inr (.inr q)), some (.inl v2), some (.inl v3), some (.inl (rd h 60 1))]) dd_OneSided_back_16 rfl rfl (cw_v cw_11_364 (io_q hq) rfl rfl (Nat.le_of_ble_eq_true rfl) (Nat.le_of_ble_eq_true rfl)) mt_Quarter_backIn rfl (c := e - 2) (by omega) rfl ?_
                  refine R_ld (v := .inl v3) dd_Quarter_backIn_0 rfl rfl rfl rfl ?_
                  refine R_bi dd_Quarter_backIn_1 (by decide) rfl ?_
                  refine R_icmp dd_Quarter_backIn_3 rfl rfl (fun (c23 : 24 ≤ v3) => ?_) (fun (c23 : v3 < 24) => ?_)
                  · exact absurd c23 (by omega)
                  · skip
                    refine R_ld (v := .inr (.inr q)) dd_Quarter_backIn_6 rfl rfl rfl rfl ?_
                    refine R_gf (v := .inr (.inr (q + 6))) dd_Quarter_backIn_7 fd_6_37 (io_q hq) (congrArg (fun z : Int => (Sum.inr (Sum.inr z) : LV)) (rq_bck hF hq)) rfl ?_
                    refine R_ld (v := .inl v2) dd_Quarter_backIn_10 rfl rfl rfl rfl ?_
                    refine R_bi dd_Quarter_backIn_11 (by decide) rfl ?_
                    obtain ⟨s2, k⟩ := k
                    refine R_imul (c := 24 * v2) dd_Quarter_backIn_13 (by omega) s2 rfl ?_
                    refine R_ld (v := .inl v3) dd_Quarter_backIn_14 rfl rfl rfl rfl ?_
                    obtain ⟨s3, k⟩ := k
                    refine R_iadd (c := 24 * v2 + v3) dd_Quarter_backIn_15 (by omega) s3 rfl ?_
                    obtain ⟨s4, k⟩ := k
                    refine R_iald (v := (rd h (q + 6) (24 * v2 + v3))) (n := 96) dd_Quarter_backIn_16 (ia_bq hq) (la_bq hq) s4 (rfl) rfl ?_
                    refine R_ld (v := .inl (rd h 60 1)) dd_Quarter_backIn_17 rfl rfl rfl rfl ?_
                    refine R_ic dd_Quarter_backIn_18 (by decide) rfl ?_
                    refine R_A dd_Quarter_backIn_19 rfl rfl rfl rfl ?_
                    refine R_A dd_Quarter_backIn_20 rfl rfl rfl rfl ?_
                    refine R_goto dd_Quarter_backIn_21 rfl ?_
                    refine R_iret dd_Quarter_backIn_25 rfl ?_
                    change Rn xs xl (e - 1) mm_OneSided_back 19 [some (.inr (.inr 1)), some (.inl v2), some (.inl v3)] [.inl (zand (rd h (q + 6) (24 * v2 + v3)) (zxor (rd h 60 1) (-1)))] h _
                    refine R_iret dd_OneSided_back_19 rfl ?_
                    change Rn xs xl e mm_OneSided_homeless 44 [some (.inr (.inr 1)), some (.inl v1), some (.inl v2), some (.inl v3), some (.inl ((zshl 1 (rd h q 0)) - 1))] [.inl (zand (rd h (q + 6) (24 * v2 + v3)) (zxor (rd h 60 1) (-1))), .inr (.inr q), .inl ((zshl 1 (rd h q 0)) - 1)] h _
                    refine R_ld (v := .inr (.inr 1)) dd_OneSided_homeless_44 rfl rfl rfl rfl ?_
                    refine R_ld (v := .inl v2) dd_OneSided_homeless_45 rfl rfl rfl rfl ?_
                    refine R_ld (v := .inl v3) dd_OneSided_homeless_46 rfl rfl rfl rfl ?_
                    refine R_call (as := [.inr (.inr 1), .inl v2, .inl v3]) (rest := [.inl (zand (rd h (q + 6) (24 * v2 + v3)) (zxor (rd h 60 1) (-1))), .inr (.inr q), .inl ((zshl 1 (rd h q 0)) - 1)]) (M' := mm_OneSided_ahead) (ls0 := [some (.inr (.inr 1)), some (.inl v2), some (.inl v3)]) dd_OneSided_homeless_47 rfl rfl (cw_v cw_11_257 io_1 rfl rfl (Nat.le_of_ble_eq_true rfl) (Nat.le_of_ble_eq_true rfl)) mt_OneSided_ahead rfl (c := e - 1) (by omega) rfl ?_
                    refine R_ld (v := .inr (.inr 1)) dd_OneSided_ahead_0 rfl rfl rfl rfl ?_
                    refine R_gf (v := .inr (.inr q)) dd_OneSided_ahead_1 fd_11_19 io_1 (congrArg (fun z : Int => (Sum.inr (Sum.inr z) : LV)) hQ) rfl ?_
                    refine R_ld (v := .inl v2) dd_OneSided_ahead_4 rfl rfl rfl rfl ?_
                    refine R_ld (v := .inl v3) dd_OneSided_ahead_5 rfl rfl rfl rfl ?_
                    refine R_ld (v := .inr (.inr 1)) dd_OneSided_ahead_6 rfl rfl rfl rfl ?_
                    refine R_gf (v := .inr (.inr 59)) dd_OneSided_ahead_7 fd_11_29 io_1 (congrArg (fun z : Int => (Sum.inr (Sum.inr z) : LV)) (rf_1_3 hF)) rfl ?_
                    refine R_gf (v := .inr (.inr 60)) dd_OneSided_ahead_10 fd_11_149 io_59 (congrArg (fun z : Int => (Sum.inr (Sum.inr z) : LV)) (rf_59_0 hF)) rfl ?_
                    refine R_gf (v := .inl (rd h 60 1)) dd_OneSided_ahead_13 fd_11_153 io_60 (congrArg (fun z : Int => (Sum.inl z : LV)) (rfl)) rfl ?_
                    refine R_call (as := [.inr (.inr q), .inl v2, .inl v3, .inl (rd h 60 1)]) (rest := []) (M' := mm_Quarter_aheadIn) (ls0 := [some (.inr (.inr q)), some (.inl v2), some (.inl v3), some (.inl (rd h 60 1))]) dd_OneSided_ahead_16 rfl rfl (cw_v cw_11_360 (io_q hq) rfl rfl (Nat.le_of_ble_eq_true rfl) (Nat.le_of_ble_eq_true rfl)) mt_Quarter_aheadIn rfl (c := e - 2) (by omega) rfl ?_
                    refine R_ld (v := .inl v3) dd_Quarter_aheadIn_0 rfl rfl rfl rfl ?_
                    refine R_bi dd_Quarter_aheadIn_1 (by decide) rfl ?_
                    refine R_icmp dd_Quarter_aheadIn_3 rfl rfl (fun (c24 : 24 ≤ v3) => ?_) (fun (c24 : v3 < 24) => ?_)
                    · exact absurd c24 (by omega)
                    · skip
                      refine R_ld (v := .inr (.inr q)) dd_Quarter_aheadIn_6 rfl rfl rfl rfl ?_
                      refine R_gf (v := .inr (.inr (q + 5))) dd_Quarter_aheadIn_7 fd_6_34 (io_q hq) (congrArg (fun z : Int => (Sum.inr (Sum.inr z) : LV)) (rq_ahd hF hq)) rfl ?_
                      refine R_ld (v := .inl v2) dd_Quarter_aheadIn_10 rfl rfl rfl rfl ?_
                      refine R_bi dd_Quarter_aheadIn_11 (by decide) rfl ?_
                      obtain ⟨s5, k⟩ := k
                      refine R_imul (c := 24 * v2) dd_Quarter_aheadIn_13 (by omega) s5 rfl ?_
                      refine R_ld (v := .inl v3) dd_Quarter_aheadIn_14 rfl rfl rfl rfl ?_
                      obtain ⟨s6, k⟩ := k
                      refine R_iadd (c := 24 * v2 + v3) dd_Quarter_aheadIn_15 (by omega) s6 rfl ?_
                      obtain ⟨s7, k⟩ := k
                      refine R_iald (v := (rd h (q + 5) (24 * v2 + v3))) (n := 96) dd_Quarter_aheadIn_16 (ia_aq hq) (la_aq hq) s7 (rfl) rfl ?_
                      refine R_ld (v := .inl (rd h 60 1)) dd_Quarter_aheadIn_17 rfl rfl rfl rfl ?_
                      refine R_ic dd_Quarter_aheadIn_18 (by decide) rfl ?_
                      refine R_A dd_Quarter_aheadIn_19 rfl rfl rfl rfl ?_
                      refine R_A dd_Quarter_aheadIn_20 rfl rfl rfl rfl ?_
                      refine R_goto dd_Quarter_aheadIn_21 rfl ?_
                      refine R_iret dd_Quarter_aheadIn_25 rfl ?_
                      change Rn xs xl (e - 1) mm_OneSided_ahead 19 [some (.inr (.inr 1)), some (.inl v2), some (.inl v3)] [.inl (zand (rd h (q + 5) (24 * v2 + v3)) (zxor (rd h 60 1) (-1)))] h _
                      refine R_iret dd_OneSided_ahead_19 rfl ?_
                      change Rn xs xl e mm_OneSided_homeless 50 [some (.inr (.inr 1)), some (.inl v1), some (.inl v2), some (.inl v3), some (.inl ((zshl 1 (rd h q 0)) - 1))] [.inl (zand (rd h (q + 5) (24 * v2 + v3)) (zxor (rd h 60 1) (-1))), .inl (zand (rd h (q + 6) (24 * v2 + v3)) (zxor (rd h 60 1) (-1))), .inr (.inr q), .inl ((zshl 1 (rd h q 0)) - 1)] h _
                      refine R_ld (v := .inl v1) dd_OneSided_homeless_50 rfl rfl rfl rfl ?_
                      obtain ⟨c, hc, k⟩ := k
                      exact R_call (as := [.inr (.inr q), .inl (zand (rd h (q + 6) (24 * v2 + v3)) (zxor (rd h 60 1) (-1))), .inl (zand (rd h (q + 5) (24 * v2 + v3)) (zxor (rd h 60 1) (-1))), .inl v1]) (rest := [.inl ((zshl 1 (rd h q 0)) - 1)]) (M' := mm_Web_roomsFrom) (ls0 := [some (.inr (.inr q)), some (.inl (zand (rd h (q + 6) (24 * v2 + v3)) (zxor (rd h 60 1) (-1)))), some (.inl (zand (rd h (q + 5) (24 * v2 + v3)) (zxor (rd h 60 1) (-1)))), some (.inl v1), none, none, none]) dd_OneSided_homeless_51 rfl rfl (cw_s cw_11_270 rfl rfl (Nat.le_of_ble_eq_true rfl) (Nat.le_of_ble_eq_true rfl)) mt_Web_roomsFrom rfl hc rfl k
                · exact absurd c22 (by omega)
theorem B_OneSided_homeless_54 {xs : Nat → Int} {xl e : Nat} {h : LH} {Q : Option LV → LH → Prop} {v1 v2 v3 v4 w0 w1 : Int} (hF : RF h)
    (k : Q (some (.inl (zand w0 (zxor w1 (-1))))) h) :
    Rn xs xl e mm_OneSided_homeless 54 [some (.inr (.inr 1)), some (.inl v1), some (.inl v2), some (.inl v3), some (.inl v4)] [.inl w1, .inl w0] h Q := by
  refine R_ic dd_OneSided_homeless_54 (by decide) rfl ?_
  refine R_A dd_OneSided_homeless_55 rfl rfl rfl rfl ?_
  refine R_A dd_OneSided_homeless_56 rfl rfl rfl rfl ?_
  exact R_iret dd_OneSided_homeless_57 rfl k
theorem B_laysInto_0 {xs : Nat → Int} {xl e : Nat} {h : LH} {Q : Option LV → LH → Prop} {v1 v2 v3 v4 : Int} (hF : RF h)
    (k : Rn xs xl e mm_laysInto 3 [some (.inr (.inr 182)), some (.inl v1), some (.inl v2), some (.inl v3), some (.inl v4), some (.inl 0), none, none] [] h Q) :
    Rn xs xl e mm_laysInto 0 [some (.inr (.inr 182)), some (.inl v1), some (.inl v2), some (.inl v3), some (.inl v4), none, none, none] [] h Q := by
  refine R_ic dd_laysInto_0 (by decide) rfl ?_
  refine R_st (ls' := [some (.inr (.inr 182)), some (.inl v1), some (.inl v2), some (.inl v3), some (.inl v4), some (.inl 0), none, none]) dd_laysInto_1 rfl rfl rfl (Nat.le_of_ble_eq_true rfl) rfl rfl ?_
  exact k
theorem B_laysInto_3 {xs : Nat → Int} {xl e : Nat} {h : LH} {Q : Option LV → LH → Prop} {v1 v2 v3 v4 v5 : Int} {o6 : Option LV} {o7 : Option LV} (hF : RF h) (r_v5 : 0 ≤ v5 ∧ v5 ≤ 10)
    (k : (10 ≤ v5 →
        Q none h) ∧
      (v5 < 10 →
        (0 ≤ v5 ∧ v5 < 10) ∧
        Rn xs xl e mm_laysInto 21 [some (.inr (.inr 182)), some (.inl v1), some (.inl v2), some (.inl v3), some (.inl v4), some (.inl v5), some (.inl 0), o7] [] (wr h 203 v5 0) Q)) :
    Rn xs xl e mm_laysInto 3 [some (.inr (.inr 182)), some (.inl v1), some (.inl v2), some (.inl v3), some (.inl v4), some (.inl v5), o6, o7] [] h Q := by
  refine R_ld (v := .inl v5) dd_laysInto_3 rfl rfl rfl rfl ?_
  refine R_bi dd_laysInto_5 (by decide) rfl ?_
  refine R_icmp dd_laysInto_7 rfl rfl (fun (c2 : 10 ≤ v5) => ?_) (fun (c2 : v5 < 10) => ?_)
  · replace k := k.1 c2
    exact R_vret dd_laysInto_89 rfl k
  · replace k := k.2 c2
    refine R_ld (v := .inr (.inr 182)) dd_laysInto_10 rfl rfl rfl rfl ?_
    refine R_gf (v := .inr (.inr 203)) dd_laysInto_11 fd_12_147 io_182 (congrArg (fun z : Int => (Sum.inr (Sum.inr z) : LV)) (rf_182_37 hF)) rfl ?_
    refine R_ld (v := .inl v5) dd_laysInto_14 rfl rfl rfl rfl ?_
    refine R_ic dd_laysInto_16 (by decide) rfl ?_
    obtain ⟨s1, k⟩ := k
    refine R_iast (n := 10) dd_laysInto_17 ia_203 la_203 s1 rfl ?_
    refine R_ic dd_laysInto_18 (by decide) rfl ?_
    refine R_st (ls' := [some (.inr (.inr 182)), some (.inl v1), some (.inl v2), some (.inl v3), some (.inl v4), some (.inl v5), some (.inl 0), o7]) dd_laysInto_19 rfl rfl rfl (Nat.le_of_ble_eq_true rfl) rfl rfl ?_
    exact k
theorem B_laysInto_21 {xs : Nat → Int} {xl e : Nat} {h : LH} {Q : Option LV → LH → Prop} {v1 v2 v3 v4 v5 v6 : Int} {o7 : Option LV} (hF : RF h) (r_v5 : 0 ≤ v5 ∧ v5 ≤ 9) (r_v6 : 0 ≤ v6 ∧ v6 ≤ 14) (he : 1 ≤ e)
    (k : ((rd h 188 1) ≤ v6 →
        Rn xs xl e mm_laysInto 3 [some (.inr (.inr 182)), some (.inl v1), some (.inl v2), some (.inl v3), some (.inl v4), some (.inl (v5 + 1)), some (.inl v6), o7] [] h Q) ∧
      (v6 < (rd h 188 1) →
        ((rd h 188 0) ≤ v5 →
          Rn xs xl e mm_laysInto 3 [some (.inr (.inr 182)), some (.inl v1), some (.inl v2), some (.inl v3), some (.inl v4), some (.inl (v5 + 1)), some (.inl v6), o7] [] h Q) ∧
        (v5 < (rd h 188 0) →
          (∃ c, c < e ∧ Rn xs xl c mm_leadsTo 0 [some (.inr (.inr 182)), some (.inl v6), some (.inl v1), some (.inl v5), some (.inl v2), some (.inl v3), some (.inl v4), none, none, none, none, none] [] h (fun r h' => Rn xs xl e mm_laysInto 52 [some (.inr (.inr 182)), some (.inl v1), some (.inl v2), some (.inl v3), some (.inl v4), some (.inl v5), some (.inl v6), o7] (r.toList ++ []) h' Q))))) :
    Rn xs xl e mm_laysInto 21 [some (.inr (.inr 182)), some (.inl v1), some (.inl v2), some (.inl v3), some (.inl v4), some (.inl v5), some (.inl v6), o7] [] h Q := by
  refine R_ld (v := .inl v6) dd_laysInto_21 rfl rfl rfl rfl ?_
  refine R_ld (v := .inr (.inr 182)) dd_laysInto_23 rfl rfl rfl rfl ?_
  refine R_call (as := [.inr (.inr 182)]) (rest := [.inl v6]) (M' := mm_doors) (ls0 := [some (.inr (.inr 182))]) dd_laysInto_24 rfl rfl (cw_v cw_12_335 io_182 rfl rfl (Nat.le_of_ble_eq_true rfl) (Nat.le_of_ble_eq_true rfl)) mt_doors rfl (c := e - 1) (by omega) rfl ?_
  refine R_ld (v := .inr (.inr 182)) dd_doors_0 rfl rfl rfl rfl ?_
  refine R_gf (v := .inr (.inr 188)) dd_doors_1 fd_12_95 io_182 (congrArg (fun z : Int => (Sum.inr (Sum.inr z) : LV)) (rf_182_10 hF)) rfl ?_
  refine R_ic dd_doors_4 (by decide) rfl ?_
  refine R_iald (v := (rd h 188 1)) (n := 300) dd_doors_5 ia_188 la_188 (by decide) (rfl) rfl ?_
  refine R_iret dd_doors_6 rfl ?_
  change Rn xs xl e mm_laysInto 27 [some (.inr (.inr 182)), some (.inl v1), some (.inl v2), some (.inl v3), some (.inl v4), some (.inl v5), some (.inl v6), o7] [.inl (rd h 188 1), .inl v6] h _
  refine R_icmp dd_laysInto_27 rfl rfl (fun (c2 : (rd h 188 1) ≤ v6) => ?_) (fun (c2 : v6 < (rd h 188 1)) => ?_)
  · replace k := k.1 c2
    refine R_inc (y := v5 + 1) (ls' := [some (.inr (.inr 182)), some (.inl v1), some (.inl v2), some (.inl v3), some (.inl v4), some (.inl (v5 + 1)), some (.inl v6), o7]) dd_laysInto_83 rfl (by decide) (by omega) (by omega) rfl rfl ?_
    refine R_goto dd_laysInto_86 rfl ?_
    exact k
  · replace k := k.2 c2
    refine R_ld (v := .inl v5) dd_laysInto_30 rfl rfl rfl rfl ?_
    refine R_ld (v := .inr (.inr 182)) dd_laysInto_32 rfl rfl rfl rfl ?_
    refine R_call (as := [.inr (.inr 182)]) (rest := [.inl v5]) (M' := mm_rooms) (ls0 := [some (.inr (.inr 182))]) dd_laysInto_33 rfl rfl (cw_v cw_12_332 io_182 rfl rfl (Nat.le_of_ble_eq_true rfl) (Nat.le_of_ble_eq_true rfl)) mt_rooms rfl (c := e - 1) (by omega) rfl ?_
    refine R_ld (v := .inr (.inr 182)) dd_rooms_0 rfl rfl rfl rfl ?_
    refine R_gf (v := .inr (.inr 188)) dd_rooms_1 fd_12_95 io_182 (congrArg (fun z : Int => (Sum.inr (Sum.inr z) : LV)) (rf_182_10 hF)) rfl ?_
    refine R_ic dd_rooms_4 (by decide) rfl ?_
    refine R_iald (v := (rd h 188 0)) (n := 300) dd_rooms_5 ia_188 la_188 (by decide) (rfl) rfl ?_
    refine R_iret dd_rooms_6 rfl ?_
    change Rn xs xl e mm_laysInto 36 [some (.inr (.inr 182)), some (.inl v1), some (.inl v2), some (.inl v3), some (.inl v4), some (.inl v5), some (.inl v6), o7] [.inl (rd h 188 0), .inl v5] h _
    refine R_icmp dd_laysInto_36 rfl rfl (fun (c3 : (rd h 188 0) ≤ v5) => ?_) (fun (c3 : v5 < (rd h 188 0)) => ?_)
    · replace k := k.1 c3
      refine R_inc (y := v5 + 1) (ls' := [some (.inr (.inr 182)), some (.inl v1), some (.inl v2), some (.inl v3), some (.inl v4), some (.inl (v5 + 1)), some (.inl v6), o7]) dd_laysInto_83 rfl (by decide) (by omega) (by omega) rfl rfl ?_
      refine R_goto dd_laysInto_86 rfl ?_
      exact k
    · replace k := k.2 c3
      refine R_ld (v := .inr (.inr 182)) dd_laysInto_39 rfl rfl rfl rfl ?_
      refine R_ld (v := .inl v6) dd_laysInto_40 rfl rfl rfl rfl ?_
      refine R_ld (v := .inl v1) dd_laysInto_42 rfl rfl rfl rfl ?_
      refine R_ld (v := .inl v5) dd_laysInto_43 rfl rfl rfl rfl ?_
      refine R_ld (v := .inl v2) dd_laysInto_45 rfl rfl rfl rfl ?_
      refine R_ld (v := .inl v3) dd_laysInto_46 rfl rfl rfl rfl ?_
      refine R_ld (v := .inl v4) dd_laysInto_47 rfl rfl rfl rfl ?_
      obtain ⟨c, hc, k⟩ := k
      exact R_call (as := [.inr (.inr 182), .inl v6, .inl v1, .inl v5, .inl v2, .inl v3, .inl v4]) (rest := []) (M' := mm_leadsTo) (ls0 := [some (.inr (.inr 182)), some (.inl v6), some (.inl v1), some (.inl v5), some (.inl v2), some (.inl v3), some (.inl v4), none, none, none, none, none]) dd_laysInto_49 rfl rfl (cw_v cw_12_360 io_182 rfl rfl (Nat.le_of_ble_eq_true rfl) (Nat.le_of_ble_eq_true rfl)) mt_leadsTo rfl hc rfl k
theorem B_laysInto_52 {xs : Nat → Int} {xl e : Nat} {h : LH} {Q : Option LV → LH → Prop} {v1 v2 v3 v4 v5 v6 w0 : Int} {o7 : Option LV} (hF : RF h) (r_v5 : 0 ≤ v5 ∧ v5 ≤ 9) (r_v6 : 0 ≤ v6 ∧ v6 ≤ 13)
    (k : (0 ≤ w0 →
        Rn xs xl e mm_laysInto 21 [some (.inr (.inr 182)), some (.inl v1), some (.inl v2), some (.inl v3), some (.inl v4), some (.inl v5), some (.inl (v6 + 1)), some (.inl w0)] [] (wr h 203 v5 (zor (rd h 203 v5) (zshl 1 w0))) Q) ∧
      (w0 < 0 →
        Rn xs xl e mm_laysInto 21 [some (.inr (.inr 182)), some (.inl v1), some (.inl v2), some (.inl v3), some (.inl v4), some (.inl v5), some (.inl (v6 + 1)), some (.inl w0)] [] (wr h 203 v5 (zor (rd h 203 v5) 0)) Q)) :
    Rn xs xl e mm_laysInto 52 [some (.inr (.inr 182)), some (.inl v1), some (.inl v2), some (.inl v3), some (.inl v4), some (.inl v5), some (.inl v6), o7] [.inl w0] h Q := by
  refine R_st (ls' := [some (.inr (.inr 182)), some (.inl v1), some (.inl v2), some (.inl v3), some (.inl v4), some (.inl v5), some (.inl v6), some (.inl w0)]) dd_laysInto_52 rfl rfl rfl (Nat.le_of_ble_eq_true rfl) rfl rfl ?_
  refine R_ld (v := .inr (.inr 182)) dd_laysInto_54 rfl rfl rfl rfl ?_
  refine R_gf (v := .inr (.inr 203)) dd_laysInto_55 fd_12_147 io_182 (congrArg (fun z : Int => (Sum.inr (Sum.inr z) : LV)) (rf_182_37 hF)) rfl ?_
  refine R_ld (v := .inl v5) dd_laysInto_58 rfl rfl rfl rfl ?_
  refine R_A dd_laysInto_60 rfl rfl rfl rfl ?_
  refine R_iald (v := (rd h 203 v5)) (n := 10) dd_laysInto_61 ia_203 la_203 (by omega) (rfl) rfl ?_
  refine R_ld (v := .inl w0) dd_laysInto_62 rfl rfl rfl rfl ?_
  refine R_if dd_laysInto_64 rfl rfl (fun (c1 : 0 ≤ w0) => ?_) (fun (c1 : w0 < 0) => ?_)
  · replace k := k.1 c1
    refine R_ic dd_laysInto_71 (by decide) rfl ?_
    refine R_ld (v := .inl w0) dd_laysInto_72 rfl rfl rfl rfl ?_
    refine R_A dd_laysInto_74 rfl rfl rfl rfl ?_
    refine R_A dd_laysInto_75 rfl rfl rfl rfl ?_
    refine R_iast (n := 10) dd_laysInto_76 ia_203 la_203 (by omega) rfl ?_
    refine R_inc (y := v6 + 1) (ls' := [some (.inr (.inr 182)), some (.inl v1), some (.inl v2), some (.inl v3), some (.inl v4), some (.inl v5), some (.inl (v6 + 1)), some (.inl w0)]) dd_laysInto_77 rfl (by decide) (by omega) (by omega) rfl rfl ?_
    refine R_goto dd_laysInto_80 rfl ?_
    exact k
  · replace k := k.2 c1
    refine R_ic dd_laysInto_67 (by decide) rfl ?_
    refine R_goto dd_laysInto_68 rfl ?_
    refine R_A dd_laysInto_75 rfl rfl rfl rfl ?_
    refine R_iast (n := 10) dd_laysInto_76 ia_203 la_203 (by omega) rfl ?_
    refine R_inc (y := v6 + 1) (ls' := [some (.inr (.inr 182)), some (.inl v1), some (.inl v2), some (.inl v3), some (.inl v4), some (.inl v5), some (.inl (v6 + 1)), some (.inl w0)]) dd_laysInto_77 rfl (by decide) (by omega) (by omega) rfl rfl ?_
    refine R_goto dd_laysInto_80 rfl ?_
    exact k
theorem B_homelessOf_0 {xs : Nat → Int} {xl e : Nat} {h : LH} {Q : Option LV → LH → Prop} {v1 : Int} (hF : RF h)
    (k : Rn xs xl e mm_homelessOf 4 [some (.inr (.inr 182)), some (.inl v1), some (.inl 0), some (.inl 0)] [] h Q) :
    Rn xs xl e mm_homelessOf 0 [some (.inr (.inr 182)), some (.inl v1), none, none] [] h Q := by
  refine R_ic dd_homelessOf_0 (by decide) rfl ?_
  refine R_st (ls' := [some (.inr (.inr 182)), some (.inl v1), some (.inl 0), none]) dd_homelessOf_1 rfl rfl rfl (Nat.le_of_ble_eq_true rfl) rfl rfl ?_
  refine R_ic dd_homelessOf_2 (by decide) rfl ?_
  refine R_st (ls' := [some (.inr (.inr 182)), some (.inl v1), some (.inl 0), some (.inl 0)]) dd_homelessOf_3 rfl rfl rfl (Nat.le_of_ble_eq_true rfl) rfl rfl ?_
  exact k
theorem B_homelessOf_4 {xs : Nat → Int} {xl e : Nat} {h : LH} {Q : Option LV → LH → Prop} {v1 v2 v3 : Int} (hF : RF h) (r_v3 : 0 ≤ v3 ∧ v3 ≤ 10) (he : 1 ≤ e)
    (k : ((rd h 188 0) ≤ v3 →
        Q (some (.inl v2)) h) ∧
      (v3 < (rd h 188 0) →
        (∃ c, c < e ∧ Rn xs xl c mm_closure 0 [some (.inr (.inr 182)), some (.inl v3), none, none, none] [] h (fun r h' => Rn xs xl e mm_homelessOf 18 [some (.inr (.inr 182)), some (.inl v1), some (.inl v2), some (.inl v3)] (r.toList ++ [.inl v2]) h' Q)))) :
    Rn xs xl e mm_homelessOf 4 [some (.inr (.inr 182)), some (.inl v1), some (.inl v2), some (.inl v3)] [] h Q := by
  refine R_ld (v := .inl v3) dd_homelessOf_4 rfl rfl rfl rfl ?_
  refine R_ld (v := .inr (.inr 182)) dd_homelessOf_5 rfl rfl rfl rfl ?_
  refine R_call (as := [.inr (.inr 182)]) (rest := [.inl v3]) (M' := mm_rooms) (ls0 := [some (.inr (.inr 182))]) dd_homelessOf_6 rfl rfl (cw_v cw_12_332 io_182 rfl rfl (Nat.le_of_ble_eq_true rfl) (Nat.le_of_ble_eq_true rfl)) mt_rooms rfl (c := e - 1) (by omega) rfl ?_
  refine R_ld (v := .inr (.inr 182)) dd_rooms_0 rfl rfl rfl rfl ?_
  refine R_gf (v := .inr (.inr 188)) dd_rooms_1 fd_12_95 io_182 (congrArg (fun z : Int => (Sum.inr (Sum.inr z) : LV)) (rf_182_10 hF)) rfl ?_
  refine R_ic dd_rooms_4 (by decide) rfl ?_
  refine R_iald (v := (rd h 188 0)) (n := 300) dd_rooms_5 ia_188 la_188 (by decide) (rfl) rfl ?_
  refine R_iret dd_rooms_6 rfl ?_
  change Rn xs xl e mm_homelessOf 9 [some (.inr (.inr 182)), some (.inl v1), some (.inl v2), some (.inl v3)] [.inl (rd h 188 0), .inl v3] h _
  refine R_icmp dd_homelessOf_9 rfl rfl (fun (c2 : (rd h 188 0) ≤ v3) => ?_) (fun (c2 : v3 < (rd h 188 0)) => ?_)
  · replace k := k.1 c2
    refine R_ld (v := .inl v2) dd_homelessOf_40 rfl rfl rfl rfl ?_
    exact R_iret dd_homelessOf_41 rfl k
  · replace k := k.2 c2
    refine R_ld (v := .inl v2) dd_homelessOf_12 rfl rfl rfl rfl ?_
    refine R_ld (v := .inr (.inr 182)) dd_homelessOf_13 rfl rfl rfl rfl ?_
    refine R_ld (v := .inl v3) dd_homelessOf_14 rfl rfl rfl rfl ?_
    obtain ⟨c, hc, k⟩ := k
    exact R_call (as := [.inr (.inr 182), .inl v3]) (rest := [.inl v2]) (M' := mm_closure) (ls0 := [some (.inr (.inr 182)), some (.inl v3), none, none, none]) dd_homelessOf_15 rfl rfl (cw_v cw_12_419 io_182 rfl rfl (Nat.le_of_ble_eq_true rfl) (Nat.le_of_ble_eq_true rfl)) mt_closure rfl hc rfl k
theorem B_homelessOf_18 {xs : Nat → Int} {xl e : Nat} {h : LH} {Q : Option LV → LH → Prop} {v1 v2 v3 w0 w1 : Int} (hF : RF h) (r_v3 : 0 ≤ v3 ∧ v3 ≤ 9) (he : 1 ≤ e)
    (k : ((zand (zshr w1 v1) 1) ≠ 1 →
        Rn xs xl e mm_homelessOf 4 [some (.inr (.inr 182)), some (.inl v1), some (.inl (zor w0 (zshl 1 v3))), some (.inl (v3 + 1))] [] h Q) ∧
      ((zand (zshr w1 v1) 1) = 1 →
        Rn xs xl e mm_homelessOf 4 [some (.inr (.inr 182)), some (.inl v1), some (.inl (zor w0 0)), some (.inl (v3 + 1))] [] h Q)) :
    Rn xs xl e mm_homelessOf 18 [some (.inr (.inr 182)), some (.inl v1), some (.inl v2), some (.inl v3)] [.inl w1, .inl w0] h Q := by
  refine R_ld (v := .inl v1) dd_homelessOf_18 rfl rfl rfl rfl ?_
  refine R_call (as := [.inl w1, .inl v1]) (rest := [.inl w0]) (M' := mm_isIn) (ls0 := [some (.inl w1), some (.inl v1)]) dd_homelessOf_19 rfl rfl (cw_s cw_12_350 rfl rfl (Nat.le_of_ble_eq_true rfl) (Nat.le_of_ble_eq_true rfl)) mt_isIn rfl (c := e - 1) (by omega) rfl ?_
  refine R_ld (v := .inl w1) dd_isIn_0 rfl rfl rfl rfl ?_
  refine R_ld (v := .inl v1) dd_isIn_1 rfl rfl rfl rfl ?_
  refine R_A dd_isIn_2 rfl rfl rfl rfl ?_
  refine R_ic dd_isIn_3 (by decide) rfl ?_
  refine R_A dd_isIn_4 rfl rfl rfl rfl ?_
  refine R_ic dd_isIn_5 (by decide) rfl ?_
  refine R_icmp dd_isIn_6 rfl rfl (fun (c1 : (zand (zshr w1 v1) 1) ≠ 1) => ?_) (fun (c1 : (zand (zshr w1 v1) 1) = 1) => ?_)
  · replace k := k.1 c1
    refine R_ic dd_isIn_13 (by decide) rfl ?_
    refine R_zret dd_isIn_14 rfl (by decide) ?_
    change Rn xs xl e mm_homelessOf 22 [some (.inr (.inr 182)), some (.inl v1), some (.inl v2), some (.inl v3)] [.inl 0, .inl w0] h _
    refine R_if dd_homelessOf_22 rfl rfl (fun (c2 : 0 = 0) => ?_) (fun (c2 : 0 ≠ 0) => ?_)
    · skip
      refine R_ic dd_homelessOf_29 (by decide) rfl ?_
      refine R_ld (v := .inl v3) dd_homelessOf_30 rfl rfl rfl rfl ?_
      refine R_A dd_homelessOf_31 rfl rfl rfl rfl ?_
      refine R_A dd_homelessOf_32 rfl rfl rfl rfl ?_
      refine R_st (ls' := [some (.inr (.inr 182)), some (.inl v1), some (.inl (zor w0 (zshl 1 v3))), some (.inl v3)]) dd_homelessOf_33 rfl rfl rfl (Nat.le_of_ble_eq_true rfl) rfl rfl ?_
      refine R_inc (y := v3 + 1) (ls' := [some (.inr (.inr 182)), some (.inl v1), some (.inl (zor w0 (zshl 1 v3))), some (.inl (v3 + 1))]) dd_homelessOf_34 rfl (by decide) (by omega) (by omega) rfl rfl ?_
      refine R_goto dd_homelessOf_37 rfl ?_
      exact k
    · exact absurd c2 (by omega)
  · replace k := k.2 c1
    refine R_ic dd_isIn_9 (by decide) rfl ?_
    refine R_goto dd_isIn_10 rfl ?_
    refine R_zret dd_isIn_14 rfl (by decide) ?_
    change Rn xs xl e mm_homelessOf 22 [some (.inr (.inr 182)), some (.inl v1), some (.inl v2), some (.inl v3)] [.inl 1, .inl w0] h _
    refine R_if dd_homelessOf_22 rfl rfl (fun (c3 : 1 = 0) => ?_) (fun (c3 : 1 ≠ 0) => ?_)
    · exact absurd c3 (by omega)
    · skip
      refine R_ic dd_homelessOf_25 (by decide) rfl ?_
      refine R_goto dd_homelessOf_26 rfl ?_
      refine R_A dd_homelessOf_32 rfl rfl rfl rfl ?_
      refine R_st (ls' := [some (.inr (.inr 182)), some (.inl v1), some (.inl (zor w0 0)), some (.inl v3)]) dd_homelessOf_33 rfl rfl rfl (Nat.le_of_ble_eq_true rfl) rfl rfl ?_
      refine R_inc (y := v3 + 1) (ls' := [some (.inr (.inr 182)), some (.inl v1), some (.inl (zor w0 0)), some (.inl (v3 + 1))]) dd_homelessOf_34 rfl (by decide) (by omega) (by omega) rfl rfl ?_
      refine R_goto dd_homelessOf_37 rfl ?_
      exact k
theorem B_ring_0 {xs : Nat → Int} {xl e : Nat} {h : LH} {Q : Option LV → LH → Prop} {v1 v2 v3 : Int} (hF : RF h) (he : 2 ≤ e)
    (k : (v1 < 0 →
        Q (some (.inl (-1))) (wr h 182 0 0)) ∧
      (0 ≤ v1 →
        ((rd h 188 0) ≤ v1 →
          Q (some (.inl (-1))) (wr h 182 0 0)) ∧
        (v1 < (rd h 188 0) →
          (v2 < 0 →
            Q (some (.inl (-1))) (wr h 182 0 0)) ∧
          (0 ≤ v2 →
            (3 < v2 →
              Q (some (.inl (-1))) (wr h 182 0 0)) ∧
            (v2 ≤ 3 →
              (v3 < 0 →
                Q (some (.inl (-1))) (wr h 182 0 0)) ∧
              (0 ≤ v3 →
                (23 < v3 →
                  Q (some (.inl (-1))) (wr h 182 0 0)) ∧
                (v3 ≤ 23 →
                  (∃ c, c < e ∧ Rn xs xl c mm_laysInto 0 [some (.inr (.inr 182)), some (.inl v2), some (.inl v3), some (.inl (rd h 198 1)), some (.inl 0), none, none, none] [] (wr h 182 0 0) (fun r h' => Rn xs xl e mm_ring 37 [some (.inr (.inr 182)), some (.inl v1), some (.inl v2), some (.inl v3)] (r.toList ++ []) h' Q))))))))) :
    Rn xs xl e mm_ring 0 [some (.inr (.inr 182)), some (.inl v1), some (.inl v2), some (.inl v3)] [] h Q := by
  refine R_ld (v := .inr (.inr 182)) dd_ring_0 rfl rfl rfl rfl ?_
  refine R_ic dd_ring_1 (by decide) rfl ?_
  refine R_pf (z := 0) dd_ring_2 fd_12_1 io_182 fn_12_0 rfl rfl ?_
  refine R_ld (v := .inr (.inr 182)) dd_ring_5 rfl rfl rfl rfl ?_
  refine R_ld (v := .inl v1) dd_ring_6 rfl rfl rfl rfl ?_
  refine R_call (as := [.inr (.inr 182), .inl v1]) (rest := []) (M' := mm_isRoom) (ls0 := [some (.inr (.inr 182)), some (.inl v1)]) dd_ring_7 rfl rfl (cw_v cw_12_370 io_182 rfl rfl (Nat.le_of_ble_eq_true rfl) (Nat.le_of_ble_eq_true rfl)) mt_isRoom rfl (c := e - 1) (by omega) rfl ?_
  refine R_ld (v := .inl v1) dd_isRoom_0 rfl rfl rfl rfl ?_
  refine R_if dd_isRoom_1 rfl rfl (fun (c2 : v1 < 0) => ?_) (fun (c2 : 0 ≤ v1) => ?_)
  · replace k := k.1 c2
    refine R_ic dd_isRoom_16 (by decide) rfl ?_
    refine R_zret dd_isRoom_17 rfl (by decide) ?_
    change Rn xs xl e mm_ring 10 [some (.inr (.inr 182)), some (.inl v1), some (.inl v2), some (.inl v3)] [.inl 0] (wr h 182 0 0) _
    refine R_if dd_ring_10 rfl rfl (fun (c3 : 0 = 0) => ?_) (fun (c3 : 0 ≠ 0) => ?_)
    · skip
      refine R_ic dd_ring_22 (by decide) rfl ?_
      exact R_iret dd_ring_23 rfl k
    · exact absurd c3 (by omega)
  · replace k := k.2 c2
    refine R_ld (v := .inl v1) dd_isRoom_4 rfl rfl rfl rfl ?_
    refine R_ld (v := .inr (.inr 182)) dd_isRoom_5 rfl rfl rfl rfl ?_
    refine R_call (as := [.inr (.inr 182)]) (rest := [.inl v1]) (M' := mm_rooms) (ls0 := [some (.inr (.inr 182))]) dd_isRoom_6 rfl rfl (cw_v cw_12_332 io_182 rfl rfl (Nat.le_of_ble_eq_true rfl) (Nat.le_of_ble_eq_true rfl)) mt_rooms rfl (c := e - 2) (by omega) rfl ?_
    refine R_ld (v := .inr (.inr 182)) dd_rooms_0 rfl rfl rfl rfl ?_
    refine R_gf (v := .inr (.inr 188)) dd_rooms_1 fd_12_95 io_182 (congrArg (fun z : Int => (Sum.inr (Sum.inr z) : LV)) ((rdw_nei (by omega)).trans (rf_182_10 hF))) rfl ?_
    refine R_ic dd_rooms_4 (by decide) rfl ?_
    refine R_iald (v := (rd h 188 0)) (n := 300) dd_rooms_5 ia_188 la_188 (by decide) (rdw_ne (by decide)) rfl ?_
    refine R_iret dd_rooms_6 rfl ?_
    change Rn xs xl (e - 1) mm_isRoom 9 [some (.inr (.inr 182)), some (.inl v1)] [.inl (rd h 188 0), .inl v1] (wr h 182 0 0) _
    refine R_icmp dd_isRoom_9 rfl rfl (fun (c4 : (rd h 188 0) ≤ v1) => ?_) (fun (c4 : v1 < (rd h 188 0)) => ?_)
    · replace k := k.1 c4
      refine R_ic dd_isRoom_16 (by decide) rfl ?_
      refine R_zret dd_isRoom_17 rfl (by decide) ?_
      change Rn xs xl e mm_ring 10 [some (.inr (.inr 182)), some (.inl v1), some (.inl v2), some (.inl v3)] [.inl 0] (wr h 182 0 0) _
      refine R_if dd_ring_10 rfl rfl (fun (c5 : 0 = 0) => ?_) (fun (c5 : 0 ≠ 0) => ?_)
      · skip
        refine R_ic dd_ring_22 (by decide) rfl ?_
        exact R_iret dd_ring_23 rfl k
      · exact absurd c5 (by omega)
    · replace k := k.2 c4
      refine R_ic dd_isRoom_12 (by decide) rfl ?_
      refine R_goto dd_isRoom_13 rfl ?_
      refine R_zret dd_isRoom_17 rfl (by decide) ?_
      change Rn xs xl e mm_ring 10 [some (.inr (.inr 182)), some (.inl v1), some (.inl v2), some (.inl v3)] [.inl 1] (wr h 182 0 0) _
      refine R_if dd_ring_10 rfl rfl (fun (c6 : 1 = 0) => ?_) (fun (c6 : 1 ≠ 0) => ?_)
      · exact absurd c6 (by omega)
      · skip
        refine R_ld (v := .inr (.inr 182)) dd_ring_13 rfl rfl rfl rfl ?_
        refine R_ld (v := .inl v2) dd_ring_14 rfl rfl rfl rfl ?_
        refine R_ld (v := .inl v3) dd_ring_15 rfl rfl rfl rfl ?_
        refine R_call (as := [.inr (.inr 182), .inl v2, .inl v3]) (rest := []) (M' := mm_mayAsk) (ls0 := [some (.inr (.inr 182)), some (.inl v2), some (.inl v3)]) dd_ring_16 rfl rfl (cw_v cw_12_422 io_182 rfl rfl (Nat.le_of_ble_eq_true rfl) (Nat.le_of_ble_eq_true rfl)) mt_mayAsk rfl (c := e - 1) (by omega) rfl ?_
        refine R_ld (v := .inl v2) dd_mayAsk_0 rfl rfl rfl rfl ?_
        refine R_ic dd_mayAsk_1 (by decide) rfl ?_
        refine R_ic dd_mayAsk_2 (by decide) rfl ?_
        refine R_call (as := [.inl v2, .inl 0, .inl 3]) (rest := []) (M' := mm_within) (ls0 := [some (.inl v2), some (.inl 0), some (.inl 3)]) dd_mayAsk_3 rfl rfl (cw_s cw_12_297 rfl rfl (Nat.le_of_ble_eq_true rfl) (Nat.le_of_ble_eq_true rfl)) mt_within rfl (c := e - 2) (by omega) rfl ?_
        refine R_ld (v := .inl v2) dd_within_0 rfl rfl rfl rfl ?_
        refine R_ld (v := .inl 0) dd_within_1 rfl rfl rfl rfl ?_
        refine R_icmp dd_within_2 rfl rfl (fun (c7 : v2 < 0) => ?_) (fun (c7 : 0 ≤ v2) => ?_)
        · replace k := k.1 c7
          refine R_ic dd_within_14 (by decide) rfl ?_
          refine R_zret dd_within_15 rfl (by decide) ?_
          change Rn xs xl (e - 1) mm_mayAsk 6 [some (.inr (.inr 182)), some (.inl v2), some (.inl v3)] [.inl 0] (wr h 182 0 0) _
          refine R_if dd_mayAsk_6 rfl rfl (fun (c8 : 0 = 0) => ?_) (fun (c8 : 0 ≠ 0) => ?_)
          · skip
            refine R_ic dd_mayAsk_23 (by decide) rfl ?_
            refine R_zret dd_mayAsk_24 rfl (by decide) ?_
            change Rn xs xl e mm_ring 19 [some (.inr (.inr 182)), some (.inl v1), some (.inl v2), some (.inl v3)] [.inl 0] (wr h 182 0 0) _
            refine R_if dd_ring_19 rfl rfl (fun (c9 : 0 ≠ 0) => ?_) (fun (c9 : 0 = 0) => ?_)
            · exact absurd c9 (by omega)
            · skip
              refine R_ic dd_ring_22 (by decide) rfl ?_
              exact R_iret dd_ring_23 rfl k
          · exact absurd c8 (by omega)
        · replace k := k.2 c7
          refine R_ld (v := .inl v2) dd_within_5 rfl rfl rfl rfl ?_
          refine R_ld (v := .inl 3) dd_within_6 rfl rfl rfl rfl ?_
          refine R_icmp dd_within_7 rfl rfl (fun (c10 : 3 < v2) => ?_) (fun (c10 : v2 ≤ 3) => ?_)
          · replace k := k.1 c10
            refine R_ic dd_within_14 (by decide) rfl ?_
            refine R_zret dd_within_15 rfl (by decide) ?_
            change Rn xs xl (e - 1) mm_mayAsk 6 [some (.inr (.inr 182)), some (.inl v2), some (.inl v3)] [.inl 0] (wr h 182 0 0) _
            refine R_if dd_mayAsk_6 rfl rfl (fun (c11 : 0 = 0) => ?_) (fun (c11 : 0 ≠ 0) => ?_)
            · skip
              refine R_ic dd_mayAsk_23 (by decide) rfl ?_
              refine R_zret dd_mayAsk_24 rfl (by decide) ?_
              change Rn xs xl e mm_ring 19 [some (.inr (.inr 182)), some (.inl v1), some (.inl v2), some (.inl v3)] [.inl 0] (wr h 182 0 0) _
              refine R_if dd_ring_19 rfl rfl (fun (c12 : 0 ≠ 0) => ?_) (fun (c12 : 0 = 0) => ?_)
              · exact absurd c12 (by omega)
              · skip
                refine R_ic dd_ring_22 (by decide) rfl ?_
                exact R_iret dd_ring_23 rfl k
            · exact absurd c11 (by omega)
          · replace k := k.2 c10
            refine R_ic dd_within_10 (by decide) rfl ?_
            refine R_goto dd_within_11 rfl ?_
            refine R_zret dd_within_15 rfl (by decide) ?_
            change Rn xs xl (e - 1) mm_mayAsk 6 [some (.inr (.inr 182)), some (.inl v2), some (.inl v3)] [.inl 1] (wr h 182 0 0) _
            refine R_if dd_mayAsk_6 rfl rfl (fun (c13 : 1 = 0) => ?_) (fun (c13 : 1 ≠ 0) => ?_)
            · exact absurd c13 (by omega)
            · skip
              refine R_ld (v := .inl v3) dd_mayAsk_9 rfl rfl rfl rfl ?_
              refine R_ic dd_mayAsk_10 (by decide) rfl ?_
              refine R_bi dd_mayAsk_11 (by decide) rfl ?_
              refine R_call (as := [.inl v3, .inl 0, .inl 23]) (rest := []) (M' := mm_within) (ls0 := [some (.inl v3), some (.inl 0), some (.inl 23)]) dd_mayAsk_13 rfl rfl (cw_s cw_12_297 rfl rfl (Nat.le_of_ble_eq_true rfl) (Nat.le_of_ble_eq_true rfl)) mt_within rfl (c := e - 2) (by omega) rfl ?_
              refine R_ld (v := .inl v3) dd_within_0 rfl rfl rfl rfl ?_
              refine R_ld (v := .inl 0) dd_within_1 rfl rfl rfl rfl ?_
              refine R_icmp dd_within_2 rfl rfl (fun (c14 : v3 < 0) => ?_) (fun (c14 : 0 ≤ v3) => ?_)
              · replace k := k.1 c14
                refine R_ic dd_within_14 (by decide) rfl ?_
                refine R_zret dd_within_15 rfl (by decide) ?_
                change Rn xs xl (e - 1) mm_mayAsk 16 [some (.inr (.inr 182)), some (.inl v2), some (.inl v3)] [.inl 0] (wr h 182 0 0) _
                refine R_if dd_mayAsk_16 rfl rfl (fun (c15 : 0 = 0) => ?_) (fun (c15 : 0 ≠ 0) => ?_)
                · skip
                  refine R_ic dd_mayAsk_23 (by decide) rfl ?_
                  refine R_zret dd_mayAsk_24 rfl (by decide) ?_
                  change Rn xs xl e mm_ring 19 [some (.inr (.inr 182)), some (.inl v1), some (.inl v2), some (.inl v3)] [.inl 0] (wr h 182 0 0) _
                  refine R_if dd_ring_19 rfl rfl (fun (c16 : 0 ≠ 0) => ?_) (fun (c16 : 0 = 0) => ?_)
                  · exact absurd c16 (by omega)
                  · skip
                    refine R_ic dd_ring_22 (by decide) rfl ?_
                    exact R_iret dd_ring_23 rfl k
                · exact absurd c15 (by omega)
              · replace k := k.2 c14
                refine R_ld (v := .inl v3) dd_within_5 rfl rfl rfl rfl ?_
                refine R_ld (v := .inl 23) dd_within_6 rfl rfl rfl rfl ?_
                refine R_icmp dd_within_7 rfl rfl (fun (c17 : 23 < v3) => ?_) (fun (c17 : v3 ≤ 23) => ?_)
                · replace k := k.1 c17
                  refine R_ic dd_within_14 (by decide) rfl ?_
                  refine R_zret dd_within_15 rfl (by decide) ?_
                  change Rn xs xl (e - 1) mm_mayAsk 16 [some (.inr (.inr 182)), some (.inl v2), some (.inl v3)] [.inl 0] (wr h 182 0 0) _
                  refine R_if dd_mayAsk_16 rfl rfl (fun (c18 : 0 = 0) => ?_) (fun (c18 : 0 ≠ 0) => ?_)
                  · skip
                    refine R_ic dd_mayAsk_23 (by decide) rfl ?_
                    refine R_zret dd_mayAsk_24 rfl (by decide) ?_
                    change Rn xs xl e mm_ring 19 [some (.inr (.inr 182)), some (.inl v1), some (.inl v2), some (.inl v3)] [.inl 0] (wr h 182 0 0) _
                    refine R_if dd_ring_19 rfl rfl (fun (c19 : 0 ≠ 0) => ?_) (fun (c19 : 0 = 0) => ?_)
                    · exact absurd c19 (by omega)
                    · skip
                      refine R_ic dd_ring_22 (by decide) rfl ?_
                      exact R_iret dd_ring_23 rfl k
                  · exact absurd c18 (by omega)
                · replace k := k.2 c17
                  refine R_ic dd_within_10 (by decide) rfl ?_
                  refine R_goto dd_within_11 rfl ?_
                  refine R_zret dd_within_15 rfl (by decide) ?_
                  change Rn xs xl (e - 1) mm_mayAsk 16 [some (.inr (.inr 182)), some (.inl v2), some (.inl v3)] [.inl 1] (wr h 182 0 0) _
                  refine R_if dd_mayAsk_16 rfl rfl (fun (c20 : 1 = 0) => ?_) (fun (c20 : 1 ≠ 0) => ?_)
                  · exact absurd c20 (by omega)
                  · skip
                    refine R_ic dd_mayAsk_19 (by decide) rfl ?_
                    refine R_goto dd_mayAsk_20 rfl ?_
                    refine R_zret dd_mayAsk_24 rfl (by decide) ?_
                    change Rn xs xl e mm_ring 19 [some (.inr (.inr 182)), some (.inl v1), some (.inl v2), some (.inl v3)] [.inl 1] (wr h 182 0 0) _
                    refine R_if dd_ring_19 rfl rfl (fun (c21 : 1 ≠ 0) => ?_) (fun (c21 : 1 = 0) => ?_)
                    · skip
                      refine R_ld (v := .inr (.inr 182)) dd_ring_24 rfl rfl rfl rfl ?_
                      refine R_ld (v := .inl v2) dd_ring_25 rfl rfl rfl rfl ?_
                      refine R_ld (v := .inl v3) dd_ring_26 rfl rfl rfl rfl ?_
                      refine R_ld (v := .inr (.inr 182)) dd_ring_27 rfl rfl rfl rfl ?_
                      refine R_gf (v := .inr (.inr 198)) dd_ring_28 fd_12_125 io_182 (congrArg (fun z : Int => (Sum.inr (Sum.inr z) : LV)) ((rdw_nei (by omega)).trans (rf_182_24 hF))) rfl ?_
                      refine R_ic dd_ring_31 (by decide) rfl ?_
                      refine R_iald (v := (rd h 198 1)) (n := 1610) dd_ring_32 ia_198 la_198 (by decide) (rdw_ne (by decide)) rfl ?_
                      refine R_ic dd_ring_33 (by decide) rfl ?_
                      obtain ⟨c, hc, k⟩ := k
                      exact R_call (as := [.inr (.inr 182), .inl v2, .inl v3, .inl (rd h 198 1), .inl 0]) (rest := []) (M' := mm_laysInto) (ls0 := [some (.inr (.inr 182)), some (.inl v2), some (.inl v3), some (.inl (rd h 198 1)), some (.inl 0), none, none, none]) dd_ring_34 rfl rfl (cw_v cw_12_425 io_182 rfl rfl (Nat.le_of_ble_eq_true rfl) (Nat.le_of_ble_eq_true rfl)) mt_laysInto rfl hc rfl k
                    · exact absurd c21 (by omega)
theorem B_ring_37 {xs : Nat → Int} {xl e : Nat} {h : LH} {Q : Option LV → LH → Prop} {v1 v2 v3 : Int} (hF : RF h)
    (k : (∃ c, c < e ∧ Rn xs xl c mm_closure 0 [some (.inr (.inr 182)), some (.inl v1), none, none, none] [] h (fun r h' => Rn xs xl e mm_ring 42 [some (.inr (.inr 182)), some (.inl v1), some (.inl v2), some (.inl v3)] (r.toList ++ []) h' Q))) :
    Rn xs xl e mm_ring 37 [some (.inr (.inr 182)), some (.inl v1), some (.inl v2), some (.inl v3)] [] h Q := by
  refine R_ld (v := .inr (.inr 182)) dd_ring_37 rfl rfl rfl rfl ?_
  refine R_ld (v := .inl v1) dd_ring_38 rfl rfl rfl rfl ?_
  obtain ⟨c, hc, k⟩ := k
  exact R_call (as := [.inr (.inr 182), .inl v1]) (rest := []) (M' := mm_closure) (ls0 := [some (.inr (.inr 182)), some (.inl v1), none, none, none]) dd_ring_39 rfl rfl (cw_v cw_12_419 io_182 rfl rfl (Nat.le_of_ble_eq_true rfl) (Nat.le_of_ble_eq_true rfl)) mt_closure rfl hc rfl k
theorem B_ring_42 {xs : Nat → Int} {xl e : Nat} {h : LH} {Q : Option LV → LH → Prop} {v1 v2 v3 w0 : Int} (hF : RF h)
    (k : (∃ c, c < e ∧ Rn xs xl c mm_homelessOf 0 [some (.inr (.inr 182)), some (.inl v1), none, none] [] h (fun r h' => Rn xs xl e mm_ring 47 [some (.inr (.inr 182)), some (.inl v1), some (.inl v2), some (.inl v3)] (r.toList ++ [.inl w0]) h' Q))) :
    Rn xs xl e mm_ring 42 [some (.inr (.inr 182)), some (.inl v1), some (.inl v2), some (.inl v3)] [.inl w0] h Q := by
  refine R_ld (v := .inr (.inr 182)) dd_ring_42 rfl rfl rfl rfl ?_
  refine R_ld (v := .inl v1) dd_ring_43 rfl rfl rfl rfl ?_
  obtain ⟨c, hc, k⟩ := k
  exact R_call (as := [.inr (.inr 182), .inl v1]) (rest := [.inl w0]) (M' := mm_homelessOf) (ls0 := [some (.inr (.inr 182)), some (.inl v1), none, none]) dd_ring_44 rfl rfl (cw_v cw_12_429 io_182 rfl rfl (Nat.le_of_ble_eq_true rfl) (Nat.le_of_ble_eq_true rfl)) mt_homelessOf rfl hc rfl k
theorem B_ring_47 {xs : Nat → Int} {xl e : Nat} {h : LH} {Q : Option LV → LH → Prop} {v1 v2 v3 w0 w1 : Int} (hF : RF h)
    (k : Q (some (.inl (zand w0 (zxor w1 (-1))))) h) :
    Rn xs xl e mm_ring 47 [some (.inr (.inr 182)), some (.inl v1), some (.inl v2), some (.inl v3)] [.inl w1, .inl w0] h Q := by
  refine R_ic dd_ring_47 (by decide) rfl ?_
  refine R_A dd_ring_48 rfl rfl rfl rfl ?_
  refine R_A dd_ring_49 rfl rfl rfl rfl ?_
  exact R_iret dd_ring_50 rfl k
theorem B_homeless_0 {xs : Nat → Int} {xl e : Nat} {h : LH} {Q : Option LV → LH → Prop} {v1 v2 v3 : Int} (hF : RF h) (he : 2 ≤ e)
    (k : (v1 < 0 →
        Q (some (.inl (-1))) (wr h 182 0 0)) ∧
      (0 ≤ v1 →
        ((rd h 188 0) ≤ v1 →
          Q (some (.inl (-1))) (wr h 182 0 0)) ∧
        (v1 < (rd h 188 0) →
          (v2 < 0 →
            Q (some (.inl (-1))) (wr h 182 0 0)) ∧
          (0 ≤ v2 →
            (3 < v2 →
              Q (some (.inl (-1))) (wr h 182 0 0)) ∧
            (v2 ≤ 3 →
              (v3 < 0 →
                Q (some (.inl (-1))) (wr h 182 0 0)) ∧
              (0 ≤ v3 →
                (23 < v3 →
                  Q (some (.inl (-1))) (wr h 182 0 0)) ∧
                (v3 ≤ 23 →
                  (∃ c, c < e ∧ Rn xs xl c mm_laysInto 0 [some (.inr (.inr 182)), some (.inl v2), some (.inl v3), some (.inl (rd h 198 1)), some (.inl 0), none, none, none] [] (wr h 182 0 0) (fun r h' => Rn xs xl e mm_homeless 37 [some (.inr (.inr 182)), some (.inl v1), some (.inl v2), some (.inl v3)] (r.toList ++ []) h' Q))))))))) :
    Rn xs xl e mm_homeless 0 [some (.inr (.inr 182)), some (.inl v1), some (.inl v2), some (.inl v3)] [] h Q := by
  refine R_ld (v := .inr (.inr 182)) dd_homeless_0 rfl rfl rfl rfl ?_
  refine R_ic dd_homeless_1 (by decide) rfl ?_
  refine R_pf (z := 0) dd_homeless_2 fd_12_1 io_182 fn_12_0 rfl rfl ?_
  refine R_ld (v := .inr (.inr 182)) dd_homeless_5 rfl rfl rfl rfl ?_
  refine R_ld (v := .inl v1) dd_homeless_6 rfl rfl rfl rfl ?_
  refine R_call (as := [.inr (.inr 182), .inl v1]) (rest := []) (M' := mm_isRoom) (ls0 := [some (.inr (.inr 182)), some (.inl v1)]) dd_homeless_7 rfl rfl (cw_v cw_12_370 io_182 rfl rfl (Nat.le_of_ble_eq_true rfl) (Nat.le_of_ble_eq_true rfl)) mt_isRoom rfl (c := e - 1) (by omega) rfl ?_
  refine R_ld (v := .inl v1) dd_isRoom_0 rfl rfl rfl rfl ?_
  refine R_if dd_isRoom_1 rfl rfl (fun (c2 : v1 < 0) => ?_) (fun (c2 : 0 ≤ v1) => ?_)
  · replace k := k.1 c2
    refine R_ic dd_isRoom_16 (by decide) rfl ?_
    refine R_zret dd_isRoom_17 rfl (by decide) ?_
    change Rn xs xl e mm_homeless 10 [some (.inr (.inr 182)), some (.inl v1), some (.inl v2), some (.inl v3)] [.inl 0] (wr h 182 0 0) _
    refine R_if dd_homeless_10 rfl rfl (fun (c3 : 0 = 0) => ?_) (fun (c3 : 0 ≠ 0) => ?_)
    · skip
      refine R_ic dd_homeless_22 (by decide) rfl ?_
      exact R_iret dd_homeless_23 rfl k
    · exact absurd c3 (by omega)
  · replace k := k.2 c2
    refine R_ld (v := .inl v1) dd_isRoom_4 rfl rfl rfl rfl ?_
    refine R_ld (v := .inr (.inr 182)) dd_isRoom_5 rfl rfl rfl rfl ?_
    refine R_call (as := [.inr (.inr 182)]) (rest := [.inl v1]) (M' := mm_rooms) (ls0 := [some (.inr (.inr 182))]) dd_isRoom_6 rfl rfl (cw_v cw_12_332 io_182 rfl rfl (Nat.le_of_ble_eq_true rfl) (Nat.le_of_ble_eq_true rfl)) mt_rooms rfl (c := e - 2) (by omega) rfl ?_
    refine R_ld (v := .inr (.inr 182)) dd_rooms_0 rfl rfl rfl rfl ?_
    refine R_gf (v := .inr (.inr 188)) dd_rooms_1 fd_12_95 io_182 (congrArg (fun z : Int => (Sum.inr (Sum.inr z) : LV)) ((rdw_nei (by omega)).trans (rf_182_10 hF))) rfl ?_
    refine R_ic dd_rooms_4 (by decide) rfl ?_
    refine R_iald (v := (rd h 188 0)) (n := 300) dd_rooms_5 ia_188 la_188 (by decide) (rdw_ne (by decide)) rfl ?_
    refine R_iret dd_rooms_6 rfl ?_
    change Rn xs xl (e - 1) mm_isRoom 9 [some (.inr (.inr 182)), some (.inl v1)] [.inl (rd h 188 0), .inl v1] (wr h 182 0 0) _
    refine R_icmp dd_isRoom_9 rfl rfl (fun (c4 : (rd h 188 0) ≤ v1) => ?_) (fun (c4 : v1 < (rd h 188 0)) => ?_)
    · replace k := k.1 c4
      refine R_ic dd_isRoom_16 (by decide) rfl ?_
      refine R_zret dd_isRoom_17 rfl (by decide) ?_
      change Rn xs xl e mm_homeless 10 [some (.inr (.inr 182)), some (.inl v1), some (.inl v2), some (.inl v3)] [.inl 0] (wr h 182 0 0) _
      refine R_if dd_homeless_10 rfl rfl (fun (c5 : 0 = 0) => ?_) (fun (c5 : 0 ≠ 0) => ?_)
      · skip
        refine R_ic dd_homeless_22 (by decide) rfl ?_
        exact R_iret dd_homeless_23 rfl k
      · exact absurd c5 (by omega)
    · replace k := k.2 c4
      refine R_ic dd_isRoom_12 (by decide) rfl ?_
      refine R_goto dd_isRoom_13 rfl ?_
      refine R_zret dd_isRoom_17 rfl (by decide) ?_
      change Rn xs xl e mm_homeless 10 [some (.inr (.inr 182)), some (.inl v1), some (.inl v2), some (.inl v3)] [.inl 1] (wr h 182 0 0) _
      refine R_if dd_homeless_10 rfl rfl (fun (c6 : 1 = 0) => ?_) (fun (c6 : 1 ≠ 0) => ?_)
      · exact absurd c6 (by omega)
      · skip
        refine R_ld (v := .inr (.inr 182)) dd_homeless_13 rfl rfl rfl rfl ?_
        refine R_ld (v := .inl v2) dd_homeless_14 rfl rfl rfl rfl ?_
        refine R_ld (v := .inl v3) dd_homeless_15 rfl rfl rfl rfl ?_
        refine R_call (as := [.inr (.inr 182), .inl v2, .inl v3]) (rest := []) (M' := mm_mayAsk) (ls0 := [some (.inr (.inr 182)), some (.inl v2), some (.inl v3)]) dd_homeless_16 rfl rfl (cw_v cw_12_422 io_182 rfl rfl (Nat.le_of_ble_eq_true rfl) (Nat.le_of_ble_eq_true rfl)) mt_mayAsk rfl (c := e - 1) (by omega) rfl ?_
        refine R_ld (v := .inl v2) dd_mayAsk_0 rfl rfl rfl rfl ?_
        refine R_ic dd_mayAsk_1 (by decide) rfl ?_
        refine R_ic dd_mayAsk_2 (by decide) rfl ?_
        refine R_call (as := [.inl v2, .inl 0, .inl 3]) (rest := []) (M' := mm_within) (ls0 := [some (.inl v2), some (.inl 0), some (.inl 3)]) dd_mayAsk_3 rfl rfl (cw_s cw_12_297 rfl rfl (Nat.le_of_ble_eq_true rfl) (Nat.le_of_ble_eq_true rfl)) mt_within rfl (c := e - 2) (by omega) rfl ?_
        refine R_ld (v := .inl v2) dd_within_0 rfl rfl rfl rfl ?_
        refine R_ld (v := .inl 0) dd_within_1 rfl rfl rfl rfl ?_
        refine R_icmp dd_within_2 rfl rfl (fun (c7 : v2 < 0) => ?_) (fun (c7 : 0 ≤ v2) => ?_)
        · replace k := k.1 c7
          refine R_ic dd_within_14 (by decide) rfl ?_
          refine R_zret dd_within_15 rfl (by decide) ?_
          change Rn xs xl (e - 1) mm_mayAsk 6 [some (.inr (.inr 182)), some (.inl v2), some (.inl v3)] [.inl 0] (wr h 182 0 0) _
          refine R_if dd_mayAsk_6 rfl rfl (fun (c8 : 0 = 0) => ?_) (fun (c8 : 0 ≠ 0) => ?_)
          · skip
            refine R_ic dd_mayAsk_23 (by decide) rfl ?_
            refine R_zret dd_mayAsk_24 rfl (by decide) ?_
            change Rn xs xl e mm_homeless 19 [some (.inr (.inr 182)), some (.inl v1), some (.inl v2), some (.inl v3)] [.inl 0] (wr h 182 0 0) _
            refine R_if dd_homeless_19 rfl rfl (fun (c9 : 0 ≠ 0) => ?_) (fun (c9 : 0 = 0) => ?_)
            · exact absurd c9 (by omega)
            · skip
              refine R_ic dd_homeless_22 (by decide) rfl ?_
              exact R_iret dd_homeless_23 rfl k
          · exact absurd c8 (by omega)
        · replace k := k.2 c7
          refine R_ld (v := .inl v2) dd_within_5 rfl rfl rfl rfl ?_
          refine R_ld (v := .inl 3) dd_within_6 rfl rfl rfl rfl ?_
          refine R_icmp dd_within_7 rfl rfl (fun (c10 : 3 < v2) => ?_) (fun (c10 : v2 ≤ 3) => ?_)
          · replace k := k.1 c10
            refine R_ic dd_within_14 (by decide) rfl ?_
            refine R_zret dd_within_15 rfl (by decide) ?_
            change Rn xs xl (e - 1) mm_mayAsk 6 [some (.inr (.inr 182)), some (.inl v2), some (.inl v3)] [.inl 0] (wr h 182 0 0) _
            refine R_if dd_mayAsk_6 rfl rfl (fun (c11 : 0 = 0) => ?_) (fun (c11 : 0 ≠ 0) => ?_)
            · skip
              refine R_ic dd_mayAsk_23 (by decide) rfl ?_
              refine R_zret dd_mayAsk_24 rfl (by decide) ?_
              change Rn xs xl e mm_homeless 19 [some (.inr (.inr 182)), some (.inl v1), some (.inl v2), some (.inl v3)] [.inl 0] (wr h 182 0 0) _
              refine R_if dd_homeless_19 rfl rfl (fun (c12 : 0 ≠ 0) => ?_) (fun (c12 : 0 = 0) => ?_)
              · exact absurd c12 (by omega)
              · skip
                refine R_ic dd_homeless_22 (by decide) rfl ?_
                exact R_iret dd_homeless_23 rfl k
            · exact absurd c11 (by omega)
          · replace k := k.2 c10
            refine R_ic dd_within_10 (by decide) rfl ?_
            refine R_goto dd_within_11 rfl ?_
            refine R_zret dd_within_15 rfl (by decide) ?_
            change Rn xs xl (e - 1) mm_mayAsk 6 [some (.inr (.inr 182)), some (.inl v2), some (.inl v3)] [.inl 1] (wr h 182 0 0) _
            refine R_if dd_mayAsk_6 rfl rfl (fun (c13 : 1 = 0) => ?_) (fun (c13 : 1 ≠ 0) => ?_)
            · exact absurd c13 (by omega)
            · skip
              refine R_ld (v := .inl v3) dd_mayAsk_9 rfl rfl rfl rfl ?_
              refine R_ic dd_mayAsk_10 (by decide) rfl ?_
              refine R_bi dd_mayAsk_11 (by decide) rfl ?_
              refine R_call (as := [.inl v3, .inl 0, .inl 23]) (rest := []) (M' := mm_within) (ls0 := [some (.inl v3), some (.inl 0), some (.inl 23)]) dd_mayAsk_13 rfl rfl (cw_s cw_12_297 rfl rfl (Nat.le_of_ble_eq_true rfl) (Nat.le_of_ble_eq_true rfl)) mt_within rfl (c := e - 2) (by omega) rfl ?_
              refine R_ld (v := .inl v3) dd_within_0 rfl rfl rfl rfl ?_
              refine R_ld (v := .inl 0) dd_within_1 rfl rfl rfl rfl ?_
              refine R_icmp dd_within_2 rfl rfl (fun (c14 : v3 < 0) => ?_) (fun (c14 : 0 ≤ v3) => ?_)
              · replace k := k.1 c14
                refine R_ic dd_within_14 (by decide) rfl ?_
                refine R_zret dd_within_15 rfl (by decide) ?_
                change Rn xs xl (e - 1) mm_mayAsk 16 [some (.inr (.inr 182)), some (.inl v2), some (.inl v3)] [.inl 0] (wr h 182 0 0) _
                refine R_if dd_mayAsk_16 rfl rfl (fun (c15 : 0 = 0) => ?_) (fun (c15 : 0 ≠ 0) => ?_)
                · skip
                  refine R_ic dd_mayAsk_23 (by decide) rfl ?_
                  refine R_zret dd_mayAsk_24 rfl (by decide) ?_
                  change Rn xs xl e mm_homeless 19 [some (.inr (.inr 182)), some (.inl v1), some (.inl v2), some (.inl v3)] [.inl 0] (wr h 182 0 0) _
                  refine R_if dd_homeless_19 rfl rfl (fun (c16 : 0 ≠ 0) => ?_) (fun (c16 : 0 = 0) => ?_)
                  · exact absurd c16 (by omega)
                  · skip
                    refine R_ic dd_homeless_22 (by decide) rfl ?_
                    exact R_iret dd_homeless_23 rfl k
                · exact absurd c15 (by omega)
              · replace k := k.2 c14
                refine R_ld (v := .inl v3) dd_within_5 rfl rfl rfl rfl ?_
                refine R_ld (v := .inl 23) dd_within_6 rfl rfl rfl rfl ?_
                refine R_icmp dd_within_7 rfl rfl (fun (c17 : 23 < v3) => ?_) (fun (c17 : v3 ≤ 23) => ?_)
                · replace k := k.1 c17
                  refine R_ic dd_within_14 (by decide) rfl ?_
                  refine R_zret dd_within_15 rfl (by decide) ?_
                  change Rn xs xl (e - 1) mm_mayAsk 16 [some (.inr (.inr 182)), some (.inl v2), some (.inl v3)] [.inl 0] (wr h 182 0 0) _
                  refine R_if dd_mayAsk_16 rfl rfl (fun (c18 : 0 = 0) => ?_) (fun (c18 : 0 ≠ 0) => ?_)
                  · skip
                    refine R_ic dd_mayAsk_23 (by decide) rfl ?_
                    refine R_zret dd_mayAsk_24 rfl (by decide) ?_
                    change Rn xs xl e mm_homeless 19 [some (.inr (.inr 182)), some (.inl v1), some (.inl v2), some (.inl v3)] [.inl 0] (wr h 182 0 0) _
                    refine R_if dd_homeless_19 rfl rfl (fun (c19 : 0 ≠ 0) => ?_) (fun (c19 : 0 = 0) => ?_)
                    · exact absurd c19 (by omega)
                    · skip
                      refine R_ic dd_homeless_22 (by decide) rfl ?_
                      exact R_iret dd_homeless_23 rfl k
                  · exact absurd c18 (by omega)
                · replace k := k.2 c17
                  refine R_ic dd_within_10 (by decide) rfl ?_
                  refine R_goto dd_within_11 rfl ?_
                  refine R_zret dd_within_15 rfl (by decide) ?_
                  change Rn xs xl (e - 1) mm_mayAsk 16 [some (.inr (.inr 182)), some (.inl v2), some (.inl v3)] [.inl 1] (wr h 182 0 0) _
                  refine R_if dd_mayAsk_16 rfl rfl (fun (c20 : 1 = 0) => ?_) (fun (c20 : 1 ≠ 0) => ?_)
                  · exact absurd c20 (by omega)
                  · skip
                    refine R_ic dd_mayAsk_19 (by decide) rfl ?_
                    refine R_goto dd_mayAsk_20 rfl ?_
                    refine R_zret dd_mayAsk_24 rfl (by decide) ?_
                    change Rn xs xl e mm_homeless 19 [some (.inr (.inr 182)), some (.inl v1), some (.inl v2), some (.inl v3)] [.inl 1] (wr h 182 0 0) _
                    refine R_if dd_homeless_19 rfl rfl (fun (c21 : 1 ≠ 0) => ?_) (fun (c21 : 1 = 0) => ?_)
                    · skip
                      refine R_ld (v := .inr (.inr 182)) dd_homeless_24 rfl rfl rfl rfl ?_
                      refine R_ld (v := .inl v2) dd_homeless_25 rfl rfl rfl rfl ?_
                      refine R_ld (v := .inl v3) dd_homeless_26 rfl rfl rfl rfl ?_
                      refine R_ld (v := .inr (.inr 182)) dd_homeless_27 rfl rfl rfl rfl ?_
                      refine R_gf (v := .inr (.inr 198)) dd_homeless_28 fd_12_125 io_182 (congrArg (fun z : Int => (Sum.inr (Sum.inr z) : LV)) ((rdw_nei (by omega)).trans (rf_182_24 hF))) rfl ?_
                      refine R_ic dd_homeless_31 (by decide) rfl ?_
                      refine R_iald (v := (rd h 198 1)) (n := 1610) dd_homeless_32 ia_198 la_198 (by decide) (rdw_ne (by decide)) rfl ?_
                      refine R_ic dd_homeless_33 (by decide) rfl ?_
                      obtain ⟨c, hc, k⟩ := k
                      exact R_call (as := [.inr (.inr 182), .inl v2, .inl v3, .inl (rd h 198 1), .inl 0]) (rest := []) (M' := mm_laysInto) (ls0 := [some (.inr (.inr 182)), some (.inl v2), some (.inl v3), some (.inl (rd h 198 1)), some (.inl 0), none, none, none]) dd_homeless_34 rfl rfl (cw_v cw_12_425 io_182 rfl rfl (Nat.le_of_ble_eq_true rfl) (Nat.le_of_ble_eq_true rfl)) mt_laysInto rfl hc rfl k
                    · exact absurd c21 (by omega)
theorem B_homeless_37 {xs : Nat → Int} {xl e : Nat} {h : LH} {Q : Option LV → LH → Prop} {v1 v2 v3 : Int} (hF : RF h)
    (k : (∃ c, c < e ∧ Rn xs xl c mm_homelessOf 0 [some (.inr (.inr 182)), some (.inl v1), none, none] [] h (fun r h' => Rn xs xl e mm_homeless 42 [some (.inr (.inr 182)), some (.inl v1), some (.inl v2), some (.inl v3)] (r.toList ++ []) h' Q))) :
    Rn xs xl e mm_homeless 37 [some (.inr (.inr 182)), some (.inl v1), some (.inl v2), some (.inl v3)] [] h Q := by
  refine R_ld (v := .inr (.inr 182)) dd_homeless_37 rfl rfl rfl rfl ?_
  refine R_ld (v := .inl v1) dd_homeless_38 rfl rfl rfl rfl ?_
  obtain ⟨c, hc, k⟩ := k
  exact R_call (as := [.inr (.inr 182), .inl v1]) (rest := []) (M' := mm_homelessOf) (ls0 := [some (.inr (.inr 182)), some (.inl v1), none, none]) dd_homeless_39 rfl rfl (cw_v cw_12_429 io_182 rfl rfl (Nat.le_of_ble_eq_true rfl) (Nat.le_of_ble_eq_true rfl)) mt_homelessOf rfl hc rfl k
theorem B_homeless_42 {xs : Nat → Int} {xl e : Nat} {h : LH} {Q : Option LV → LH → Prop} {v1 v2 v3 w0 : Int} (hF : RF h)
    (k : Q (some (.inl w0)) h) :
    Rn xs xl e mm_homeless 42 [some (.inr (.inr 182)), some (.inl v1), some (.inl v2), some (.inl v3)] [.inl w0] h Q := by
  exact R_iret dd_homeless_42 rfl k
