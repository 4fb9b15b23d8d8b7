section
/-! LM, by program (wip/p2/hand.py): rows of rings -/
def mm_Web_roomsFrom : LM_M := (⟨"OneSided$Web", "roomsFrom", "(LOneSided$Quarter;III)I"⟩, prog_12_method_2_code, 7, (some .int), 10, 4, 1, 940, 939, 0)
def mm_Web_ringOf : LM_M := (⟨"OneSided$Web", "ringOf", "(LOneSided$Quarter;III)I"⟩, prog_12_method_3_code, 4, (some .int), 10, 4, 1, 937, 936, 0)
def mm_OneSided_ahead : LM_M := (⟨"OneSided", "ahead", "(II)I"⟩, prog_1_method_36_code, 3, (some .int), 11, 3, 0, 928, 927, 1000037)
def mm_OneSided_back : LM_M := (⟨"OneSided", "back", "(II)I"⟩, prog_1_method_37_code, 3, (some .int), 11, 3, 0, 933, 932, 1000038)
def mm_laysInto : LM_M := (⟨"OneSidedModel", "laysInto", "(IIII)V"⟩, prog_14_method_79_code, 8, none, 12, 5, 0, 1702, 1701, 1000115)
def mm_homelessOf : LM_M := (⟨"OneSidedModel", "homelessOf", "(I)I"⟩, prog_14_method_82_code, 4, (some .int), 12, 2, 0, 1710, 1709, 1000117)
def mm_mayAsk : LM_M := (⟨"OneSidedModel", "mayAsk", "(II)Z"⟩, prog_14_method_81_code, 3, (some .boolean), 12, 3, 0, 1698, 1697, 1000114)
theorem dd_Web_roomsFrom_0 : decode mm_Web_roomsFrom.2.1 0 = .ok (.iconst 1, 1) := by decide +kernel
theorem dd_Web_roomsFrom_1 : decode mm_Web_roomsFrom.2.1 1 = .ok (.iload_n 3, 1) := by decide +kernel
theorem dd_Web_roomsFrom_2 : decode mm_Web_roomsFrom.2.1 2 = .ok (.ishl, 1) := by decide +kernel
theorem dd_Web_roomsFrom_3 : decode mm_Web_roomsFrom.2.1 3 = .ok (.istore 4, 2) := by decide +kernel
theorem dd_Web_roomsFrom_5 : decode mm_Web_roomsFrom.2.1 5 = .ok (.iconst 0, 1) := by decide +kernel
theorem dd_Web_roomsFrom_6 : decode mm_Web_roomsFrom.2.1 6 = .ok (.istore 5, 2) := by decide +kernel
theorem dd_Web_roomsFrom_8 : decode mm_Web_roomsFrom.2.1 8 = .ok (.iload 5, 2) := by decide +kernel
theorem dd_Web_roomsFrom_10 : decode mm_Web_roomsFrom.2.1 10 = .ok (.bipush 10, 2) := by decide +kernel
theorem dd_Web_roomsFrom_12 : decode mm_Web_roomsFrom.2.1 12 = .ok (.if_icmp .ge (36), 3) := by decide +kernel
theorem dd_Web_roomsFrom_48 : decode mm_Web_roomsFrom.2.1 48 = .ok (.iload 4, 2) := by decide +kernel
theorem dd_Web_roomsFrom_50 : decode mm_Web_roomsFrom.2.1 50 = .ok (.ireturn, 1) := by decide +kernel
theorem dd_Web_roomsFrom_15 : decode mm_Web_roomsFrom.2.1 15 = .ok (.iload 4, 2) := by decide +kernel
theorem dd_Web_roomsFrom_17 : decode mm_Web_roomsFrom.2.1 17 = .ok (.aload_n 0, 1) := by decide +kernel
theorem dd_Web_roomsFrom_18 : decode mm_Web_roomsFrom.2.1 18 = .ok (.iload_n 1, 1) := by decide +kernel
theorem dd_Web_roomsFrom_19 : decode mm_Web_roomsFrom.2.1 19 = .ok (.iload_n 2, 1) := by decide +kernel
theorem dd_Web_roomsFrom_20 : decode mm_Web_roomsFrom.2.1 20 = .ok (.iload 4, 2) := by decide +kernel
theorem dd_Web_roomsFrom_22 : decode mm_Web_roomsFrom.2.1 22 = .ok (.invokevirtual 21, 3) := by decide +kernel
theorem cw_10_21 : cwOk 10 21 0 84 4 7 6 = true := by decide +kernel
theorem dd_Web_roomsFrom_25 : decode mm_Web_roomsFrom.2.1 25 = .ok (.ior, 1) := by decide +kernel
theorem dd_Web_roomsFrom_26 : decode mm_Web_roomsFrom.2.1 26 = .ok (.istore 6, 2) := by decide +kernel
theorem dd_Web_roomsFrom_28 : decode mm_Web_roomsFrom.2.1 28 = .ok (.iload 6, 2) := by decide +kernel
theorem dd_Web_roomsFrom_30 : decode mm_Web_roomsFrom.2.1 30 = .ok (.iload 4, 2) := by decide +kernel
theorem dd_Web_roomsFrom_32 : decode mm_Web_roomsFrom.2.1 32 = .ok (.if_icmp .ne (6), 3) := by decide +kernel
theorem dd_Web_roomsFrom_38 : decode mm_Web_roomsFrom.2.1 38 = .ok (.iload 6, 2) := by decide +kernel
theorem dd_Web_roomsFrom_40 : decode mm_Web_roomsFrom.2.1 40 = .ok (.istore 4, 2) := by decide +kernel
theorem dd_Web_roomsFrom_42 : decode mm_Web_roomsFrom.2.1 42 = .ok (.iinc 5 1, 3) := by decide +kernel
theorem dd_Web_roomsFrom_45 : decode mm_Web_roomsFrom.2.1 45 = .ok (.goto (-37), 3) := by decide +kernel
theorem dd_Web_roomsFrom_35 : decode mm_Web_roomsFrom.2.1 35 = .ok (.goto 13, 3) := by decide +kernel
theorem dd_Web_ringOf_0 : decode mm_Web_ringOf.2.1 0 = .ok (.aload_n 0, 1) := by decide +kernel
theorem dd_Web_ringOf_1 : decode mm_Web_ringOf.2.1 1 = .ok (.iload_n 1, 1) := by decide +kernel
theorem dd_Web_ringOf_2 : decode mm_Web_ringOf.2.1 2 = .ok (.iload_n 2, 1) := by decide +kernel
theorem dd_Web_ringOf_3 : decode mm_Web_ringOf.2.1 3 = .ok (.iload_n 3, 1) := by decide +kernel
theorem dd_Web_ringOf_4 : decode mm_Web_ringOf.2.1 4 = .ok (.invokestatic 27, 3) := by decide +kernel
theorem cw_10_27 : cwOk 10 27 1 100 4 7 10 = true := by decide +kernel
theorem mt_Web_roomsFrom : MTB 100 = some mm_Web_roomsFrom := rfl
theorem dd_Web_ringOf_7 : decode mm_Web_ringOf.2.1 7 = .ok (.aload_n 0, 1) := by decide +kernel
theorem dd_Web_ringOf_8 : decode mm_Web_ringOf.2.1 8 = .ok (.iload_n 2, 1) := by decide +kernel
theorem dd_Web_ringOf_9 : decode mm_Web_ringOf.2.1 9 = .ok (.iload_n 1, 1) := by decide +kernel
theorem dd_Web_ringOf_10 : decode mm_Web_ringOf.2.1 10 = .ok (.iload_n 3, 1) := by decide +kernel
theorem dd_Web_ringOf_11 : decode mm_Web_ringOf.2.1 11 = .ok (.invokestatic 27, 3) := by decide +kernel
theorem dd_Web_ringOf_14 : decode mm_Web_ringOf.2.1 14 = .ok (.iand, 1) := by decide +kernel
theorem dd_Web_ringOf_15 : decode mm_Web_ringOf.2.1 15 = .ok (.ireturn, 1) := by decide +kernel
theorem dd_OneSided_ring_0 : decode mm_OneSided_ring.2.1 0 = .ok (.aload_n 0, 1) := by decide +kernel
theorem dd_OneSided_ring_1 : decode mm_OneSided_ring.2.1 1 = .ok (.iload_n 1, 1) := by decide +kernel
theorem dd_OneSided_ring_2 : decode mm_OneSided_ring.2.1 2 = .ok (.invokevirtual 190, 3) := by decide +kernel
theorem dd_OneSided_ring_5 : decode mm_OneSided_ring.2.1 5 = .ok (.ifCond .eq (12), 3) := by decide +kernel
theorem dd_OneSided_ring_17 : decode mm_OneSided_ring.2.1 17 = .ok (.iconst (-1), 1) := by decide +kernel
theorem dd_OneSided_ring_18 : decode mm_OneSided_ring.2.1 18 = .ok (.ireturn, 1) := by decide +kernel
theorem dd_OneSided_ring_8 : decode mm_OneSided_ring.2.1 8 = .ok (.aload_n 0, 1) := by decide +kernel
theorem dd_OneSided_ring_9 : decode mm_OneSided_ring.2.1 9 = .ok (.iload_n 2, 1) := by decide +kernel
theorem dd_OneSided_ring_10 : decode mm_OneSided_ring.2.1 10 = .ok (.iload_n 3, 1) := by decide +kernel
theorem dd_OneSided_ring_11 : decode mm_OneSided_ring.2.1 11 = .ok (.invokevirtual 193, 3) := by decide +kernel
theorem dd_OneSided_ring_14 : decode mm_OneSided_ring.2.1 14 = .ok (.ifCond .ne (5), 3) := by decide +kernel
theorem dd_OneSided_ring_19 : decode mm_OneSided_ring.2.1 19 = .ok (.aload_n 0, 1) := by decide +kernel
theorem dd_OneSided_ring_20 : decode mm_OneSided_ring.2.1 20 = .ok (.getfield 19, 3) := by decide +kernel
theorem dd_OneSided_ring_23 : decode mm_OneSided_ring.2.1 23 = .ok (.aload_n 0, 1) := by decide +kernel
theorem dd_OneSided_ring_24 : decode mm_OneSided_ring.2.1 24 = .ok (.iload_n 2, 1) := by decide +kernel
theorem dd_OneSided_ring_25 : decode mm_OneSided_ring.2.1 25 = .ok (.iload_n 3, 1) := by decide +kernel
theorem dd_OneSided_ring_26 : decode mm_OneSided_ring.2.1 26 = .ok (.invokevirtual 257, 3) := by decide +kernel
theorem cw_11_257 : cwOk 11 257 0 97 3 3 11 = true := by decide +kernel
theorem mt_OneSided_ahead : MTB 97 = some mm_OneSided_ahead := rfl
theorem dd_OneSided_ahead_0 : decode mm_OneSided_ahead.2.1 0 = .ok (.aload_n 0, 1) := by decide +kernel
theorem dd_OneSided_ahead_1 : decode mm_OneSided_ahead.2.1 1 = .ok (.getfield 19, 3) := by decide +kernel
theorem dd_OneSided_ahead_4 : decode mm_OneSided_ahead.2.1 4 = .ok (.iload_n 1, 1) := by decide +kernel
theorem dd_OneSided_ahead_5 : decode mm_OneSided_ahead.2.1 5 = .ok (.iload_n 2, 1) := by decide +kernel
theorem dd_OneSided_ahead_6 : decode mm_OneSided_ahead.2.1 6 = .ok (.aload_n 0, 1) := by decide +kernel
theorem dd_OneSided_ahead_7 : decode mm_OneSided_ahead.2.1 7 = .ok (.getfield 29, 3) := by decide +kernel
theorem dd_OneSided_ahead_10 : decode mm_OneSided_ahead.2.1 10 = .ok (.getfield 149, 3) := by decide +kernel
theorem dd_OneSided_ahead_13 : decode mm_OneSided_ahead.2.1 13 = .ok (.getfield 153, 3) := by decide +kernel
theorem dd_OneSided_ahead_16 : decode mm_OneSided_ahead.2.1 16 = .ok (.invokevirtual 360, 3) := by decide +kernel
theorem cw_11_360 : cwOk 11 360 0 68 4 4 6 = true := by decide +kernel
theorem dd_OneSided_ahead_19 : decode mm_OneSided_ahead.2.1 19 = .ok (.ireturn, 1) := by decide +kernel
theorem dd_OneSided_ring_29 : decode mm_OneSided_ring.2.1 29 = .ok (.aload_n 0, 1) := by decide +kernel
theorem dd_OneSided_ring_30 : decode mm_OneSided_ring.2.1 30 = .ok (.iload_n 2, 1) := by decide +kernel
theorem dd_OneSided_ring_31 : decode mm_OneSided_ring.2.1 31 = .ok (.iload_n 3, 1) := by decide +kernel
theorem dd_OneSided_ring_32 : decode mm_OneSided_ring.2.1 32 = .ok (.invokevirtual 260, 3) := by decide +kernel
theorem cw_11_260 : cwOk 11 260 0 98 3 3 11 = true := by decide +kernel
theorem mt_OneSided_back : MTB 98 = some mm_OneSided_back := rfl
theorem dd_OneSided_back_0 : decode mm_OneSided_back.2.1 0 = .ok (.aload_n 0, 1) := by decide +kernel
theorem dd_OneSided_back_1 : decode mm_OneSided_back.2.1 1 = .ok (.getfield 19, 3) := by decide +kernel
theorem dd_OneSided_back_4 : decode mm_OneSided_back.2.1 4 = .ok (.iload_n 1, 1) := by decide +kernel
theorem dd_OneSided_back_5 : decode mm_OneSided_back.2.1 5 = .ok (.iload_n 2, 1) := by decide +kernel
theorem dd_OneSided_back_6 : decode mm_OneSided_back.2.1 6 = .ok (.aload_n 0, 1) := by decide +kernel
theorem dd_OneSided_back_7 : decode mm_OneSided_back.2.1 7 = .ok (.getfield 29, 3) := by decide +kernel
theorem dd_OneSided_back_10 : decode mm_OneSided_back.2.1 10 = .ok (.getfield 149, 3) := by decide +kernel
theorem dd_OneSided_back_13 : decode mm_OneSided_back.2.1 13 = .ok (.getfield 153, 3) := by decide +kernel
theorem dd_OneSided_back_16 : decode mm_OneSided_back.2.1 16 = .ok (.invokevirtual 364, 3) := by decide +kernel
theorem cw_11_364 : cwOk 11 364 0 69 4 4 6 = true := by decide +kernel
theorem dd_OneSided_back_19 : decode mm_OneSided_back.2.1 19 = .ok (.ireturn, 1) := by decide +kernel
theorem dd_OneSided_ring_35 : decode mm_OneSided_ring.2.1 35 = .ok (.iload_n 1, 1) := by decide +kernel
theorem dd_OneSided_ring_36 : decode mm_OneSided_ring.2.1 36 = .ok (.invokestatic 263, 3) := by decide +kernel
theorem cw_11_263 : cwOk 11 263 1 99 4 4 10 = true := by decide +kernel
theorem mt_Web_ringOf : MTB 99 = some mm_Web_ringOf := rfl
theorem dd_OneSided_ring_39 : decode mm_OneSided_ring.2.1 39 = .ok (.ireturn, 1) := by decide +kernel
theorem dd_OneSided_homeless_0 : decode mm_OneSided_homeless.2.1 0 = .ok (.aload_n 0, 1) := by decide +kernel
theorem dd_OneSided_homeless_1 : decode mm_OneSided_homeless.2.1 1 = .ok (.iload_n 1, 1) := by decide +kernel
theorem dd_OneSided_homeless_2 : decode mm_OneSided_homeless.2.1 2 = .ok (.invokevirtual 190, 3) := by decide +kernel
theorem dd_OneSided_homeless_5 : decode mm_OneSided_homeless.2.1 5 = .ok (.ifCond .eq (12), 3) := by decide +kernel
theorem dd_OneSided_homeless_17 : decode mm_OneSided_homeless.2.1 17 = .ok (.iconst (-1), 1) := by decide +kernel
theorem dd_OneSided_homeless_18 : decode mm_OneSided_homeless.2.1 18 = .ok (.ireturn, 1) := by decide +kernel
theorem dd_OneSided_homeless_8 : decode mm_OneSided_homeless.2.1 8 = .ok (.aload_n 0, 1) := by decide +kernel
theorem dd_OneSided_homeless_9 : decode mm_OneSided_homeless.2.1 9 = .ok (.iload_n 2, 1) := by decide +kernel
theorem dd_OneSided_homeless_10 : decode mm_OneSided_homeless.2.1 10 = .ok (.iload_n 3, 1) := by decide +kernel
theorem dd_OneSided_homeless_11 : decode mm_OneSided_homeless.2.1 11 = .ok (.invokevirtual 193, 3) := by decide +kernel
theorem dd_OneSided_homeless_14 : decode mm_OneSided_homeless.2.1 14 = .ok (.ifCond .ne (5), 3) := by decide +kernel
theorem dd_OneSided_homeless_19 : decode mm_OneSided_homeless.2.1 19 = .ok (.iconst 1, 1) := by decide +kernel
theorem dd_OneSided_homeless_20 : decode mm_OneSided_homeless.2.1 20 = .ok (.aload_n 0, 1) := by decide +kernel
theorem dd_OneSided_homeless_21 : decode mm_OneSided_homeless.2.1 21 = .ok (.getfield 19, 3) := by decide +kernel
theorem dd_OneSided_homeless_24 : decode mm_OneSided_homeless.2.1 24 = .ok (.getfield 267, 3) := by decide +kernel
theorem dd_OneSided_homeless_27 : decode mm_OneSided_homeless.2.1 27 = .ok (.ishl, 1) := by decide +kernel
theorem dd_OneSided_homeless_28 : decode mm_OneSided_homeless.2.1 28 = .ok (.iconst 1, 1) := by decide +kernel
theorem dd_OneSided_homeless_29 : decode mm_OneSided_homeless.2.1 29 = .ok (.isub, 1) := by decide +kernel
theorem dd_OneSided_homeless_30 : decode mm_OneSided_homeless.2.1 30 = .ok (.istore 4, 2) := by decide +kernel
theorem dd_OneSided_homeless_32 : decode mm_OneSided_homeless.2.1 32 = .ok (.iload 4, 2) := by decide +kernel
theorem dd_OneSided_homeless_34 : decode mm_OneSided_homeless.2.1 34 = .ok (.aload_n 0, 1) := by decide +kernel
theorem dd_OneSided_homeless_35 : decode mm_OneSided_homeless.2.1 35 = .ok (.getfield 19, 3) := by decide +kernel
theorem dd_OneSided_homeless_38 : decode mm_OneSided_homeless.2.1 38 = .ok (.aload_n 0, 1) := by decide +kernel
theorem dd_OneSided_homeless_39 : decode mm_OneSided_homeless.2.1 39 = .ok (.iload_n 2, 1) := by decide +kernel
theorem dd_OneSided_homeless_40 : decode mm_OneSided_homeless.2.1 40 = .ok (.iload_n 3, 1) := by decide +kernel
theorem dd_OneSided_homeless_41 : decode mm_OneSided_homeless.2.1 41 = .ok (.invokevirtual 260, 3) := by decide +kernel
theorem dd_OneSided_homeless_44 : decode mm_OneSided_homeless.2.1 44 = .ok (.aload_n 0, 1) := by decide +kernel
theorem dd_OneSided_homeless_45 : decode mm_OneSided_homeless.2.1 45 = .ok (.iload_n 2, 1) := by decide +kernel
theorem dd_OneSided_homeless_46 : decode mm_OneSided_homeless.2.1 46 = .ok (.iload_n 3, 1) := by decide +kernel
theorem dd_OneSided_homeless_47 : decode mm_OneSided_homeless.2.1 47 = .ok (.invokevirtual 257, 3) := by decide +kernel
theorem dd_OneSided_homeless_50 : decode mm_OneSided_homeless.2.1 50 = .ok (.iload_n 1, 1) := by decide +kernel
theorem dd_OneSided_homeless_51 : decode mm_OneSided_homeless.2.1 51 = .ok (.invokestatic 270, 3) := by decide +kernel
theorem cw_11_270 : cwOk 11 270 1 100 4 7 10 = true := by decide +kernel
theorem dd_OneSided_homeless_54 : decode mm_OneSided_homeless.2.1 54 = .ok (.iconst (-1), 1) := by decide +kernel
theorem dd_OneSided_homeless_55 : decode mm_OneSided_homeless.2.1 55 = .ok (.ixor, 1) := by decide +kernel
theorem dd_OneSided_homeless_56 : decode mm_OneSided_homeless.2.1 56 = .ok (.iand, 1) := by decide +kernel
theorem dd_OneSided_homeless_57 : decode mm_OneSided_homeless.2.1 57 = .ok (.ireturn, 1) := by decide +kernel
theorem dd_laysInto_0 : decode mm_laysInto.2.1 0 = .ok (.iconst 0, 1) := by decide +kernel
theorem dd_laysInto_1 : decode mm_laysInto.2.1 1 = .ok (.istore 5, 2) := by decide +kernel
theorem dd_laysInto_3 : decode mm_laysInto.2.1 3 = .ok (.iload 5, 2) := by decide +kernel
theorem dd_laysInto_5 : decode mm_laysInto.2.1 5 = .ok (.bipush 10, 2) := by decide +kernel
theorem dd_laysInto_7 : decode mm_laysInto.2.1 7 = .ok (.if_icmp .ge (82), 3) := by decide +kernel
theorem dd_laysInto_89 : decode mm_laysInto.2.1 89 = .ok (.return_, 1) := by decide +kernel
theorem dd_laysInto_10 : decode mm_laysInto.2.1 10 = .ok (.aload_n 0, 1) := by decide +kernel
theorem dd_laysInto_11 : decode mm_laysInto.2.1 11 = .ok (.getfield 147, 3) := by decide +kernel
theorem dd_laysInto_14 : decode mm_laysInto.2.1 14 = .ok (.iload 5, 2) := by decide +kernel
theorem dd_laysInto_16 : decode mm_laysInto.2.1 16 = .ok (.iconst 0, 1) := by decide +kernel
theorem dd_laysInto_17 : decode mm_laysInto.2.1 17 = .ok (.iastore, 1) := by decide +kernel
theorem dd_laysInto_18 : decode mm_laysInto.2.1 18 = .ok (.iconst 0, 1) := by decide +kernel
theorem dd_laysInto_19 : decode mm_laysInto.2.1 19 = .ok (.istore 6, 2) := by decide +kernel
theorem dd_laysInto_21 : decode mm_laysInto.2.1 21 = .ok (.iload 6, 2) := by decide +kernel
theorem dd_laysInto_23 : decode mm_laysInto.2.1 23 = .ok (.aload_n 0, 1) := by decide +kernel
theorem dd_laysInto_24 : decode mm_laysInto.2.1 24 = .ok (.invokevirtual 335, 3) := by decide +kernel
theorem dd_laysInto_27 : decode mm_laysInto.2.1 27 = .ok (.if_icmp .ge (56), 3) := by decide +kernel
theorem dd_laysInto_83 : decode mm_laysInto.2.1 83 = .ok (.iinc 5 1, 3) := by decide +kernel
theorem dd_laysInto_86 : decode mm_laysInto.2.1 86 = .ok (.goto (-83), 3) := by decide +kernel
theorem dd_laysInto_30 : decode mm_laysInto.2.1 30 = .ok (.iload 5, 2) := by decide +kernel
theorem dd_laysInto_32 : decode mm_laysInto.2.1 32 = .ok (.aload_n 0, 1) := by decide +kernel
theorem dd_laysInto_33 : decode mm_laysInto.2.1 33 = .ok (.invokevirtual 332, 3) := by decide +kernel
theorem dd_laysInto_36 : decode mm_laysInto.2.1 36 = .ok (.if_icmp .ge (47), 3) := by decide +kernel
theorem dd_laysInto_39 : decode mm_laysInto.2.1 39 = .ok (.aload_n 0, 1) := by decide +kernel
theorem dd_laysInto_40 : decode mm_laysInto.2.1 40 = .ok (.iload 6, 2) := by decide +kernel
theorem dd_laysInto_42 : decode mm_laysInto.2.1 42 = .ok (.iload_n 1, 1) := by decide +kernel
theorem dd_laysInto_43 : decode mm_laysInto.2.1 43 = .ok (.iload 5, 2) := by decide +kernel
theorem dd_laysInto_45 : decode mm_laysInto.2.1 45 = .ok (.iload_n 2, 1) := by decide +kernel
theorem dd_laysInto_46 : decode mm_laysInto.2.1 46 = .ok (.iload_n 3, 1) := by decide +kernel
theorem dd_laysInto_47 : decode mm_laysInto.2.1 47 = .ok (.iload 4, 2) := by decide +kernel
theorem dd_laysInto_49 : decode mm_laysInto.2.1 49 = .ok (.invokevirtual 360, 3) := by decide +kernel
theorem dd_laysInto_52 : decode mm_laysInto.2.1 52 = .ok (.istore 7, 2) := by decide +kernel
theorem dd_laysInto_54 : decode mm_laysInto.2.1 54 = .ok (.aload_n 0, 1) := by decide +kernel
theorem dd_laysInto_55 : decode mm_laysInto.2.1 55 = .ok (.getfield 147, 3) := by decide +kernel
theorem dd_laysInto_58 : decode mm_laysInto.2.1 58 = .ok (.iload 5, 2) := by decide +kernel
theorem dd_laysInto_60 : decode mm_laysInto.2.1 60 = .ok (.dup2, 1) := by decide +kernel
theorem dd_laysInto_61 : decode mm_laysInto.2.1 61 = .ok (.iaload, 1) := by decide +kernel
theorem dd_laysInto_62 : decode mm_laysInto.2.1 62 = .ok (.iload 7, 2) := by decide +kernel
theorem dd_laysInto_64 : decode mm_laysInto.2.1 64 = .ok (.ifCond .ge (7), 3) := by decide +kernel
theorem dd_laysInto_71 : decode mm_laysInto.2.1 71 = .ok (.iconst 1, 1) := by decide +kernel
theorem dd_laysInto_72 : decode mm_laysInto.2.1 72 = .ok (.iload 7, 2) := by decide +kernel
theorem dd_laysInto_74 : decode mm_laysInto.2.1 74 = .ok (.ishl, 1) := by decide +kernel
theorem dd_laysInto_75 : decode mm_laysInto.2.1 75 = .ok (.ior, 1) := by decide +kernel
theorem dd_laysInto_76 : decode mm_laysInto.2.1 76 = .ok (.iastore, 1) := by decide +kernel
theorem dd_laysInto_77 : decode mm_laysInto.2.1 77 = .ok (.iinc 6 1, 3) := by decide +kernel
theorem dd_laysInto_80 : decode mm_laysInto.2.1 80 = .ok (.goto (-59), 3) := by decide +kernel
theorem dd_laysInto_67 : decode mm_laysInto.2.1 67 = .ok (.iconst 0, 1) := by decide +kernel
theorem dd_laysInto_68 : decode mm_laysInto.2.1 68 = .ok (.goto 7, 3) := by decide +kernel
theorem dd_homelessOf_0 : decode mm_homelessOf.2.1 0 = .ok (.iconst 0, 1) := by decide +kernel
theorem dd_homelessOf_1 : decode mm_homelessOf.2.1 1 = .ok (.istore_n 2, 1) := by decide +kernel
theorem dd_homelessOf_2 : decode mm_homelessOf.2.1 2 = .ok (.iconst 0, 1) := by decide +kernel
theorem dd_homelessOf_3 : decode mm_homelessOf.2.1 3 = .ok (.istore_n 3, 1) := by decide +kernel
theorem dd_homelessOf_4 : decode mm_homelessOf.2.1 4 = .ok (.iload_n 3, 1) := by decide +kernel
theorem dd_homelessOf_5 : decode mm_homelessOf.2.1 5 = .ok (.aload_n 0, 1) := by decide +kernel
theorem dd_homelessOf_6 : decode mm_homelessOf.2.1 6 = .ok (.invokevirtual 332, 3) := by decide +kernel
theorem dd_homelessOf_9 : decode mm_homelessOf.2.1 9 = .ok (.if_icmp .ge (31), 3) := by decide +kernel
theorem dd_homelessOf_40 : decode mm_homelessOf.2.1 40 = .ok (.iload_n 2, 1) := by decide +kernel
theorem dd_homelessOf_41 : decode mm_homelessOf.2.1 41 = .ok (.ireturn, 1) := by decide +kernel
theorem dd_homelessOf_12 : decode mm_homelessOf.2.1 12 = .ok (.iload_n 2, 1) := by decide +kernel
theorem dd_homelessOf_13 : decode mm_homelessOf.2.1 13 = .ok (.aload_n 0, 1) := by decide +kernel
theorem dd_homelessOf_14 : decode mm_homelessOf.2.1 14 = .ok (.iload_n 3, 1) := by decide +kernel
theorem dd_homelessOf_15 : decode mm_homelessOf.2.1 15 = .ok (.invokevirtual 419, 3) := by decide +kernel
theorem cw_12_419 : cwOk 12 419 0 235 2 5 12 = true := by decide +kernel
theorem mt_closure : MTB 235 = some mm_closure := rfl
theorem dd_homelessOf_18 : decode mm_homelessOf.2.1 18 = .ok (.iload_n 1, 1) := by decide +kernel
theorem dd_homelessOf_19 : decode mm_homelessOf.2.1 19 = .ok (.invokestatic 350, 3) := by decide +kernel
theorem dd_homelessOf_22 : decode mm_homelessOf.2.1 22 = .ok (.ifCond .eq (7), 3) := by decide +kernel
theorem dd_homelessOf_29 : decode mm_homelessOf.2.1 29 = .ok (.iconst 1, 1) := by decide +kernel
theorem dd_homelessOf_30 : decode mm_homelessOf.2.1 30 = .ok (.iload_n 3, 1) := by decide +kernel
theorem dd_homelessOf_31 : decode mm_homelessOf.2.1 31 = .ok (.ishl, 1) := by decide +kernel
theorem dd_homelessOf_32 : decode mm_homelessOf.2.1 32 = .ok (.ior, 1) := by decide +kernel
theorem dd_homelessOf_33 : decode mm_homelessOf.2.1 33 = .ok (.istore_n 2, 1) := by decide +kernel
theorem dd_homelessOf_34 : decode mm_homelessOf.2.1 34 = .ok (.iinc 3 1, 3) := by decide +kernel
theorem dd_homelessOf_37 : decode mm_homelessOf.2.1 37 = .ok (.goto (-33), 3) := by decide +kernel
theorem dd_homelessOf_25 : decode mm_homelessOf.2.1 25 = .ok (.iconst 0, 1) := by decide +kernel
theorem dd_homelessOf_26 : decode mm_homelessOf.2.1 26 = .ok (.goto 6, 3) := by decide +kernel
theorem dd_ring_0 : decode mm_ring.2.1 0 = .ok (.aload_n 0, 1) := by decide +kernel
theorem dd_ring_1 : decode mm_ring.2.1 1 = .ok (.iconst 0, 1) := by decide +kernel
theorem dd_ring_2 : decode mm_ring.2.1 2 = .ok (.putfield 1, 3) := by decide +kernel
theorem dd_ring_5 : decode mm_ring.2.1 5 = .ok (.aload_n 0, 1) := by decide +kernel
theorem dd_ring_6 : decode mm_ring.2.1 6 = .ok (.iload_n 1, 1) := by decide +kernel
theorem dd_ring_7 : decode mm_ring.2.1 7 = .ok (.invokevirtual 370, 3) := by decide +kernel
theorem dd_ring_10 : decode mm_ring.2.1 10 = .ok (.ifCond .eq (12), 3) := by decide +kernel
theorem dd_ring_22 : decode mm_ring.2.1 22 = .ok (.iconst (-1), 1) := by decide +kernel
theorem dd_ring_23 : decode mm_ring.2.1 23 = .ok (.ireturn, 1) := by decide +kernel
theorem dd_ring_13 : decode mm_ring.2.1 13 = .ok (.aload_n 0, 1) := by decide +kernel
theorem dd_ring_14 : decode mm_ring.2.1 14 = .ok (.iload_n 2, 1) := by decide +kernel
theorem dd_ring_15 : decode mm_ring.2.1 15 = .ok (.iload_n 3, 1) := by decide +kernel
theorem dd_ring_16 : decode mm_ring.2.1 16 = .ok (.invokevirtual 422, 3) := by decide +kernel
theorem cw_12_422 : cwOk 12 422 0 233 3 3 12 = true := by decide +kernel
theorem mt_mayAsk : MTB 233 = some mm_mayAsk := rfl
theorem dd_mayAsk_0 : decode mm_mayAsk.2.1 0 = .ok (.iload_n 1, 1) := by decide +kernel
theorem dd_mayAsk_1 : decode mm_mayAsk.2.1 1 = .ok (.iconst 0, 1) := by decide +kernel
theorem dd_mayAsk_2 : decode mm_mayAsk.2.1 2 = .ok (.iconst 3, 1) := by decide +kernel
theorem dd_mayAsk_3 : decode mm_mayAsk.2.1 3 = .ok (.invokestatic 297, 3) := by decide +kernel
theorem dd_mayAsk_6 : decode mm_mayAsk.2.1 6 = .ok (.ifCond .eq (17), 3) := by decide +kernel
theorem dd_mayAsk_23 : decode mm_mayAsk.2.1 23 = .ok (.iconst 0, 1) := by decide +kernel
theorem dd_mayAsk_24 : decode mm_mayAsk.2.1 24 = .ok (.ireturn, 1) := by decide +kernel
theorem dd_ring_19 : decode mm_ring.2.1 19 = .ok (.ifCond .ne (5), 3) := by decide +kernel
theorem dd_mayAsk_9 : decode mm_mayAsk.2.1 9 = .ok (.iload_n 2, 1) := by decide +kernel
theorem dd_mayAsk_10 : decode mm_mayAsk.2.1 10 = .ok (.iconst 0, 1) := by decide +kernel
theorem dd_mayAsk_11 : decode mm_mayAsk.2.1 11 = .ok (.bipush 23, 2) := by decide +kernel
theorem dd_mayAsk_13 : decode mm_mayAsk.2.1 13 = .ok (.invokestatic 297, 3) := by decide +kernel
theorem dd_mayAsk_16 : decode mm_mayAsk.2.1 16 = .ok (.ifCond .eq (7), 3) := by decide +kernel
theorem dd_mayAsk_19 : decode mm_mayAsk.2.1 19 = .ok (.iconst 1, 1) := by decide +kernel
theorem dd_mayAsk_20 : decode mm_mayAsk.2.1 20 = .ok (.goto 4, 3) := by decide +kernel
theorem dd_ring_24 : decode mm_ring.2.1 24 = .ok (.aload_n 0, 1) := by decide +kernel
theorem dd_ring_25 : decode mm_ring.2.1 25 = .ok (.iload_n 2, 1) := by decide +kernel
theorem dd_ring_26 : decode mm_ring.2.1 26 = .ok (.iload_n 3, 1) := by decide +kernel
theorem dd_ring_27 : decode mm_ring.2.1 27 = .ok (.aload_n 0, 1) := by decide +kernel
theorem dd_ring_28 : decode mm_ring.2.1 28 = .ok (.getfield 125, 3) := by decide +kernel
theorem dd_ring_31 : decode mm_ring.2.1 31 = .ok (.iconst 1, 1) := by decide +kernel
theorem dd_ring_32 : decode mm_ring.2.1 32 = .ok (.iaload, 1) := by decide +kernel
theorem dd_ring_33 : decode mm_ring.2.1 33 = .ok (.iconst 0, 1) := by decide +kernel
theorem dd_ring_34 : decode mm_ring.2.1 34 = .ok (.invokevirtual 425, 3) := by decide +kernel
theorem cw_12_425 : cwOk 12 425 0 234 5 8 12 = true := by decide +kernel
theorem mt_laysInto : MTB 234 = some mm_laysInto := rfl
theorem dd_ring_37 : decode mm_ring.2.1 37 = .ok (.aload_n 0, 1) := by decide +kernel
theorem dd_ring_38 : decode mm_ring.2.1 38 = .ok (.iload_n 1, 1) := by decide +kernel
theorem dd_ring_39 : decode mm_ring.2.1 39 = .ok (.invokevirtual 419, 3) := by decide +kernel
theorem dd_ring_42 : decode mm_ring.2.1 42 = .ok (.aload_n 0, 1) := by decide +kernel
theorem dd_ring_43 : decode mm_ring.2.1 43 = .ok (.iload_n 1, 1) := by decide +kernel
theorem dd_ring_44 : decode mm_ring.2.1 44 = .ok (.invokevirtual 429, 3) := by decide +kernel
theorem cw_12_429 : cwOk 12 429 0 236 2 4 12 = true := by decide +kernel
theorem mt_homelessOf : MTB 236 = some mm_homelessOf := rfl
theorem dd_ring_47 : decode mm_ring.2.1 47 = .ok (.iconst (-1), 1) := by decide +kernel
theorem dd_ring_48 : decode mm_ring.2.1 48 = .ok (.ixor, 1) := by decide +kernel
theorem dd_ring_49 : decode mm_ring.2.1 49 = .ok (.iand, 1) := by decide +kernel
theorem dd_ring_50 : decode mm_ring.2.1 50 = .ok (.ireturn, 1) := by decide +kernel
theorem dd_homeless_0 : decode mm_homeless.2.1 0 = .ok (.aload_n 0, 1) := by decide +kernel
theorem dd_homeless_1 : decode mm_homeless.2.1 1 = .ok (.iconst 0, 1) := by decide +kernel
theorem dd_homeless_2 : decode mm_homeless.2.1 2 = .ok (.putfield 1, 3) := by decide +kernel
theorem dd_homeless_5 : decode mm_homeless.2.1 5 = .ok (.aload_n 0, 1) := by decide +kernel
theorem dd_homeless_6 : decode mm_homeless.2.1 6 = .ok (.iload_n 1, 1) := by decide +kernel
theorem dd_homeless_7 : decode mm_homeless.2.1 7 = .ok (.invokevirtual 370, 3) := by decide +kernel
theorem dd_homeless_10 : decode mm_homeless.2.1 10 = .ok (.ifCond .eq (12), 3) := by decide +kernel
theorem dd_homeless_22 : decode mm_homeless.2.1 22 = .ok (.iconst (-1), 1) := by decide +kernel
theorem dd_homeless_23 : decode mm_homeless.2.1 23 = .ok (.ireturn, 1) := by decide +kernel
theorem dd_homeless_13 : decode mm_homeless.2.1 13 = .ok (.aload_n 0, 1) := by decide +kernel
theorem dd_homeless_14 : decode mm_homeless.2.1 14 = .ok (.iload_n 2, 1) := by decide +kernel
theorem dd_homeless_15 : decode mm_homeless.2.1 15 = .ok (.iload_n 3, 1) := by decide +kernel
theorem dd_homeless_16 : decode mm_homeless.2.1 16 = .ok (.invokevirtual 422, 3) := by decide +kernel
theorem dd_homeless_19 : decode mm_homeless.2.1 19 = .ok (.ifCond .ne (5), 3) := by decide +kernel
theorem dd_homeless_24 : decode mm_homeless.2.1 24 = .ok (.aload_n 0, 1) := by decide +kernel
theorem dd_homeless_25 : decode mm_homeless.2.1 25 = .ok (.iload_n 2, 1) := by decide +kernel
theorem dd_homeless_26 : decode mm_homeless.2.1 26 = .ok (.iload_n 3, 1) := by decide +kernel
theorem dd_homeless_27 : decode mm_homeless.2.1 27 = .ok (.aload_n 0, 1) := by decide +kernel
theorem dd_homeless_28 : decode mm_homeless.2.1 28 = .ok (.getfield 125, 3) := by decide +kernel
theorem dd_homeless_31 : decode mm_homeless.2.1 31 = .ok (.iconst 1, 1) := by decide +kernel
theorem dd_homeless_32 : decode mm_homeless.2.1 32 = .ok (.iaload, 1) := by decide +kernel
theorem dd_homeless_33 : decode mm_homeless.2.1 33 = .ok (.iconst 0, 1) := by decide +kernel
theorem dd_homeless_34 : decode mm_homeless.2.1 34 = .ok (.invokevirtual 425, 3) := by decide +kernel
theorem dd_homeless_37 : decode mm_homeless.2.1 37 = .ok (.aload_n 0, 1) := by decide +kernel
theorem dd_homeless_38 : decode mm_homeless.2.1 38 = .ok (.iload_n 1, 1) := by decide +kernel
theorem dd_homeless_39 : decode mm_homeless.2.1 39 = .ok (.invokevirtual 429, 3) := by decide +kernel
theorem dd_homeless_42 : decode mm_homeless.2.1 42 = .ok (.ireturn, 1) := by decide +kernel
theorem B_Web_roomsFrom_0 {xs : Nat → Int} {xl e : Nat} {h : LH} {Q : Option LV → LH → Prop} {v1 v2 v3 : Int} {q : Int} (hq : q = 5 ∨ q = 32) (hF : RF h)
    (k : Rn xs xl e mm_Web_roomsFrom 8 [some (.inr (.inr q)), some (.inl v1), some (.inl v2), some (.inl v3), some (.inl (zshl 1 v3)), some (.inl 0), none] [] h Q) :
    Rn xs xl e mm_Web_roomsFrom 0 [some (.inr (.inr q)), some (.inl v1), some (.inl v2), some (.inl v3), none, none, none] [] h Q := by
  refine R_ic dd_Web_roomsFrom_0 (by decide) rfl ?_
  refine R_ld (v := .inl v3) dd_Web_roomsFrom_1 rfl rfl rfl rfl ?_
  refine R_A dd_Web_roomsFrom_2 rfl rfl rfl rfl ?_
  refine R_st (ls' := [some (.inr (.inr q)), some (.inl v1), some (.inl v2), some (.inl v3), some (.inl (zshl 1 v3)), none, none]) dd_Web_roomsFrom_3 rfl rfl rfl (Nat.le_of_ble_eq_true rfl) rfl rfl ?_
  refine R_ic dd_Web_roomsFrom_5 (by decide) rfl ?_
  refine R_st (ls' := [some (.inr (.inr q)), some (.inl v1), some (.inl v2), some (.inl v3), some (.inl (zshl 1 v3)), some (.inl 0), none]) dd_Web_roomsFrom_6 rfl rfl rfl (Nat.le_of_ble_eq_true rfl) rfl rfl ?_
  exact k
theorem B_Web_roomsFrom_8 {xs : Nat → Int} {xl e : Nat} {h : LH} {Q : Option LV → LH → Prop} {v1 v2 v3 v4 v5 : Int} {q : Int} (hq : q = 5 ∨ q = 32) {o6 : Option LV} (hF : RF h) (r_v5 : 0 ≤ v5 ∧ v5 ≤ 10)
    (k : (10 ≤ v5 →
        Q (some (.inl v4)) h) ∧
      (v5 < 10 →
        (∃ c, c < e ∧ Rn xs xl c mm_Quarter_entered 0 [some (.inr (.inr q)), some (.inl v1), some (.inl v2), some (.inl v4), none, none, none] [] h (fun r h' => Rn xs xl e mm_Web_roomsFrom 25 [some (.inr (.inr q)), some (.inl v1), some (.inl v2), some (.inl v3), some (.inl v4), some (.inl v5), o6] (r.toList ++ [.inl v4]) h' Q)))) :
    Rn xs xl e mm_Web_roomsFrom 8 [some (.inr (.inr q)), some (.inl v1), some (.inl v2), some (.inl v3), some (.inl v4), some (.inl v5), o6] [] h Q := by
  refine R_ld (v := .inl v5) dd_Web_roomsFrom_8 rfl rfl rfl rfl ?_
  refine R_bi dd_Web_roomsFrom_10 (by decide) rfl ?_
  refine R_icmp dd_Web_roomsFrom_12 rfl rfl (fun (c2 : 10 ≤ v5) => ?_) (fun (c2 : v5 < 10) => ?_)
  · replace k := k.1 c2
    refine R_ld (v := .inl v4) dd_Web_roomsFrom_48 rfl rfl rfl rfl ?_
    exact R_iret dd_Web_roomsFrom_50 rfl k
  · replace k := k.2 c2
    refine R_ld (v := .inl v4) dd_Web_roomsFrom_15 rfl rfl rfl rfl ?_
    refine R_ld (v := .inr (.inr q)) dd_Web_roomsFrom_17 rfl rfl rfl rfl ?_
    refine R_ld (v := .inl v1) dd_Web_roomsFrom_18 rfl rfl rfl rfl ?_
    refine R_ld (v := .inl v2) dd_Web_roomsFrom_19 rfl rfl rfl rfl ?_
    refine R_ld (v := .inl v4) dd_Web_roomsFrom_20 rfl rfl rfl rfl ?_
    obtain ⟨c, hc, k⟩ := k
    exact R_call (as := [.inr (.inr q), .inl v1, .inl v2, .inl v4]) (rest := [.inl v4]) (M' := mm_Quarter_entered) (ls0 := [some (.inr (.inr q)), some (.inl v1), some (.inl v2), some (.inl v4), none, none, none]) dd_Web_roomsFrom_22 rfl rfl (cw_v cw_10_21 (io_q hq) rfl rfl (Nat.le_of_ble_eq_true rfl) (Nat.le_of_ble_eq_true rfl)) mt_Quarter_entered rfl hc rfl k
theorem B_Web_roomsFrom_25 {xs : Nat → Int} {xl e : Nat} {h : LH} {Q : Option LV → LH → Prop} {v1 v2 v3 v4 v5 w0 w1 : Int} {q : Int} (hq : q = 5 ∨ q = 32) {o6 : Option LV} (hF : RF h) (r_v5 : 0 ≤ v5 ∧ v5 ≤ 9)
    (k : ((zor w0 w1) ≠ v4 →
        Rn xs xl e mm_Web_roomsFrom 8 [some (.inr (.inr q)), some (.inl v1), some (.inl v2), some (.inl v3), some (.inl (zor w0 w1)), some (.inl (v5 + 1)), some (.inl (zor w0 w1))] [] h Q) ∧
      ((zor w0 w1) = v4 →
        Q (some (.inl v4)) h)) :
    Rn xs xl e mm_Web_roomsFrom 25 [some (.inr (.inr q)), some (.inl v1), some (.inl v2), some (.inl v3), some (.inl v4), some (.inl v5), o6] [.inl w1, .inl w0] h Q := by
  refine R_A dd_Web_roomsFrom_25 rfl rfl rfl rfl ?_
  refine R_st (ls' := [some (.inr (.inr q)), some (.inl v1), some (.inl v2), some (.inl v3), some (.inl v4), some (.inl v5), some (.inl (zor w0 w1))]) dd_Web_roomsFrom_26 rfl rfl rfl (Nat.le_of_ble_eq_true rfl) rfl rfl ?_
  refine R_ld (v := .inl (zor w0 w1)) dd_Web_roomsFrom_28 rfl rfl rfl rfl ?_
  refine R_ld (v := .inl v4) dd_Web_roomsFrom_30 rfl rfl rfl rfl ?_
  refine R_icmp dd_Web_roomsFrom_32 rfl rfl (fun (c1 : (zor w0 w1) ≠ v4) => ?_) (fun (c1 : (zor w0 w1) = v4) => ?_)
  · replace k := k.1 c1
    refine R_ld (v := .inl (zor w0 w1)) dd_Web_roomsFrom_38 rfl rfl rfl rfl ?_
    refine R_st (ls' := [some (.inr (.inr q)), some (.inl v1), some (.inl v2), some (.inl v3), some (.inl (zor w0 w1)), some (.inl v5), some (.inl (zor w0 w1))]) dd_Web_roomsFrom_40 rfl rfl rfl (Nat.le_of_ble_eq_true rfl) rfl rfl ?_
    refine R_inc (y := v5 + 1) (ls' := [some (.inr (.inr q)), some (.inl v1), some (.inl v2), some (.inl v3), some (.inl (zor w0 w1)), some (.inl (v5 + 1)), some (.inl (zor w0 w1))]) dd_Web_roomsFrom_42 rfl (by decide) (by omega) (by omega) rfl rfl ?_
    refine R_goto dd_Web_roomsFrom_45 rfl ?_
    exact k
  · replace k := k.2 c1
    refine R_goto dd_Web_roomsFrom_35 rfl ?_
    refine R_ld (v := .inl v4) dd_Web_roomsFrom_48 rfl rfl rfl rfl ?_
    exact R_iret dd_Web_roomsFrom_50 rfl k
theorem B_Web_ringOf_0 {xs : Nat → Int} {xl e : Nat} {h : LH} {Q : Option LV → LH → Prop} {v1 v2 v3 : Int} {q : Int} (hq : q = 5 ∨ q = 32) (hF : RF h)
    (k : (∃ c, c < e ∧ Rn xs xl c mm_Web_roomsFrom 0 [some (.inr (.inr q)), some (.inl v1), some (.inl v2), some (.inl v3), none, none, none] [] h (fun r h' => Rn xs xl e mm_Web_ringOf 7 [some (.inr (.inr q)), some (.inl v1), some (.inl v2), some (.inl v3)] (r.toList ++ []) h' Q))) :
    Rn xs xl e mm_Web_ringOf 0 [some (.inr (.inr q)), some (.inl v1), some (.inl v2), some (.inl v3)] [] h Q := by
  refine R_ld (v := .inr (.inr q)) dd_Web_ringOf_0 rfl rfl rfl rfl ?_
  refine R_ld (v := .inl v1) dd_Web_ringOf_1 rfl rfl rfl rfl ?_
  refine R_ld (v := .inl v2) dd_Web_ringOf_2 rfl rfl rfl rfl ?_
  refine R_ld (v := .inl v3) dd_Web_ringOf_3 rfl rfl rfl rfl ?_
  obtain ⟨c, hc, k⟩ := k
  exact R_call (as := [.inr (.inr q), .inl v1, .inl v2, .inl v3]) (rest := []) (M' := mm_Web_roomsFrom) (ls0 := [some (.inr (.inr q)), some (.inl v1), some (.inl v2), some (.inl v3), none, none, none]) dd_Web_ringOf_4 rfl rfl (cw_s cw_10_27 rfl rfl (Nat.le_of_ble_eq_true rfl) (Nat.le_of_ble_eq_true rfl)) mt_Web_roomsFrom rfl hc rfl k
theorem B_Web_ringOf_7 {xs : Nat → Int} {xl e : Nat} {h : LH} {Q : Option LV → LH → Prop} {v1 v2 v3 w0 : Int} {q : Int} (hq : q = 5 ∨ q = 32) (hF : RF h)
    (k : (∃ c, c < e ∧ Rn xs xl c mm_Web_roomsFrom 0 [some (.inr (.inr q)), some (.inl v2), some (.inl v1), some (.inl v3), none, none, none] [] h (fun r h' => Rn xs xl e mm_Web_ringOf 14 [some (.inr (.inr q)), some (.inl v1), some (.inl v2), some (.inl v3)] (r.toList ++ [.inl w0]) h' Q))) :
    Rn xs xl e mm_Web_ringOf 7 [some (.inr (.inr q)), some (.inl v1), some (.inl v2), some (.inl v3)] [.inl w0] h Q := by
  refine R_ld (v := .inr (.inr q)) dd_Web_ringOf_7 rfl rfl rfl rfl ?_
  refine R_ld (v := .inl v2) dd_Web_ringOf_8 rfl rfl rfl rfl ?_
  refine R_ld (v := .inl v1) dd_Web_ringOf_9 rfl rfl rfl rfl ?_
  refine R_ld (v := .inl v3) dd_Web_ringOf_10 rfl rfl rfl rfl ?_
  obtain ⟨c, hc, k⟩ := k
  exact R_call (as := [.inr (.inr q), .inl v2, .inl v1, .inl v3]) (rest := [.inl w0]) (M' := mm_Web_roomsFrom) (ls0 := [some (.inr (.inr q)), some (.inl v2), some (.inl v1), some (.inl v3), none, none, none]) dd_Web_ringOf_11 rfl rfl (cw_s cw_10_27 rfl rfl (Nat.le_of_ble_eq_true rfl) (Nat.le_of_ble_eq_true rfl)) mt_Web_roomsFrom rfl hc rfl k
theorem B_Web_ringOf_14 {xs : Nat → Int} {xl e : Nat} {h : LH} {Q : Option LV → LH → Prop} {v1 v2 v3 w0 w1 : Int} {q : Int} (hq : q = 5 ∨ q = 32) (hF : RF h)
    (k : Q (some (.inl (zand w0 w1))) h) :
    Rn xs xl e mm_Web_ringOf 14 [some (.inr (.inr q)), some (.inl v1), some (.inl v2), some (.inl v3)] [.inl w1, .inl w0] h Q := by
  refine R_A dd_Web_ringOf_14 rfl rfl rfl rfl ?_
  exact R_iret dd_Web_ringOf_15 rfl k
theorem B_OneSided_ring_0 {xs : Nat → Int} {xl e : Nat} {h : LH} {Q : Option LV → LH → Prop} {v1 v2 v3 : Int} {q : Int} (hq : q = 5 ∨ q = 32) (hQ : rd h 1 ((1 : Nat) : Int) = q) (hF : RF h) (he : 2 ≤ e)
    (k : (v1 < 0 →
        Q (some (.inl (-1))) h) ∧
      (0 ≤ v1 →
        ((rd h q 0) ≤ v1 →
          Q (some (.inl (-1))) h) ∧
        (v1 < (rd h q 0) →
          (v2 < 0 →
            Q (some (.inl (-1))) h) ∧
          (0 ≤ v2 →
            (4 ≤ v2 →
              Q (some (.inl (-1))) h) ∧
            (v2 < 4 →
              (v3 < 0 →
                Q (some (.inl (-1))) h) ∧
              (0 ≤ v3 →
                (24 ≤ v3 →
                  Q (some (.inl (-1))) h) ∧
                (v3 < 24 →
                  (-2147483648 ≤ 24 * v2 ∧ 24 * v2 ≤ 2147483647) ∧
                  (-2147483648 ≤ 24 * v2 + v3 ∧ 24 * v2 + v3 ≤ 2147483647) ∧
                  (0 ≤ 24 * v2 + v3 ∧ 24 * v2 + v3 < 96) ∧
                  (-2147483648 ≤ 24 * v2 ∧ 24 * v2 ≤ 2147483647) ∧
                  (-2147483648 ≤ 24 * v2 + v3 ∧ 24 * v2 + v3 ≤ 2147483647) ∧
                  (0 ≤ 24 * v2 + v3 ∧ 24 * v2 + v3 < 96) ∧
                  (∃ c, c < e ∧ Rn xs xl c mm_Web_ringOf 0 [some (.inr (.inr q)), some (.inl (zand (rd h (q + 5) (24 * v2 + v3)) (zxor (rd h 60 1) (-1)))), some (.inl (zand (rd h (q + 6) (24 * v2 + v3)) (zxor (rd h 60 1) (-1)))), some (.inl v1)] [] h (fun r h' => Rn xs xl e mm_OneSided_ring 39 [some (.inr (.inr 1)), some (.inl v1), some (.inl v2), some (.inl v3)] (r.toList ++ []) h' Q))))))))) :
    Rn xs xl e mm_OneSided_ring 0 [some (.inr (.inr 1)), some (.inl v1), some (.inl v2), some (.inl v3)] [] h Q := by
  refine R_ld (v := .inr (.inr 1)) dd_OneSided_ring_0 rfl rfl rfl rfl ?_
  refine R_ld (v := .inl v1) dd_OneSided_ring_1 rfl rfl rfl rfl ?_
  refine R_call (as := [.inr (.inr 1), .inl v1]) (rest := []) (M' := mm_OneSided_isRoom) (ls0 := [some (.inr (.inr 1)), some (.inl v1)]) dd_OneSided_ring_2 rfl rfl (cw_v cw_11_190 io_1 rfl rfl (Nat.le_of_ble_eq_true rfl) (Nat.le_of_ble_eq_true rfl)) mt_OneSided_isRoom rfl (c := e - 1) (by omega) rfl ?_
  refine R_ld (v := .inl v1) dd_OneSided_isRoom_0 rfl rfl rfl rfl ?_
  refine R_if dd_OneSided_isRoom_1 rfl rfl (fun (c8 : v1 < 0) => ?_) (fun (c8 : 0 ≤ v1) => ?_)
  · replace k := k.1 c8
    refine R_ic dd_OneSided_isRoom_19 (by decide) rfl ?_
    refine R_zret dd_OneSided_isRoom_20 rfl (by decide) ?_
    change Rn xs xl e mm_OneSided_ring 5 [some (.inr (.inr 1)), some (.inl v1), some (.inl v2), some (.inl v3)] [.inl 0] h _
    refine R_if dd_OneSided_ring_5 rfl rfl (fun (c9 : 0 = 0) => ?_) (fun (c9 : 0 ≠ 0) => ?_)
    · skip
      refine R_ic dd_OneSided_ring_17 (by decide) rfl ?_
      exact R_iret dd_OneSided_ring_18 rfl k
    · exact absurd c9 (by omega)
  · replace k := k.2 c8
    refine R_ld (v := .inl v1) dd_OneSided_isRoom_4 rfl rfl rfl rfl ?_
    refine R_ld (v := .inr (.inr 1)) dd_OneSided_isRoom_5 rfl rfl rfl rfl ?_
    refine R_gf (v := .inr (.inr q)) dd_OneSided_isRoom_6 fd_11_19 io_1 (congrArg (fun z : Int => (Sum.inr (Sum.inr z) : LV)) hQ) rfl ?_
    refine R_gf (v := .inl (rd h q 0)) dd_OneSided_isRoom_9 fd_11_267 (io_q hq) (congrArg (fun z : Int => (Sum.inl z : LV)) (rfl)) rfl ?_
    refine R_icmp dd_OneSided_isRoom_12 rfl rfl (fun (c10 : (rd h q 0) ≤ v1) => ?_) (fun (c10 : v1 < (rd h q 0)) => ?_)
    · replace k := k.1 c10
      refine R_ic dd_OneSided_isRoom_19 (by decide) rfl ?_
      refine R_zret dd_OneSided_isRoom_20 rfl (by decide) ?_
      change Rn xs xl e mm_OneSided_ring 5 [some (.inr (.inr 1)), some (.inl v1), some (.inl v2), some (.inl v3)] [.inl 0] h _
      refine R_if dd_OneSided_ring_5 rfl rfl (fun (c11 : 0 = 0) => ?_) (fun (c11 : 0 ≠ 0) => ?_)
      · skip
        refine R_ic dd_OneSided_ring_17 (by decide) rfl ?_
        exact R_iret dd_OneSided_ring_18 rfl k
      · exact absurd c11 (by omega)
    · replace k := k.2 c10
      refine R_ic dd_OneSided_isRoom_15 (by decide) rfl ?_
      refine R_goto dd_OneSided_isRoom_16 rfl ?_
      refine R_zret dd_OneSided_isRoom_20 rfl (by decide) ?_
      change Rn xs xl e mm_OneSided_ring 5 [some (.inr (.inr 1)), some (.inl v1), some (.inl v2), some (.inl v3)] [.inl 1] h _
      refine R_if dd_OneSided_ring_5 rfl rfl (fun (c12 : 1 = 0) => ?_) (fun (c12 : 1 ≠ 0) => ?_)
      · exact absurd c12 (by omega)
      · skip
        refine R_ld (v := .inr (.inr 1)) dd_OneSided_ring_8 rfl rfl rfl rfl ?_
        refine R_ld (v := .inl v2) dd_OneSided_ring_9 rfl rfl rfl rfl ?_
        refine R_ld (v := .inl v3) dd_OneSided_ring_10 rfl rfl rfl rfl ?_
        refine R_call (as := [.inr (.inr 1), .inl v2, .inl v3]) (rest := []) (M' := mm_OneSided_isSortInHour) (ls0 := [some (.inr (.inr 1)), some (.inl v2), some (.inl v3)]) dd_OneSided_ring_11 rfl rfl (cw_v cw_11_193 io_1 rfl rfl (Nat.le_of_ble_eq_true rfl) (Nat.le_of_ble_eq_true rfl)) mt_OneSided_isSortInHour rfl (c := e - 1) (by omega) rfl ?_
        refine R_ld (v := .inl v2) dd_OneSided_isSortInHour_0 rfl rfl rfl rfl ?_
        refine R_if dd_OneSided_isSortInHour_1 rfl rfl (fun (c13 : v2 < 0) => ?_) (fun (c13 : 0 ≤ v2) => ?_)
        · replace k := k.1 c13
          refine R_ic dd_OneSided_isSortInHour_23 (by decide) rfl ?_
          refine R_zret dd_OneSided_isSortInHour_24 rfl (by decide) ?_
          change Rn xs xl e mm_OneSided_ring 14 [some (.inr (.inr 1)), some (.inl v1), some (.inl v2), some (.inl v3)] [.inl 0] h _
          refine R_if dd_OneSided_ring_14 rfl rfl (fun (c14 : 0 ≠ 0) => ?_) (fun (c14 : 0 = 0) => ?_)
          · exact absurd c14 (by omega)
          · skip
            refine R_ic dd_OneSided_ring_17 (by decide) rfl ?_
            exact R_iret dd_OneSided_ring_18 rfl k
        · replace k := k.2 c13
          refine R_ld (v := .inl v2) dd_OneSided_isSortInHour_4 rfl rfl rfl rfl ?_
          refine R_ic dd_OneSided_isSortInHour_5 (by decide) rfl ?_
          refine R_icmp dd_OneSided_isSortInHour_6 rfl rfl (fun (c15 : 4 ≤ v2) => ?_) (fun (c15 : v2 < 4) => ?_)
          · replace k := k.1 c15
            refine R_ic dd_OneSided_isSortInHour_23 (by decide) rfl ?_
            refine R_zret dd_OneSided_isSortInHour_24 rfl (by decide) ?_
            change Rn xs xl e mm_OneSided_ring 14 [some (.inr (.inr 1)), some (.inl v1), some (.inl v2), some (.inl v3)] [.inl 0] h _
            refine R_if dd_OneSided_ring_14 rfl rfl (fun (c16 : 0 ≠ 0) => ?_) (fun (c16 : 0 = 0) => ?_)
            · exact absurd c16 (by omega)
            · skip
              refine R_ic dd_OneSided_ring_17 (by decide) rfl ?_
              exact R_iret dd_OneSided_ring_18 rfl k
          · replace k := k.2 c15
            refine R_ld (v := .inl v3) dd_OneSided_isSortInHour_9 rfl rfl rfl rfl ?_
            refine R_if dd_OneSided_isSortInHour_10 rfl rfl (fun (c17 : v3 < 0) => ?_) (fun (c17 : 0 ≤ v3) => ?_)
            · replace k := k.1 c17
              refine R_ic dd_OneSided_isSortInHour_23 (by decide) rfl ?_
              refine R_zret dd_OneSided_isSortInHour_24 rfl (by decide) ?_
              change Rn xs xl e mm_OneSided_ring 14 [some (.inr (.inr 1)), some (.inl v1), some (.inl v2), some (.inl v3)] [.inl 0] h _
              refine R_if dd_OneSided_ring_14 rfl rfl (fun (c18 : 0 ≠ 0) => ?_) (fun (c18 : 0 = 0) => ?_)
              · exact absurd c18 (by omega)
              · skip
                refine R_ic dd_OneSided_ring_17 (by decide) rfl ?_
                exact R_iret dd_OneSided_ring_18 rfl k
            · replace k := k.2 c17
              refine R_ld (v := .inl v3) dd_OneSided_isSortInHour_13 rfl rfl rfl rfl ?_
              refine R_bi dd_OneSided_isSortInHour_14 (by decide) rfl ?_
              refine R_icmp dd_OneSided_isSortInHour_16 rfl rfl (fun (c19 : 24 ≤ v3) => ?_) (fun (c19 : v3 < 24) => ?_)
              · replace k := k.1 c19
                refine R_ic dd_OneSided_isSortInHour_23 (by decide) rfl ?_
                refine R_zret dd_OneSided_isSortInHour_24 rfl (by decide) ?_
                change Rn xs xl e mm_OneSided_ring 14 [some (.inr (.inr 1)), some (.inl v1), some (.inl v2), some (.inl v3)] [.inl 0] h _
                refine R_if dd_OneSided_ring_14 rfl rfl (fun (c20 : 0 ≠ 0) => ?_) (fun (c20 : 0 = 0) => ?_)
                · exact absurd c20 (by omega)
                · skip
                  refine R_ic dd_OneSided_ring_17 (by decide) rfl ?_
                  exact R_iret dd_OneSided_ring_18 rfl k
              · replace k := k.2 c19
                refine R_ic dd_OneSided_isSortInHour_19 (by decide) rfl ?_
                refine R_goto dd_OneSided_isSortInHour_20 rfl ?_
                refine R_zret dd_OneSided_isSortInHour_24 rfl (by decide) ?_
                change Rn xs xl e mm_OneSided_ring 14 [some (.inr (.inr 1)), some (.inl v1), some (.inl v2), some (.inl v3)] [.inl 1] h _
                refine R_if dd_OneSided_ring_14 rfl rfl (fun (c21 : 1 ≠ 0) => ?_) (fun (c21 : 1 = 0) => ?_)
                · skip
                  refine R_ld (v := .inr (.inr 1)) dd_OneSided_ring_19 rfl rfl rfl rfl ?_
                  refine R_gf (v := .inr (.inr q)) dd_OneSided_ring_20 fd_11_19 io_1 (congrArg (fun z : Int => (Sum.inr (Sum.inr z) : LV)) hQ) rfl ?_
                  refine R_ld (v := .inr (.inr 1)) dd_OneSided_ring_23 rfl rfl rfl rfl ?_
                  refine R_ld (v := .inl v2) dd_OneSided_ring_24 rfl rfl rfl rfl ?_
                  refine R_ld (v := .inl v3) dd_OneSided_ring_25 rfl rfl rfl rfl ?_
                  refine R_call (as := [.inr (.inr 1), .inl v2, .inl v3]) (rest := [.inr (.inr q)]) (M' := mm_OneSided_ahead) (ls0 := [some (.inr (.inr 1)), some (.inl v2), some (.inl v3)]) dd_OneSided_ring_26 rfl rfl (cw_v cw_11_257 io_1 rfl rfl (Nat.le_of_ble_eq_true rfl) (Nat.le_of_ble_eq_true rfl)) mt_OneSided_ahead rfl (c := e - 1) (by omega) rfl ?_
                  refine R_ld (v := .inr (.inr 1)) dd_OneSided_ahead_0 rfl rfl rfl rfl ?_
                  refine R_gf (v := .inr (.inr q)) dd_OneSided_ahead_1 fd_11_19 io_1 (congrArg (fun z : Int => (Sum.inr (Sum.inr z) : LV)) hQ) rfl ?_
                  refine R_ld (v := .inl v2) dd_OneSided_ahead_4 rfl rfl rfl rfl ?_
                  refine R_ld (v := .inl v3) dd_OneSided_ahead_5 rfl rfl rfl rfl ?_
                  refine R_ld (v := .inr (.inr 1)) dd_OneSided_ahead_6 rfl rfl rfl rfl ?_
                  refine R_gf (v := .inr (.inr 59)) dd_OneSided_ahead_7 fd_11_29 io_1 (congrArg (fun z : Int => (Sum.inr (Sum.inr z) : LV)) (rf_1_3 hF)) rfl ?_
                  refine R_gf (v := .inr (.inr 60)) dd_OneSided_ahead_10 fd_11_149 io_59 (congrArg (fun z : Int => (Sum.inr (Sum.inr z) : LV)) (rf_59_0 hF)) rfl ?_
                  refine R_gf (v := .inl (rd h 60 1)) dd_OneSided_ahead_13 fd_11_153 io_60 (congrArg (fun z : Int => (Sum.inl z : LV)) (rfl)) rfl ?_
                  refine R_call (as := [.inr (.inr q), .inl v2, .inl v3, .inl (rd h 60 1)]) (rest := []) (M' := mm_Quarter_aheadIn) (ls0 := [some (.inr (.inr q)), some (.inl v2), some (.inl v3), some (.inl (rd h 60 1))]) dd_OneSided_ahead_16 rfl rfl (cw_v cw_11_360 (io_q hq) rfl rfl (Nat.le_of_ble_eq_true rfl) (Nat.le_of_ble_eq_true rfl)) mt_Quarter_aheadIn rfl (c := e - 2) (by omega) rfl ?_
                  refine R_ld (v := .inl v3) dd_Quarter_aheadIn_0 rfl rfl rfl rfl ?_
                  refine R_bi dd_Quarter_aheadIn_1 (by decide) rfl ?_
                  refine R_icmp dd_Quarter_aheadIn_3 rfl rfl (fun (c22 : 24 ≤ v3) => ?_) (fun (c22 : v3 < 24) => ?_)
                  · exact absurd c22 (by omega)
                  · skip
                    refine R_ld (v := .inr (.inr q)) dd_Quarter_aheadIn_6 rfl rfl rfl rfl ?_
                    refine R_gf (v := .inr (.inr (q + 5))) dd_Quarter_aheadIn_7 fd_6_34 (io_q hq) (congrArg (fun z : Int => (Sum.inr (Sum.inr z) : LV)) (rq_ahd hF hq)) rfl ?_
                    refine R_ld (v := .inl v2) dd_Quarter_aheadIn_10 rfl rfl rfl rfl ?_
                    refine R_bi dd_Quarter_aheadIn_11 (by decide) rfl ?_
                    obtain ⟨s1, k⟩ := k
                    refine R_imul (c := 24 * v2) dd_Quarter_aheadIn_13 (by omega) s1 rfl ?_
                    refine R_ld (v := .inl v3) dd_Quarter_aheadIn_14 rfl rfl rfl rfl ?_
                    obtain ⟨s2, k⟩ := k
                    refine R_iadd (c := 24 * v2 + v3) dd_Quarter_aheadIn_15 (by omega) s2 rfl ?_
                    obtain ⟨s3, k⟩ := k
                    refine R_iald (v := (rd h (q + 5) (24 * v2 + v3))) (n := 96) dd_Quarter_aheadIn_16 (ia_aq hq) (la_aq hq) s3 (rfl) rfl ?_
                    refine R_ld (v := .inl (rd h 60 1)) dd_Quarter_aheadIn_17 rfl rfl rfl rfl ?_
                    refine R_ic dd_Quarter_aheadIn_18 (by decide) rfl ?_
                    refine R_A dd_Quarter_aheadIn_19 rfl rfl rfl rfl ?_
                    refine R_A dd_Quarter_aheadIn_20 rfl rfl rfl rfl ?_
                    refine R_goto dd_Quarter_aheadIn_21 rfl ?_
                    refine R_iret dd_Quarter_aheadIn_25 rfl ?_
                    change Rn xs xl (e - 1) mm_OneSided_ahead 19 [some (.inr (.inr 1)), some (.inl v2), some (.inl v3)] [.inl (zand (rd h (q + 5) (24 * v2 + v3)) (zxor (rd h 60 1) (-1)))] h _
                    refine R_iret dd_OneSided_ahead_19 rfl ?_
                    change Rn xs xl e mm_OneSided_ring 29 [some (.inr (.inr 1)), some (.inl v1), some (.inl v2), some (.inl v3)] [.inl (zand (rd h (q + 5) (24 * v2 + v3)) (zxor (rd h 60 1) (-1))), .inr (.inr q)] h _
                    refine R_ld (v := .inr (.inr 1)) dd_OneSided_ring_29 rfl rfl rfl rfl ?_
                    refine R_ld (v := .inl v2) dd_OneSided_ring_30 rfl rfl rfl rfl ?_
                    refine R_ld (v := .inl v3) dd_OneSided_ring_31 rfl rfl rfl rfl ?_
                    refine R_call (as := [.inr (.inr 1), .inl v2, .inl v3]) (rest := [.inl (zand (rd h (q + 5) (24 * v2 + v3)) (zxor (rd h 60 1) (-1))), .inr (.inr q)]) (M' := mm_OneSided_back) (ls0 := [some (.inr (.inr 1)), some (.inl v2), some (.inl v3)]) dd_OneSided_ring_32 rfl rfl (cw_v cw_11_260 io_1 rfl rfl (Nat.le_of_ble_eq_true rfl) (Nat.le_of_ble_eq_true rfl)) mt_OneSided_back rfl (c := e - 1) (by omega) rfl ?_
                    refine R_ld (v := .inr (.inr 1)) dd_OneSided_back_0 rfl rfl rfl rfl ?_
                    refine R_gf (v := .inr (.inr q)) dd_OneSided_back_1 fd_11_19 io_1 (congrArg (fun z : Int => (Sum.inr (Sum.inr z) : LV)) hQ) rfl ?_
                    refine R_ld (v := .inl v2) dd_OneSided_back_4 rfl rfl rfl rfl ?_
                    refine R_ld (v := .inl v3) dd_OneSided_back_5 rfl rfl rfl rfl ?_
                    refine R_ld (v := .inr (.inr 1)) dd_OneSided_back_6 rfl rfl rfl rfl ?_
                    refine R_gf (v := .inr (.inr 59)) dd_OneSided_back_7 fd_11_29 io_1 (congrArg (fun z : Int => (Sum.inr (Sum.inr z) : LV)) (rf_1_3 hF)) rfl ?_
                    refine R_gf (v := .inr (.inr 60)) dd_OneSided_back_10 fd_11_149 io_59 (congrArg (fun z : Int => (Sum.inr (Sum.inr z) : LV)) (rf_59_0 hF)) rfl ?_
                    refine R_gf (v := .inl (rd h 60 1)) dd_OneSided_back_13 fd_11_153 io_60 (congrArg (fun z : Int => (Sum.inl z : LV)) (rfl)) rfl ?_
                    refine R_call (as := [.inr (.inr q), .inl v2, .inl v3, .inl (rd h 60 1)]) (rest := []) (M' := mm_Quarter_backIn) (ls0 := [some (.inr (.inr q)), some (.inl v2), some (.inl v3), some (.inl (rd h 60 1))]) dd_OneSided_back_16 rfl rfl (cw_v cw_11_364 (io_q hq) rfl rfl (Nat.le_of_ble_eq_true rfl) (Nat.le_of_ble_eq_true rfl)) mt_Quarter_backIn rfl (c := e - 2) (by omega) rfl ?_
                    refine R_ld (v := .inl v3) dd_Quarter_backIn_0 rfl rfl rfl rfl ?_
                    refine R_bi dd_Quarter_backIn_1 (by decide) rfl ?_
                    refine R_icmp dd_Quarter_backIn_3 rfl rfl (fun (c23 : 24 ≤ v3) => ?_) (fun (c23 : v3 < 24) => ?_)
                    · exact absurd c23 (by omega)
                    · skip
                      refine R_ld (v := .inr (.inr q)) dd_Quarter_backIn_6 rfl rfl rfl rfl ?_
                      refine R_gf (v := .inr (.inr (q + 6))) dd_Quarter_backIn_7 fd_6_37 (io_q hq) (congrArg (fun z : Int => (Sum.inr (Sum.inr z) : LV)) (rq_bck hF hq)) rfl ?_
                      refine R_ld (v := .inl v2) dd_Quarter_backIn_10 rfl rfl rfl rfl ?_
                      refine R_bi dd_Quarter_backIn_11 (by decide) rfl ?_
                      obtain ⟨s4, k⟩ := k
                      refine R_imul (c := 24 * v2) dd_Quarter_backIn_13 (by omega) s4 rfl ?_
                      refine R_ld (v := .inl v3) dd_Quarter_backIn_14 rfl rfl rfl rfl ?_
                      obtain ⟨s5, k⟩ := k
                      refine R_iadd (c := 24 * v2 + v3) dd_Quarter_backIn_15 (by omega) s5 rfl ?_
                      obtain ⟨s6, k⟩ := k
                      refine R_iald (v := (rd h (q + 6) (24 * v2 + v3))) (n := 96) dd_Quarter_backIn_16 (ia_bq hq) (la_bq hq) s6 (rfl) rfl ?_
                      refine R_ld (v := .inl (rd h 60 1)) dd_Quarter_backIn_17 rfl rfl rfl rfl ?_
                      refine R_ic dd_Quarter_backIn_18 (by decide) rfl ?_
                      refine R_A dd_Quarter_backIn_19 rfl rfl rfl rfl ?_
                      refine R_A dd_Quarter_backIn_20 rfl rfl rfl rfl ?_
                      refine R_goto dd_Quarter_backIn_21 rfl ?_
                      refine R_iret dd_Quarter_backIn_25 rfl ?_
                      change Rn xs xl (e - 1) mm_OneSided_back 19 [some (.inr (.inr 1)), some (.inl v2), some (.inl v3)] [.inl (zand (rd h (q + 6) (24 * v2 + v3)) (zxor (rd h 60 1) (-1)))] h _
                      refine R_iret dd_OneSided_back_19 rfl ?_
                      change Rn xs xl e mm_OneSided_ring 35 [some (.inr (.inr 1)), some (.inl v1), some (.inl v2), some (.inl v3)] [.inl (zand (rd h (q + 6) (24 * v2 + v3)) (zxor (rd h 60 1) (-1))), .inl (zand (rd h (q + 5) (24 * v2 + v3)) (zxor (rd h 60 1) (-1))), .inr (.inr q)] h _
                      refine R_ld (v := .inl v1) dd_OneSided_ring_35 rfl rfl rfl rfl ?_
                      obtain ⟨c, hc, k⟩ := k
                      exact R_call (as := [.inr (.inr q), .inl (zand (rd h (q + 5) (24 * v2 + v3)) (zxor (rd h 60 1) (-1))), .inl (zand (rd h (q + 6) (24 * v2 + v3)) (zxor (rd h 60 1) (-1))), .inl v1]) (rest := []) (M' := mm_Web_ringOf) (ls0 := [some (.inr (.inr q)), some (.inl (zand (rd h (q + 5) (24 * v2 + v3)) (zxor (rd h 60 1) (-1)))), some (.inl (zand (rd h (q + 6) (24 * v2 + v3)) (zxor (rd h 60 1) (-1)))), some (.inl v1)]) dd_OneSided_ring_36 rfl rfl (cw_s cw_11_263 rfl rfl (Nat.le_of_ble_eq_true rfl) (Nat.le_of_ble_eq_true rfl)) mt_Web_ringOf rfl hc rfl k
                · exact absurd c21 (by omega)
theorem B_OneSided_ring_39 {xs : Nat → Int} {xl e : Nat} {h : LH} {Q : Option LV → LH → Prop} {v1 v2 v3 w0 : Int} (hF : RF h)
    (k : Q (some (.inl w0)) h) :
    Rn xs xl e mm_OneSided_ring 39 [some (.inr (.inr 1)), some (.inl v1), some (.inl v2), some (.inl v3)] [.inl w0] h Q := by
  exact R_iret dd_OneSided_ring_39 rfl k
theorem B_OneSided_homeless_0 {xs : Nat → Int} {xl e : Nat} {h : LH} {Q : Option LV → LH → Prop} {v1 v2 v3 : Int} {q : Int} (hq : q = 5 ∨ q = 32) (hQ : rd h 1 ((1 : Nat) : Int) = q) (hF : RF h) (he : 2 ≤ e)
    (k : (v1 < 0 →
        Q (some (.inl (-1))) h) ∧
      (0 ≤ v1 →
        ((rd h q 0) ≤ v1 →
          Q (some (.inl (-1))) h) ∧
        (v1 < (rd h q 0) →
          (v2 < 0 →
            Q (some (.inl (-1))) h) ∧
          (0 ≤ v2 →
            (4 ≤ v2 →
              Q (some (.inl (-1))) h) ∧
            (v2 < 4 →
              (v3 < 0 →
                Q (some (.inl (-1))) h) ∧
              (0 ≤ v3 →
                (24 ≤ v3 →
                  Q (some (.inl (-1))) h) ∧
                (v3 < 24 →
                  (-2147483648 ≤ (zshl 1 (rd h q 0)) - 1 ∧ (zshl 1 (rd h q 0)) - 1 ≤ 2147483647) ∧
                  (-2147483648 ≤ 24 * v2 ∧ 24 * v2 ≤ 2147483647) ∧
                  (-2147483648 ≤ 24 * v2 + v3 ∧ 24 * v2 + v3 ≤ 2147483647) ∧
                  (0 ≤ 24 * v2 + v3 ∧ 24 * v2 + v3 < 96) ∧
                  (-2147483648 ≤ 24 * v2 ∧ 24 * v2 ≤ 2147483647) ∧
                  (-2147483648 ≤ 24 * v2 + v3 ∧ 24 * v2 + v3 ≤ 2147483647) ∧
                  (0 ≤ 24 * v2 + v3 ∧ 24 * v2 + v3 < 96) ∧
                  (∃ c, c < e ∧ Rn xs xl c mm_Web_roomsFrom 0 [some (.inr (.inr q)), some (.inl (zand (rd h (q + 6) (24 * v2 + v3)) (zxor (rd h 60 1) (-1)))), some (.inl (zand (rd h (q + 5) (24 * v2 + v3)) (zxor (rd h 60 1) (-1)))), some (.inl v1), none, none, none] [] h (fun r h' => Rn xs xl e mm_OneSided_homeless 54 [some (.inr (.inr 1)), some (.inl v1), some (.inl v2), some (.inl v3), some (.inl ((zshl 1 (rd h q 0)) - 1))] (r.toList ++ [.inl ((zshl 1 (rd h q 0)) - 1)]) h' Q))))))))) :
    Rn xs xl e mm_OneSided_homeless 0 [some (.inr (.inr 1)), some (.inl v1), some (.inl v2), some (.inl v3), none] [] h Q := by
  refine R_ld (v := .inr (.inr 1)) dd_OneSided_homeless_0 rfl rfl rfl rfl ?_
  refine R_ld (v := .inl v1) dd_OneSided_homeless_1 rfl rfl rfl rfl ?_
  refine R_call (as := [.inr (.inr 1), .inl v1]) (rest := []) (M' := mm_OneSided_isRoom) (ls0 := [some (.inr (.inr 1)), some (.inl v1)]) dd_OneSided_homeless_2 rfl rfl (cw_v cw_11_190 io_1 rfl rfl (Nat.le_of_ble_eq_true rfl) (Nat.le_of_ble_eq_true rfl)) mt_OneSided_isRoom rfl (c := e - 1) (by omega) rfl ?_
  refine R_ld (v := .inl v1) dd_OneSided_isRoom_0 rfl rfl rfl rfl ?_
  refine R_if dd_OneSided_isRoom_1 rfl rfl (fun (c9 : v1 < 0) => ?_) (fun (c9 : 0 ≤ v1) => ?_)
  · replace k := k.1 c9
    refine R_ic dd_OneSided_isRoom_19 (by decide) rfl ?_
    refine R_zret dd_OneSided_isRoom_20 rfl (by decide) ?_
    change Rn xs xl e mm_OneSided_homeless 5 [some (.inr (.inr 1)), some (.inl v1), some (.inl v2), some (.inl v3), none] [.inl 0] h _
    refine R_if dd_OneSided_homeless_5 rfl rfl (fun (c10 : 0 = 0) => ?_) (fun (c10 : 0 ≠ 0) => ?_)
    · skip
      refine R_ic dd_OneSided_homeless_17 (by decide) rfl ?_
      exact R_iret dd_OneSided_homeless_18 rfl k
    · exact absurd c10 (by omega)
  · replace k := k.2 c9
    refine R_ld (v := .inl v1) dd_OneSided_isRoom_4 rfl rfl rfl rfl ?_
    refine R_ld (v := .inr (.inr 1)) dd_OneSided_isRoom_5 rfl rfl rfl rfl ?_
    refine R_gf (v := .inr (.inr q)) dd_OneSided_isRoom_6 fd_11_19 io_1 (congrArg (fun z : Int => (Sum.inr (Sum.inr z) : LV)) hQ) rfl ?_
    refine R_gf (v := .inl (rd h q 0)) dd_OneSided_isRoom_9 fd_11_267 (io_q hq) (congrArg (fun z : Int => (Sum.inl z : LV)) (rfl)) rfl ?_
    refine R_icmp dd_OneSided_isRoom_12 rfl rfl (fun (c11 : (rd h q 0) ≤ v1) => ?_) (fun (c11 : v1 < (rd h q 0)) => ?_)
    · replace k := k.1 c11
      refine R_ic dd_OneSided_isRoom_19 (by decide) rfl ?_
      refine R_zret dd_OneSided_isRoom_20 rfl (by decide) ?_
      change Rn xs xl e mm_OneSided_homeless 5 [some (.inr (.inr 1)), some (.inl v1), some (.inl v2), some (.inl v3), none] [.inl 0] h _
      refine R_if dd_OneSided_homeless_5 rfl rfl (fun (c12 : 0 = 0) => ?_) (fun (c12 : 0 ≠ 0) => ?_)
      · skip
        refine R_ic dd_OneSided_homeless_17 (by decide) rfl ?_
        exact R_iret dd_OneSided_homeless_18 rfl k
      · exact absurd c12 (by omega)
    · replace k := k.2 c11
      refine R_ic dd_OneSided_isRoom_15 (by decide) rfl ?_
      refine R_goto dd_OneSided_isRoom_16 rfl ?_
      refine R_zret dd_OneSided_isRoom_20 rfl (by decide) ?_
      change Rn xs xl e mm_OneSided_homeless 5 [some (.inr (.inr 1)), some (.inl v1), some (.inl v2), some (.inl v3), none] [.inl 1] h _
      refine R_if dd_OneSided_homeless_5 rfl rfl (fun (c13 : 1 = 0) => ?_) (fun (c13 : 1 ≠ 0) => ?_)
      · exact absurd c13 (by omega)
      · skip
        refine R_ld (v := .inr (.inr 1)) dd_OneSided_homeless_8 rfl rfl rfl rfl ?_
        refine R_ld (v := .inl v2) dd_OneSided_homeless_9 rfl rfl rfl rfl ?_
        refine R_ld (v := .inl v3) dd_OneSided_homeless_10 rfl rfl rfl rfl ?_
        refine R_call (as := [.inr (.inr 1), .inl v2, .inl v3]) (rest := []) (M' := mm_OneSided_isSortInHour) (ls0 := [some (.inr (.inr 1)), some (.inl v2), some (.inl v3)]) dd_OneSided_homeless_11 rfl rfl (cw_v cw_11_193 io_1 rfl rfl (Nat.le_of_ble_eq_true rfl) (Nat.le_of_ble_eq_true rfl)) mt_OneSided_isSortInHour rfl (c := e - 1) (by omega) rfl ?_
        refine R_ld (v := .inl v2) dd_OneSided_isSortInHour_0 rfl rfl rfl rfl ?_
        refine R_if dd_OneSided_isSortInHour_1 rfl rfl (fun (c14 : v2 < 0) => ?_) (fun (c14 : 0 ≤ v2) => ?_)
        · replace k := k.1 c14
          refine R_ic dd_OneSided_isSortInHour_23 (by decide) rfl ?_
          refine R_zret dd_OneSided_isSortInHour_24 rfl (by decide) ?_
          change Rn xs xl e mm_OneSided_homeless 14 [some (.inr (.inr 1)), some (.inl v1), some (.inl v2), some (.inl v3), none] [.inl 0] h _
          refine R_if dd_OneSided_homeless_14 rfl rfl (fun (c15 : 0 ≠ 0) => ?_) (fun (c15 : 0 = 0) => ?_)
          · exact absurd c15 (by omega)
          · skip
            refine R_ic dd_OneSided_homeless_17 (by decide) rfl ?_
            exact R_iret dd_OneSided_homeless_18 rfl k
        · replace k := k.2 c14
          refine R_ld (v := .inl v2) dd_OneSided_isSortInHour_4 rfl rfl rfl rfl ?_
          refine R_ic dd_OneSided_isSortInHour_5 (by decide) rfl ?_
          refine R_icmp dd_OneSided_isSortInHour_6 rfl rfl (fun (c16 : 4 ≤ v2) => ?_) (fun (c16 : v2 < 4) => ?_)
          · replace k := k.1 c16
            refine R_ic dd_OneSided_isSortInHour_23 (by decide) rfl ?_
            refine R_zret dd_OneSided_isSortInHour_24 rfl (by decide) ?_
            change Rn xs xl e mm_OneSided_homeless 14 [some (.inr (.inr 1)), some (.inl v1), some (.inl v2), some (.inl v3), none] [.inl 0] h _
            refine R_if dd_OneSided_homeless_14 rfl rfl (fun (c17 : 0 ≠ 0) => ?_) (fun (c17 : 0 = 0) => ?_)
            · exact absurd c17 (by omega)
            · skip
              refine R_ic dd_OneSided_homeless_17 (by decide) rfl ?_
              exact R_iret dd_OneSided_homeless_18 rfl k
          · replace k := k.2 c16
            refine R_ld (v := .inl v3) dd_OneSided_isSortInHour_9 rfl rfl rfl rfl ?_
            refine R_if dd_OneSided_isSortInHour_10 rfl rfl (fun (c18 : v3 < 0) => ?_) (fun (c18 : 0 ≤ v3) => ?_)
            · replace k := k.1 c18
              refine R_ic dd_OneSided_isSortInHour_23 (by decide) rfl ?_
              refine R_zret dd_OneSided_isSortInHour_24 rfl (by decide) ?_
              change Rn xs xl e mm_OneSided_homeless 14 [some (.inr (.inr 1)), some (.inl v1), some (.inl v2), some (.inl v3), none] [.inl 0] h _
              refine R_if dd_OneSided_homeless_14 rfl rfl (fun (c19 : 0 ≠ 0) => ?_) (fun (c19 : 0 = 0) => ?_)
              · exact absurd c19 (by omega)
              · skip
                refine R_ic dd_OneSided_homeless_17 (by decide) rfl ?_
                exact R_iret dd_OneSided_homeless_18 rfl k
            · replace k := k.2 c18
              refine R_ld (v := .inl v3) dd_OneSided_isSortInHour_13 rfl rfl rfl rfl ?_
              refine R_bi dd_OneSided_isSortInHour_14 (by decide) rfl ?_
              refine R_icmp dd_OneSided_isSortInHour_16 rfl rfl (fun (c20 : 24 ≤ v3) => ?_) (fun (c20 : v3 < 24) => ?_)
              · replace k := k.1 c20
                refine R_ic dd_OneSided_isSortInHour_23 (by decide) rfl ?_
                refine R_zret dd_OneSided_isSortInHour_24 rfl (by decide) ?_
                change Rn xs xl e mm_OneSided_homeless 14 [some (.inr (.inr 1)), some (.inl v1), some (.inl v2), some (.inl v3), none] [.inl 0] h _
                refine R_if dd_OneSided_homeless_14 rfl rfl (fun (c21 : 0 ≠ 0) => ?_) (fun (c21 : 0 = 0) => ?_)
                · exact absurd c21 (by omega)
                · skip
                  refine R_ic dd_OneSided_homeless_17 (by decide) rfl ?_
                  exact R_iret dd_OneSided_homeless_18 rfl k
              · replace k := k.2 c20
                refine R_ic dd_OneSided_isSortInHour_19 (by decide) rfl ?_
                refine R_goto dd_OneSided_isSortInHour_20 rfl ?_
                refine R_zret dd_OneSided_isSortInHour_24 rfl (by decide) ?_
                change Rn xs xl e mm_OneSided_homeless 14 [some (.inr (.inr 1)), some (.inl v1), some (.inl v2), some (.inl v3), none] [.inl 1] h _
                refine R_if dd_OneSided_homeless_14 rfl rfl (fun (c22 : 1 ≠ 0) => ?_) (fun (c22 : 1 = 0) => ?_)
                · skip
                  refine R_ic dd_OneSided_homeless_19 (by decide) rfl ?_
                  refine R_ld (v := .inr (.inr 1)) dd_OneSided_homeless_20 rfl rfl rfl rfl ?_
                  refine R_gf (v := .inr (.inr q)) dd_OneSided_homeless_21 fd_11_19 io_1 (congrArg (fun z : Int => (Sum.inr (Sum.inr z) : LV)) hQ) rfl ?_
                  refine R_gf (v := .inl (rd h q 0)) dd_OneSided_homeless_24 fd_11_267 (io_q hq) (congrArg (fun z : Int => (Sum.inl z : LV)) (rfl)) rfl ?_
                  refine R_A dd_OneSided_homeless_27 rfl rfl rfl rfl ?_
                  refine R_ic dd_OneSided_homeless_28 (by decide) rfl ?_
                  obtain ⟨s1, k⟩ := k
                  refine R_isub (c := (zshl 1 (rd h q 0)) - 1) dd_OneSided_homeless_29 (by omega) s1 rfl ?_
                  refine R_st (ls' := [some (.inr (.inr 1)), some (.inl v1), some (.inl v2), some (.inl v3), some (.inl ((zshl 1 (rd h q 0)) - 1))]) dd_OneSided_homeless_30 rfl rfl rfl (Nat.le_of_ble_eq_true rfl) rfl rfl ?_
                  refine R_ld (v := .inl ((zshl 1 (rd h q 0)) - 1)) dd_OneSided_homeless_32 rfl rfl rfl rfl ?_
                  refine R_ld (v := .inr (.inr 1)) dd_OneSided_homeless_34 rfl rfl rfl rfl ?_
                  refine R_gf (v := .inr (.inr q)) dd_OneSided_homeless_35 fd_11_19 io_1 (congrArg (fun z : Int => (Sum.inr (Sum.inr z) : LV)) hQ) rfl ?_
                  refine R_ld (v := .inr (.inr 1)) dd_OneSided_homeless_38 rfl rfl rfl rfl ?_
                  refine R_ld (v := .inl v2) dd_OneSided_homeless_39 rfl rfl rfl rfl ?_
                  refine R_ld (v := .inl v3) dd_OneSided_homeless_40 rfl rfl rfl rfl ?_
                  refine R_call (as := [.inr (.inr 1), .inl v2, .inl v3]) (rest := [.inr (.inr q), .inl ((zshl 1 (rd h q 0)) - 1)]) (M' := mm_OneSided_back) (ls0 := [some (.inr (.inr 1)), some (.inl v2), some (.inl v3)]) dd_OneSided_homeless_41 rfl rfl (cw_v cw_11_260 io_1 rfl rfl (Nat.le_of_ble_eq_true rfl) (Nat.le_of_ble_eq_true rfl)) mt_OneSided_back rfl (c := e - 1) (by omega) rfl ?_
                  refine R_ld (v := .inr (.inr 1)) dd_OneSided_back_0 rfl rfl rfl rfl ?_
                  refine R_gf (v := .inr (.inr q)) dd_OneSided_back_1 fd_11_19 io_1 (congrArg (fun z : Int => (Sum.inr (Sum.inr z) : LV)) hQ) rfl ?_
                  refine R_ld (v := .inl v2) dd_OneSided_back_4 rfl rfl rfl rfl ?_
                  refine R_ld (v := .inl v3) dd_OneSided_back_5 rfl rfl rfl rfl ?_
                  refine R_ld (v := .inr (.inr 1)) dd_OneSided_back_6 rfl rfl rfl rfl ?_
                  refine R_gf (v := .inr (.inr 59)) dd_OneSided_back_7 fd_11_29 io_1 (congrArg (fun z : Int => (Sum.inr (Sum.inr z) : LV)) (rf_1_3 hF)) rfl ?_
                  refine R_gf (v := .inr (.inr 60)) dd_OneSided_back_10 fd_11_149 io_59 (congrArg (fun z : Int => (Sum.inr (Sum.inr z) : LV)) (rf_59_0 hF)) rfl ?_
                  refine R_gf (v := .inl (rd h 60 1)) dd_OneSided_back_13 fd_11_153 io_60 (congrArg (fun z : Int => (Sum.inl z : LV)) (rfl)) rfl ?_
                  refine R_call (as := [.inr (.inr q), .inl v2, .inl v3, .inl (rd h 60 1)]) (rest := []) (M' := mm_Quarter_backIn) (ls0 := [some (.inr (.inr q)), some (.inl v2), some (.inl v3), some (.inl (rd h 60 1))]) dd_OneSided_back_16 rfl rfl (cw_v cw_11_364 (io_q hq) rfl rfl (Nat.le_of_ble_eq_true rfl) (Nat.le_of_ble_eq_true rfl)) mt_Quarter_backIn rfl (c := e - 2) (by omega) rfl ?_
                  refine R_ld (v := .inl v3) dd_Quarter_backIn_0 rfl rfl rfl rfl ?_
                  refine R_bi dd_Quarter_backIn_1 (by decide) rfl ?_
                  refine R_icmp dd_Quarter_backIn_3 rfl rfl (fun (c23 : 24 ≤ v3) => ?_) (fun (c23 : v3 < 24) => ?_)
                  · exact absurd c23 (by omega)
                  · skip
                    refine R_ld (v := .inr (.inr q)) dd_Quarter_backIn_6 rfl rfl rfl rfl ?_
                    refine R_gf (v := .inr (.inr (q + 6))) dd_Quarter_backIn_7 fd_6_37 (io_q hq) (congrArg (fun z : Int => (Sum.inr (Sum.inr z) : LV)) (rq_bck hF hq)) rfl ?_
                    refine R_ld (v := .inl v2) dd_Quarter_backIn_10 rfl rfl rfl rfl ?_
                    refine R_bi dd_Quarter_backIn_11 (by decide) rfl ?_
                    obtain ⟨s2, k⟩ := k
                    refine R_imul (c := 24 * v2) dd_Quarter_backIn_13 (by omega) s2 rfl ?_
                    refine R_ld (v := .inl v3) dd_Quarter_backIn_14 rfl rfl rfl rfl ?_
                    obtain ⟨s3, k⟩ := k
                    refine R_iadd (c := 24 * v2 + v3) dd_Quarter_backIn_15 (by omega) s3 rfl ?_
                    obtain ⟨s4, k⟩ := k
                    refine R_iald (v := (rd h (q + 6) (24 * v2 + v3))) (n := 96) dd_Quarter_backIn_16 (ia_bq hq) (la_bq hq) s4 (rfl) rfl ?_
                    refine R_ld (v := .inl (rd h 60 1)) dd_Quarter_backIn_17 rfl rfl rfl rfl ?_
                    refine R_ic dd_Quarter_backIn_18 (by decide) rfl ?_
                    refine R_A dd_Quarter_backIn_19 rfl rfl rfl rfl ?_
                    refine R_A dd_Quarter_backIn_20 rfl rfl rfl rfl ?_
                    refine R_goto dd_Quarter_backIn_21 rfl ?_
                    refine R_iret dd_Quarter_backIn_25 rfl ?_
                    change Rn xs xl (e - 1) mm_OneSided_back 19 [some (.inr (.inr 1)), some (.inl v2), some (.inl v3)] [.inl (zand (rd h (q + 6) (24 * v2 + v3)) (zxor (rd h 60 1) (-1)))] h _
                    refine R_iret dd_OneSided_back_19 rfl ?_
                    change Rn xs xl e mm_OneSided_homeless 44 [some (.inr (.inr 1)), some (.inl v1), some (.inl v2), some (.inl v3), some (.inl ((zshl 1 (rd h q 0)) - 1))] [.inl (zand (rd h (q + 6) (24 * v2 + v3)) (zxor (rd h 60 1) (-1))), .inr (.inr q), .inl ((zshl 1 (rd h q 0)) - 1)] h _
                    refine R_ld (v := .inr (.inr 1)) dd_OneSided_homeless_44 rfl rfl rfl rfl ?_
                    refine R_ld (v := .inl v2) dd_OneSided_homeless_45 rfl rfl rfl rfl ?_
                    refine R_ld (v := .inl v3) dd_OneSided_homeless_46 rfl rfl rfl rfl ?_
                    refine R_call (as := [.inr (.inr 1), .inl v2, .inl v3]) (rest := [.inl (zand (rd h (q + 6) (24 * v2 + v3)) (zxor (rd h 60 1) (-1))), .inr (.inr q), .inl ((zshl 1 (rd h q 0)) - 1)]) (M' := mm_OneSided_ahead) (ls0 := [some (.inr (.inr 1)), some (.inl v2), some (.inl v3)]) dd_OneSided_homeless_47 rfl rfl (cw_v cw_11_257 io_1 rfl rfl (Nat.le_of_ble_eq_true rfl) (Nat.le_of_ble_eq_true rfl)) mt_OneSided_ahead rfl (c := e - 1) (by omega) rfl ?_
                    refine R_ld (v := .inr (.inr 1)) dd_OneSided_ahead_0 rfl rfl rfl rfl ?_
                    refine R_gf (v := .inr (.inr q)) dd_OneSided_ahead_1 fd_11_19 io_1 (congrArg (fun z : Int => (Sum.inr (Sum.inr z) : LV)) hQ) rfl ?_
                    refine R_ld (v := .inl v2) dd_OneSided_ahead_4 rfl rfl rfl rfl ?_
                    refine R_ld (v := .inl v3) dd_OneSided_ahead_5 rfl rfl rfl rfl ?_
                    refine R_ld (v := .inr (.inr 1)) dd_OneSided_ahead_6 rfl rfl rfl rfl ?_
                    refine R_gf (v := .inr (.inr 59)) dd_OneSided_ahead_7 fd_11_29 io_1 (congrArg (fun z : Int => (Sum.inr (Sum.inr z) : LV)) (rf_1_3 hF)) rfl ?_
                    refine R_gf (v := .inr (.inr 60)) dd_OneSided_ahead_10 fd_11_149 io_59 (congrArg (fun z : Int => (Sum.inr (Sum.inr z) : LV)) (rf_59_0 hF)) rfl ?_
                    refine R_gf (v := .inl (rd h 60 1)) dd_OneSided_ahead_13 fd_11_153 io_60 (congrArg (fun z : Int => (Sum.inl z : LV)) (rfl)) rfl ?_
                    refine R_call (as := [.inr (.inr q), .inl v2, .inl v3, .inl (rd h 60 1)]) (rest := []) (M' := mm_Quarter_aheadIn) (ls0 := [some (.inr (.inr q)), some (.inl v2), some (.inl v3), some (.inl (rd h 60 1))]) dd_OneSided_ahead_16 rfl rfl (cw_v cw_11_360 (io_q hq) rfl rfl (Nat.le_of_ble_eq_true rfl) (Nat.le_of_ble_eq_true rfl)) mt_Quarter_aheadIn rfl (c := e - 2) (by omega) rfl ?_
                    refine R_ld (v := .inl v3) dd_Quarter_aheadIn_0 rfl rfl rfl rfl ?_
                    refine R_bi dd_Quarter_aheadIn_1 (by decide) rfl ?_
                    refine R_icmp dd_Quarter_aheadIn_3 rfl rfl (fun (c24 : 24 ≤ v3) => ?_) (fun (c24 : v3 < 24) => ?_)
                    · exact absurd c24 (by omega)
                    · skip
                      refine R_ld (v := .inr (.inr q)) dd_Quarter_aheadIn_6 rfl rfl rfl rfl ?_
                      refine R_gf (v := .inr (.inr (q + 5))) dd_Quarter_aheadIn_7 fd_6_34 (io_q hq) (congrArg (fun z : Int => (Sum.inr (Sum.inr z) : LV)) (rq_ahd hF hq)) rfl ?_
                      refine R_ld (v := .inl v2) dd_Quarter_aheadIn_10 rfl rfl rfl rfl ?_
                      refine R_bi dd_Quarter_aheadIn_11 (by decide) rfl ?_
                      obtain ⟨s5, k⟩ := k
                      refine R_imul (c := 24 * v2) dd_Quarter_aheadIn_13 (by omega) s5 rfl ?_
                      refine R_ld (v := .inl v3) dd_Quarter_aheadIn_14 rfl rfl rfl rfl ?_
                      obtain ⟨s6, k⟩ := k
                      refine R_iadd (c := 24 * v2 + v3) dd_Quarter_aheadIn_15 (by omega) s6 rfl ?_
                      obtain ⟨s7, k⟩ := k
                      refine R_iald (v := (rd h (q + 5) (24 * v2 + v3))) (n := 96) dd_Quarter_aheadIn_16 (ia_aq hq) (la_aq hq) s7 (rfl) rfl ?_
                      refine R_ld (v := .inl (rd h 60 1)) dd_Quarter_aheadIn_17 rfl rfl rfl rfl ?_
                      refine R_ic dd_Quarter_aheadIn_18 (by decide) rfl ?_
                      refine R_A dd_Quarter_aheadIn_19 rfl rfl rfl rfl ?_
                      refine R_A dd_Quarter_aheadIn_20 rfl rfl rfl rfl ?_
                      refine R_goto dd_Quarter_aheadIn_21 rfl ?_
                      refine R_iret dd_Quarter_aheadIn_25 rfl ?_
                      change Rn xs xl (e - 1) mm_OneSided_ahead 19 [some (.inr (.inr 1)), some (.inl v2), some (.inl v3)] [.inl (zand (rd h (q + 5) (24 * v2 + v3)) (zxor (rd h 60 1) (-1)))] h _
                      refine R_iret dd_OneSided_ahead_19 rfl ?_
                      change Rn xs xl e mm_OneSided_homeless 50 [some (.inr (.inr 1)), some (.inl v1), some (.inl v2), some (.inl v3), some (.inl ((zshl 1 (rd h q 0)) - 1))] [.inl (zand (rd h (q + 5) (24 * v2 + v3)) (zxor (rd h 60 1) (-1))), .inl (zand (rd h (q + 6) (24 * v2 + v3)) (zxor (rd h 60 1) (-1))), .inr (.inr q), .inl ((zshl 1 (rd h q 0)) - 1)] h _
                      refine R_ld (v := .inl v1) dd_OneSided_homeless_50 rfl rfl rfl rfl ?_
                      obtain ⟨c, hc, k⟩ := k
                      exact R_call (as := [.inr (.inr q), .inl (zand (rd h (q + 6) (24 * v2 + v3)) (zxor (rd h 60 1) (-1))), .inl (zand (rd h (q + 5) (24 * v2 + v3)) (zxor (rd h 60 1) (-1))), .inl v1]) (rest := [.inl ((zshl 1 (rd h q 0)) - 1)]) (M' := mm_Web_roomsFrom) (ls0 := [some (.inr (.inr q)), some (.inl (zand (rd h (q + 6) (24 * v2 + v3)) (zxor (rd h 60 1) (-1)))), some (.inl (zand (rd h (q + 5) (24 * v2 + v3)) (zxor (rd h 60 1) (-1)))), some (.inl v1), none, none, none]) dd_OneSided_homeless_51 rfl rfl (cw_s cw_11_270 rfl rfl (Nat.le_of_ble_eq_true rfl) (Nat.le_of_ble_eq_true rfl)) mt_Web_roomsFrom rfl hc rfl k
                · exact absurd c22 (by omega)
theorem B_OneSided_homeless_54 {xs : Nat → Int} {xl e : Nat} {h : LH} {Q : Option LV → LH → Prop} {v1 v2 v3 v4 w0 w1 : Int} (hF : RF h)
    (k : Q (some (.inl (zand w0 (zxor w1 (-1))))) h) :
    Rn xs xl e mm_OneSided_homeless 54 [some (.inr (.inr 1)), some (.inl v1), some (.inl v2), some (.inl v3), some (.inl v4)] [.inl w1, .inl w0] h Q := by
  refine R_ic dd_OneSided_homeless_54 (by decide) rfl ?_
  refine R_A dd_OneSided_homeless_55 rfl rfl rfl rfl ?_
  refine R_A dd_OneSided_homeless_56 rfl rfl rfl rfl ?_
  exact R_iret dd_OneSided_homeless_57 rfl k
theorem B_laysInto_0 {xs : Nat → Int} {xl e : Nat} {h : LH} {Q : Option LV → LH → Prop} {v1 v2 v3 v4 : Int} (hF : RF h)
    (k : Rn xs xl e mm_laysInto 3 [some (.inr (.inr 182)), some (.inl v1), some (.inl v2), some (.inl v3), some (.inl v4), some (.inl 0), none, none] [] h Q) :
    Rn xs xl e mm_laysInto 0 [some (.inr (.inr 182)), some (.inl v1), some (.inl v2), some (.inl v3), some (.inl v4), none, none, none] [] h Q := by
  refine R_ic dd_laysInto_0 (by decide) rfl ?_
  refine R_st (ls' := [some (.inr (.inr 182)), some (.inl v1), some (.inl v2), some (.inl v3), some (.inl v4), some (.inl 0), none, none]) dd_laysInto_1 rfl rfl rfl (Nat.le_of_ble_eq_true rfl) rfl rfl ?_
  exact k
theorem B_laysInto_3 {xs : Nat → Int} {xl e : Nat} {h : LH} {Q : Option LV → LH → Prop} {v1 v2 v3 v4 v5 : Int} {o6 : Option LV} {o7 : Option LV} (hF : RF h) (r_v5 : 0 ≤ v5 ∧ v5 ≤ 10)
    (k : (10 ≤ v5 →
        Q none h) ∧
      (v5 < 10 →
        (0 ≤ v5 ∧ v5 < 10) ∧
        Rn xs xl e mm_laysInto 21 [some (.inr (.inr 182)), some (.inl v1), some (.inl v2), some (.inl v3), some (.inl v4), some (.inl v5), some (.inl 0), o7] [] (wr h 203 v5 0) Q)) :
    Rn xs xl e mm_laysInto 3 [some (.inr (.inr 182)), some (.inl v1), some (.inl v2), some (.inl v3), some (.inl v4), some (.inl v5), o6, o7] [] h Q := by
  refine R_ld (v := .inl v5) dd_laysInto_3 rfl rfl rfl rfl ?_
  refine R_bi dd_laysInto_5 (by decide) rfl ?_
  refine R_icmp dd_laysInto_7 rfl rfl (fun (c2 : 10 ≤ v5) => ?_) (fun (c2 : v5 < 10) => ?_)
  · replace k := k.1 c2
    exact R_vret dd_laysInto_89 rfl k
  · replace k := k.2 c2
    refine R_ld (v := .inr (.inr 182)) dd_laysInto_10 rfl rfl rfl rfl ?_
    refine R_gf (v := .inr (.inr 203)) dd_laysInto_11 fd_12_147 io_182 (congrArg (fun z : Int => (Sum.inr (Sum.inr z) : LV)) (rf_182_37 hF)) rfl ?_
    refine R_ld (v := .inl v5) dd_laysInto_14 rfl rfl rfl rfl ?_
    refine R_ic dd_laysInto_16 (by decide) rfl ?_
    obtain ⟨s1, k⟩ := k
    refine R_iast (n := 10) dd_laysInto_17 ia_203 la_203 s1 rfl ?_
    refine R_ic dd_laysInto_18 (by decide) rfl ?_
    refine R_st (ls' := [some (.inr (.inr 182)), some (.inl v1), some (.inl v2), some (.inl v3), some (.inl v4), some (.inl v5), some (.inl 0), o7]) dd_laysInto_19 rfl rfl rfl (Nat.le_of_ble_eq_true rfl) rfl rfl ?_
    exact k
theorem B_laysInto_21 {xs : Nat → Int} {xl e : Nat} {h : LH} {Q : Option LV → LH → Prop} {v1 v2 v3 v4 v5 v6 : Int} {o7 : Option LV} (hF : RF h) (r_v5 : 0 ≤ v5 ∧ v5 ≤ 9) (r_v6 : 0 ≤ v6 ∧ v6 ≤ 14) (he : 1 ≤ e)
    (k : ((rd h 188 1) ≤ v6 →
        Rn xs xl e mm_laysInto 3 [some (.inr (.inr 182)), some (.inl v1), some (.inl v2), some (.inl v3), some (.inl v4), some (.inl (v5 + 1)), some (.inl v6), o7] [] h Q) ∧
      (v6 < (rd h 188 1) →
        ((rd h 188 0) ≤ v5 →
          Rn xs xl e mm_laysInto 3 [some (.inr (.inr 182)), some (.inl v1), some (.inl v2), some (.inl v3), some (.inl v4), some (.inl (v5 + 1)), some (.inl v6), o7] [] h Q) ∧
        (v5 < (rd h 188 0) →
          (∃ c, c < e ∧ Rn xs xl c mm_leadsTo 0 [some (.inr (.inr 182)), some (.inl v6), some (.inl v1), some (.inl v5), some (.inl v2), some (.inl v3), some (.inl v4), none, none, none, none, none] [] h (fun r h' => Rn xs xl e mm_laysInto 52 [some (.inr (.inr 182)), some (.inl v1), some (.inl v2), some (.inl v3), some (.inl v4), some (.inl v5), some (.inl v6), o7] (r.toList ++ []) h' Q))))) :
    Rn xs xl e mm_laysInto 21 [some (.inr (.inr 182)), some (.inl v1), some (.inl v2), some (.inl v3), some (.inl v4), some (.inl v5), some (.inl v6), o7] [] h Q := by
  refine R_ld (v := .inl v6) dd_laysInto_21 rfl rfl rfl rfl ?_
  refine R_ld (v := .inr (.inr 182)) dd_laysInto_23 rfl rfl rfl rfl ?_
  refine R_call (as := [.inr (.inr 182)]) (rest := [.inl v6]) (M' := mm_doors) (ls0 := [some (.inr (.inr 182))]) dd_laysInto_24 rfl rfl (cw_v cw_12_335 io_182 rfl rfl (Nat.le_of_ble_eq_true rfl) (Nat.le_of_ble_eq_true rfl)) mt_doors rfl (c := e - 1) (by omega) rfl ?_
  refine R_ld (v := .inr (.inr 182)) dd_doors_0 rfl rfl rfl rfl ?_
  refine R_gf (v := .inr (.inr 188)) dd_doors_1 fd_12_95 io_182 (congrArg (fun z : Int => (Sum.inr (Sum.inr z) : LV)) (rf_182_10 hF)) rfl ?_
  refine R_ic dd_doors_4 (by decide) rfl ?_
  refine R_iald (v := (rd h 188 1)) (n := 300) dd_doors_5 ia_188 la_188 (by decide) (rfl) rfl ?_
  refine R_iret dd_doors_6 rfl ?_
  change Rn xs xl e mm_laysInto 27 [some (.inr (.inr 182)), some (.inl v1), some (.inl v2), some (.inl v3), some (.inl v4), some (.inl v5), some (.inl v6), o7] [.inl (rd h 188 1), .inl v6] h _
  refine R_icmp dd_laysInto_27 rfl rfl (fun (c2 : (rd h 188 1) ≤ v6) => ?_) (fun (c2 : v6 < (rd h 188 1)) => ?_)
  · replace k := k.1 c2
    refine R_inc (y := v5 + 1) (ls' := [some (.inr (.inr 182)), some (.inl v1), some (.inl v2), some (.inl v3), some (.inl v4), some (.inl (v5 + 1)), some (.inl v6), o7]) dd_laysInto_83 rfl (by decide) (by omega) (by omega) rfl rfl ?_
    refine R_goto dd_laysInto_86 rfl ?_
    exact k
  · replace k := k.2 c2
    refine R_ld (v := .inl v5) dd_laysInto_30 rfl rfl rfl rfl ?_
    refine R_ld (v := .inr (.inr 182)) dd_laysInto_32 rfl rfl rfl rfl ?_
    refine R_call (as := [.inr (.inr 182)]) (rest := [.inl v5]) (M' := mm_rooms) (ls0 := [some (.inr (.inr 182))]) dd_laysInto_33 rfl rfl (cw_v cw_12_332 io_182 rfl rfl (Nat.le_of_ble_eq_true rfl) (Nat.le_of_ble_eq_true rfl)) mt_rooms rfl (c := e - 1) (by omega) rfl ?_
    refine R_ld (v := .inr (.inr 182)) dd_rooms_0 rfl rfl rfl rfl ?_
    refine R_gf (v := .inr (.inr 188)) dd_rooms_1 fd_12_95 io_182 (congrArg (fun z : Int => (Sum.inr (Sum.inr z) : LV)) (rf_182_10 hF)) rfl ?_
    refine R_ic dd_rooms_4 (by decide) rfl ?_
    refine R_iald (v := (rd h 188 0)) (n := 300) dd_rooms_5 ia_188 la_188 (by decide) (rfl) rfl ?_
    refine R_iret dd_rooms_6 rfl ?_
    change Rn xs xl e mm_laysInto 36 [some (.inr (.inr 182)), some (.inl v1), some (.inl v2), some (.inl v3), some (.inl v4), some (.inl v5), some (.inl v6), o7] [.inl (rd h 188 0), .inl v5] h _
    refine R_icmp dd_laysInto_36 rfl rfl (fun (c3 : (rd h 188 0) ≤ v5) => ?_) (fun (c3 : v5 < (rd h 188 0)) => ?_)
    · replace k := k.1 c3
      refine R_inc (y := v5 + 1) (ls' := [some (.inr (.inr 182)), some (.inl v1), some (.inl v2), some (.inl v3), some (.inl v4), some (.inl (v5 + 1)), some (.inl v6), o7]) dd_laysInto_83 rfl (by decide) (by omega) (by omega) rfl rfl ?_
      refine R_goto dd_laysInto_86 rfl ?_
      exact k
    · replace k := k.2 c3
      refine R_ld (v := .inr (.inr 182)) dd_laysInto_39 rfl rfl rfl rfl ?_
      refine R_ld (v := .inl v6) dd_laysInto_40 rfl rfl rfl rfl ?_
      refine R_ld (v := .inl v1) dd_laysInto_42 rfl rfl rfl rfl ?_
      refine R_ld (v := .inl v5) dd_laysInto_43 rfl rfl rfl rfl ?_
      refine R_ld (v := .inl v2) dd_laysInto_45 rfl rfl rfl rfl ?_
      refine R_ld (v := .inl v3) dd_laysInto_46 rfl rfl rfl rfl ?_
      refine R_ld (v := .inl v4) dd_laysInto_47 rfl rfl rfl rfl ?_
      obtain ⟨c, hc, k⟩ := k
      exact R_call (as := [.inr (.inr 182), .inl v6, .inl v1, .inl v5, .inl v2, .inl v3, .inl v4]) (rest := []) (M' := mm_leadsTo) (ls0 := [some (.inr (.inr 182)), some (.inl v6), some (.inl v1), some (.inl v5), some (.inl v2), some (.inl v3), some (.inl v4), none, none, none, none, none]) dd_laysInto_49 rfl rfl (cw_v cw_12_360 io_182 rfl rfl (Nat.le_of_ble_eq_true rfl) (Nat.le_of_ble_eq_true rfl)) mt_leadsTo rfl hc rfl k
theorem B_laysInto_52 {xs : Nat → Int} {xl e : Nat} {h : LH} {Q : Option LV → LH → Prop} {v1 v2 v3 v4 v5 v6 w0 : Int} {o7 : Option LV} (hF : RF h) (r_v5 : 0 ≤ v5 ∧ v5 ≤ 9) (r_v6 : 0 ≤ v6 ∧ v6 ≤ 13)
    (k : (0 ≤ w0 →
        Rn xs xl e mm_laysInto 21 [some (.inr (.inr 182)), some (.inl v1), some (.inl v2), some (.inl v3), some (.inl v4), some (.inl v5), some (.inl (v6 + 1)), some (.inl w0)] [] (wr h 203 v5 (zor (rd h 203 v5) (zshl 1 w0))) Q) ∧
      (w0 < 0 →
        Rn xs xl e mm_laysInto 21 [some (.inr (.inr 182)), some (.inl v1), some (.inl v2), some (.inl v3), some (.inl v4), some (.inl v5), some (.inl (v6 + 1)), some (.inl w0)] [] (wr h 203 v5 (zor (rd h 203 v5) 0)) Q)) :
    Rn xs xl e mm_laysInto 52 [some (.inr (.inr 182)), some (.inl v1), some (.inl v2), some (.inl v3), some (.inl v4), some (.inl v5), some (.inl v6), o7] [.inl w0] h Q := by
  refine R_st (ls' := [some (.inr (.inr 182)), some (.inl v1), some (.inl v2), some (.inl v3), some (.inl v4), some (.inl v5), some (.inl v6), some (.inl w0)]) dd_laysInto_52 rfl rfl rfl (Nat.le_of_ble_eq_true rfl) rfl rfl ?_
  refine R_ld (v := .inr (.inr 182)) dd_laysInto_54 rfl rfl rfl rfl ?_
  refine R_gf (v := .inr (.inr 203)) dd_laysInto_55 fd_12_147 io_182 (congrArg (fun z : Int => (Sum.inr (Sum.inr z) : LV)) (rf_182_37 hF)) rfl ?_
  refine R_ld (v := .inl v5) dd_laysInto_58 rfl rfl rfl rfl ?_
  refine R_A dd_laysInto_60 rfl rfl rfl rfl ?_
  refine R_iald (v := (rd h 203 v5)) (n := 10) dd_laysInto_61 ia_203 la_203 (by omega) (rfl) rfl ?_
  refine R_ld (v := .inl w0) dd_laysInto_62 rfl rfl rfl rfl ?_
  refine R_if dd_laysInto_64 rfl rfl (fun (c1 : 0 ≤ w0) => ?_) (fun (c1 : w0 < 0) => ?_)
  · replace k := k.1 c1
    refine R_ic dd_laysInto_71 (by decide) rfl ?_
    refine R_ld (v := .inl w0) dd_laysInto_72 rfl rfl rfl rfl ?_
    refine R_A dd_laysInto_74 rfl rfl rfl rfl ?_
    refine R_A dd_laysInto_75 rfl rfl rfl rfl ?_
    refine R_iast (n := 10) dd_laysInto_76 ia_203 la_203 (by omega) rfl ?_
    refine R_inc (y := v6 + 1) (ls' := [some (.inr (.inr 182)), some (.inl v1), some (.inl v2), some (.inl v3), some (.inl v4), some (.inl v5), some (.inl (v6 + 1)), some (.inl w0)]) dd_laysInto_77 rfl (by decide) (by omega) (by omega) rfl rfl ?_
    refine R_goto dd_laysInto_80 rfl ?_
    exact k
  · replace k := k.2 c1
    refine R_ic dd_laysInto_67 (by decide) rfl ?_
    refine R_goto dd_laysInto_68 rfl ?_
    refine R_A dd_laysInto_75 rfl rfl rfl rfl ?_
    refine R_iast (n := 10) dd_laysInto_76 ia_203 la_203 (by omega) rfl ?_
    refine R_inc (y := v6 + 1) (ls' := [some (.inr (.inr 182)), some (.inl v1), some (.inl v2), some (.inl v3), some (.inl v4), some (.inl v5), some (.inl (v6 + 1)), some (.inl w0)]) dd_laysInto_77 rfl (by decide) (by omega) (by omega) rfl rfl ?_
    refine R_goto dd_laysInto_80 rfl ?_
    exact k
theorem B_homelessOf_0 {xs : Nat → Int} {xl e : Nat} {h : LH} {Q : Option LV → LH → Prop} {v1 : Int} (hF : RF h)
    (k : Rn xs xl e mm_homelessOf 4 [some (.inr (.inr 182)), some (.inl v1), some (.inl 0), some (.inl 0)] [] h Q) :
    Rn xs xl e mm_homelessOf 0 [some (.inr (.inr 182)), some (.inl v1), none, none] [] h Q := by
  refine R_ic dd_homelessOf_0 (by decide) rfl ?_
  refine R_st (ls' := [some (.inr (.inr 182)), some (.inl v1), some (.inl 0), none]) dd_homelessOf_1 rfl rfl rfl (Nat.le_of_ble_eq_true rfl) rfl rfl ?_
  refine R_ic dd_homelessOf_2 (by decide) rfl ?_
  refine R_st (ls' := [some (.inr (.inr 182)), some (.inl v1), some (.inl 0), some (.inl 0)]) dd_homelessOf_3 rfl rfl rfl (Nat.le_of_ble_eq_true rfl) rfl rfl ?_
  exact k
theorem B_homelessOf_4 {xs : Nat → Int} {xl e : Nat} {h : LH} {Q : Option LV → LH → Prop} {v1 v2 v3 : Int} (hF : RF h) (r_v3 : 0 ≤ v3 ∧ v3 ≤ 10) (he : 1 ≤ e)
    (k : ((rd h 188 0) ≤ v3 →
        Q (some (.inl v2)) h) ∧
      (v3 < (rd h 188 0) →
        (∃ c, c < e ∧ Rn xs xl c mm_closure 0 [some (.inr (.inr 182)), some (.inl v3), none, none, none] [] h (fun r h' => Rn xs xl e mm_homelessOf 18 [some (.inr (.inr 182)), some (.inl v1), some (.inl v2), some (.inl v3)] (r.toList ++ [.inl v2]) h' Q)))) :
    Rn xs xl e mm_homelessOf 4 [some (.inr (.inr 182)), some (.inl v1), some (.inl v2), some (.inl v3)] [] h Q := by
  refine R_ld (v := .inl v3) dd_homelessOf_4 rfl rfl rfl rfl ?_
  refine R_ld (v := .inr (.inr 182)) dd_homelessOf_5 rfl rfl rfl rfl ?_
  refine R_call (as := [.inr (.inr 182)]) (rest := [.inl v3]) (M' := mm_rooms) (ls0 := [some (.inr (.inr 182))]) dd_homelessOf_6 rfl rfl (cw_v cw_12_332 io_182 rfl rfl (Nat.le_of_ble_eq_true rfl) (Nat.le_of_ble_eq_true rfl)) mt_rooms rfl (c := e - 1) (by omega) rfl ?_
  refine R_ld (v := .inr (.inr 182)) dd_rooms_0 rfl rfl rfl rfl ?_
  refine R_gf (v := .inr (.inr 188)) dd_rooms_1 fd_12_95 io_182 (congrArg (fun z : Int => (Sum.inr (Sum.inr z) : LV)) (rf_182_10 hF)) rfl ?_
  refine R_ic dd_rooms_4 (by decide) rfl ?_
  refine R_iald (v := (rd h 188 0)) (n := 300) dd_rooms_5 ia_188 la_188 (by decide) (rfl) rfl ?_
  refine R_iret dd_rooms_6 rfl ?_
  change Rn xs xl e mm_homelessOf 9 [some (.inr (.inr 182)), some (.inl v1), some (.inl v2), some (.inl v3)] [.inl (rd h 188 0), .inl v3] h _
  refine R_icmp dd_homelessOf_9 rfl rfl (fun (c2 : (rd h 188 0) ≤ v3) => ?_) (fun (c2 : v3 < (rd h 188 0)) => ?_)
  · replace k := k.1 c2
    refine R_ld (v := .inl v2) dd_homelessOf_40 rfl rfl rfl rfl ?_
    exact R_iret dd_homelessOf_41 rfl k
  · replace k := k.2 c2
    refine R_ld (v := .inl v2) dd_homelessOf_12 rfl rfl rfl rfl ?_
    refine R_ld (v := .inr (.inr 182)) dd_homelessOf_13 rfl rfl rfl rfl ?_
    refine R_ld (v := .inl v3) dd_homelessOf_14 rfl rfl rfl rfl ?_
    obtain ⟨c, hc, k⟩ := k
    exact R_call (as := [.inr (.inr 182), .inl v3]) (rest := [.inl v2]) (M' := mm_closure) (ls0 := [some (.inr (.inr 182)), some (.inl v3), none, none, none]) dd_homelessOf_15 rfl rfl (cw_v cw_12_419 io_182 rfl rfl (Nat.le_of_ble_eq_true rfl) (Nat.le_of_ble_eq_true rfl)) mt_closure rfl hc rfl k
theorem B_homelessOf_18 {xs : Nat → Int} {xl e : Nat} {h : LH} {Q : Option LV → LH → Prop} {v1 v2 v3 w0 w1 : Int} (hF : RF h) (r_v3 : 0 ≤ v3 ∧ v3 ≤ 9) (he : 1 ≤ e)
    (k : ((zand (zshr w1 v1) 1) ≠ 1 →
        Rn xs xl e mm_homelessOf 4 [some (.inr (.inr 182)), some (.inl v1), some (.inl (zor w0 (zshl 1 v3))), some (.inl (v3 + 1))] [] h Q) ∧
      ((zand (zshr w1 v1) 1) = 1 →
        Rn xs xl e mm_homelessOf 4 [some (.inr (.inr 182)), some (.inl v1), some (.inl (zor w0 0)), some (.inl (v3 + 1))] [] h Q)) :
    Rn xs xl e mm_homelessOf 18 [some (.inr (.inr 182)), some (.inl v1), some (.inl v2), some (.inl v3)] [.inl w1, .inl w0] h Q := by
  refine R_ld (v := .inl v1) dd_homelessOf_18 rfl rfl rfl rfl ?_
  refine R_call (as := [.inl w1, .inl v1]) (rest := [.inl w0]) (M' := mm_isIn) (ls0 := [some (.inl w1), some (.inl v1)]) dd_homelessOf_19 rfl rfl (cw_s cw_12_350 rfl rfl (Nat.le_of_ble_eq_true rfl) (Nat.le_of_ble_eq_true rfl)) mt_isIn rfl (c := e - 1) (by omega) rfl ?_
  refine R_ld (v := .inl w1) dd_isIn_0 rfl rfl rfl rfl ?_
  refine R_ld (v := .inl v1) dd_isIn_1 rfl rfl rfl rfl ?_
  refine R_A dd_isIn_2 rfl rfl rfl rfl ?_
  refine R_ic dd_isIn_3 (by decide) rfl ?_
  refine R_A dd_isIn_4 rfl rfl rfl rfl ?_
  refine R_ic dd_isIn_5 (by decide) rfl ?_
  refine R_icmp dd_isIn_6 rfl rfl (fun (c1 : (zand (zshr w1 v1) 1) ≠ 1) => ?_) (fun (c1 : (zand (zshr w1 v1) 1) = 1) => ?_)
  · replace k := k.1 c1
    refine R_ic dd_isIn_13 (by decide) rfl ?_
    refine R_zret dd_isIn_14 rfl (by decide) ?_
    change Rn xs xl e mm_homelessOf 22 [some (.inr (.inr 182)), some (.inl v1), some (.inl v2), some (.inl v3)] [.inl 0, .inl w0] h _
    refine R_if dd_homelessOf_22 rfl rfl (fun (c2 : 0 = 0) => ?_) (fun (c2 : 0 ≠ 0) => ?_)
    · skip
      refine R_ic dd_homelessOf_29 (by decide) rfl ?_
      refine R_ld (v := .inl v3) dd_homelessOf_30 rfl rfl rfl rfl ?_
      refine R_A dd_homelessOf_31 rfl rfl rfl rfl ?_
      refine R_A dd_homelessOf_32 rfl rfl rfl rfl ?_
      refine R_st (ls' := [some (.inr (.inr 182)), some (.inl v1), some (.inl (zor w0 (zshl 1 v3))), some (.inl v3)]) dd_homelessOf_33 rfl rfl rfl (Nat.le_of_ble_eq_true rfl) rfl rfl ?_
      refine R_inc (y := v3 + 1) (ls' := [some (.inr (.inr 182)), some (.inl v1), some (.inl (zor w0 (zshl 1 v3))), some (.inl (v3 + 1))]) dd_homelessOf_34 rfl (by decide) (by omega) (by omega) rfl rfl ?_
      refine R_goto dd_homelessOf_37 rfl ?_
      exact k
    · exact absurd c2 (by omega)
  · replace k := k.2 c1
    refine R_ic dd_isIn_9 (by decide) rfl ?_
    refine R_goto dd_isIn_10 rfl ?_
    refine R_zret dd_isIn_14 rfl (by decide) ?_
    change Rn xs xl e mm_homelessOf 22 [some (.inr (.inr 182)), some (.inl v1), some (.inl v2), some (.inl v3)] [.inl 1, .inl w0] h _
    refine R_if dd_homelessOf_22 rfl rfl (fun (c3 : 1 = 0) => ?_) (fun (c3 : 1 ≠ 0) => ?_)
    · exact absurd c3 (by omega)
    · skip
      refine R_ic dd_homelessOf_25 (by decide) rfl ?_
      refine R_goto dd_homelessOf_26 rfl ?_
      refine R_A dd_homelessOf_32 rfl rfl rfl rfl ?_
      refine R_st (ls' := [some (.inr (.inr 182)), some (.inl v1), some (.inl (zor w0 0)), some (.inl v3)]) dd_homelessOf_33 rfl rfl rfl (Nat.le_of_ble_eq_true rfl) rfl rfl ?_
      refine R_inc (y := v3 + 1) (ls' := [some (.inr (.inr 182)), some (.inl v1), some (.inl (zor w0 0)), some (.inl (v3 + 1))]) dd_homelessOf_34 rfl (by decide) (by omega) (by omega) rfl rfl ?_
      refine R_goto dd_homelessOf_37 rfl ?_
      exact k
theorem B_ring_0 {xs : Nat → Int} {xl e : Nat} {h : LH} {Q : Option LV → LH → Prop} {v1 v2 v3 : Int} (hF : RF h) (he : 2 ≤ e)
    (k : (v1 < 0 →
        Q (some (.inl (-1))) (wr h 182 0 0)) ∧
      (0 ≤ v1 →
        ((rd h 188 0) ≤ v1 →
          Q (some (.inl (-1))) (wr h 182 0 0)) ∧
        (v1 < (rd h 188 0) →
          (v2 < 0 →
            Q (some (.inl (-1))) (wr h 182 0 0)) ∧
          (0 ≤ v2 →
            (3 < v2 →
              Q (some (.inl (-1))) (wr h 182 0 0)) ∧
            (v2 ≤ 3 →
              (v3 < 0 →
                Q (some (.inl (-1))) (wr h 182 0 0)) ∧
              (0 ≤ v3 →
                (23 < v3 →
                  Q (some (.inl (-1))) (wr h 182 0 0)) ∧
                (v3 ≤ 23 →
                  (∃ c, c < e ∧ Rn xs xl c mm_laysInto 0 [some (.inr (.inr 182)), some (.inl v2), some (.inl v3), some (.inl (rd h 198 1)), some (.inl 0), none, none, none] [] (wr h 182 0 0) (fun r h' => Rn xs xl e mm_ring 37 [some (.inr (.inr 182)), some (.inl v1), some (.inl v2), some (.inl v3)] (r.toList ++ []) h' Q))))))))) :
    Rn xs xl e mm_ring 0 [some (.inr (.inr 182)), some (.inl v1), some (.inl v2), some (.inl v3)] [] h Q := by
  refine R_ld (v := .inr (.inr 182)) dd_ring_0 rfl rfl rfl rfl ?_
  refine R_ic dd_ring_1 (by decide) rfl ?_
  refine R_pf (z := 0) dd_ring_2 fd_12_1 io_182 fn_12_0 rfl rfl ?_
  refine R_ld (v := .inr (.inr 182)) dd_ring_5 rfl rfl rfl rfl ?_
  refine R_ld (v := .inl v1) dd_ring_6 rfl rfl rfl rfl ?_
  refine R_call (as := [.inr (.inr 182), .inl v1]) (rest := []) (M' := mm_isRoom) (ls0 := [some (.inr (.inr 182)), some (.inl v1)]) dd_ring_7 rfl rfl (cw_v cw_12_370 io_182 rfl rfl (Nat.le_of_ble_eq_true rfl) (Nat.le_of_ble_eq_true rfl)) mt_isRoom rfl (c := e - 1) (by omega) rfl ?_
  refine R_ld (v := .inl v1) dd_isRoom_0 rfl rfl rfl rfl ?_
  refine R_if dd_isRoom_1 rfl rfl (fun (c2 : v1 < 0) => ?_) (fun (c2 : 0 ≤ v1) => ?_)
  · replace k := k.1 c2
    refine R_ic dd_isRoom_16 (by decide) rfl ?_
    refine R_zret dd_isRoom_17 rfl (by decide) ?_
    change Rn xs xl e mm_ring 10 [some (.inr (.inr 182)), some (.inl v1), some (.inl v2), some (.inl v3)] [.inl 0] (wr h 182 0 0) _
    refine R_if dd_ring_10 rfl rfl (fun (c3 : 0 = 0) => ?_) (fun (c3 : 0 ≠ 0) => ?_)
    · skip
      refine R_ic dd_ring_22 (by decide) rfl ?_
      exact R_iret dd_ring_23 rfl k
    · exact absurd c3 (by omega)
  · replace k := k.2 c2
    refine R_ld (v := .inl v1) dd_isRoom_4 rfl rfl rfl rfl ?_
    refine R_ld (v := .inr (.inr 182)) dd_isRoom_5 rfl rfl rfl rfl ?_
    refine R_call (as := [.inr (.inr 182)]) (rest := [.inl v1]) (M' := mm_rooms) (ls0 := [some (.inr (.inr 182))]) dd_isRoom_6 rfl rfl (cw_v cw_12_332 io_182 rfl rfl (Nat.le_of_ble_eq_true rfl) (Nat.le_of_ble_eq_true rfl)) mt_rooms rfl (c := e - 2) (by omega) rfl ?_
    refine R_ld (v := .inr (.inr 182)) dd_rooms_0 rfl rfl rfl rfl ?_
    refine R_gf (v := .inr (.inr 188)) dd_rooms_1 fd_12_95 io_182 (congrArg (fun z : Int => (Sum.inr (Sum.inr z) : LV)) ((rdw_nei (by omega)).trans (rf_182_10 hF))) rfl ?_
    refine R_ic dd_rooms_4 (by decide) rfl ?_
    refine R_iald (v := (rd h 188 0)) (n := 300) dd_rooms_5 ia_188 la_188 (by decide) (rdw_ne (by decide)) rfl ?_
    refine R_iret dd_rooms_6 rfl ?_
    change Rn xs xl (e - 1) mm_isRoom 9 [some (.inr (.inr 182)), some (.inl v1)] [.inl (rd h 188 0), .inl v1] (wr h 182 0 0) _
    refine R_icmp dd_isRoom_9 rfl rfl (fun (c4 : (rd h 188 0) ≤ v1) => ?_) (fun (c4 : v1 < (rd h 188 0)) => ?_)
    · replace k := k.1 c4
      refine R_ic dd_isRoom_16 (by decide) rfl ?_
      refine R_zret dd_isRoom_17 rfl (by decide) ?_
      change Rn xs xl e mm_ring 10 [some (.inr (.inr 182)), some (.inl v1), some (.inl v2), some (.inl v3)] [.inl 0] (wr h 182 0 0) _
      refine R_if dd_ring_10 rfl rfl (fun (c5 : 0 = 0) => ?_) (fun (c5 : 0 ≠ 0) => ?_)
      · skip
        refine R_ic dd_ring_22 (by decide) rfl ?_
        exact R_iret dd_ring_23 rfl k
      · exact absurd c5 (by omega)
    · replace k := k.2 c4
      refine R_ic dd_isRoom_12 (by decide) rfl ?_
      refine R_goto dd_isRoom_13 rfl ?_
      refine R_zret dd_isRoom_17 rfl (by decide) ?_
      change Rn xs xl e mm_ring 10 [some (.inr (.inr 182)), some (.inl v1), some (.inl v2), some (.inl v3)] [.inl 1] (wr h 182 0 0) _
      refine R_if dd_ring_10 rfl rfl (fun (c6 : 1 = 0) => ?_) (fun (c6 : 1 ≠ 0) => ?_)
      · exact absurd c6 (by omega)
      · skip
        refine R_ld (v := .inr (.inr 182)) dd_ring_13 rfl rfl rfl rfl ?_
        refine R_ld (v := .inl v2) dd_ring_14 rfl rfl rfl rfl ?_
        refine R_ld (v := .inl v3) dd_ring_15 rfl rfl rfl rfl ?_
        refine R_call (as := [.inr (.inr 182), .inl v2, .inl v3]) (rest := []) (M' := mm_mayAsk) (ls0 := [some (.inr (.inr 182)), some (.inl v2), some (.inl v3)]) dd_ring_16 rfl rfl (cw_v cw_12_422 io_182 rfl rfl (Nat.le_of_ble_eq_true rfl) (Nat.le_of_ble_eq_true rfl)) mt_mayAsk rfl (c := e - 1) (by omega) rfl ?_
        refine R_ld (v := .inl v2) dd_mayAsk_0 rfl rfl rfl rfl ?_
        refine R_ic dd_mayAsk_1 (by decide) rfl ?_
        refine R_ic dd_mayAsk_2 (by decide) rfl ?_
        refine R_call (as := [.inl v2, .inl 0, .inl 3]) (rest := []) (M' := mm_within) (ls0 := [some (.inl v2), some (.inl 0), some (.inl 3)]) dd_mayAsk_3 rfl rfl (cw_s cw_12_297 rfl rfl (Nat.le_of_ble_eq_true rfl) (Nat.le_of_ble_eq_true rfl)) mt_within rfl (c := e - 2) (by omega) rfl ?_
        refine R_ld (v := .inl v2) dd_within_0 rfl rfl rfl rfl ?_
        refine R_ld (v := .inl 0) dd_within_1 rfl rfl rfl rfl ?_
        refine R_icmp dd_within_2 rfl rfl (fun (c7 : v2 < 0) => ?_) (fun (c7 : 0 ≤ v2) => ?_)
        · replace k := k.1 c7
          refine R_ic dd_within_14 (by decide) rfl ?_
          refine R_zret dd_within_15 rfl (by decide) ?_
          change Rn xs xl (e - 1) mm_mayAsk 6 [some (.inr (.inr 182)), some (.inl v2), some (.inl v3)] [.inl 0] (wr h 182 0 0) _
          refine R_if dd_mayAsk_6 rfl rfl (fun (c8 : 0 = 0) => ?_) (fun (c8 : 0 ≠ 0) => ?_)
          · skip
            refine R_ic dd_mayAsk_23 (by decide) rfl ?_
            refine R_zret dd_mayAsk_24 rfl (by decide) ?_
            change Rn xs xl e mm_ring 19 [some (.inr (.inr 182)), some (.inl v1), some (.inl v2), some (.inl v3)] [.inl 0] (wr h 182 0 0) _
            refine R_if dd_ring_19 rfl rfl (fun (c9 : 0 ≠ 0) => ?_) (fun (c9 : 0 = 0) => ?_)
            · exact absurd c9 (by omega)
            · skip
              refine R_ic dd_ring_22 (by decide) rfl ?_
              exact R_iret dd_ring_23 rfl k
          · exact absurd c8 (by omega)
        · replace k := k.2 c7
          refine R_ld (v := .inl v2) dd_within_5 rfl rfl rfl rfl ?_
          refine R_ld (v := .inl 3) dd_within_6 rfl rfl rfl rfl ?_
          refine R_icmp dd_within_7 rfl rfl (fun (c10 : 3 < v2) => ?_) (fun (c10 : v2 ≤ 3) => ?_)
          · replace k := k.1 c10
            refine R_ic dd_within_14 (by decide) rfl ?_
            refine R_zret dd_within_15 rfl (by decide) ?_
            change Rn xs xl (e - 1) mm_mayAsk 6 [some (.inr (.inr 182)), some (.inl v2), some (.inl v3)] [.inl 0] (wr h 182 0 0) _
            refine R_if dd_mayAsk_6 rfl rfl (fun (c11 : 0 = 0) => ?_) (fun (c11 : 0 ≠ 0) => ?_)
            · skip
              refine R_ic dd_mayAsk_23 (by decide) rfl ?_
              refine R_zret dd_mayAsk_24 rfl (by decide) ?_
              change Rn xs xl e mm_ring 19 [some (.inr (.inr 182)), some (.inl v1), some (.inl v2), some (.inl v3)] [.inl 0] (wr h 182 0 0) _
              refine R_if dd_ring_19 rfl rfl (fun (c12 : 0 ≠ 0) => ?_) (fun (c12 : 0 = 0) => ?_)
              · exact absurd c12 (by omega)
              · skip
                refine R_ic dd_ring_22 (by decide) rfl ?_
                exact R_iret dd_ring_23 rfl k
            · exact absurd c11 (by omega)
          · replace k := k.2 c10
            refine R_ic dd_within_10 (by decide) rfl ?_
            refine R_goto dd_within_11 rfl ?_
            refine R_zret dd_within_15 rfl (by decide) ?_
            change Rn xs xl (e - 1) mm_mayAsk 6 [some (.inr (.inr 182)), some (.inl v2), some (.inl v3)] [.inl 1] (wr h 182 0 0) _
            refine R_if dd_mayAsk_6 rfl rfl (fun (c13 : 1 = 0) => ?_) (fun (c13 : 1 ≠ 0) => ?_)
            · exact absurd c13 (by omega)
            · skip
              refine R_ld (v := .inl v3) dd_mayAsk_9 rfl rfl rfl rfl ?_
              refine R_ic dd_mayAsk_10 (by decide) rfl ?_
              refine R_bi dd_mayAsk_11 (by decide) rfl ?_
              refine R_call (as := [.inl v3, .inl 0, .inl 23]) (rest := []) (M' := mm_within) (ls0 := [some (.inl v3), some (.inl 0), some (.inl 23)]) dd_mayAsk_13 rfl rfl (cw_s cw_12_297 rfl rfl (Nat.le_of_ble_eq_true rfl) (Nat.le_of_ble_eq_true rfl)) mt_within rfl (c := e - 2) (by omega) rfl ?_
              refine R_ld (v := .inl v3) dd_within_0 rfl rfl rfl rfl ?_
              refine R_ld (v := .inl 0) dd_within_1 rfl rfl rfl rfl ?_
              refine R_icmp dd_within_2 rfl rfl (fun (c14 : v3 < 0) => ?_) (fun (c14 : 0 ≤ v3) => ?_)
              · replace k := k.1 c14
                refine R_ic dd_within_14 (by decide) rfl ?_
                refine R_zret dd_within_15 rfl (by decide) ?_
                change Rn xs xl (e - 1) mm_mayAsk 16 [some (.inr (.inr 182)), some (.inl v2), some (.inl v3)] [.inl 0] (wr h 182 0 0) _
                refine R_if dd_mayAsk_16 rfl rfl (fun (c15 : 0 = 0) => ?_) (fun (c15 : 0 ≠ 0) => ?_)
                · skip
                  refine R_ic dd_mayAsk_23 (by decide) rfl ?_
                  refine R_zret dd_mayAsk_24 rfl (by decide) ?_
                  change Rn xs xl e mm_ring 19 [some (.inr (.inr 182)), some (.inl v1), some (.inl v2), some (.inl v3)] [.inl 0] (wr h 182 0 0) _
                  refine R_if dd_ring_19 rfl rfl (fun (c16 : 0 ≠ 0) => ?_) (fun (c16 : 0 = 0) => ?_)
                  · exact absurd c16 (by omega)
                  · skip
                    refine R_ic dd_ring_22 (by decide) rfl ?_
                    exact R_iret dd_ring_23 rfl k
                · exact absurd c15 (by omega)
              · replace k := k.2 c14
                refine R_ld (v := .inl v3) dd_within_5 rfl rfl rfl rfl ?_
                refine R_ld (v := .inl 23) dd_within_6 rfl rfl rfl rfl ?_
                refine R_icmp dd_within_7 rfl rfl (fun (c17 : 23 < v3) => ?_) (fun (c17 : v3 ≤ 23) => ?_)
                · replace k := k.1 c17
                  refine R_ic dd_within_14 (by decide) rfl ?_
                  refine R_zret dd_within_15 rfl (by decide) ?_
                  change Rn xs xl (e - 1) mm_mayAsk 16 [some (.inr (.inr 182)), some (.inl v2), some (.inl v3)] [.inl 0] (wr h 182 0 0) _
                  refine R_if dd_mayAsk_16 rfl rfl (fun (c18 : 0 = 0) => ?_) (fun (c18 : 0 ≠ 0) => ?_)
                  · skip
                    refine R_ic dd_mayAsk_23 (by decide) rfl ?_
                    refine R_zret dd_mayAsk_24 rfl (by decide) ?_
                    change Rn xs xl e mm_ring 19 [some (.inr (.inr 182)), some (.inl v1), some (.inl v2), some (.inl v3)] [.inl 0] (wr h 182 0 0) _
                    refine R_if dd_ring_19 rfl rfl (fun (c19 : 0 ≠ 0) => ?_) (fun (c19 : 0 = 0) => ?_)
                    · exact absurd c19 (by omega)
                    · skip
                      refine R_ic dd_ring_22 (by decide) rfl ?_
                      exact R_iret dd_ring_23 rfl k
                  · exact absurd c18 (by omega)
                · replace k := k.2 c17
                  refine R_ic dd_within_10 (by decide) rfl ?_
                  refine R_goto dd_within_11 rfl ?_
                  refine R_zret dd_within_15 rfl (by decide) ?_
                  change Rn xs xl (e - 1) mm_mayAsk 16 [some (.inr (.inr 182)), some (.inl v2), some (.inl v3)] [.inl 1] (wr h 182 0 0) _
                  refine R_if dd_mayAsk_16 rfl rfl (fun (c20 : 1 = 0) => ?_) (fun (c20 : 1 ≠ 0) => ?_)
                  · exact absurd c20 (by omega)
                  · skip
                    refine R_ic dd_mayAsk_19 (by decide) rfl ?_
                    refine R_goto dd_mayAsk_20 rfl ?_
                    refine R_zret dd_mayAsk_24 rfl (by decide) ?_
                    change Rn xs xl e mm_ring 19 [some (.inr (.inr 182)), some (.inl v1), some (.inl v2), some (.inl v3)] [.inl 1] (wr h 182 0 0) _
                    refine R_if dd_ring_19 rfl rfl (fun (c21 : 1 ≠ 0) => ?_) (fun (c21 : 1 = 0) => ?_)
                    · skip
                      refine R_ld (v := .inr (.inr 182)) dd_ring_24 rfl rfl rfl rfl ?_
                      refine R_ld (v := .inl v2) dd_ring_25 rfl rfl rfl rfl ?_
                      refine R_ld (v := .inl v3) dd_ring_26 rfl rfl rfl rfl ?_
                      refine R_ld (v := .inr (.inr 182)) dd_ring_27 rfl rfl rfl rfl ?_
                      refine R_gf (v := .inr (.inr 198)) dd_ring_28 fd_12_125 io_182 (congrArg (fun z : Int => (Sum.inr (Sum.inr z) : LV)) ((rdw_nei (by omega)).trans (rf_182_24 hF))) rfl ?_
                      refine R_ic dd_ring_31 (by decide) rfl ?_
                      refine R_iald (v := (rd h 198 1)) (n := 1610) dd_ring_32 ia_198 la_198 (by decide) (rdw_ne (by decide)) rfl ?_
                      refine R_ic dd_ring_33 (by decide) rfl ?_
                      obtain ⟨c, hc, k⟩ := k
                      exact R_call (as := [.inr (.inr 182), .inl v2, .inl v3, .inl (rd h 198 1), .inl 0]) (rest := []) (M' := mm_laysInto) (ls0 := [some (.inr (.inr 182)), some (.inl v2), some (.inl v3), some (.inl (rd h 198 1)), some (.inl 0), none, none, none]) dd_ring_34 rfl rfl (cw_v cw_12_425 io_182 rfl rfl (Nat.le_of_ble_eq_true rfl) (Nat.le_of_ble_eq_true rfl)) mt_laysInto rfl hc rfl k
                    · exact absurd c21 (by omega)
theorem B_ring_37 {xs : Nat → Int} {xl e : Nat} {h : LH} {Q : Option LV → LH → Prop} {v1 v2 v3 : Int} (hF : RF h)
    (k : (∃ c, c < e ∧ Rn xs xl c mm_closure 0 [some (.inr (.inr 182)), some (.inl v1), none, none, none] [] h (fun r h' => Rn xs xl e mm_ring 42 [some (.inr (.inr 182)), some (.inl v1), some (.inl v2), some (.inl v3)] (r.toList ++ []) h' Q))) :
    Rn xs xl e mm_ring 37 [some (.inr (.inr 182)), some (.inl v1), some (.inl v2), some (.inl v3)] [] h Q := by
  refine R_ld (v := .inr (.inr 182)) dd_ring_37 rfl rfl rfl rfl ?_
  refine R_ld (v := .inl v1) dd_ring_38 rfl rfl rfl rfl ?_
  obtain ⟨c, hc, k⟩ := k
  exact R_call (as := [.inr (.inr 182), .inl v1]) (rest := []) (M' := mm_closure) (ls0 := [some (.inr (.inr 182)), some (.inl v1), none, none, none]) dd_ring_39 rfl rfl (cw_v cw_12_419 io_182 rfl rfl (Nat.le_of_ble_eq_true rfl) (Nat.le_of_ble_eq_true rfl)) mt_closure rfl hc rfl k
theorem B_ring_42 {xs : Nat → Int} {xl e : Nat} {h : LH} {Q : Option LV → LH → Prop} {v1 v2 v3 w0 : Int} (hF : RF h)
    (k : (∃ c, c < e ∧ Rn xs xl c mm_homelessOf 0 [some (.inr (.inr 182)), some (.inl v1), none, none] [] h (fun r h' => Rn xs xl e mm_ring 47 [some (.inr (.inr 182)), some (.inl v1), some (.inl v2), some (.inl v3)] (r.toList ++ [.inl w0]) h' Q))) :
    Rn xs xl e mm_ring 42 [some (.inr (.inr 182)), some (.inl v1), some (.inl v2), some (.inl v3)] [.inl w0] h Q := by
  refine R_ld (v := .inr (.inr 182)) dd_ring_42 rfl rfl rfl rfl ?_
  refine R_ld (v := .inl v1) dd_ring_43 rfl rfl rfl rfl ?_
  obtain ⟨c, hc, k⟩ := k
  exact R_call (as := [.inr (.inr 182), .inl v1]) (rest := [.inl w0]) (M' := mm_homelessOf) (ls0 := [some (.inr (.inr 182)), some (.inl v1), none, none]) dd_ring_44 rfl rfl (cw_v cw_12_429 io_182 rfl rfl (Nat.le_of_ble_eq_true rfl) (Nat.le_of_ble_eq_true rfl)) mt_homelessOf rfl hc rfl k
theorem B_ring_47 {xs : Nat → Int} {xl e : Nat} {h : LH} {Q : Option LV → LH → Prop} {v1 v2 v3 w0 w1 : Int} (hF : RF h)
    (k : Q (some (.inl (zand w0 (zxor w1 (-1))))) h) :
    Rn xs xl e mm_ring 47 [some (.inr (.inr 182)), some (.inl v1), some (.inl v2), some (.inl v3)] [.inl w1, .inl w0] h Q := by
  refine R_ic dd_ring_47 (by decide) rfl ?_
  refine R_A dd_ring_48 rfl rfl rfl rfl ?_
  refine R_A dd_ring_49 rfl rfl rfl rfl ?_
  exact R_iret dd_ring_50 rfl k
theorem B_homeless_0 {xs : Nat → Int} {xl e : Nat} {h : LH} {Q : Option LV → LH → Prop} {v1 v2 v3 : Int} (hF : RF h) (he : 2 ≤ e)
    (k : (v1 < 0 →
        Q (some (.inl (-1))) (wr h 182 0 0)) ∧
      (0 ≤ v1 →
        ((rd h 188 0) ≤ v1 →
          Q (some (.inl (-1))) (wr h 182 0 0)) ∧
        (v1 < (rd h 188 0) →
          (v2 < 0 →
            Q (some (.inl (-1))) (wr h 182 0 0)) ∧
          (0 ≤ v2 →
            (3 < v2 →
              Q (some (.inl (-1))) (wr h 182 0 0)) ∧
            (v2 ≤ 3 →
              (v3 < 0 →
                Q (some (.inl (-1))) (wr h 182 0 0)) ∧
              (0 ≤ v3 →
                (23 < v3 →
                  Q (some (.inl (-1))) (wr h 182 0 0)) ∧
                (v3 ≤ 23 →
                  (∃ c, c < e ∧ Rn xs xl c mm_laysInto 0 [some (.inr (.inr 182)), some (.inl v2), some (.inl v3), some (.inl (rd h 198 1)), some (.inl 0), none, none, none] [] (wr h 182 0 0) (fun r h' => Rn xs xl e mm_homeless 37 [some (.inr (.inr 182)), some (.inl v1), some (.inl v2), some (.inl v3)] (r.toList ++ []) h' Q))))))))) :
    Rn xs xl e mm_homeless 0 [some (.inr (.inr 182)), some (.inl v1), some (.inl v2), some (.inl v3)] [] h Q := by
  refine R_ld (v := .inr (.inr 182)) dd_homeless_0 rfl rfl rfl rfl ?_
  refine R_ic dd_homeless_1 (by decide) rfl ?_
  refine R_pf (z := 0) dd_homeless_2 fd_12_1 io_182 fn_12_0 rfl rfl ?_
  refine R_ld (v := .inr (.inr 182)) dd_homeless_5 rfl rfl rfl rfl ?_
  refine R_ld (v := .inl v1) dd_homeless_6 rfl rfl rfl rfl ?_
  refine R_call (as := [.inr (.inr 182), .inl v1]) (rest := []) (M' := mm_isRoom) (ls0 := [some (.inr (.inr 182)), some (.inl v1)]) dd_homeless_7 rfl rfl (cw_v cw_12_370 io_182 rfl rfl (Nat.le_of_ble_eq_true rfl) (Nat.le_of_ble_eq_true rfl)) mt_isRoom rfl (c := e - 1) (by omega) rfl ?_
  refine R_ld (v := .inl v1) dd_isRoom_0 rfl rfl rfl rfl ?_
  refine R_if dd_isRoom_1 rfl rfl (fun (c2 : v1 < 0) => ?_) (fun (c2 : 0 ≤ v1) => ?_)
  · replace k := k.1 c2
    refine R_ic dd_isRoom_16 (by decide) rfl ?_
    refine R_zret dd_isRoom_17 rfl (by decide) ?_
    change Rn xs xl e mm_homeless 10 [some (.inr (.inr 182)), some (.inl v1), some (.inl v2), some (.inl v3)] [.inl 0] (wr h 182 0 0) _
    refine R_if dd_homeless_10 rfl rfl (fun (c3 : 0 = 0) => ?_) (fun (c3 : 0 ≠ 0) => ?_)
    · skip
      refine R_ic dd_homeless_22 (by decide) rfl ?_
      exact R_iret dd_homeless_23 rfl k
    · exact absurd c3 (by omega)
  · replace k := k.2 c2
    refine R_ld (v := .inl v1) dd_isRoom_4 rfl rfl rfl rfl ?_
    refine R_ld (v := .inr (.inr 182)) dd_isRoom_5 rfl rfl rfl rfl ?_
    refine R_call (as := [.inr (.inr 182)]) (rest := [.inl v1]) (M' := mm_rooms) (ls0 := [some (.inr (.inr 182))]) dd_isRoom_6 rfl rfl (cw_v cw_12_332 io_182 rfl rfl (Nat.le_of_ble_eq_true rfl) (Nat.le_of_ble_eq_true rfl)) mt_rooms rfl (c := e - 2) (by omega) rfl ?_
    refine R_ld (v := .inr (.inr 182)) dd_rooms_0 rfl rfl rfl rfl ?_
    refine R_gf (v := .inr (.inr 188)) dd_rooms_1 fd_12_95 io_182 (congrArg (fun z : Int => (Sum.inr (Sum.inr z) : LV)) ((rdw_nei (by omega)).trans (rf_182_10 hF))) rfl ?_
    refine R_ic dd_rooms_4 (by decide) rfl ?_
    refine R_iald (v := (rd h 188 0)) (n := 300) dd_rooms_5 ia_188 la_188 (by decide) (rdw_ne (by decide)) rfl ?_
    refine R_iret dd_rooms_6 rfl ?_
    change Rn xs xl (e - 1) mm_isRoom 9 [some (.inr (.inr 182)), some (.inl v1)] [.inl (rd h 188 0), .inl v1] (wr h 182 0 0) _
    refine R_icmp dd_isRoom_9 rfl rfl (fun (c4 : (rd h 188 0) ≤ v1) => ?_) (fun (c4 : v1 < (rd h 188 0)) => ?_)
    · replace k := k.1 c4
      refine R_ic dd_isRoom_16 (by decide) rfl ?_
      refine R_zret dd_isRoom_17 rfl (by decide) ?_
      change Rn xs xl e mm_homeless 10 [some (.inr (.inr 182)), some (.inl v1), some (.inl v2), some (.inl v3)] [.inl 0] (wr h 182 0 0) _
      refine R_if dd_homeless_10 rfl rfl (fun (c5 : 0 = 0) => ?_) (fun (c5 : 0 ≠ 0) => ?_)
      · skip
        refine R_ic dd_homeless_22 (by decide) rfl ?_
        exact R_iret dd_homeless_23 rfl k
      · exact absurd c5 (by omega)
    · replace k := k.2 c4
      refine R_ic dd_isRoom_12 (by decide) rfl ?_
      refine R_goto dd_isRoom_13 rfl ?_
      refine R_zret dd_isRoom_17 rfl (by decide) ?_
      change Rn xs xl e mm_homeless 10 [some (.inr (.inr 182)), some (.inl v1), some (.inl v2), some (.inl v3)] [.inl 1] (wr h 182 0 0) _
      refine R_if dd_homeless_10 rfl rfl (fun (c6 : 1 = 0) => ?_) (fun (c6 : 1 ≠ 0) => ?_)
      · exact absurd c6 (by omega)
      · skip
        refine R_ld (v := .inr (.inr 182)) dd_homeless_13 rfl rfl rfl rfl ?_
        refine R_ld (v := .inl v2) dd_homeless_14 rfl rfl rfl rfl ?_
        refine R_ld (v := .inl v3) dd_homeless_15 rfl rfl rfl rfl ?_
        refine R_call (as := [.inr (.inr 182), .inl v2, .inl v3]) (rest := []) (M' := mm_mayAsk) (ls0 := [some (.inr (.inr 182)), some (.inl v2), some (.inl v3)]) dd_homeless_16 rfl rfl (cw_v cw_12_422 io_182 rfl rfl (Nat.le_of_ble_eq_true rfl) (Nat.le_of_ble_eq_true rfl)) mt_mayAsk rfl (c := e - 1) (by omega) rfl ?_
        refine R_ld (v := .inl v2) dd_mayAsk_0 rfl rfl rfl rfl ?_
        refine R_ic dd_mayAsk_1 (by decide) rfl ?_
        refine R_ic dd_mayAsk_2 (by decide) rfl ?_
        refine R_call (as := [.inl v2, .inl 0, .inl 3]) (rest := []) (M' := mm_within) (ls0 := [some (.inl v2), some (.inl 0), some (.inl 3)]) dd_mayAsk_3 rfl rfl (cw_s cw_12_297 rfl rfl (Nat.le_of_ble_eq_true rfl) (Nat.le_of_ble_eq_true rfl)) mt_within rfl (c := e - 2) (by omega) rfl ?_
        refine R_ld (v := .inl v2) dd_within_0 rfl rfl rfl rfl ?_
        refine R_ld (v := .inl 0) dd_within_1 rfl rfl rfl rfl ?_
        refine R_icmp dd_within_2 rfl rfl (fun (c7 : v2 < 0) => ?_) (fun (c7 : 0 ≤ v2) => ?_)
        · replace k := k.1 c7
          refine R_ic dd_within_14 (by decide) rfl ?_
          refine R_zret dd_within_15 rfl (by decide) ?_
          change Rn xs xl (e - 1) mm_mayAsk 6 [some (.inr (.inr 182)), some (.inl v2), some (.inl v3)] [.inl 0] (wr h 182 0 0) _
          refine R_if dd_mayAsk_6 rfl rfl (fun (c8 : 0 = 0) => ?_) (fun (c8 : 0 ≠ 0) => ?_)
          · skip
            refine R_ic dd_mayAsk_23 (by decide) rfl ?_
            refine R_zret dd_mayAsk_24 rfl (by decide) ?_
            change Rn xs xl e mm_homeless 19 [some (.inr (.inr 182)), some (.inl v1), some (.inl v2), some (.inl v3)] [.inl 0] (wr h 182 0 0) _
            refine R_if dd_homeless_19 rfl rfl (fun (c9 : 0 ≠ 0) => ?_) (fun (c9 : 0 = 0) => ?_)
            · exact absurd c9 (by omega)
            · skip
              refine R_ic dd_homeless_22 (by decide) rfl ?_
              exact R_iret dd_homeless_23 rfl k
          · exact absurd c8 (by omega)
        · replace k := k.2 c7
          refine R_ld (v := .inl v2) dd_within_5 rfl rfl rfl rfl ?_
          refine R_ld (v := .inl 3) dd_within_6 rfl rfl rfl rfl ?_
          refine R_icmp dd_within_7 rfl rfl (fun (c10 : 3 < v2) => ?_) (fun (c10 : v2 ≤ 3) => ?_)
          · replace k := k.1 c10
            refine R_ic dd_within_14 (by decide) rfl ?_
            refine R_zret dd_within_15 rfl (by decide) ?_
            change Rn xs xl (e - 1) mm_mayAsk 6 [some (.inr (.inr 182)), some (.inl v2), some (.inl v3)] [.inl 0] (wr h 182 0 0) _
            refine R_if dd_mayAsk_6 rfl rfl (fun (c11 : 0 = 0) => ?_) (fun (c11 : 0 ≠ 0) => ?_)
            · skip
              refine R_ic dd_mayAsk_23 (by decide) rfl ?_
              refine R_zret dd_mayAsk_24 rfl (by decide) ?_
              change Rn xs xl e mm_homeless 19 [some (.inr (.inr 182)), some (.inl v1), some (.inl v2), some (.inl v3)] [.inl 0] (wr h 182 0 0) _
              refine R_if dd_homeless_19 rfl rfl (fun (c12 : 0 ≠ 0) => ?_) (fun (c12 : 0 = 0) => ?_)
              · exact absurd c12 (by omega)
              · skip
                refine R_ic dd_homeless_22 (by decide) rfl ?_
                exact R_iret dd_homeless_23 rfl k
            · exact absurd c11 (by omega)
          · replace k := k.2 c10
            refine R_ic dd_within_10 (by decide) rfl ?_
            refine R_goto dd_within_11 rfl ?_
            refine R_zret dd_within_15 rfl (by decide) ?_
            change Rn xs xl (e - 1) mm_mayAsk 6 [some (.inr (.inr 182)), some (.inl v2), some (.inl v3)] [.inl 1] (wr h 182 0 0) _
            refine R_if dd_mayAsk_6 rfl rfl (fun (c13 : 1 = 0) => ?_) (fun (c13 : 1 ≠ 0) => ?_)
            · exact absurd c13 (by omega)
            · skip
              refine R_ld (v := .inl v3) dd_mayAsk_9 rfl rfl rfl rfl ?_
              refine R_ic dd_mayAsk_10 (by decide) rfl ?_
              refine R_bi dd_mayAsk_11 (by decide) rfl ?_
              refine R_call (as := [.inl v3, .inl 0, .inl 23]) (rest := []) (M' := mm_within) (ls0 := [some (.inl v3), some (.inl 0), some (.inl 23)]) dd_mayAsk_13 rfl rfl (cw_s cw_12_297 rfl rfl (Nat.le_of_ble_eq_true rfl) (Nat.le_of_ble_eq_true rfl)) mt_within rfl (c := e - 2) (by omega) rfl ?_
              refine R_ld (v := .inl v3) dd_within_0 rfl rfl rfl rfl ?_
              refine R_ld (v := .inl 0) dd_within_1 rfl rfl rfl rfl ?_
              refine R_icmp dd_within_2 rfl rfl (fun (c14 : v3 < 0) => ?_) (fun (c14 : 0 ≤ v3) => ?_)
              · replace k := k.1 c14
                refine R_ic dd_within_14 (by decide) rfl ?_
                refine R_zret dd_within_15 rfl (by decide) ?_
                change Rn xs xl (e - 1) mm_mayAsk 16 [some (.inr (.inr 182)), some (.inl v2), some (.inl v3)] [.inl 0] (wr h 182 0 0) _
                refine R_if dd_mayAsk_16 rfl rfl (fun (c15 : 0 = 0) => ?_) (fun (c15 : 0 ≠ 0) => ?_)
                · skip
                  refine R_ic dd_mayAsk_23 (by decide) rfl ?_
                  refine R_zret dd_mayAsk_24 rfl (by decide) ?_
                  change Rn xs xl e mm_homeless 19 [some (.inr (.inr 182)), some (.inl v1), some (.inl v2), some (.inl v3)] [.inl 0] (wr h 182 0 0) _
                  refine R_if dd_homeless_19 rfl rfl (fun (c16 : 0 ≠ 0) => ?_) (fun (c16 : 0 = 0) => ?_)
                  · exact absurd c16 (by omega)
                  · skip
                    refine R_ic dd_homeless_22 (by decide) rfl ?_
                    exact R_iret dd_homeless_23 rfl k
                · exact absurd c15 (by omega)
              · replace k := k.2 c14
                refine R_ld (v := .inl v3) dd_within_5 rfl rfl rfl rfl ?_
                refine R_ld (v := .inl 23) dd_within_6 rfl rfl rfl rfl ?_
                refine R_icmp dd_within_7 rfl rfl (fun (c17 : 23 < v3) => ?_) (fun (c17 : v3 ≤ 23) => ?_)
                · replace k := k.1 c17
                  refine R_ic dd_within_14 (by decide) rfl ?_
                  refine R_zret dd_within_15 rfl (by decide) ?_
                  change Rn xs xl (e - 1) mm_mayAsk 16 [some (.inr (.inr 182)), some (.inl v2), some (.inl v3)] [.inl 0] (wr h 182 0 0) _
                  refine R_if dd_mayAsk_16 rfl rfl (fun (c18 : 0 = 0) => ?_) (fun (c18 : 0 ≠ 0) => ?_)
                  · skip
                    refine R_ic dd_mayAsk_23 (by decide) rfl ?_
                    refine R_zret dd_mayAsk_24 rfl (by decide) ?_
                    change Rn xs xl e mm_homeless 19 [some (.inr (.inr 182)), some (.inl v1), some (.inl v2), some (.inl v3)] [.inl 0] (wr h 182 0 0) _
                    refine R_if dd_homeless_19 rfl rfl (fun (c19 : 0 ≠ 0) => ?_) (fun (c19 : 0 = 0) => ?_)
                    · exact absurd c19 (by omega)
                    · skip
                      refine R_ic dd_homeless_22 (by decide) rfl ?_
                      exact R_iret dd_homeless_23 rfl k
                  · exact absurd c18 (by omega)
                · replace k := k.2 c17
                  refine R_ic dd_within_10 (by decide) rfl ?_
                  refine R_goto dd_within_11 rfl ?_
                  refine R_zret dd_within_15 rfl (by decide) ?_
                  change Rn xs xl (e - 1) mm_mayAsk 16 [some (.inr (.inr 182)), some (.inl v2), some (.inl v3)] [.inl 1] (wr h 182 0 0) _
                  refine R_if dd_mayAsk_16 rfl rfl (fun (c20 : 1 = 0) => ?_) (fun (c20 : 1 ≠ 0) => ?_)
                  · exact absurd c20 (by omega)
                  · skip
                    refine R_ic dd_mayAsk_19 (by decide) rfl ?_
                    refine R_goto dd_mayAsk_20 rfl ?_
                    refine R_zret dd_mayAsk_24 rfl (by decide) ?_
                    change Rn xs xl e mm_homeless 19 [some (.inr (.inr 182)), some (.inl v1), some (.inl v2), some (.inl v3)] [.inl 1] (wr h 182 0 0) _
                    refine R_if dd_homeless_19 rfl rfl (fun (c21 : 1 ≠ 0) => ?_) (fun (c21 : 1 = 0) => ?_)
                    · skip
                      refine R_ld (v := .inr (.inr 182)) dd_homeless_24 rfl rfl rfl rfl ?_
                      refine R_ld (v := .inl v2) dd_homeless_25 rfl rfl rfl rfl ?_
                      refine R_ld (v := .inl v3) dd_homeless_26 rfl rfl rfl rfl ?_
                      refine R_ld (v := .inr (.inr 182)) dd_homeless_27 rfl rfl rfl rfl ?_
                      refine R_gf (v := .inr (.inr 198)) dd_homeless_28 fd_12_125 io_182 (congrArg (fun z : Int => (Sum.inr (Sum.inr z) : LV)) ((rdw_nei (by omega)).trans (rf_182_24 hF))) rfl ?_
                      refine R_ic dd_homeless_31 (by decide) rfl ?_
                      refine R_iald (v := (rd h 198 1)) (n := 1610) dd_homeless_32 ia_198 la_198 (by decide) (rdw_ne (by decide)) rfl ?_
                      refine R_ic dd_homeless_33 (by decide) rfl ?_
                      obtain ⟨c, hc, k⟩ := k
                      exact R_call (as := [.inr (.inr 182), .inl v2, .inl v3, .inl (rd h 198 1), .inl 0]) (rest := []) (M' := mm_laysInto) (ls0 := [some (.inr (.inr 182)), some (.inl v2), some (.inl v3), some (.inl (rd h 198 1)), some (.inl 0), none, none, none]) dd_homeless_34 rfl rfl (cw_v cw_12_425 io_182 rfl rfl (Nat.le_of_ble_eq_true rfl) (Nat.le_of_ble_eq_true rfl)) mt_laysInto rfl hc rfl k
                    · exact absurd c21 (by omega)
theorem B_homeless_37 {xs : Nat → Int} {xl e : Nat} {h : LH} {Q : Option LV → LH → Prop} {v1 v2 v3 : Int} (hF : RF h)
    (k : (∃ c, c < e ∧ Rn xs xl c mm_homelessOf 0 [some (.inr (.inr 182)), some (.inl v1), none, none] [] h (fun r h' => Rn xs xl e mm_homeless 42 [some (.inr (.inr 182)), some (.inl v1), some (.inl v2), some (.inl v3)] (r.toList ++ []) h' Q))) :
    Rn xs xl e mm_homeless 37 [some (.inr (.inr 182)), some (.inl v1), some (.inl v2), some (.inl v3)] [] h Q := by
  refine R_ld (v := .inr (.inr 182)) dd_homeless_37 rfl rfl rfl rfl ?_
  refine R_ld (v := .inl v1) dd_homeless_38 rfl rfl rfl rfl ?_
  obtain ⟨c, hc, k⟩ := k
  exact R_call (as := [.inr (.inr 182), .inl v1]) (rest := []) (M' := mm_homelessOf) (ls0 := [some (.inr (.inr 182)), some (.inl v1), none, none]) dd_homeless_39 rfl rfl (cw_v cw_12_429 io_182 rfl rfl (Nat.le_of_ble_eq_true rfl) (Nat.le_of_ble_eq_true rfl)) mt_homelessOf rfl hc rfl k
theorem B_homeless_42 {xs : Nat → Int} {xl e : Nat} {h : LH} {Q : Option LV → LH → Prop} {v1 v2 v3 w0 : Int} (hF : RF h)
    (k : Q (some (.inl w0)) h) :
    Rn xs xl e mm_homeless 42 [some (.inr (.inr 182)), some (.inl v1), some (.inl v2), some (.inl v3)] [.inl w0] h Q := by
  exact R_iret dd_homeless_42 rfl k
end
section
/-! rings, part u1: what can be come to; the class's roomsFrom -/
def RN (E : Int → Int → Prop) : Nat → Int → Int → Prop
  | 0, a, b => a = b
  | n + 1, a, b => ∃ c, RN E n a c ∧ E c b
def Rea (E : Int → Int → Prop) (a b : Int) : Prop := ∃ n, RN E n a b
section UA
variable {E F : Int → Int → Prop} {a b c : Int} {X : Int → Prop}
theorem Rea_refl : Rea E a a := ⟨0, rfl⟩
theorem Rea_step (h : Rea E a c) (e : E c b) : Rea E a b := by
  obtain ⟨n, q⟩ := h
  exact ⟨n + 1, c, q, e⟩
theorem RN_min (h0 : X a) (hs : ∀ x y, X x → E x y → X y) : ∀ {n : Nat} {b : Int}, RN E n a b → X b
  | 0, b, h => by
    have h : a = b := h
    rw [← h]; exact h0
  | n + 1, b, ⟨c, q, e⟩ => hs c b (RN_min h0 hs q) e
theorem Rea_min (h0 : X a) (hs : ∀ x y, X x → E x y → X y) (h : Rea E a b) : X b := by
  obtain ⟨n, q⟩ := h
  exact RN_min h0 hs q
theorem Rea_trans (h : Rea E a c) (g : Rea E c b) : Rea E a b := Rea_min (X := fun x => Rea E a x) h (fun _ _ x e => Rea_step x e) g
theorem Rea_one (e : E a b) : Rea E a b := Rea_step Rea_refl e
theorem Rea_mono (h : ∀ x y, E x y → F x y) (g : Rea E a b) : Rea F a b := Rea_min (X := fun x => Rea F a x) Rea_refl (fun x y p e => Rea_step p (h x y e)) g
theorem Rea_flip (h : Rea E a b) : Rea (fun x y => E y x) b a := Rea_min (X := fun x => Rea (fun x y => E y x) x a) Rea_refl (fun x y p e => Rea_trans (Rea_one (E := fun x y => E y x) (a := y) (b := x) e) p) h
theorem Rea_flip_iff : Rea (fun x y => E y x) b a ↔ Rea E a b := ⟨fun h => Rea_flip h, fun h => Rea_flip h⟩
theorem Rea_iff (h : ∀ x y, E x y ↔ F x y) : Rea E a b ↔ Rea F a b := ⟨Rea_mono (fun x y e => (h x y).mp e), Rea_mono (fun x y e => (h x y).mpr e)⟩
end UA
/-- the rooms among the first ten -/
def cntZ (r : Int) : Int := zand (zshr r 0) 1 + zand (zshr r 1) 1 + zand (zshr r 2) 1 + zand (zshr r 3) 1 + zand (zshr r 4) 1 + zand (zshr r 5) 1 + zand (zshr r 6) 1 + zand (zshr r 7) 1 + zand (zshr r 8) 1 + zand (zshr r 9) 1
theorem cntZ_le (r : Int) : 0 ≤ cntZ r ∧ cntZ r ≤ 10 := by
  have b0 := bitZ_01 r 0
  have b1 := bitZ_01 r 1
  have b2 := bitZ_01 r 2
  have b3 := bitZ_01 r 3
  have b4 := bitZ_01 r 4
  have b5 := bitZ_01 r 5
  have b6 := bitZ_01 r 6
  have b7 := bitZ_01 r 7
  have b8 := bitZ_01 r 8
  have b9 := bitZ_01 r 9
  unfold cntZ
  omega
theorem bit_le {r s k : Int} (h : bitZ r k → bitZ s k) : zand (zshr r k) 1 ≤ zand (zshr s k) 1 := by
  have a := bitZ_01 r k
  have c := bitZ_01 s k
  by_cases z : zand (zshr r k) 1 = 1
  · have : zand (zshr s k) 1 = 1 := h z
    omega
  · omega
theorem cntZ_lt {r s k : Int} (h : ∀ k, 0 ≤ k → k < 32 → bitZ r k → bitZ s k) (k0 : 0 ≤ k) (k1 : k ≤ 9) (hr : ¬ bitZ r k) (hs : bitZ s k) : cntZ r < cntZ s := by
  have b0 := bit_le (h 0 (by decide) (by decide))
  have b1 := bit_le (h 1 (by decide) (by decide))
  have b2 := bit_le (h 2 (by decide) (by decide))
  have b3 := bit_le (h 3 (by decide) (by decide))
  have b4 := bit_le (h 4 (by decide) (by decide))
  have b5 := bit_le (h 5 (by decide) (by decide))
  have b6 := bit_le (h 6 (by decide) (by decide))
  have b7 := bit_le (h 7 (by decide) (by decide))
  have b8 := bit_le (h 8 (by decide) (by decide))
  have b9 := bit_le (h 9 (by decide) (by decide))
  have z := bitZ_n.mp hr
  have y : zand (zshr s k) 1 = 1 := hs
  clear h hr hs
  unfold cntZ
  rcases (show k = 0 ∨ k = 1 ∨ k = 2 ∨ k = 3 ∨ k = 4 ∨ k = 5 ∨ k = 6 ∨ k = 7 ∨ k = 8 ∨ k = 9 by omega) with rfl | rfl | rfl | rfl | rfl | rfl | rfl | rfl | rfl | rfl <;> omega
/-- through some door, by the bits A ahead and B back, from room a into room b -/
def EE (K : KEY) (A B a b : Int) : Prop := ∃ d, 0 ≤ d ∧ d < K.1 1 ∧ ((bitZ A d ∧ a = K.1 (8 * d + 5) ∧ b = K.1 (8 * d + 6)) ∨ (bitZ B d ∧ a = K.1 (8 * d + 6) ∧ b = K.1 (8 * d + 5)))
section UB
variable {xs : Nat → Int} {xl e : Nat} {h g : LH} {Q : Option LV → LH → Prop} {K : KEY} {q s hr a b A B R v1 v2 v3 : Int} {L : List Int}
theorem EE_flip : EE K B A a b ↔ EE K A B b a := by
  unfold EE
  constructor
  · rintro ⟨d, d0, d1, ⟨x, y, z⟩ | ⟨x, y, z⟩⟩
    · exact ⟨d, d0, d1, Or.inr ⟨x, z, y⟩⟩
    · exact ⟨d, d0, d1, Or.inl ⟨x, z, y⟩⟩
  · rintro ⟨d, d0, d1, ⟨x, y, z⟩ | ⟨x, y, z⟩⟩
    · exact ⟨d, d0, d1, Or.inr ⟨x, z, y⟩⟩
    · exact ⟨d, d0, d1, Or.inl ⟨x, z, y⟩⟩
theorem EE_in (hK : KR K) (h : EE K A B a b) : (0 ≤ a ∧ a < K.1 0) ∧ 0 ≤ b ∧ b < K.1 0 := by
  obtain ⟨d, d0, d1, x⟩ := h
  obtain ⟨r2, r3, -⟩ := hK.2.2.2.1 d d0 d1
  rcases x with ⟨-, rfl, rfl⟩ | ⟨-, rfl, rfl⟩
  · exact ⟨r2, r3⟩
  · exact ⟨r3, r2⟩
theorem ent_EE : (∃ d, 0 ≤ d ∧ d < K.1 1 ∧ entD K A B R b d) ↔ ∃ a, bitZ R a ∧ EE K A B a b := by
  unfold entD EE
  constructor
  · rintro ⟨d, d0, d1, ⟨x, y, z⟩ | ⟨x, y, z⟩⟩
    · exact ⟨_, y, d, d0, d1, Or.inl ⟨x, rfl, z⟩⟩
    · exact ⟨_, y, d, d0, d1, Or.inr ⟨x, rfl, z⟩⟩
  · rintro ⟨a, ra, d, d0, d1, ⟨x, rfl, z⟩ | ⟨x, rfl, z⟩⟩
    · exact ⟨d, d0, d1, Or.inl ⟨x, ra, z⟩⟩
    · exact ⟨d, d0, d1, Or.inr ⟨x, ra, z⟩⟩
theorem F_roomsFrom (he : 1 ≤ e) (hc : CXq h K q L) (hK : KR K) (h3 : 0 ≤ v3 ∧ v3 ≤ 9) (k : ∀ r, i32 r → (∀ b, 0 ≤ b → b < 32 → (bitZ r b ↔ Rea (EE K v1 v2) v3 b)) → Q (some (.inl r)) h) : Rn xs xl e mm_Web_roomsFrom 0 [some (.inr (.inr q)), some (.inl v1), some (.inl v2), some (.inl v3), none, none, none] [] h Q := by
  obtain ⟨hF, hP, hq, -⟩ := id hc
  have k0 := hK.1
  have ten : ∀ b, Rea (EE K v1 v2) v3 b → 0 ≤ b ∧ b ≤ 9 := fun b hb => Rea_min (X := fun b => 0 ≤ b ∧ b ≤ 9) h3 (fun x y _ ee => by have := EE_in hK ee; omega) hb
  have loop : ∀ (n : Nat) (v4 v5 : Int) (o : Option LV), 10 - v5 ≤ n → 0 ≤ v5 → v5 ≤ 10 → i32 v4 → v5 + 1 ≤ cntZ v4 → bitZ v4 v3 → (∀ b, 0 ≤ b → b < 32 → bitZ v4 b → Rea (EE K v1 v2) v3 b) → Rn xs xl e mm_Web_roomsFrom 8 [some (.inr (.inr q)), some (.inl v1), some (.inl v2), some (.inl v3), some (.inl v4), some (.inl v5), o] [] h Q := by
    intro n
    induction n with
    | zero =>
      intro v4 v5 o hn a0 a1 vi vc v0 vr
      have := cntZ_le v4
      omega
    | succ n ih =>
      intro v4 v5 o hn a0 a1 vi vc v0 vr
      have c10 := cntZ_le v4
      refine B_Web_roomsFrom_8 hq hF ⟨a0, a1⟩ ⟨fun c => by omega, fun c => ⟨0, by omega, F_entered hc hK (fun r ri rb => ?_)⟩⟩
      have nb : ∀ b, 0 ≤ b → b < 32 → (bitZ (zor v4 r) b ↔ bitZ v4 b ∨ ∃ a, bitZ v4 a ∧ EE K v1 v2 a b) := fun b b0 b1 => by
        rw [bit_or b0 b1, rb b b0 b1, ent_EE]
      have nr : ∀ b, 0 ≤ b → b < 32 → bitZ (zor v4 r) b → Rea (EE K v1 v2) v3 b := fun b b0 b1 y => by
        rcases (nb b b0 b1).mp y with z | ⟨a, ra, ee⟩
        · exact vr b b0 b1 z
        · have i := EE_in hK ee
          exact Rea_step (vr a i.1.1 (by omega) ra) ee
      refine B_Web_roomsFrom_25 hq hF ⟨a0, by omega⟩ ⟨fun y => ?_, fun y => k v4 vi (fun b b0 b1 => ⟨vr b b0 b1, fun w => ?_⟩)⟩
      · have df : ∃ j, 0 ≤ j ∧ j < 32 ∧ ¬ bitZ v4 j ∧ bitZ (zor v4 r) j := by
          refine Classical.byContradiction (fun nn => y (bit_ext (zor_i _ _) vi (fun j j0 j1 => ⟨fun w => ?_, fun w => (nb j j0 j1).mpr (Or.inl w)⟩)))
          exact Classical.byContradiction (fun u => nn ⟨j, j0, j1, u, w⟩)
        obtain ⟨j, j0, j1, ja, jb⟩ := df
        have t := ten j (nr j j0 j1 jb)
        have lt := cntZ_lt (fun b b0 b1 w => (nb b b0 b1).mpr (Or.inl w)) j0 t.2 ja jb
        exact ih _ (v5 + 1) _ (by omega) (by omega) (by omega) (zor_i _ _) (by omega) ((nb v3 h3.1 (by omega)).mpr (Or.inl v0)) nr
      · have z := Rea_min (X := fun b => (0 ≤ b ∧ b ≤ 9) ∧ bitZ v4 b) ⟨h3, v0⟩ (fun x y' hx ee => by
          have i := EE_in hK ee
          refine ⟨by omega, ?_⟩
          have := (nb y' (by omega) (by omega)).mpr (Or.inr ⟨x, hx.2, ee⟩)
          rw [y] at this
          exact this) w
        exact z.2
  have c1 : 1 ≤ cntZ (zshl 1 v3) := by
    have c0 : cntZ 0 = 0 := by decide +kernel
    have := cntZ_lt (r := 0) (s := zshl 1 v3) (k := v3) (fun b _ _ w => absurd w bit_zero) h3.1 h3.2 bit_zero ((bit_shl h3.1 (by omega) h3.1 (by omega)).mpr rfl)
    omega
  refine B_Web_roomsFrom_0 hq hF (loop 10 _ 0 none (by omega) (by omega) (by omega) (zshl_i _ _) (by omega) ((bit_shl h3.1 (by omega) h3.1 (by omega)).mpr rfl) (fun b b0 b1 y => ?_))
  rw [bit_shl h3.1 (by omega) b0 b1] at y
  rw [y]
  exact Rea_refl
end UB
end
section
/-! rings, part u2: the reference's laysInto, closure, homelessOf -/
/-- one comes at once from room a into room b -/
def eL (K : KEY) (s hr sh tu a b : Int) : Prop := (0 ≤ a ∧ a < K.1 0) ∧ ∃ d, 0 ≤ d ∧ d < K.1 1 ∧ LF K d s a hr sh tu = b
/-- row into says so -/
def LAY (K : KEY) (s hr sh tu : Int) (g : LH) : Prop := ∀ r, 0 ≤ r → r < 10 → ∀ b, 0 ≤ b → b < 32 → (bitZ (rd g 203 r) b ↔ eL K s hr sh tu r b)
def frI (h g : LH) : Prop := ∀ a i, a ≠ 196 → a ≠ 197 → a ≠ 203 → rd g a i = rd h a i
section UC
variable {xs : Nat → Int} {xl e : Nat} {h g : LH} {Q : Option LV → LH → Prop} {K : KEY} {s hr sh tu a b v1 : Int}
theorem frI.trans {h h1 h2 : LH} (a : frI h h1) (c : frI h1 h2) : frI h h2 := fun x i n1 n2 n3 => (c x i n1 n2 n3).trans (a x i n1 n2 n3)
theorem frI.refl (h : LH) : frI h h := fun _ _ _ _ _ => rfl
theorem frI.key (f : frI h g) : key g = key h := key_frs (fun a i a0 a1 => f a i (by omega) (by omega) (by omega)) (fun i a0 a1 => f 182 i (by decide) (by decide) (by decide))
theorem G_laysInto (he : 4 ≤ e) (hI : INV h) (eK : key h = K) (hs : 0 ≤ s ∧ s ≤ 3) (hh : 0 ≤ hr ∧ hr ≤ 23) (k : ∀ g, INV g → frI h g → LAY K s hr sh tu g → Q none g) : Rn xs xl e mm_laysInto 0 [some (.inr (.inr 182)), some (.inl s), some (.inl hr), some (.inl sh), some (.inl tu), none, none, none] [] h Q := by
  have hK : KR K := by rw [← eK]; exact KR_of hI
  obtain ⟨k0, k1, -⟩ := hK
  have eg : ∀ {g : LH}, frI h g → rd g 188 0 = K.1 0 ∧ rd g 188 1 = K.1 1 := fun f => by
    have := f.key.trans eK
    rw [← this]
    exact ⟨rfl, rfl⟩
  have outer : ∀ (n : Nat) (g : LH) (r : Int) (o6 o7 : Option LV), 10 - r ≤ n → 0 ≤ r → r ≤ 10 → INV g → frI h g → (∀ x, 0 ≤ x → x < r → ∀ b, 0 ≤ b → b < 32 → (bitZ (rd g 203 x) b ↔ eL K s hr sh tu x b)) → Rn xs xl e mm_laysInto 3 [some (.inr (.inr 182)), some (.inl s), some (.inl hr), some (.inl sh), some (.inl tu), some (.inl r), o6, o7] [] g Q := by
    intro n
    have stop : ∀ (g : LH) (r : Int), 10 ≤ r → INV g → frI h g → (∀ x, 0 ≤ x → x < r → ∀ b, 0 ≤ b → b < 32 → (bitZ (rd g 203 x) b ↔ eL K s hr sh tu x b)) → Q none g := fun g r c gI gf gl => k g gI gf (fun x x0 x1 => gl x x0 (by omega))
    induction n with
    | zero =>
      intro g r o6 o7 hn r0 r1 gI gf gl
      exact B_laysInto_3 (RF_of gI.1) ⟨r0, r1⟩ ⟨fun c => stop g r c gI gf gl, fun c => by omega⟩
    | succ n ih =>
      intro g r o6 o7 hn r0 r1 gI gf gl
      -- the doors below d of room r
      have inner : ∀ (m : Nat) (u : LH) (d : Int) (o7 : Option LV), K.1 1 - d ≤ m → 0 ≤ d → d ≤ K.1 1 → r < 10 → INV u → frI h u → (∀ x, 0 ≤ x → x < r → ∀ b, 0 ≤ b → b < 32 → (bitZ (rd u 203 x) b ↔ eL K s hr sh tu x b)) → (∀ b, 0 ≤ b → b < 32 → (bitZ (rd u 203 r) b ↔ r < K.1 0 ∧ ∃ d', 0 ≤ d' ∧ d' < d ∧ LF K d' s r hr sh tu = b)) → Rn xs xl e mm_laysInto 21 [some (.inr (.inr 182)), some (.inl s), some (.inl hr), some (.inl sh), some (.inl tu), some (.inl r), some (.inl d), o7] [] u Q := by
        intro m
        have next : ∀ (u : LH) (d : Int) (o6 o7 : Option LV), r < 10 → (K.1 1 ≤ d ∨ K.1 0 ≤ r) → d ≤ K.1 1 → INV u → frI h u → (∀ x, 0 ≤ x → x < r → ∀ b, 0 ≤ b → b < 32 → (bitZ (rd u 203 x) b ↔ eL K s hr sh tu x b)) → (∀ b, 0 ≤ b → b < 32 → (bitZ (rd u 203 r) b ↔ r < K.1 0 ∧ ∃ d', 0 ≤ d' ∧ d' < d ∧ LF K d' s r hr sh tu = b)) → Rn xs xl e mm_laysInto 3 [some (.inr (.inr 182)), some (.inl s), some (.inl hr), some (.inl sh), some (.inl tu), some (.inl (r + 1)), o6, o7] [] u Q := by
          intro u d o6 o7 r10 hd d1 uI uf ul ur
          refine ih u (r + 1) o6 o7 (by omega) (by omega) (by omega) uI uf (fun x x0 x1 b b0 b1 => ?_)
          by_cases z : x = r
          · rw [z, ur b b0 b1]
            unfold eL
            constructor
            · rintro ⟨y, d', a0, a1, ee⟩
              exact ⟨⟨r0, y⟩, d', a0, by omega, ee⟩
            · rintro ⟨⟨_, y⟩, d', a0, a1, ee⟩
              exact ⟨y, d', a0, by omega, ee⟩
          · exact ul x x0 (by omega) b b0 b1
        induction m with
        | zero =>
          intro u d o7 hm d0 d1 r10 uI uf ul ur
          have ee := eg uf
          exact B_laysInto_21 (RF_of uI.1) ⟨r0, by omega⟩ (by omega) (by omega) ⟨fun c => next u d _ o7 r10 (by omega) d1 uI uf ul ur, fun c => by omega⟩
        | succ m im =>
          intro u d o7 hm d0 d1 r10 uI uf ul ur
          have ee := eg uf
          refine B_laysInto_21 (RF_of uI.1) ⟨r0, by omega⟩ (by omega) (by omega) ⟨fun c => next u d _ o7 r10 (by omega) d1 uI uf ul ur, fun c => ⟨fun c2 => next u d _ o7 r10 (by omega) d1 uI uf ul ur, fun c2 => ⟨3, by omega, ?_⟩⟩⟩
          have lf := LF_ok K (d := d) (s := s) (room := r) (hr := hr) sh tu (by omega) hs (by omega) (by omega)
          refine lf.2.2.2 xs xl 3 u _ (Nat.le_refl 3) uI (uf.key.trans eK) (fun u' uI' uf' => ?_)
          have fI : frI h u' := fun a i n1 n2 n3 => (uf' a i n1 n2).trans (uf a i n1 n2 n3)
          have lr := lf.1
          clear lf
          have f203 : ∀ i, rd u' 203 i = rd u 203 i := fun i => uf' 203 i (by decide) (by decide)
          have rg := rA_into uI'.1 (i := r) (by omega)
          have put : ∀ w, 0 ≤ w → w ≤ 1023 → (∀ b, 0 ≤ b → b < 32 → (bitZ w b ↔ bitZ (rd u 203 r) b ∨ (0 ≤ b ∧ LF K d s r hr sh tu = b))) → Rn xs xl e mm_laysInto 21 [some (.inr (.inr 182)), some (.inl s), some (.inl hr), some (.inl sh), some (.inl tu), some (.inl r), some (.inl (d + 1)), some (.inl (LF K d s r hr sh tu))] [] (wr u' 203 r w) Q := by
            intro w w0 w1 wb
            refine im _ (d + 1) _ (by omega) (by omega) (by omega) r10 (wA_into uI' ⟨r0, r10⟩ w0 w1) (fun a i n1 n2 n3 => by rw [rdw_ne (by omega)]; exact fI a i n1 n2 n3) (fun x x0 x1 b b0 b1 => ?_) (fun b b0 b1 => ?_)
            · rw [rdw_nei (by omega), f203]
              exact ul x x0 x1 b b0 b1
            · rw [rdw_eq, wb b b0 b1, ur b b0 b1, ex_lt d0]
              constructor
              · rintro (⟨y, x⟩ | ⟨_, x⟩)
                · exact ⟨y, Or.inl x⟩
                · exact ⟨by omega, Or.inr x⟩
              · rintro ⟨y, x | x⟩
                · exact Or.inl ⟨y, x⟩
                · exact Or.inr ⟨b0, x⟩
          refine B_laysInto_52 (RF_of uI'.1) ⟨r0, by omega⟩ ⟨d0, by omega⟩ ⟨fun z => ?_, fun z => ?_⟩
          · have zb := zshl_b (LF K d s r hr sh tu).toNat (by omega)
            rw [Int.toNat_of_nonneg z] at zb
            have zo := zor_ge10 (a := rd u' 203 r) (b := zshl 1 (LF K d s r hr sh tu)) rg.1 rg.2 (by omega) (by omega)
            refine put _ (by omega) zo.2 (fun b b0 b1 => ?_)
            rw [bit_or b0 b1, bit_shl z (by omega) b0 b1, f203]
            exact ⟨fun y => y.elim Or.inl (fun y => Or.inr ⟨b0, y.symm⟩), fun y => y.elim Or.inl (fun y => Or.inr y.2.symm)⟩
          · have zo := zor_ge10 (a := rd u' 203 r) (b := 0) rg.1 rg.2 (by omega) (by omega)
            refine put _ (by omega) zo.2 (fun b b0 b1 => ?_)
            rw [bit_or b0 b1, f203]
            exact ⟨fun y => y.elim Or.inl (fun y => absurd y bit_zero), fun y => y.elim Or.inl (fun y => by omega)⟩
      refine B_laysInto_3 (RF_of gI.1) ⟨r0, r1⟩ ⟨fun c => stop g r c gI gf gl, fun c => ⟨⟨r0, c⟩, ?_⟩⟩
      refine inner (K.1 1).toNat _ 0 o7 (by omega) (by omega) (by omega) c (wA_into gI ⟨r0, c⟩ (by omega) (by omega)) (fun a i n1 n2 n3 => by rw [rdw_ne (by omega)]; exact gf a i n1 n2 n3) (fun x x0 x1 b b0 b1 => ?_) (fun b b0 b1 => ?_)
      · rw [rdw_nei (by omega)]
        exact gl x x0 x1 b b0 b1
      · rw [rdw_eq]
        exact ⟨fun y => absurd y bit_zero, fun ⟨_, d', a0, a1, _⟩ => by omega⟩
  exact B_laysInto_0 (RF_of hI.1) (outer 10 h 0 none none (by omega) (by omega) (by omega) hI (frI.refl h) (fun x x0 x1 => by omega))
/-- the edges that the row says -/
def eR (K : KEY) (g : LH) (a b : Int) : Prop := (0 ≤ a ∧ a < K.1 0) ∧ 0 ≤ b ∧ b < 32 ∧ bitZ (rd g 203 a) b
theorem G_closure (he : 1 ≤ e) (hI : INV h) (eK : key h = K) (hv : 0 ≤ v1 ∧ v1 ≤ 9) (k : ∀ r, 1 ≤ r → r ≤ 1023 → (∀ b, 0 ≤ b → b < 32 → (bitZ r b ↔ Rea (eR K h) v1 b)) → Q (some (.inl r)) h) : Rn xs xl e mm_closure 0 [some (.inr (.inr 182)), some (.inl v1), none, none, none] [] h Q := by
  have r0 := rq_rooms hI.1
  have e0 : rd h 188 0 = K.1 0 := by rw [← eK]; rfl
  have l6 : ∀ (n : Nat) (v2 v3 : Int) (o4 : Option LV), nL o4 → 1023 - v3 < n → 0 ≤ v3 → v3 ≤ v2 → 1 ≤ v2 → v2 ≤ 1023 → (∀ b, 0 ≤ b → b < 32 → bitZ v2 b → Rea (eR K h) v1 b) → bitZ v2 v1 → (v3 = v2 → ∀ a b, bitZ v2 a → eR K h a b → bitZ v2 b) → Rn xs xl e mm_closure 6 [some (.inr (.inr 182)), some (.inl v1), some (.inl v2), some (.inl v3), o4] [] h Q := by
    intro n
    induction n with
    | zero =>
      intro v2 v3 o4 _ hn
      omega
    | succ n ih =>
      intro v2 v3 o4 no hn a0 a1 a2 a3 hr h1 hcl
      refine B_closure_6 no (RF_of hI.1) ⟨fun c => k v2 a2 a3 (fun b b0 b1 => ⟨hr b b0 b1, fun w => ?_⟩), fun c => ?_⟩
      · exact Rea_min (X := fun b => bitZ v2 b) h1 (fun x y hx ee => hcl (by omega) x y hx ee) w
      have l16 : ∀ (m : Nat) (w v4 : Int), rd h 188 0 - v4 < m → 0 ≤ v4 → v4 ≤ rd h 188 0 → v2 ≤ w → w ≤ 1023 → (∀ b, 0 ≤ b → b < 32 → bitZ v2 b → bitZ w b) → (∀ b, 0 ≤ b → b < 32 → bitZ w b → Rea (eR K h) v1 b) → (∀ a b, 0 ≤ a → a < v4 → bitZ v2 a → eR K h a b → bitZ w b) → Rn xs xl e mm_closure 16 [some (.inr (.inr 182)), some (.inl v1), some (.inl w), some (.inl v2), some (.inl v4)] [] h Q := by
        intro m
        induction m with
        | zero =>
          intro w v4 hm
          omega
        | succ m im =>
          intro w v4 hm b0 b1 b2 b3 sub hw hd
          have z0 := zor_ge10 (a := w) (b := 0) (by omega) b3 (by omega) (by omega)
          refine B_closure_16 (RF_of hI.1) he ⟨fun c2 => ih w v2 _ (fun u hu => by cases hu; rfl) (by omega) (by omega) b2 (by omega) b3 hw (sub v1 hv.1 (by omega) h1) (fun eq a b ha ee => ?_), fun c2 => ⟨fun nb => ⟨by omega, im _ _ (by omega) (by omega) (by omega) (by omega) (by omega) (fun b x0 x1 y => (bit_or x0 x1).mpr (Or.inl (sub b x0 x1 y))) (fun b x0 x1 y => hw b x0 x1 (((bit_or x0 x1).mp y).elim (fun y => y) (fun y => absurd y bit_zero))) (fun a b x0 x1 y ee => ?_)⟩, fun yb => ⟨by omega, by omega, ?_⟩⟩⟩
          · refine hd a b ee.1.1 (by have := ee.1.2; omega) (by rw [eq]; exact ha) ee
          · have i := ee.2
            refine (bit_or i.1 i.2.1).mpr (Or.inl ?_)
            by_cases z : a = v4
            · exact absurd (sub a x0 (by omega) y) (by rw [z]; exact nb)
            · exact hd a b x0 (by omega) y ee
          · have q := rA_into hI.1 (i := v4) (by omega)
            have z1 := zor_ge10 (a := w) (b := rd h 203 v4) (by omega) b3 q.1 q.2
            refine im _ _ (by omega) (by omega) (by omega) (by omega) (by omega) (fun b x0 x1 y => (bit_or x0 x1).mpr (Or.inl (sub b x0 x1 y))) (fun b x0 x1 y => ?_) (fun a b x0 x1 y ee => ?_)
            · rcases (bit_or x0 x1).mp y with y | y
              · exact hw b x0 x1 y
              · exact Rea_step (hw v4 b0 (by omega) yb) ⟨⟨b0, by omega⟩, x0, x1, y⟩
            · have i := ee.2
              rw [bit_or i.1 i.2.1]
              by_cases z : a = v4
              · rw [z] at i
                exact Or.inr i.2.2
              · exact Or.inl (hd a b x0 (by omega) y ee)
      exact l16 11 v2 0 (by omega) (by omega) (by omega) (by omega) a3 (fun _ _ _ y => y) hr (fun a b x0 x1 => by omega)
  have z := zshl_b v1.toNat (by omega)
  rw [Int.toNat_of_nonneg hv.1] at z
  refine B_closure_0 (RF_of hI.1) (l6 1025 (zshl 1 v1) 0 none (fun u hu => by cases hu) (by omega) (by omega) (by omega) z.1 z.2 (fun b b0 b1 y => ?_) ((bit_shl hv.1 (by omega) hv.1 (by omega)).mpr rfl) (fun y => by omega))
  rw [bit_shl hv.1 (by omega) b0 b1] at y
  rw [y]
  exact Rea_refl
theorem eR_eL (hl : LAY K s hr sh tu h) (hK : KR K) (hs : 0 ≤ s ∧ s ≤ 3) (hh : 0 ≤ hr ∧ hr ≤ 23) : eR K h a b ↔ 0 ≤ b ∧ eL K s hr sh tu a b := by
  unfold eR
  have k0 := hK.1
  have k1 := hK.2.1
  constructor
  · rintro ⟨a0, b0, b1, y⟩
    exact ⟨b0, (hl a a0.1 (by omega) b b0 b1).mp y⟩
  · rintro ⟨b0, y⟩
    obtain ⟨a0, d, d0, d1, ee⟩ := id y
    have lf := LF_ok K (d := d) (s := s) (room := a) (hr := hr) sh tu (by omega) hs (by omega) (by omega)
    have b9 : b ≤ 9 := by rw [← ee]; exact lf.1.2
    exact ⟨a0, b0, by omega, (hl a a0.1 (by omega) b b0 (by omega)).mpr y⟩
theorem G_homelessOf (he : 2 ≤ e) (hI : INV h) (eK : key h = K) (hv : 0 ≤ v1 ∧ v1 ≤ 9) (k : ∀ r, i32 r → (∀ b, 0 ≤ b → b < 32 → (bitZ r b ↔ b < K.1 0 ∧ ¬ Rea (eR K h) b v1)) → Q (some (.inl r)) h) : Rn xs xl e mm_homelessOf 0 [some (.inr (.inr 182)), some (.inl v1), none, none] [] h Q := by
  have r0 := rq_rooms hI.1
  have e0 : rd h 188 0 = K.1 0 := by rw [← eK]; rfl
  have loop : ∀ (n : Nat) (v2 v3 : Int), K.1 0 - v3 ≤ n → 0 ≤ v3 → v3 ≤ K.1 0 → i32 v2 → (∀ b, 0 ≤ b → b < 32 → (bitZ v2 b ↔ b < v3 ∧ ¬ Rea (eR K h) b v1)) → Rn xs xl e mm_homelessOf 4 [some (.inr (.inr 182)), some (.inl v1), some (.inl v2), some (.inl v3)] [] h Q := by
    intro n
    have stop : ∀ v2 v3, K.1 0 ≤ v3 → v3 ≤ K.1 0 → i32 v2 → (∀ b, 0 ≤ b → b < 32 → (bitZ v2 b ↔ b < v3 ∧ ¬ Rea (eR K h) b v1)) → Q (some (.inl v2)) h := fun v2 v3 a c vi vb => k v2 vi (fun b b0 b1 => by rw [show K.1 0 = v3 by omega]; exact vb b b0 b1)
    induction n with
    | zero =>
      intro v2 v3 hn a0 a1 vi vb
      exact B_homelessOf_4 (RF_of hI.1) ⟨a0, by omega⟩ (by omega) ⟨fun c => stop v2 v3 (by omega) a1 vi vb, fun c => by omega⟩
    | succ n ih =>
      intro v2 v3 hn a0 a1 vi vb
      refine B_homelessOf_4 (RF_of hI.1) ⟨a0, by omega⟩ (by omega) ⟨fun c => stop v2 v3 (by omega) a1 vi vb, fun c => ⟨1, by omega, G_closure (by omega) hI eK ⟨a0, by omega⟩ (fun r r1 r2 rb => ?_)⟩⟩
      refine B_homelessOf_18 (RF_of hI.1) ⟨a0, by omega⟩ (by omega) ⟨fun y => ih _ (v3 + 1) (by omega) (by omega) (by omega) (zor_i _ _) (fun b b0 b1 => ?_), fun y => ih _ (v3 + 1) (by omega) (by omega) (by omega) (zor_i _ _) (fun b b0 b1 => ?_)⟩
      · have nr : ¬ Rea (eR K h) v3 v1 := fun w => y ((rb v1 hv.1 (by omega)).mpr w)
        rw [bit_or b0 b1, bit_shl a0 (by omega) b0 b1, vb b b0 b1]
        constructor
        · rintro (⟨u, w⟩ | u)
          · exact ⟨by omega, w⟩
          · rw [u]; exact ⟨by omega, nr⟩
        · rintro ⟨u, w⟩
          by_cases z : b = v3
          · exact Or.inr z
          · exact Or.inl ⟨by omega, w⟩
      · have yr : Rea (eR K h) v3 v1 := (rb v1 hv.1 (by omega)).mp y
        rw [bit_or b0 b1, vb b b0 b1]
        constructor
        · rintro (⟨u, w⟩ | u)
          · exact ⟨by omega, w⟩
          · exact absurd u bit_zero
        · rintro ⟨u, w⟩
          by_cases z : b = v3
          · rw [z] at w
            exact absurd yr w
          · exact Or.inl ⟨by omega, w⟩
  exact B_homelessOf_0 (RF_of hI.1) (loop 10 0 0 (by omega) (by omega) (by omega) z32 (fun b b0 b1 => ⟨fun y => absurd y bit_zero, fun y => by omega⟩))
end UC
end
