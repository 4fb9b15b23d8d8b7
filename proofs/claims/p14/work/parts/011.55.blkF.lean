/-! LM, by program (wip/p2/hand.py): rows of the ways -/
def mm_stepOf : LM_M := (⟨"OneSidedModel", "stepOf", "(IIII)I"⟩, prog_14_method_68_code, 10, (some .int), 12, 5, 0, 1661, 1660, 1000109)
def mm_doors : LM_M := (⟨"OneSidedModel", "doors", "()I"⟩, prog_14_method_47_code, 1, (some .int), 12, 1, 0, 1559, 1558, 1000093)
def mm_firstHour : LM_M := (⟨"OneSidedModel", "firstHour", "(III)I"⟩, prog_14_method_70_code, 6, (some .int), 12, 4, 0, 1653, 1652, 1000107)
def mm_startOf : LM_M := (⟨"OneSidedModel", "startOf", "(II)I"⟩, prog_14_method_69_code, 3, (some .int), 12, 3, 0, 1657, 1656, 1000108)
def mm_errandHour : LM_M := (⟨"OneSidedModel", "errandHour", "(II)I"⟩, prog_14_method_72_code, 3, (some .int), 12, 3, 0, 1673, 1672, 1000111)
def mm_findFewest : LM_M := (⟨"OneSidedModel", "findFewest", "(III)V"⟩, prog_14_method_73_code, 11, none, 12, 4, 0, 1677, 1676, 1000112)
def mm_isNext : LM_M := (⟨"OneSidedModel", "isNext", "(IIIIIII)Z"⟩, prog_14_method_75_code, 10, (some .boolean), 12, 8, 0, 1682, 1681, 1000113)
def mm_findWay : LM_M := (⟨"OneSidedModel", "findWay", "(II)I"⟩, prog_14_method_74_code, 8, (some .int), 12, 3, 0, 1669, 1668, 1000110)
theorem dd_stepOf_0 : decode mm_stepOf.2.1 0 = .ok (.iload_n 3, 1) := by decide +kernel
theorem dd_stepOf_1 : decode mm_stepOf.2.1 1 = .ok (.istore 5, 2) := by decide +kernel
theorem dd_stepOf_3 : decode mm_stepOf.2.1 3 = .ok (.iconst 0, 1) := by decide +kernel
theorem dd_stepOf_4 : decode mm_stepOf.2.1 4 = .ok (.istore 6, 2) := by decide +kernel
theorem dd_stepOf_6 : decode mm_stepOf.2.1 6 = .ok (.iload 6, 2) := by decide +kernel
theorem dd_stepOf_8 : decode mm_stepOf.2.1 8 = .ok (.bipush 20, 2) := by decide +kernel
theorem dd_stepOf_10 : decode mm_stepOf.2.1 10 = .ok (.if_icmp .ge (113), 3) := by decide +kernel
theorem dd_stepOf_123 : decode mm_stepOf.2.1 123 = .ok (.iload 5, 2) := by decide +kernel
theorem dd_stepOf_125 : decode mm_stepOf.2.1 125 = .ok (.ireturn, 1) := by decide +kernel
theorem dd_stepOf_13 : decode mm_stepOf.2.1 13 = .ok (.iconst 0, 1) := by decide +kernel
theorem dd_stepOf_14 : decode mm_stepOf.2.1 14 = .ok (.istore 7, 2) := by decide +kernel
theorem dd_stepOf_16 : decode mm_stepOf.2.1 16 = .ok (.iload 7, 2) := by decide +kernel
theorem dd_stepOf_18 : decode mm_stepOf.2.1 18 = .ok (.aload_n 0, 1) := by decide +kernel
theorem dd_stepOf_19 : decode mm_stepOf.2.1 19 = .ok (.invokevirtual 335, 3) := by decide +kernel
theorem cw_12_335 : cwOk 12 335 0 198 1 1 12 = true := by decide +kernel
theorem mt_doors : MTB 198 = some mm_doors := rfl
theorem dd_doors_0 : decode mm_doors.2.1 0 = .ok (.aload_n 0, 1) := by decide +kernel
theorem dd_doors_1 : decode mm_doors.2.1 1 = .ok (.getfield 95, 3) := by decide +kernel
theorem dd_doors_4 : decode mm_doors.2.1 4 = .ok (.iconst 1, 1) := by decide +kernel
theorem dd_doors_5 : decode mm_doors.2.1 5 = .ok (.iaload, 1) := by decide +kernel
theorem dd_doors_6 : decode mm_doors.2.1 6 = .ok (.ireturn, 1) := by decide +kernel
theorem dd_stepOf_22 : decode mm_stepOf.2.1 22 = .ok (.if_icmp .ge (95), 3) := by decide +kernel
theorem dd_stepOf_117 : decode mm_stepOf.2.1 117 = .ok (.iinc 6 1, 3) := by decide +kernel
theorem dd_stepOf_120 : decode mm_stepOf.2.1 120 = .ok (.goto (-114), 3) := by decide +kernel
theorem dd_stepOf_25 : decode mm_stepOf.2.1 25 = .ok (.iload_n 3, 1) := by decide +kernel
theorem dd_stepOf_26 : decode mm_stepOf.2.1 26 = .ok (.iload 6, 2) := by decide +kernel
theorem dd_stepOf_28 : decode mm_stepOf.2.1 28 = .ok (.invokestatic 350, 3) := by decide +kernel
theorem dd_stepOf_31 : decode mm_stepOf.2.1 31 = .ok (.ifCond .eq (86), 3) := by decide +kernel
theorem dd_stepOf_34 : decode mm_stepOf.2.1 34 = .ok (.aload_n 0, 1) := by decide +kernel
theorem dd_stepOf_35 : decode mm_stepOf.2.1 35 = .ok (.iload_n 1, 1) := by decide +kernel
theorem dd_stepOf_36 : decode mm_stepOf.2.1 36 = .ok (.iload 7, 2) := by decide +kernel
theorem dd_stepOf_38 : decode mm_stepOf.2.1 38 = .ok (.aload_n 0, 1) := by decide +kernel
theorem dd_stepOf_39 : decode mm_stepOf.2.1 39 = .ok (.iload_n 2, 1) := by decide +kernel
theorem dd_stepOf_40 : decode mm_stepOf.2.1 40 = .ok (.iconst 0, 1) := by decide +kernel
theorem dd_stepOf_41 : decode mm_stepOf.2.1 41 = .ok (.invokevirtual 325, 3) := by decide +kernel
theorem dd_stepOf_44 : decode mm_stepOf.2.1 44 = .ok (.iload 6, 2) := by decide +kernel
theorem dd_stepOf_46 : decode mm_stepOf.2.1 46 = .ok (.bipush 10, 2) := by decide +kernel
theorem dd_stepOf_48 : decode mm_stepOf.2.1 48 = .ok (.irem, 1) := by decide +kernel
theorem dd_stepOf_49 : decode mm_stepOf.2.1 49 = .ok (.iload 4, 2) := by decide +kernel
theorem dd_stepOf_51 : decode mm_stepOf.2.1 51 = .ok (.invokevirtual 373, 3) := by decide +kernel
theorem dd_stepOf_54 : decode mm_stepOf.2.1 54 = .ok (.istore 8, 2) := by decide +kernel
theorem dd_stepOf_56 : decode mm_stepOf.2.1 56 = .ok (.iload 6, 2) := by decide +kernel
theorem dd_stepOf_58 : decode mm_stepOf.2.1 58 = .ok (.bipush 10, 2) := by decide +kernel
theorem dd_stepOf_60 : decode mm_stepOf.2.1 60 = .ok (.if_icmp .ge (14), 3) := by decide +kernel
theorem dd_stepOf_74 : decode mm_stepOf.2.1 74 = .ok (.iconst 1, 1) := by decide +kernel
theorem dd_stepOf_75 : decode mm_stepOf.2.1 75 = .ok (.goto 4, 3) := by decide +kernel
theorem dd_stepOf_79 : decode mm_stepOf.2.1 79 = .ok (.istore 9, 2) := by decide +kernel
theorem dd_stepOf_81 : decode mm_stepOf.2.1 81 = .ok (.iload 5, 2) := by decide +kernel
theorem dd_stepOf_83 : decode mm_stepOf.2.1 83 = .ok (.iload 8, 2) := by decide +kernel
theorem dd_stepOf_85 : decode mm_stepOf.2.1 85 = .ok (.ifCond .ge (7), 3) := by decide +kernel
theorem dd_stepOf_92 : decode mm_stepOf.2.1 92 = .ok (.iconst 1, 1) := by decide +kernel
theorem dd_stepOf_93 : decode mm_stepOf.2.1 93 = .ok (.iload 8, 2) := by decide +kernel
theorem dd_stepOf_95 : decode mm_stepOf.2.1 95 = .ok (.iload 9, 2) := by decide +kernel
theorem dd_stepOf_97 : decode mm_stepOf.2.1 97 = .ok (.ifCond .eq (8), 3) := by decide +kernel
theorem dd_stepOf_100 : decode mm_stepOf.2.1 100 = .ok (.bipush 10, 2) := by decide +kernel
theorem dd_stepOf_102 : decode mm_stepOf.2.1 102 = .ok (.goto 4, 3) := by decide +kernel
theorem dd_stepOf_106 : decode mm_stepOf.2.1 106 = .ok (.iadd, 1) := by decide +kernel
theorem dd_stepOf_107 : decode mm_stepOf.2.1 107 = .ok (.ishl, 1) := by decide +kernel
theorem dd_stepOf_108 : decode mm_stepOf.2.1 108 = .ok (.ior, 1) := by decide +kernel
theorem dd_stepOf_109 : decode mm_stepOf.2.1 109 = .ok (.istore 5, 2) := by decide +kernel
theorem dd_stepOf_111 : decode mm_stepOf.2.1 111 = .ok (.iinc 7 1, 3) := by decide +kernel
theorem dd_stepOf_114 : decode mm_stepOf.2.1 114 = .ok (.goto (-98), 3) := by decide +kernel
theorem dd_stepOf_88 : decode mm_stepOf.2.1 88 = .ok (.iconst 0, 1) := by decide +kernel
theorem dd_stepOf_89 : decode mm_stepOf.2.1 89 = .ok (.goto 19, 3) := by decide +kernel
theorem dd_stepOf_63 : decode mm_stepOf.2.1 63 = .ok (.iload 8, 2) := by decide +kernel
theorem dd_stepOf_65 : decode mm_stepOf.2.1 65 = .ok (.aload_n 0, 1) := by decide +kernel
theorem dd_stepOf_66 : decode mm_stepOf.2.1 66 = .ok (.iload_n 2, 1) := by decide +kernel
theorem dd_stepOf_67 : decode mm_stepOf.2.1 67 = .ok (.iconst 2, 1) := by decide +kernel
theorem dd_stepOf_68 : decode mm_stepOf.2.1 68 = .ok (.invokevirtual 325, 3) := by decide +kernel
theorem dd_stepOf_71 : decode mm_stepOf.2.1 71 = .ok (.if_icmp .ne (7), 3) := by decide +kernel
theorem dd_stepOf_78 : decode mm_stepOf.2.1 78 = .ok (.iconst 0, 1) := by decide +kernel
theorem dd_stepOf_105 : decode mm_stepOf.2.1 105 = .ok (.iconst 0, 1) := by decide +kernel
theorem dd_firstHour_0 : decode mm_firstHour.2.1 0 = .ok (.aload_n 0, 1) := by decide +kernel
theorem dd_firstHour_1 : decode mm_firstHour.2.1 1 = .ok (.iload_n 1, 1) := by decide +kernel
theorem dd_firstHour_2 : decode mm_firstHour.2.1 2 = .ok (.iload_n 2, 1) := by decide +kernel
theorem dd_firstHour_3 : decode mm_firstHour.2.1 3 = .ok (.invokevirtual 386, 3) := by decide +kernel
theorem cw_12_386 : cwOk 12 386 0 223 3 3 12 = true := by decide +kernel
theorem mt_startOf : MTB 223 = some mm_startOf := rfl
theorem dd_startOf_0 : decode mm_startOf.2.1 0 = .ok (.iconst 1, 1) := by decide +kernel
theorem dd_startOf_1 : decode mm_startOf.2.1 1 = .ok (.aload_n 0, 1) := by decide +kernel
theorem dd_startOf_2 : decode mm_startOf.2.1 2 = .ok (.getfield 125, 3) := by decide +kernel
theorem dd_startOf_5 : decode mm_startOf.2.1 5 = .ok (.iload_n 1, 1) := by decide +kernel
theorem dd_startOf_6 : decode mm_startOf.2.1 6 = .ok (.iconst 2, 1) := by decide +kernel
theorem dd_startOf_7 : decode mm_startOf.2.1 7 = .ok (.iadd, 1) := by decide +kernel
theorem dd_startOf_8 : decode mm_startOf.2.1 8 = .ok (.iload_n 2, 1) := by decide +kernel
theorem dd_startOf_9 : decode mm_startOf.2.1 9 = .ok (.iadd, 1) := by decide +kernel
theorem dd_startOf_10 : decode mm_startOf.2.1 10 = .ok (.iaload, 1) := by decide +kernel
theorem dd_startOf_11 : decode mm_startOf.2.1 11 = .ok (.aload_n 0, 1) := by decide +kernel
theorem dd_startOf_12 : decode mm_startOf.2.1 12 = .ok (.getfield 125, 3) := by decide +kernel
theorem dd_startOf_15 : decode mm_startOf.2.1 15 = .ok (.iload_n 1, 1) := by decide +kernel
theorem dd_startOf_16 : decode mm_startOf.2.1 16 = .ok (.bipush 8, 2) := by decide +kernel
theorem dd_startOf_18 : decode mm_startOf.2.1 18 = .ok (.iadd, 1) := by decide +kernel
theorem dd_startOf_19 : decode mm_startOf.2.1 19 = .ok (.iload_n 2, 1) := by decide +kernel
theorem dd_startOf_20 : decode mm_startOf.2.1 20 = .ok (.iadd, 1) := by decide +kernel
theorem dd_startOf_21 : decode mm_startOf.2.1 21 = .ok (.iaload, 1) := by decide +kernel
theorem dd_startOf_22 : decode mm_startOf.2.1 22 = .ok (.iconst 1, 1) := by decide +kernel
theorem dd_startOf_23 : decode mm_startOf.2.1 23 = .ok (.if_icmp .ne (8), 3) := by decide +kernel
theorem dd_startOf_31 : decode mm_startOf.2.1 31 = .ok (.iconst 0, 1) := by decide +kernel
theorem dd_startOf_32 : decode mm_startOf.2.1 32 = .ok (.iadd, 1) := by decide +kernel
theorem dd_startOf_33 : decode mm_startOf.2.1 33 = .ok (.ishl, 1) := by decide +kernel
theorem dd_startOf_34 : decode mm_startOf.2.1 34 = .ok (.ireturn, 1) := by decide +kernel
theorem dd_firstHour_6 : decode mm_firstHour.2.1 6 = .ok (.istore 4, 2) := by decide +kernel
theorem dd_firstHour_8 : decode mm_firstHour.2.1 8 = .ok (.iload 4, 2) := by decide +kernel
theorem dd_firstHour_10 : decode mm_firstHour.2.1 10 = .ok (.iload_n 3, 1) := by decide +kernel
theorem dd_firstHour_11 : decode mm_firstHour.2.1 11 = .ok (.iand, 1) := by decide +kernel
theorem dd_firstHour_12 : decode mm_firstHour.2.1 12 = .ok (.ifCond .eq (12), 3) := by decide +kernel
theorem dd_firstHour_24 : decode mm_firstHour.2.1 24 = .ok (.aload_n 0, 1) := by decide +kernel
theorem dd_firstHour_25 : decode mm_firstHour.2.1 25 = .ok (.getfield 125, 3) := by decide +kernel
theorem dd_firstHour_28 : decode mm_firstHour.2.1 28 = .ok (.iload_n 1, 1) := by decide +kernel
theorem dd_firstHour_29 : decode mm_firstHour.2.1 29 = .ok (.iconst 0, 1) := by decide +kernel
theorem dd_firstHour_30 : decode mm_firstHour.2.1 30 = .ok (.iadd, 1) := by decide +kernel
theorem dd_firstHour_31 : decode mm_firstHour.2.1 31 = .ok (.iaload, 1) := by decide +kernel
theorem dd_firstHour_32 : decode mm_firstHour.2.1 32 = .ok (.istore 5, 2) := by decide +kernel
theorem dd_firstHour_15 : decode mm_firstHour.2.1 15 = .ok (.aload_n 0, 1) := by decide +kernel
theorem dd_firstHour_16 : decode mm_firstHour.2.1 16 = .ok (.getfield 125, 3) := by decide +kernel
theorem dd_firstHour_19 : decode mm_firstHour.2.1 19 = .ok (.iload_n 1, 1) := by decide +kernel
theorem dd_firstHour_20 : decode mm_firstHour.2.1 20 = .ok (.iconst 0, 1) := by decide +kernel
theorem dd_firstHour_21 : decode mm_firstHour.2.1 21 = .ok (.iadd, 1) := by decide +kernel
theorem dd_firstHour_22 : decode mm_firstHour.2.1 22 = .ok (.iaload, 1) := by decide +kernel
theorem dd_firstHour_23 : decode mm_firstHour.2.1 23 = .ok (.ireturn, 1) := by decide +kernel
theorem dd_startOf_26 : decode mm_startOf.2.1 26 = .ok (.bipush 10, 2) := by decide +kernel
theorem dd_startOf_28 : decode mm_startOf.2.1 28 = .ok (.goto 4, 3) := by decide +kernel
theorem dd_firstHour_34 : decode mm_firstHour.2.1 34 = .ok (.iload 5, 2) := by decide +kernel
theorem dd_firstHour_36 : decode mm_firstHour.2.1 36 = .ok (.bipush 24, 2) := by decide +kernel
theorem dd_firstHour_38 : decode mm_firstHour.2.1 38 = .ok (.if_icmp .ge (64), 3) := by decide +kernel
theorem dd_firstHour_102 : decode mm_firstHour.2.1 102 = .ok (.iconst (-1), 1) := by decide +kernel
theorem dd_firstHour_103 : decode mm_firstHour.2.1 103 = .ok (.ireturn, 1) := by decide +kernel
theorem dd_firstHour_41 : decode mm_firstHour.2.1 41 = .ok (.iload 5, 2) := by decide +kernel
theorem dd_firstHour_43 : decode mm_firstHour.2.1 43 = .ok (.aload_n 0, 1) := by decide +kernel
theorem dd_firstHour_44 : decode mm_firstHour.2.1 44 = .ok (.getfield 125, 3) := by decide +kernel
theorem dd_firstHour_47 : decode mm_firstHour.2.1 47 = .ok (.iload_n 1, 1) := by decide +kernel
theorem dd_firstHour_48 : decode mm_firstHour.2.1 48 = .ok (.iconst 0, 1) := by decide +kernel
theorem dd_firstHour_49 : decode mm_firstHour.2.1 49 = .ok (.iadd, 1) := by decide +kernel
theorem dd_firstHour_50 : decode mm_firstHour.2.1 50 = .ok (.iaload, 1) := by decide +kernel
theorem dd_firstHour_51 : decode mm_firstHour.2.1 51 = .ok (.if_icmp .ne (23), 3) := by decide +kernel
theorem dd_firstHour_74 : decode mm_firstHour.2.1 74 = .ok (.aload_n 0, 1) := by decide +kernel
theorem dd_firstHour_75 : decode mm_firstHour.2.1 75 = .ok (.iload_n 1, 1) := by decide +kernel
theorem dd_firstHour_76 : decode mm_firstHour.2.1 76 = .ok (.iload_n 2, 1) := by decide +kernel
theorem dd_firstHour_77 : decode mm_firstHour.2.1 77 = .ok (.iload 4, 2) := by decide +kernel
theorem dd_firstHour_79 : decode mm_firstHour.2.1 79 = .ok (.iload 5, 2) := by decide +kernel
theorem dd_firstHour_81 : decode mm_firstHour.2.1 81 = .ok (.invokevirtual 389, 3) := by decide +kernel
theorem cw_12_389 : cwOk 12 389 0 224 5 10 12 = true := by decide +kernel
theorem mt_stepOf : MTB 224 = some mm_stepOf := rfl
theorem dd_firstHour_54 : decode mm_firstHour.2.1 54 = .ok (.aload_n 0, 1) := by decide +kernel
theorem dd_firstHour_55 : decode mm_firstHour.2.1 55 = .ok (.getfield 125, 3) := by decide +kernel
theorem dd_firstHour_58 : decode mm_firstHour.2.1 58 = .ok (.iload_n 1, 1) := by decide +kernel
theorem dd_firstHour_59 : decode mm_firstHour.2.1 59 = .ok (.bipush 14, 2) := by decide +kernel
theorem dd_firstHour_61 : decode mm_firstHour.2.1 61 = .ok (.iadd, 1) := by decide +kernel
theorem dd_firstHour_62 : decode mm_firstHour.2.1 62 = .ok (.iload_n 2, 1) := by decide +kernel
theorem dd_firstHour_63 : decode mm_firstHour.2.1 63 = .ok (.iadd, 1) := by decide +kernel
theorem dd_firstHour_64 : decode mm_firstHour.2.1 64 = .ok (.iaload, 1) := by decide +kernel
theorem dd_firstHour_65 : decode mm_firstHour.2.1 65 = .ok (.iconst 1, 1) := by decide +kernel
theorem dd_firstHour_66 : decode mm_firstHour.2.1 66 = .ok (.if_icmp .ne (8), 3) := by decide +kernel
theorem dd_firstHour_69 : decode mm_firstHour.2.1 69 = .ok (.iload 4, 2) := by decide +kernel
theorem dd_firstHour_71 : decode mm_firstHour.2.1 71 = .ok (.goto 13, 3) := by decide +kernel
theorem dd_firstHour_84 : decode mm_firstHour.2.1 84 = .ok (.istore 4, 2) := by decide +kernel
theorem dd_firstHour_86 : decode mm_firstHour.2.1 86 = .ok (.iload 4, 2) := by decide +kernel
theorem dd_firstHour_88 : decode mm_firstHour.2.1 88 = .ok (.iload_n 3, 1) := by decide +kernel
theorem dd_firstHour_89 : decode mm_firstHour.2.1 89 = .ok (.iand, 1) := by decide +kernel
theorem dd_firstHour_90 : decode mm_firstHour.2.1 90 = .ok (.ifCond .eq (6), 3) := by decide +kernel
theorem dd_firstHour_96 : decode mm_firstHour.2.1 96 = .ok (.iinc 5 1, 3) := by decide +kernel
theorem dd_firstHour_99 : decode mm_firstHour.2.1 99 = .ok (.goto (-65), 3) := by decide +kernel
theorem dd_firstHour_93 : decode mm_firstHour.2.1 93 = .ok (.iload 5, 2) := by decide +kernel
theorem dd_firstHour_95 : decode mm_firstHour.2.1 95 = .ok (.ireturn, 1) := by decide +kernel
theorem dd_errandHour_0 : decode mm_errandHour.2.1 0 = .ok (.aload_n 0, 1) := by decide +kernel
theorem dd_errandHour_1 : decode mm_errandHour.2.1 1 = .ok (.iload_n 1, 1) := by decide +kernel
theorem dd_errandHour_2 : decode mm_errandHour.2.1 2 = .ok (.iload_n 2, 1) := by decide +kernel
theorem dd_errandHour_3 : decode mm_errandHour.2.1 3 = .ok (.iconst 1, 1) := by decide +kernel
theorem dd_errandHour_4 : decode mm_errandHour.2.1 4 = .ok (.bipush 10, 2) := by decide +kernel
theorem dd_errandHour_6 : decode mm_errandHour.2.1 6 = .ok (.aload_n 0, 1) := by decide +kernel
theorem dd_errandHour_7 : decode mm_errandHour.2.1 7 = .ok (.iload_n 2, 1) := by decide +kernel
theorem dd_errandHour_8 : decode mm_errandHour.2.1 8 = .ok (.iconst 1, 1) := by decide +kernel
theorem dd_errandHour_9 : decode mm_errandHour.2.1 9 = .ok (.invokevirtual 325, 3) := by decide +kernel
theorem dd_errandHour_12 : decode mm_errandHour.2.1 12 = .ok (.iadd, 1) := by decide +kernel
theorem dd_errandHour_13 : decode mm_errandHour.2.1 13 = .ok (.ishl, 1) := by decide +kernel
theorem dd_errandHour_14 : decode mm_errandHour.2.1 14 = .ok (.invokevirtual 393, 3) := by decide +kernel
theorem cw_12_393 : cwOk 12 393 0 222 4 6 12 = true := by decide +kernel
theorem mt_firstHour : MTB 222 = some mm_firstHour := rfl
theorem dd_errandHour_17 : decode mm_errandHour.2.1 17 = .ok (.ireturn, 1) := by decide +kernel
theorem dd_findFewest_0 : decode mm_findFewest.2.1 0 = .ok (.iconst 0, 1) := by decide +kernel
theorem dd_findFewest_1 : decode mm_findFewest.2.1 1 = .ok (.istore 4, 2) := by decide +kernel
theorem dd_findFewest_3 : decode mm_findFewest.2.1 3 = .ok (.iload 4, 2) := by decide +kernel
theorem dd_findFewest_5 : decode mm_findFewest.2.1 5 = .ok (.bipush 20, 2) := by decide +kernel
theorem dd_findFewest_7 : decode mm_findFewest.2.1 7 = .ok (.if_icmp .ge (44), 3) := by decide +kernel
theorem dd_findFewest_51 : decode mm_findFewest.2.1 51 = .ok (.iload_n 3, 1) := by decide +kernel
theorem dd_findFewest_52 : decode mm_findFewest.2.1 52 = .ok (.istore 4, 2) := by decide +kernel
theorem dd_findFewest_10 : decode mm_findFewest.2.1 10 = .ok (.aload_n 0, 1) := by decide +kernel
theorem dd_findFewest_11 : decode mm_findFewest.2.1 11 = .ok (.getfield 141, 3) := by decide +kernel
theorem fd_12_141 : fld 12 141 = some (12, 32) := by decide +kernel
theorem rf_182_32 {h : LH} (hF : RF h) : rd h 182 32 = 201 := hF 182 32 201 (by decide +kernel) (by decide +kernel)
theorem dd_findFewest_14 : decode mm_findFewest.2.1 14 = .ok (.bipush 20, 2) := by decide +kernel
theorem dd_findFewest_16 : decode mm_findFewest.2.1 16 = .ok (.iload_n 3, 1) := by decide +kernel
theorem dd_findFewest_17 : decode mm_findFewest.2.1 17 = .ok (.iconst 1, 1) := by decide +kernel
theorem dd_findFewest_18 : decode mm_findFewest.2.1 18 = .ok (.iadd, 1) := by decide +kernel
theorem dd_findFewest_19 : decode mm_findFewest.2.1 19 = .ok (.imul, 1) := by decide +kernel
theorem dd_findFewest_20 : decode mm_findFewest.2.1 20 = .ok (.iload 4, 2) := by decide +kernel
theorem dd_findFewest_22 : decode mm_findFewest.2.1 22 = .ok (.iadd, 1) := by decide +kernel
theorem dd_findFewest_23 : decode mm_findFewest.2.1 23 = .ok (.iload 4, 2) := by decide +kernel
theorem dd_findFewest_25 : decode mm_findFewest.2.1 25 = .ok (.bipush 10, 2) := by decide +kernel
theorem dd_findFewest_27 : decode mm_findFewest.2.1 27 = .ok (.aload_n 0, 1) := by decide +kernel
theorem dd_findFewest_28 : decode mm_findFewest.2.1 28 = .ok (.iload_n 2, 1) := by decide +kernel
theorem dd_findFewest_29 : decode mm_findFewest.2.1 29 = .ok (.iconst 1, 1) := by decide +kernel
theorem dd_findFewest_30 : decode mm_findFewest.2.1 30 = .ok (.invokevirtual 325, 3) := by decide +kernel
theorem dd_findFewest_33 : decode mm_findFewest.2.1 33 = .ok (.iadd, 1) := by decide +kernel
theorem dd_findFewest_34 : decode mm_findFewest.2.1 34 = .ok (.if_icmp .ne (7), 3) := by decide +kernel
theorem dd_findFewest_41 : decode mm_findFewest.2.1 41 = .ok (.ldc_w 396, 3) := by decide +kernel
theorem dd_findFewest_44 : decode mm_findFewest.2.1 44 = .ok (.iastore, 1) := by decide +kernel
theorem ia_201 : isA NC 201 1 = true := by decide +kernel
theorem la_201 : (lay (201 : Int).toNat).2.2 = 500 := by decide +kernel
theorem dd_findFewest_45 : decode mm_findFewest.2.1 45 = .ok (.iinc 4 1, 3) := by decide +kernel
theorem dd_findFewest_48 : decode mm_findFewest.2.1 48 = .ok (.goto (-45), 3) := by decide +kernel
theorem dd_findFewest_37 : decode mm_findFewest.2.1 37 = .ok (.iconst 0, 1) := by decide +kernel
theorem dd_findFewest_38 : decode mm_findFewest.2.1 38 = .ok (.goto 6, 3) := by decide +kernel
theorem dd_findFewest_54 : decode mm_findFewest.2.1 54 = .ok (.iload 4, 2) := by decide +kernel
theorem dd_findFewest_56 : decode mm_findFewest.2.1 56 = .ok (.aload_n 0, 1) := by decide +kernel
theorem dd_findFewest_57 : decode mm_findFewest.2.1 57 = .ok (.getfield 125, 3) := by decide +kernel
theorem dd_findFewest_60 : decode mm_findFewest.2.1 60 = .ok (.iload_n 1, 1) := by decide +kernel
theorem dd_findFewest_61 : decode mm_findFewest.2.1 61 = .ok (.iconst 0, 1) := by decide +kernel
theorem dd_findFewest_62 : decode mm_findFewest.2.1 62 = .ok (.iadd, 1) := by decide +kernel
theorem dd_findFewest_63 : decode mm_findFewest.2.1 63 = .ok (.iaload, 1) := by decide +kernel
theorem dd_findFewest_64 : decode mm_findFewest.2.1 64 = .ok (.if_icmp .lt (192), 3) := by decide +kernel
theorem dd_findFewest_256 : decode mm_findFewest.2.1 256 = .ok (.return_, 1) := by decide +kernel
theorem dd_findFewest_67 : decode mm_findFewest.2.1 67 = .ok (.iconst 0, 1) := by decide +kernel
theorem dd_findFewest_68 : decode mm_findFewest.2.1 68 = .ok (.istore 5, 2) := by decide +kernel
theorem dd_findFewest_70 : decode mm_findFewest.2.1 70 = .ok (.iload 5, 2) := by decide +kernel
theorem dd_findFewest_72 : decode mm_findFewest.2.1 72 = .ok (.bipush 20, 2) := by decide +kernel
theorem dd_findFewest_74 : decode mm_findFewest.2.1 74 = .ok (.if_icmp .ge (176), 3) := by decide +kernel
theorem dd_findFewest_250 : decode mm_findFewest.2.1 250 = .ok (.iinc 4 (-1), 3) := by decide +kernel
theorem dd_findFewest_253 : decode mm_findFewest.2.1 253 = .ok (.goto (-199), 3) := by decide +kernel
theorem dd_findFewest_77 : decode mm_findFewest.2.1 77 = .ok (.aload_n 0, 1) := by decide +kernel
theorem dd_findFewest_78 : decode mm_findFewest.2.1 78 = .ok (.getfield 141, 3) := by decide +kernel
theorem dd_findFewest_81 : decode mm_findFewest.2.1 81 = .ok (.bipush 20, 2) := by decide +kernel
theorem dd_findFewest_83 : decode mm_findFewest.2.1 83 = .ok (.iload 4, 2) := by decide +kernel
theorem dd_findFewest_85 : decode mm_findFewest.2.1 85 = .ok (.iconst 1, 1) := by decide +kernel
theorem dd_findFewest_86 : decode mm_findFewest.2.1 86 = .ok (.iadd, 1) := by decide +kernel
theorem dd_findFewest_87 : decode mm_findFewest.2.1 87 = .ok (.imul, 1) := by decide +kernel
theorem dd_findFewest_88 : decode mm_findFewest.2.1 88 = .ok (.iload 5, 2) := by decide +kernel
theorem dd_findFewest_90 : decode mm_findFewest.2.1 90 = .ok (.iadd, 1) := by decide +kernel
theorem dd_findFewest_91 : decode mm_findFewest.2.1 91 = .ok (.iaload, 1) := by decide +kernel
theorem dd_findFewest_92 : decode mm_findFewest.2.1 92 = .ok (.istore 6, 2) := by decide +kernel
theorem dd_findFewest_94 : decode mm_findFewest.2.1 94 = .ok (.iconst 0, 1) := by decide +kernel
theorem dd_findFewest_95 : decode mm_findFewest.2.1 95 = .ok (.istore 7, 2) := by decide +kernel
theorem dd_findFewest_97 : decode mm_findFewest.2.1 97 = .ok (.iload 7, 2) := by decide +kernel
theorem dd_findFewest_99 : decode mm_findFewest.2.1 99 = .ok (.aload_n 0, 1) := by decide +kernel
theorem dd_findFewest_100 : decode mm_findFewest.2.1 100 = .ok (.invokevirtual 335, 3) := by decide +kernel
theorem dd_findFewest_103 : decode mm_findFewest.2.1 103 = .ok (.if_icmp .ge (126), 3) := by decide +kernel
theorem dd_findFewest_106 : decode mm_findFewest.2.1 106 = .ok (.iload 5, 2) := by decide +kernel
theorem dd_findFewest_108 : decode mm_findFewest.2.1 108 = .ok (.bipush 10, 2) := by decide +kernel
theorem dd_findFewest_110 : decode mm_findFewest.2.1 110 = .ok (.irem, 1) := by decide +kernel
theorem dd_findFewest_111 : decode mm_findFewest.2.1 111 = .ok (.aload_n 0, 1) := by decide +kernel
theorem dd_findFewest_112 : decode mm_findFewest.2.1 112 = .ok (.invokevirtual 332, 3) := by decide +kernel
theorem dd_findFewest_115 : decode mm_findFewest.2.1 115 = .ok (.if_icmp .ge (114), 3) := by decide +kernel
theorem dd_findFewest_118 : decode mm_findFewest.2.1 118 = .ok (.aload_n 0, 1) := by decide +kernel
theorem dd_findFewest_119 : decode mm_findFewest.2.1 119 = .ok (.iload_n 1, 1) := by decide +kernel
theorem dd_findFewest_120 : decode mm_findFewest.2.1 120 = .ok (.iload 7, 2) := by decide +kernel
theorem dd_findFewest_122 : decode mm_findFewest.2.1 122 = .ok (.aload_n 0, 1) := by decide +kernel
theorem dd_findFewest_123 : decode mm_findFewest.2.1 123 = .ok (.iload_n 2, 1) := by decide +kernel
theorem dd_findFewest_124 : decode mm_findFewest.2.1 124 = .ok (.iconst 0, 1) := by decide +kernel
theorem dd_findFewest_125 : decode mm_findFewest.2.1 125 = .ok (.invokevirtual 325, 3) := by decide +kernel
theorem dd_findFewest_128 : decode mm_findFewest.2.1 128 = .ok (.iload 5, 2) := by decide +kernel
theorem dd_findFewest_130 : decode mm_findFewest.2.1 130 = .ok (.bipush 10, 2) := by decide +kernel
theorem dd_findFewest_132 : decode mm_findFewest.2.1 132 = .ok (.irem, 1) := by decide +kernel
theorem dd_findFewest_133 : decode mm_findFewest.2.1 133 = .ok (.iload 4, 2) := by decide +kernel
theorem dd_findFewest_135 : decode mm_findFewest.2.1 135 = .ok (.invokevirtual 373, 3) := by decide +kernel
theorem dd_findFewest_138 : decode mm_findFewest.2.1 138 = .ok (.istore 8, 2) := by decide +kernel
theorem dd_findFewest_140 : decode mm_findFewest.2.1 140 = .ok (.iload 5, 2) := by decide +kernel
theorem dd_findFewest_142 : decode mm_findFewest.2.1 142 = .ok (.bipush 10, 2) := by decide +kernel
theorem dd_findFewest_144 : decode mm_findFewest.2.1 144 = .ok (.if_icmp .ge (14), 3) := by decide +kernel
theorem dd_findFewest_158 : decode mm_findFewest.2.1 158 = .ok (.iconst 1, 1) := by decide +kernel
theorem dd_findFewest_159 : decode mm_findFewest.2.1 159 = .ok (.goto 4, 3) := by decide +kernel
theorem dd_findFewest_163 : decode mm_findFewest.2.1 163 = .ok (.istore 9, 2) := by decide +kernel
theorem dd_findFewest_165 : decode mm_findFewest.2.1 165 = .ok (.iload 8, 2) := by decide +kernel
theorem dd_findFewest_167 : decode mm_findFewest.2.1 167 = .ok (.ifCond .ge (9), 3) := by decide +kernel
theorem dd_findFewest_176 : decode mm_findFewest.2.1 176 = .ok (.iconst 1, 1) := by decide +kernel
theorem dd_findFewest_177 : decode mm_findFewest.2.1 177 = .ok (.aload_n 0, 1) := by decide +kernel
theorem dd_findFewest_178 : decode mm_findFewest.2.1 178 = .ok (.getfield 141, 3) := by decide +kernel
theorem dd_findFewest_181 : decode mm_findFewest.2.1 181 = .ok (.bipush 20, 2) := by decide +kernel
theorem dd_findFewest_183 : decode mm_findFewest.2.1 183 = .ok (.iload 4, 2) := by decide +kernel
theorem dd_findFewest_185 : decode mm_findFewest.2.1 185 = .ok (.iconst 1, 1) := by decide +kernel
theorem dd_findFewest_186 : decode mm_findFewest.2.1 186 = .ok (.iadd, 1) := by decide +kernel
theorem dd_findFewest_187 : decode mm_findFewest.2.1 187 = .ok (.imul, 1) := by decide +kernel
theorem dd_findFewest_188 : decode mm_findFewest.2.1 188 = .ok (.iload 8, 2) := by decide +kernel
theorem dd_findFewest_190 : decode mm_findFewest.2.1 190 = .ok (.iadd, 1) := by decide +kernel
theorem dd_findFewest_191 : decode mm_findFewest.2.1 191 = .ok (.iload 9, 2) := by decide +kernel
theorem dd_findFewest_193 : decode mm_findFewest.2.1 193 = .ok (.ifCond .eq (8), 3) := by decide +kernel
theorem dd_findFewest_196 : decode mm_findFewest.2.1 196 = .ok (.bipush 10, 2) := by decide +kernel
theorem dd_findFewest_198 : decode mm_findFewest.2.1 198 = .ok (.goto 4, 3) := by decide +kernel
theorem dd_findFewest_202 : decode mm_findFewest.2.1 202 = .ok (.iadd, 1) := by decide +kernel
theorem dd_findFewest_203 : decode mm_findFewest.2.1 203 = .ok (.iaload, 1) := by decide +kernel
theorem dd_findFewest_204 : decode mm_findFewest.2.1 204 = .ok (.iadd, 1) := by decide +kernel
theorem dd_findFewest_205 : decode mm_findFewest.2.1 205 = .ok (.istore 10, 2) := by decide +kernel
theorem dd_findFewest_207 : decode mm_findFewest.2.1 207 = .ok (.iload 10, 2) := by decide +kernel
theorem dd_findFewest_209 : decode mm_findFewest.2.1 209 = .ok (.iload 6, 2) := by decide +kernel
theorem dd_findFewest_211 : decode mm_findFewest.2.1 211 = .ok (.if_icmp .ge (8), 3) := by decide +kernel
theorem dd_findFewest_219 : decode mm_findFewest.2.1 219 = .ok (.iload 6, 2) := by decide +kernel
theorem dd_findFewest_221 : decode mm_findFewest.2.1 221 = .ok (.istore 6, 2) := by decide +kernel
theorem dd_findFewest_223 : decode mm_findFewest.2.1 223 = .ok (.iinc 7 1, 3) := by decide +kernel
theorem dd_findFewest_226 : decode mm_findFewest.2.1 226 = .ok (.goto (-129), 3) := by decide +kernel
theorem dd_findFewest_214 : decode mm_findFewest.2.1 214 = .ok (.iload 10, 2) := by decide +kernel
theorem dd_findFewest_216 : decode mm_findFewest.2.1 216 = .ok (.goto 5, 3) := by decide +kernel
theorem dd_findFewest_170 : decode mm_findFewest.2.1 170 = .ok (.ldc_w 396, 3) := by decide +kernel
theorem dd_findFewest_173 : decode mm_findFewest.2.1 173 = .ok (.goto 32, 3) := by decide +kernel
theorem dd_findFewest_147 : decode mm_findFewest.2.1 147 = .ok (.iload 8, 2) := by decide +kernel
theorem dd_findFewest_149 : decode mm_findFewest.2.1 149 = .ok (.aload_n 0, 1) := by decide +kernel
theorem dd_findFewest_150 : decode mm_findFewest.2.1 150 = .ok (.iload_n 2, 1) := by decide +kernel
theorem dd_findFewest_151 : decode mm_findFewest.2.1 151 = .ok (.iconst 2, 1) := by decide +kernel
theorem dd_findFewest_152 : decode mm_findFewest.2.1 152 = .ok (.invokevirtual 325, 3) := by decide +kernel
theorem dd_findFewest_155 : decode mm_findFewest.2.1 155 = .ok (.if_icmp .ne (7), 3) := by decide +kernel
theorem dd_findFewest_162 : decode mm_findFewest.2.1 162 = .ok (.iconst 0, 1) := by decide +kernel
theorem dd_findFewest_201 : decode mm_findFewest.2.1 201 = .ok (.iconst 0, 1) := by decide +kernel
theorem dd_findFewest_229 : decode mm_findFewest.2.1 229 = .ok (.aload_n 0, 1) := by decide +kernel
theorem dd_findFewest_230 : decode mm_findFewest.2.1 230 = .ok (.getfield 141, 3) := by decide +kernel
theorem dd_findFewest_233 : decode mm_findFewest.2.1 233 = .ok (.bipush 20, 2) := by decide +kernel
theorem dd_findFewest_235 : decode mm_findFewest.2.1 235 = .ok (.iload 4, 2) := by decide +kernel
theorem dd_findFewest_237 : decode mm_findFewest.2.1 237 = .ok (.imul, 1) := by decide +kernel
theorem dd_findFewest_238 : decode mm_findFewest.2.1 238 = .ok (.iload 5, 2) := by decide +kernel
theorem dd_findFewest_240 : decode mm_findFewest.2.1 240 = .ok (.iadd, 1) := by decide +kernel
theorem dd_findFewest_241 : decode mm_findFewest.2.1 241 = .ok (.iload 6, 2) := by decide +kernel
theorem dd_findFewest_243 : decode mm_findFewest.2.1 243 = .ok (.iastore, 1) := by decide +kernel
theorem dd_findFewest_244 : decode mm_findFewest.2.1 244 = .ok (.iinc 5 1, 3) := by decide +kernel
theorem dd_findFewest_247 : decode mm_findFewest.2.1 247 = .ok (.goto (-177), 3) := by decide +kernel
theorem dd_isNext_0 : decode mm_isNext.2.1 0 = .ok (.iload 5, 2) := by decide +kernel
theorem dd_isNext_2 : decode mm_isNext.2.1 2 = .ok (.istore 8, 2) := by decide +kernel
theorem dd_isNext_4 : decode mm_isNext.2.1 4 = .ok (.iload 8, 2) := by decide +kernel
theorem dd_isNext_6 : decode mm_isNext.2.1 6 = .ok (.iload 6, 2) := by decide +kernel
theorem dd_isNext_8 : decode mm_isNext.2.1 8 = .ok (.if_icmp .gt (31), 3) := by decide +kernel
theorem dd_isNext_11 : decode mm_isNext.2.1 11 = .ok (.aload_n 0, 1) := by decide +kernel
theorem dd_isNext_12 : decode mm_isNext.2.1 12 = .ok (.iload_n 1, 1) := by decide +kernel
theorem dd_isNext_13 : decode mm_isNext.2.1 13 = .ok (.iload 4, 2) := by decide +kernel
theorem dd_isNext_15 : decode mm_isNext.2.1 15 = .ok (.aload_n 0, 1) := by decide +kernel
theorem dd_isNext_16 : decode mm_isNext.2.1 16 = .ok (.iload_n 2, 1) := by decide +kernel
theorem dd_isNext_17 : decode mm_isNext.2.1 17 = .ok (.iconst 0, 1) := by decide +kernel
theorem dd_isNext_18 : decode mm_isNext.2.1 18 = .ok (.invokevirtual 325, 3) := by decide +kernel
theorem dd_isNext_21 : decode mm_isNext.2.1 21 = .ok (.iload_n 3, 1) := by decide +kernel
theorem dd_isNext_22 : decode mm_isNext.2.1 22 = .ok (.bipush 10, 2) := by decide +kernel
theorem dd_isNext_24 : decode mm_isNext.2.1 24 = .ok (.irem, 1) := by decide +kernel
theorem dd_isNext_25 : decode mm_isNext.2.1 25 = .ok (.iload 8, 2) := by decide +kernel
theorem dd_isNext_27 : decode mm_isNext.2.1 27 = .ok (.invokevirtual 373, 3) := by decide +kernel
theorem dd_isNext_30 : decode mm_isNext.2.1 30 = .ok (.ifCond .ge (9), 3) := by decide +kernel
theorem dd_isNext_33 : decode mm_isNext.2.1 33 = .ok (.iinc 8 1, 3) := by decide +kernel
theorem dd_isNext_36 : decode mm_isNext.2.1 36 = .ok (.goto (-32), 3) := by decide +kernel
theorem dd_isNext_39 : decode mm_isNext.2.1 39 = .ok (.iload 8, 2) := by decide +kernel
theorem dd_isNext_41 : decode mm_isNext.2.1 41 = .ok (.iload 6, 2) := by decide +kernel
theorem dd_isNext_43 : decode mm_isNext.2.1 43 = .ok (.if_icmp .le (5), 3) := by decide +kernel
theorem dd_isNext_48 : decode mm_isNext.2.1 48 = .ok (.aload_n 0, 1) := by decide +kernel
theorem dd_isNext_49 : decode mm_isNext.2.1 49 = .ok (.iload_n 1, 1) := by decide +kernel
theorem dd_isNext_50 : decode mm_isNext.2.1 50 = .ok (.iload 4, 2) := by decide +kernel
theorem dd_isNext_52 : decode mm_isNext.2.1 52 = .ok (.aload_n 0, 1) := by decide +kernel
theorem dd_isNext_53 : decode mm_isNext.2.1 53 = .ok (.iload_n 2, 1) := by decide +kernel
theorem dd_isNext_54 : decode mm_isNext.2.1 54 = .ok (.iconst 0, 1) := by decide +kernel
theorem dd_isNext_55 : decode mm_isNext.2.1 55 = .ok (.invokevirtual 325, 3) := by decide +kernel
theorem dd_isNext_58 : decode mm_isNext.2.1 58 = .ok (.iload_n 3, 1) := by decide +kernel
theorem dd_isNext_59 : decode mm_isNext.2.1 59 = .ok (.bipush 10, 2) := by decide +kernel
theorem dd_isNext_61 : decode mm_isNext.2.1 61 = .ok (.irem, 1) := by decide +kernel
theorem dd_isNext_62 : decode mm_isNext.2.1 62 = .ok (.iload 8, 2) := by decide +kernel
theorem dd_isNext_64 : decode mm_isNext.2.1 64 = .ok (.invokevirtual 373, 3) := by decide +kernel
theorem dd_isNext_46 : decode mm_isNext.2.1 46 = .ok (.iconst 0, 1) := by decide +kernel
theorem dd_isNext_47 : decode mm_isNext.2.1 47 = .ok (.ireturn, 1) := by decide +kernel
theorem dd_isNext_67 : decode mm_isNext.2.1 67 = .ok (.istore 9, 2) := by decide +kernel
theorem dd_isNext_69 : decode mm_isNext.2.1 69 = .ok (.aload_n 0, 1) := by decide +kernel
theorem dd_isNext_70 : decode mm_isNext.2.1 70 = .ok (.iload 9, 2) := by decide +kernel
theorem dd_isNext_72 : decode mm_isNext.2.1 72 = .ok (.iload_n 3, 1) := by decide +kernel
theorem dd_isNext_73 : decode mm_isNext.2.1 73 = .ok (.bipush 10, 2) := by decide +kernel
theorem dd_isNext_75 : decode mm_isNext.2.1 75 = .ok (.if_icmp .ge (14), 3) := by decide +kernel
theorem dd_isNext_89 : decode mm_isNext.2.1 89 = .ok (.bipush 10, 2) := by decide +kernel
theorem dd_isNext_91 : decode mm_isNext.2.1 91 = .ok (.goto 4, 3) := by decide +kernel
theorem dd_isNext_95 : decode mm_isNext.2.1 95 = .ok (.iadd, 1) := by decide +kernel
theorem dd_isNext_96 : decode mm_isNext.2.1 96 = .ok (.putfield 410, 3) := by decide +kernel
theorem fd_12_410 : fld 12 410 = some (12, 35) := by decide +kernel
theorem fn_12_35 : fin 12 35 = false := by decide +kernel
theorem dd_isNext_99 : decode mm_isNext.2.1 99 = .ok (.aload_n 0, 1) := by decide +kernel
theorem dd_isNext_100 : decode mm_isNext.2.1 100 = .ok (.iload 8, 2) := by decide +kernel
theorem dd_isNext_102 : decode mm_isNext.2.1 102 = .ok (.iconst 1, 1) := by decide +kernel
theorem dd_isNext_103 : decode mm_isNext.2.1 103 = .ok (.iadd, 1) := by decide +kernel
theorem dd_isNext_104 : decode mm_isNext.2.1 104 = .ok (.putfield 413, 3) := by decide +kernel
theorem fd_12_413 : fld 12 413 = some (12, 36) := by decide +kernel
theorem fn_12_36 : fin 12 36 = false := by decide +kernel
theorem dd_isNext_107 : decode mm_isNext.2.1 107 = .ok (.aload_n 0, 1) := by decide +kernel
theorem dd_isNext_108 : decode mm_isNext.2.1 108 = .ok (.getfield 141, 3) := by decide +kernel
theorem dd_isNext_111 : decode mm_isNext.2.1 111 = .ok (.bipush 20, 2) := by decide +kernel
theorem dd_isNext_113 : decode mm_isNext.2.1 113 = .ok (.aload_n 0, 1) := by decide +kernel
theorem dd_isNext_114 : decode mm_isNext.2.1 114 = .ok (.getfield 413, 3) := by decide +kernel
theorem dd_isNext_117 : decode mm_isNext.2.1 117 = .ok (.imul, 1) := by decide +kernel
theorem dd_isNext_118 : decode mm_isNext.2.1 118 = .ok (.aload_n 0, 1) := by decide +kernel
theorem dd_isNext_119 : decode mm_isNext.2.1 119 = .ok (.getfield 410, 3) := by decide +kernel
theorem dd_isNext_122 : decode mm_isNext.2.1 122 = .ok (.iadd, 1) := by decide +kernel
theorem dd_isNext_123 : decode mm_isNext.2.1 123 = .ok (.iaload, 1) := by decide +kernel
theorem dd_isNext_124 : decode mm_isNext.2.1 124 = .ok (.iload 7, 2) := by decide +kernel
theorem dd_isNext_126 : decode mm_isNext.2.1 126 = .ok (.if_icmp .ne (7), 3) := by decide +kernel
theorem dd_isNext_133 : decode mm_isNext.2.1 133 = .ok (.iconst 0, 1) := by decide +kernel
theorem dd_isNext_134 : decode mm_isNext.2.1 134 = .ok (.ireturn, 1) := by decide +kernel
theorem dd_isNext_129 : decode mm_isNext.2.1 129 = .ok (.iconst 1, 1) := by decide +kernel
theorem dd_isNext_130 : decode mm_isNext.2.1 130 = .ok (.goto 4, 3) := by decide +kernel
theorem dd_isNext_78 : decode mm_isNext.2.1 78 = .ok (.iload 9, 2) := by decide +kernel
theorem dd_isNext_80 : decode mm_isNext.2.1 80 = .ok (.aload_n 0, 1) := by decide +kernel
theorem dd_isNext_81 : decode mm_isNext.2.1 81 = .ok (.iload_n 2, 1) := by decide +kernel
theorem dd_isNext_82 : decode mm_isNext.2.1 82 = .ok (.iconst 2, 1) := by decide +kernel
theorem dd_isNext_83 : decode mm_isNext.2.1 83 = .ok (.invokevirtual 325, 3) := by decide +kernel
theorem dd_isNext_86 : decode mm_isNext.2.1 86 = .ok (.if_icmp .ne (8), 3) := by decide +kernel
theorem dd_isNext_94 : decode mm_isNext.2.1 94 = .ok (.iconst 0, 1) := by decide +kernel
theorem dd_findWay_0 : decode mm_findWay.2.1 0 = .ok (.aload_n 0, 1) := by decide +kernel
theorem dd_findWay_1 : decode mm_findWay.2.1 1 = .ok (.iload_n 1, 1) := by decide +kernel
theorem dd_findWay_2 : decode mm_findWay.2.1 2 = .ok (.iload_n 2, 1) := by decide +kernel
theorem dd_findWay_3 : decode mm_findWay.2.1 3 = .ok (.invokevirtual 397, 3) := by decide +kernel
theorem cw_12_397 : cwOk 12 397 0 227 3 3 12 = true := by decide +kernel
theorem mt_errandHour : MTB 227 = some mm_errandHour := rfl
theorem dd_findWay_6 : decode mm_findWay.2.1 6 = .ok (.istore_n 3, 1) := by decide +kernel
theorem dd_findWay_7 : decode mm_findWay.2.1 7 = .ok (.aload_n 0, 1) := by decide +kernel
theorem dd_findWay_8 : decode mm_findWay.2.1 8 = .ok (.iconst 0, 1) := by decide +kernel
theorem dd_findWay_9 : decode mm_findWay.2.1 9 = .ok (.putfield 400, 3) := by decide +kernel
theorem fd_12_400 : fld 12 400 = some (12, 34) := by decide +kernel
theorem fn_12_34 : fin 12 34 = false := by decide +kernel
theorem dd_findWay_12 : decode mm_findWay.2.1 12 = .ok (.aload_n 0, 1) := by decide +kernel
theorem dd_findWay_13 : decode mm_findWay.2.1 13 = .ok (.getfield 125, 3) := by decide +kernel
theorem dd_findWay_16 : decode mm_findWay.2.1 16 = .ok (.iload_n 1, 1) := by decide +kernel
theorem dd_findWay_17 : decode mm_findWay.2.1 17 = .ok (.iconst 2, 1) := by decide +kernel
theorem dd_findWay_18 : decode mm_findWay.2.1 18 = .ok (.iadd, 1) := by decide +kernel
theorem dd_findWay_19 : decode mm_findWay.2.1 19 = .ok (.iload_n 2, 1) := by decide +kernel
theorem dd_findWay_20 : decode mm_findWay.2.1 20 = .ok (.iadd, 1) := by decide +kernel
theorem dd_findWay_21 : decode mm_findWay.2.1 21 = .ok (.iaload, 1) := by decide +kernel
theorem dd_findWay_22 : decode mm_findWay.2.1 22 = .ok (.aload_n 0, 1) := by decide +kernel
theorem dd_findWay_23 : decode mm_findWay.2.1 23 = .ok (.getfield 125, 3) := by decide +kernel
theorem dd_findWay_26 : decode mm_findWay.2.1 26 = .ok (.iload_n 1, 1) := by decide +kernel
theorem dd_findWay_27 : decode mm_findWay.2.1 27 = .ok (.bipush 8, 2) := by decide +kernel
theorem dd_findWay_29 : decode mm_findWay.2.1 29 = .ok (.iadd, 1) := by decide +kernel
theorem dd_findWay_30 : decode mm_findWay.2.1 30 = .ok (.iload_n 2, 1) := by decide +kernel
theorem dd_findWay_31 : decode mm_findWay.2.1 31 = .ok (.iadd, 1) := by decide +kernel
theorem dd_findWay_32 : decode mm_findWay.2.1 32 = .ok (.iaload, 1) := by decide +kernel
theorem dd_findWay_33 : decode mm_findWay.2.1 33 = .ok (.iconst 1, 1) := by decide +kernel
theorem dd_findWay_34 : decode mm_findWay.2.1 34 = .ok (.if_icmp .ne (8), 3) := by decide +kernel
theorem dd_findWay_42 : decode mm_findWay.2.1 42 = .ok (.iconst 0, 1) := by decide +kernel
theorem dd_findWay_43 : decode mm_findWay.2.1 43 = .ok (.iadd, 1) := by decide +kernel
theorem dd_findWay_44 : decode mm_findWay.2.1 44 = .ok (.istore 4, 2) := by decide +kernel
theorem dd_findWay_46 : decode mm_findWay.2.1 46 = .ok (.iload_n 3, 1) := by decide +kernel
theorem dd_findWay_47 : decode mm_findWay.2.1 47 = .ok (.ifCond .lt (17), 3) := by decide +kernel
theorem dd_findWay_64 : decode mm_findWay.2.1 64 = .ok (.iload_n 3, 1) := by decide +kernel
theorem dd_findWay_65 : decode mm_findWay.2.1 65 = .ok (.ireturn, 1) := by decide +kernel
theorem dd_findWay_50 : decode mm_findWay.2.1 50 = .ok (.iload 4, 2) := by decide +kernel
theorem dd_findWay_52 : decode mm_findWay.2.1 52 = .ok (.bipush 10, 2) := by decide +kernel
theorem dd_findWay_54 : decode mm_findWay.2.1 54 = .ok (.aload_n 0, 1) := by decide +kernel
theorem dd_findWay_55 : decode mm_findWay.2.1 55 = .ok (.iload_n 2, 1) := by decide +kernel
theorem dd_findWay_56 : decode mm_findWay.2.1 56 = .ok (.iconst 1, 1) := by decide +kernel
theorem dd_findWay_57 : decode mm_findWay.2.1 57 = .ok (.invokevirtual 325, 3) := by decide +kernel
theorem dd_findWay_60 : decode mm_findWay.2.1 60 = .ok (.iadd, 1) := by decide +kernel
theorem dd_findWay_61 : decode mm_findWay.2.1 61 = .ok (.if_icmp .ne (5), 3) := by decide +kernel
theorem dd_findWay_66 : decode mm_findWay.2.1 66 = .ok (.aload_n 0, 1) := by decide +kernel
theorem dd_findWay_67 : decode mm_findWay.2.1 67 = .ok (.iload_n 1, 1) := by decide +kernel
theorem dd_findWay_68 : decode mm_findWay.2.1 68 = .ok (.iload_n 2, 1) := by decide +kernel
theorem dd_findWay_69 : decode mm_findWay.2.1 69 = .ok (.iload_n 3, 1) := by decide +kernel
theorem dd_findWay_70 : decode mm_findWay.2.1 70 = .ok (.invokevirtual 403, 3) := by decide +kernel
theorem cw_12_403 : cwOk 12 403 0 228 4 11 12 = true := by decide +kernel
theorem mt_findFewest : MTB 228 = some mm_findFewest := rfl
theorem dd_findWay_37 : decode mm_findWay.2.1 37 = .ok (.bipush 10, 2) := by decide +kernel
theorem dd_findWay_39 : decode mm_findWay.2.1 39 = .ok (.goto 4, 3) := by decide +kernel
theorem dd_findWay_73 : decode mm_findWay.2.1 73 = .ok (.aload_n 0, 1) := by decide +kernel
theorem dd_findWay_74 : decode mm_findWay.2.1 74 = .ok (.getfield 125, 3) := by decide +kernel
theorem dd_findWay_77 : decode mm_findWay.2.1 77 = .ok (.iload_n 1, 1) := by decide +kernel
theorem dd_findWay_78 : decode mm_findWay.2.1 78 = .ok (.iconst 0, 1) := by decide +kernel
theorem dd_findWay_79 : decode mm_findWay.2.1 79 = .ok (.iadd, 1) := by decide +kernel
theorem dd_findWay_80 : decode mm_findWay.2.1 80 = .ok (.iaload, 1) := by decide +kernel
theorem dd_findWay_81 : decode mm_findWay.2.1 81 = .ok (.aload_n 0, 1) := by decide +kernel
theorem dd_findWay_82 : decode mm_findWay.2.1 82 = .ok (.getfield 125, 3) := by decide +kernel
theorem dd_findWay_85 : decode mm_findWay.2.1 85 = .ok (.iload_n 1, 1) := by decide +kernel
theorem dd_findWay_86 : decode mm_findWay.2.1 86 = .ok (.bipush 14, 2) := by decide +kernel
theorem dd_findWay_88 : decode mm_findWay.2.1 88 = .ok (.iadd, 1) := by decide +kernel
theorem dd_findWay_89 : decode mm_findWay.2.1 89 = .ok (.iload_n 2, 1) := by decide +kernel
theorem dd_findWay_90 : decode mm_findWay.2.1 90 = .ok (.iadd, 1) := by decide +kernel
theorem dd_findWay_91 : decode mm_findWay.2.1 91 = .ok (.iaload, 1) := by decide +kernel
theorem dd_findWay_92 : decode mm_findWay.2.1 92 = .ok (.iadd, 1) := by decide +kernel
theorem dd_findWay_93 : decode mm_findWay.2.1 93 = .ok (.istore 5, 2) := by decide +kernel
theorem dd_findWay_95 : decode mm_findWay.2.1 95 = .ok (.iload 4, 2) := by decide +kernel
theorem dd_findWay_97 : decode mm_findWay.2.1 97 = .ok (.bipush 10, 2) := by decide +kernel
theorem dd_findWay_99 : decode mm_findWay.2.1 99 = .ok (.aload_n 0, 1) := by decide +kernel
theorem dd_findWay_100 : decode mm_findWay.2.1 100 = .ok (.iload_n 2, 1) := by decide +kernel
theorem dd_findWay_101 : decode mm_findWay.2.1 101 = .ok (.iconst 1, 1) := by decide +kernel
theorem dd_findWay_102 : decode mm_findWay.2.1 102 = .ok (.invokevirtual 325, 3) := by decide +kernel
theorem dd_findWay_105 : decode mm_findWay.2.1 105 = .ok (.iadd, 1) := by decide +kernel
theorem dd_findWay_106 : decode mm_findWay.2.1 106 = .ok (.if_icmp .ne (19), 3) := by decide +kernel
theorem dd_findWay_125 : decode mm_findWay.2.1 125 = .ok (.aload_n 0, 1) := by decide +kernel
theorem dd_findWay_126 : decode mm_findWay.2.1 126 = .ok (.getfield 141, 3) := by decide +kernel
theorem dd_findWay_129 : decode mm_findWay.2.1 129 = .ok (.bipush 20, 2) := by decide +kernel
theorem dd_findWay_131 : decode mm_findWay.2.1 131 = .ok (.iload 5, 2) := by decide +kernel
theorem dd_findWay_133 : decode mm_findWay.2.1 133 = .ok (.imul, 1) := by decide +kernel
theorem dd_findWay_134 : decode mm_findWay.2.1 134 = .ok (.iload 4, 2) := by decide +kernel
theorem dd_findWay_136 : decode mm_findWay.2.1 136 = .ok (.iadd, 1) := by decide +kernel
theorem dd_findWay_137 : decode mm_findWay.2.1 137 = .ok (.iaload, 1) := by decide +kernel
theorem dd_findWay_138 : decode mm_findWay.2.1 138 = .ok (.iconst 1, 1) := by decide +kernel
theorem dd_findWay_139 : decode mm_findWay.2.1 139 = .ok (.isub, 1) := by decide +kernel
theorem dd_findWay_140 : decode mm_findWay.2.1 140 = .ok (.istore 6, 2) := by decide +kernel
theorem dd_findWay_142 : decode mm_findWay.2.1 142 = .ok (.iconst 0, 1) := by decide +kernel
theorem dd_findWay_143 : decode mm_findWay.2.1 143 = .ok (.istore 7, 2) := by decide +kernel
theorem dd_findWay_109 : decode mm_findWay.2.1 109 = .ok (.aload_n 0, 1) := by decide +kernel
theorem dd_findWay_110 : decode mm_findWay.2.1 110 = .ok (.getfield 141, 3) := by decide +kernel
theorem dd_findWay_113 : decode mm_findWay.2.1 113 = .ok (.bipush 20, 2) := by decide +kernel
theorem dd_findWay_115 : decode mm_findWay.2.1 115 = .ok (.iload 5, 2) := by decide +kernel
theorem dd_findWay_117 : decode mm_findWay.2.1 117 = .ok (.imul, 1) := by decide +kernel
theorem dd_findWay_118 : decode mm_findWay.2.1 118 = .ok (.iload 4, 2) := by decide +kernel
theorem dd_findWay_120 : decode mm_findWay.2.1 120 = .ok (.iadd, 1) := by decide +kernel
theorem dd_findWay_121 : decode mm_findWay.2.1 121 = .ok (.iaload, 1) := by decide +kernel
theorem dd_findWay_122 : decode mm_findWay.2.1 122 = .ok (.ifCond .le (83), 3) := by decide +kernel
theorem dd_findWay_205 : decode mm_findWay.2.1 205 = .ok (.iload_n 3, 1) := by decide +kernel
theorem dd_findWay_206 : decode mm_findWay.2.1 206 = .ok (.ireturn, 1) := by decide +kernel
theorem dd_findWay_145 : decode mm_findWay.2.1 145 = .ok (.aload_n 0, 1) := by decide +kernel
theorem dd_findWay_146 : decode mm_findWay.2.1 146 = .ok (.iload_n 1, 1) := by decide +kernel
theorem dd_findWay_147 : decode mm_findWay.2.1 147 = .ok (.iload_n 2, 1) := by decide +kernel
theorem dd_findWay_148 : decode mm_findWay.2.1 148 = .ok (.iload 4, 2) := by decide +kernel
theorem dd_findWay_150 : decode mm_findWay.2.1 150 = .ok (.iload 7, 2) := by decide +kernel
theorem dd_findWay_152 : decode mm_findWay.2.1 152 = .ok (.iload 5, 2) := by decide +kernel
theorem dd_findWay_154 : decode mm_findWay.2.1 154 = .ok (.iload_n 3, 1) := by decide +kernel
theorem dd_findWay_155 : decode mm_findWay.2.1 155 = .ok (.iload 6, 2) := by decide +kernel
theorem dd_findWay_157 : decode mm_findWay.2.1 157 = .ok (.invokevirtual 406, 3) := by decide +kernel
theorem cw_12_406 : cwOk 12 406 0 229 8 10 12 = true := by decide +kernel
theorem mt_isNext : MTB 229 = some mm_isNext := rfl
theorem dd_findWay_160 : decode mm_findWay.2.1 160 = .ok (.ifCond .ne (9), 3) := by decide +kernel
theorem dd_findWay_169 : decode mm_findWay.2.1 169 = .ok (.aload_n 0, 1) := by decide +kernel
theorem dd_findWay_170 : decode mm_findWay.2.1 170 = .ok (.getfield 144, 3) := by decide +kernel
theorem fd_12_144 : fld 12 144 = some (12, 33) := by decide +kernel
theorem rf_182_33 {h : LH} (hF : RF h) : rd h 182 33 = 202 := hF 182 33 202 (by decide +kernel) (by decide +kernel)
theorem dd_findWay_173 : decode mm_findWay.2.1 173 = .ok (.aload_n 0, 1) := by decide +kernel
theorem dd_findWay_174 : decode mm_findWay.2.1 174 = .ok (.getfield 400, 3) := by decide +kernel
theorem dd_findWay_177 : decode mm_findWay.2.1 177 = .ok (.iload 7, 2) := by decide +kernel
theorem dd_findWay_179 : decode mm_findWay.2.1 179 = .ok (.iastore, 1) := by decide +kernel
theorem ia_202 : isA NC 202 1 = true := by decide +kernel
theorem la_202 : (lay (202 : Int).toNat).2.2 = 30 := by decide +kernel
theorem dd_findWay_180 : decode mm_findWay.2.1 180 = .ok (.aload_n 0, 1) := by decide +kernel
theorem dd_findWay_181 : decode mm_findWay.2.1 181 = .ok (.dup, 1) := by decide +kernel
theorem dd_findWay_182 : decode mm_findWay.2.1 182 = .ok (.getfield 400, 3) := by decide +kernel
theorem dd_findWay_185 : decode mm_findWay.2.1 185 = .ok (.iconst 1, 1) := by decide +kernel
theorem dd_findWay_186 : decode mm_findWay.2.1 186 = .ok (.iadd, 1) := by decide +kernel
theorem dd_findWay_187 : decode mm_findWay.2.1 187 = .ok (.putfield 400, 3) := by decide +kernel
theorem dd_findWay_190 : decode mm_findWay.2.1 190 = .ok (.aload_n 0, 1) := by decide +kernel
theorem dd_findWay_191 : decode mm_findWay.2.1 191 = .ok (.getfield 410, 3) := by decide +kernel
theorem dd_findWay_194 : decode mm_findWay.2.1 194 = .ok (.istore 4, 2) := by decide +kernel
theorem dd_findWay_196 : decode mm_findWay.2.1 196 = .ok (.aload_n 0, 1) := by decide +kernel
theorem dd_findWay_197 : decode mm_findWay.2.1 197 = .ok (.getfield 413, 3) := by decide +kernel
theorem dd_findWay_200 : decode mm_findWay.2.1 200 = .ok (.istore 5, 2) := by decide +kernel
theorem dd_findWay_202 : decode mm_findWay.2.1 202 = .ok (.goto (-107), 3) := by decide +kernel
theorem dd_findWay_163 : decode mm_findWay.2.1 163 = .ok (.iinc 7 1, 3) := by decide +kernel
theorem dd_findWay_166 : decode mm_findWay.2.1 166 = .ok (.goto (-21), 3) := by decide +kernel
theorem B_stepOf_0 {xs : Nat → Int} {xl e : Nat} {h : LH} {Q : Option LV → LH → Prop} {v1 v2 v3 v4 : Int} (hF : RF h) (r_v1 : 0 ≤ v1 ∧ v1 ≤ 1540) (r_v2 : 0 ≤ v2 ∧ v2 ≤ 5)
    (k : Rn xs xl e mm_stepOf 6 [some (.inr (.inr 182)), some (.inl v1), some (.inl v2), some (.inl v3), some (.inl v4), some (.inl v3), some (.inl 0), none, none, none] [] h Q) :
    Rn xs xl e mm_stepOf 0 [some (.inr (.inr 182)), some (.inl v1), some (.inl v2), some (.inl v3), some (.inl v4), none, none, none, none, none] [] h Q := by
  refine R_ld (v := .inl v3) dd_stepOf_0 rfl rfl rfl rfl ?_
  refine R_st (ls' := [some (.inr (.inr 182)), some (.inl v1), some (.inl v2), some (.inl v3), some (.inl v4), some (.inl v3), none, none, none, none]) dd_stepOf_1 rfl rfl rfl (Nat.le_of_ble_eq_true rfl) rfl rfl ?_
  refine R_ic dd_stepOf_3 (by decide) rfl ?_
  refine R_st (ls' := [some (.inr (.inr 182)), some (.inl v1), some (.inl v2), some (.inl v3), some (.inl v4), some (.inl v3), some (.inl 0), none, none, none]) dd_stepOf_4 rfl rfl rfl (Nat.le_of_ble_eq_true rfl) rfl rfl ?_
  exact k
theorem B_stepOf_6 {xs : Nat → Int} {xl e : Nat} {h : LH} {Q : Option LV → LH → Prop} {v1 v2 v3 v4 v5 v6 : Int} {o7 : Option LV} {o8 : Option LV} {o9 : Option LV} (hF : RF h) (r_v1 : 0 ≤ v1 ∧ v1 ≤ 1540) (r_v2 : 0 ≤ v2 ∧ v2 ≤ 5) (r_v6 : 0 ≤ v6 ∧ v6 ≤ 20)
    (k : (20 ≤ v6 →
        Q (some (.inl v5)) h) ∧
      (v6 < 20 →
        Rn xs xl e mm_stepOf 16 [some (.inr (.inr 182)), some (.inl v1), some (.inl v2), some (.inl v3), some (.inl v4), some (.inl v5), some (.inl v6), some (.inl 0), o8, o9] [] h Q)) :
    Rn xs xl e mm_stepOf 6 [some (.inr (.inr 182)), some (.inl v1), some (.inl v2), some (.inl v3), some (.inl v4), some (.inl v5), some (.inl v6), o7, o8, o9] [] h Q := by
  refine R_ld (v := .inl v6) dd_stepOf_6 rfl rfl rfl rfl ?_
  refine R_bi dd_stepOf_8 (by decide) rfl ?_
  refine R_icmp dd_stepOf_10 rfl rfl (fun (c1 : 20 ≤ v6) => ?_) (fun (c1 : v6 < 20) => ?_)
  · replace k := k.1 c1
    refine R_ld (v := .inl v5) dd_stepOf_123 rfl rfl rfl rfl ?_
    exact R_iret dd_stepOf_125 rfl k
  · replace k := k.2 c1
    refine R_ic dd_stepOf_13 (by decide) rfl ?_
    refine R_st (ls' := [some (.inr (.inr 182)), some (.inl v1), some (.inl v2), some (.inl v3), some (.inl v4), some (.inl v5), some (.inl v6), some (.inl 0), o8, o9]) dd_stepOf_14 rfl rfl rfl (Nat.le_of_ble_eq_true rfl) rfl rfl ?_
    exact k
theorem B_stepOf_16 {xs : Nat → Int} {xl e : Nat} {h : LH} {Q : Option LV → LH → Prop} {v1 v2 v3 v4 v5 v6 v7 : Int} {o8 : Option LV} {o9 : Option LV} (hF : RF h) (r_v1 : 0 ≤ v1 ∧ v1 ≤ 1540) (r_v2 : 0 ≤ v2 ∧ v2 ≤ 5) (r_v6 : 0 ≤ v6 ∧ v6 ≤ 19) (r_v7 : 0 ≤ v7 ∧ v7 ≤ 14) (he : 1 ≤ e)
    (k : ((rd h 188 1) ≤ v7 →
        Rn xs xl e mm_stepOf 6 [some (.inr (.inr 182)), some (.inl v1), some (.inl v2), some (.inl v3), some (.inl v4), some (.inl v5), some (.inl (v6 + 1)), some (.inl v7), o8, o9] [] h Q) ∧
      (v7 < (rd h 188 1) →
        ((zand (zshr v3 v6) 1) ≠ 1 →
          Rn xs xl e mm_stepOf 6 [some (.inr (.inr 182)), some (.inl v1), some (.inl v2), some (.inl v3), some (.inl v4), some (.inl v5), some (.inl (v6 + 1)), some (.inl v7), o8, o9] [] h Q) ∧
        ((zand (zshr v3 v6) 1) = 1 →
          (∃ c, c < e ∧ Rn xs xl c mm_leadsNow 0 [some (.inr (.inr 182)), some (.inl v1), some (.inl v7), some (.inl (rd h 188 (4 * v2 + 116))), some (.inl (v6 % 10)), some (.inl v4)] [] h (fun r h' => Rn xs xl e mm_stepOf 54 [some (.inr (.inr 182)), some (.inl v1), some (.inl v2), some (.inl v3), some (.inl v4), some (.inl v5), some (.inl v6), some (.inl v7), o8, o9] (r.toList ++ []) h' Q))))) :
    Rn xs xl e mm_stepOf 16 [some (.inr (.inr 182)), some (.inl v1), some (.inl v2), some (.inl v3), some (.inl v4), some (.inl v5), some (.inl v6), some (.inl v7), o8, o9] [] h Q := by
  refine R_ld (v := .inl v7) dd_stepOf_16 rfl rfl rfl rfl ?_
  refine R_ld (v := .inr (.inr 182)) dd_stepOf_18 rfl rfl rfl rfl ?_
  refine R_call (as := [.inr (.inr 182)]) (rest := [.inl v7]) (M' := mm_doors) (ls0 := [some (.inr (.inr 182))]) dd_stepOf_19 rfl rfl (cw_v cw_12_335 io_182 rfl rfl (Nat.le_of_ble_eq_true rfl) (Nat.le_of_ble_eq_true rfl)) mt_doors rfl (c := e - 1) (by omega) rfl ?_
  refine R_ld (v := .inr (.inr 182)) dd_doors_0 rfl rfl rfl rfl ?_
  refine R_gf (v := .inr (.inr 188)) dd_doors_1 fd_12_95 io_182 (congrArg (fun z : Int => (Sum.inr (Sum.inr z) : LV)) (rf_182_10 hF)) rfl ?_
  refine R_ic dd_doors_4 (by decide) rfl ?_
  refine R_iald (v := (rd h 188 1)) (n := 300) dd_doors_5 ia_188 la_188 (by decide) (rfl) rfl ?_
  refine R_iret dd_doors_6 rfl ?_
  change Rn xs xl e mm_stepOf 22 [some (.inr (.inr 182)), some (.inl v1), some (.inl v2), some (.inl v3), some (.inl v4), some (.inl v5), some (.inl v6), some (.inl v7), o8, o9] [.inl (rd h 188 1), .inl v7] h _
  refine R_icmp dd_stepOf_22 rfl rfl (fun (c2 : (rd h 188 1) ≤ v7) => ?_) (fun (c2 : v7 < (rd h 188 1)) => ?_)
  · replace k := k.1 c2
    refine R_inc (y := v6 + 1) (ls' := [some (.inr (.inr 182)), some (.inl v1), some (.inl v2), some (.inl v3), some (.inl v4), some (.inl v5), some (.inl (v6 + 1)), some (.inl v7), o8, o9]) dd_stepOf_117 rfl (by decide) (by omega) (by omega) rfl rfl ?_
    refine R_goto dd_stepOf_120 rfl ?_
    exact k
  · replace k := k.2 c2
    refine R_ld (v := .inl v3) dd_stepOf_25 rfl rfl rfl rfl ?_
    refine R_ld (v := .inl v6) dd_stepOf_26 rfl rfl rfl rfl ?_
    refine R_call (as := [.inl v3, .inl v6]) (rest := []) (M' := mm_isIn) (ls0 := [some (.inl v3), some (.inl v6)]) dd_stepOf_28 rfl rfl (cw_s cw_12_350 rfl rfl (Nat.le_of_ble_eq_true rfl) (Nat.le_of_ble_eq_true rfl)) mt_isIn rfl (c := e - 1) (by omega) rfl ?_
    refine R_ld (v := .inl v3) dd_isIn_0 rfl rfl rfl rfl ?_
    refine R_ld (v := .inl v6) dd_isIn_1 rfl rfl rfl rfl ?_
    refine R_A dd_isIn_2 rfl rfl rfl rfl ?_
    refine R_ic dd_isIn_3 (by decide) rfl ?_
    refine R_A dd_isIn_4 rfl rfl rfl rfl ?_
    refine R_ic dd_isIn_5 (by decide) rfl ?_
    refine R_icmp dd_isIn_6 rfl rfl (fun (c3 : (zand (zshr v3 v6) 1) ≠ 1) => ?_) (fun (c3 : (zand (zshr v3 v6) 1) = 1) => ?_)
    · replace k := k.1 c3
      refine R_ic dd_isIn_13 (by decide) rfl ?_
      refine R_zret dd_isIn_14 rfl (by decide) ?_
      change Rn xs xl e mm_stepOf 31 [some (.inr (.inr 182)), some (.inl v1), some (.inl v2), some (.inl v3), some (.inl v4), some (.inl v5), some (.inl v6), some (.inl v7), o8, o9] [.inl 0] h _
      refine R_if dd_stepOf_31 rfl rfl (fun (c4 : 0 = 0) => ?_) (fun (c4 : 0 ≠ 0) => ?_)
      · skip
        refine R_inc (y := v6 + 1) (ls' := [some (.inr (.inr 182)), some (.inl v1), some (.inl v2), some (.inl v3), some (.inl v4), some (.inl v5), some (.inl (v6 + 1)), some (.inl v7), o8, o9]) dd_stepOf_117 rfl (by decide) (by omega) (by omega) rfl rfl ?_
        refine R_goto dd_stepOf_120 rfl ?_
        exact k
      · exact absurd c4 (by omega)
    · replace k := k.2 c3
      refine R_ic dd_isIn_9 (by decide) rfl ?_
      refine R_goto dd_isIn_10 rfl ?_
      refine R_zret dd_isIn_14 rfl (by decide) ?_
      change Rn xs xl e mm_stepOf 31 [some (.inr (.inr 182)), some (.inl v1), some (.inl v2), some (.inl v3), some (.inl v4), some (.inl v5), some (.inl v6), some (.inl v7), o8, o9] [.inl 1] h _
      refine R_if dd_stepOf_31 rfl rfl (fun (c5 : 1 = 0) => ?_) (fun (c5 : 1 ≠ 0) => ?_)
      · exact absurd c5 (by omega)
      · skip
        refine R_ld (v := .inr (.inr 182)) dd_stepOf_34 rfl rfl rfl rfl ?_
        refine R_ld (v := .inl v1) dd_stepOf_35 rfl rfl rfl rfl ?_
        refine R_ld (v := .inl v7) dd_stepOf_36 rfl rfl rfl rfl ?_
        refine R_ld (v := .inr (.inr 182)) dd_stepOf_38 rfl rfl rfl rfl ?_
        refine R_ld (v := .inl v2) dd_stepOf_39 rfl rfl rfl rfl ?_
        refine R_ic dd_stepOf_40 (by decide) rfl ?_
        refine R_call (as := [.inr (.inr 182), .inl v2, .inl 0]) (rest := [.inl v7, .inl v1, .inr (.inr 182)]) (M' := mm_personOf) (ls0 := [some (.inr (.inr 182)), some (.inl v2), some (.inl 0)]) dd_stepOf_41 rfl rfl (cw_v cw_12_325 io_182 rfl rfl (Nat.le_of_ble_eq_true rfl) (Nat.le_of_ble_eq_true rfl)) mt_personOf rfl (c := e - 1) (by omega) rfl ?_
        refine R_ld (v := .inr (.inr 182)) dd_personOf_0 rfl rfl rfl rfl ?_
        refine R_gf (v := .inr (.inr 188)) dd_personOf_1 fd_12_95 io_182 (congrArg (fun z : Int => (Sum.inr (Sum.inr z) : LV)) (rf_182_10 hF)) rfl ?_
        refine R_bi dd_personOf_4 (by decide) rfl ?_
        refine R_ic dd_personOf_6 (by decide) rfl ?_
        refine R_ld (v := .inl v2) dd_personOf_7 rfl rfl rfl rfl ?_
        refine R_imul (c := 4 * v2) dd_personOf_8 (by omega) (by omega) rfl ?_
        refine R_iadd (c := 4 * v2 + 116) dd_personOf_9 (by omega) (by omega) rfl ?_
        refine R_ld (v := .inl 0) dd_personOf_10 rfl rfl rfl rfl ?_
        refine R_iadd (c := 4 * v2 + 116) dd_personOf_11 (by omega) (by omega) rfl ?_
        refine R_iald (v := (rd h 188 (4 * v2 + 116))) (n := 300) dd_personOf_12 ia_188 la_188 (by omega) (rfl) rfl ?_
        refine R_iret dd_personOf_13 rfl ?_
        change Rn xs xl e mm_stepOf 44 [some (.inr (.inr 182)), some (.inl v1), some (.inl v2), some (.inl v3), some (.inl v4), some (.inl v5), some (.inl v6), some (.inl v7), o8, o9] [.inl (rd h 188 (4 * v2 + 116)), .inl v7, .inl v1, .inr (.inr 182)] h _
        refine R_ld (v := .inl v6) dd_stepOf_44 rfl rfl rfl rfl ?_
        refine R_bi dd_stepOf_46 (by decide) rfl ?_
        refine R_irem dd_stepOf_48 (by omega) (by decide) rfl ?_
        refine R_ld (v := .inl v4) dd_stepOf_49 rfl rfl rfl rfl ?_
        obtain ⟨c, hc, k⟩ := k
        exact R_call (as := [.inr (.inr 182), .inl v1, .inl v7, .inl (rd h 188 (4 * v2 + 116)), .inl (v6 % 10), .inl v4]) (rest := []) (M' := mm_leadsNow) (ls0 := [some (.inr (.inr 182)), some (.inl v1), some (.inl v7), some (.inl (rd h 188 (4 * v2 + 116))), some (.inl (v6 % 10)), some (.inl v4)]) dd_stepOf_51 rfl rfl (cw_v cw_12_373 io_182 rfl rfl (Nat.le_of_ble_eq_true rfl) (Nat.le_of_ble_eq_true rfl)) mt_leadsNow rfl hc rfl k
theorem B_stepOf_54 {xs : Nat → Int} {xl e : Nat} {h : LH} {Q : Option LV → LH → Prop} {v1 v2 v3 v4 v5 v6 v7 w0 : Int} {o8 : Option LV} {o9 : Option LV} (hF : RF h) (r_v1 : 0 ≤ v1 ∧ v1 ≤ 1540) (r_v2 : 0 ≤ v2 ∧ v2 ≤ 5) (r_v6 : 0 ≤ v6 ∧ v6 ≤ 19) (r_v7 : 0 ≤ v7 ∧ v7 ≤ 13) (r_w0 : -1 ≤ w0 ∧ w0 ≤ 9) (he : 1 ≤ e)
    (k : (10 ≤ v6 →
        (0 ≤ w0 →
          Rn xs xl e mm_stepOf 16 [some (.inr (.inr 182)), some (.inl v1), some (.inl v2), some (.inl v3), some (.inl v4), some (.inl (zor v5 (zshl 1 (w0 + 10)))), some (.inl v6), some (.inl (v7 + 1)), some (.inl w0), some (.inl 1)] [] h Q) ∧
        (w0 < 0 →
          Rn xs xl e mm_stepOf 16 [some (.inr (.inr 182)), some (.inl v1), some (.inl v2), some (.inl v3), some (.inl v4), some (.inl (zor v5 0)), some (.inl v6), some (.inl (v7 + 1)), some (.inl w0), some (.inl 1)] [] h Q)) ∧
      (v6 < 10 →
        (w0 ≠ (rd h 188 (4 * v2 + 118)) →
          (0 ≤ w0 →
            Rn xs xl e mm_stepOf 16 [some (.inr (.inr 182)), some (.inl v1), some (.inl v2), some (.inl v3), some (.inl v4), some (.inl (zor v5 (zshl 1 w0))), some (.inl v6), some (.inl (v7 + 1)), some (.inl w0), some (.inl 0)] [] h Q) ∧
          (w0 < 0 →
            Rn xs xl e mm_stepOf 16 [some (.inr (.inr 182)), some (.inl v1), some (.inl v2), some (.inl v3), some (.inl v4), some (.inl (zor v5 0)), some (.inl v6), some (.inl (v7 + 1)), some (.inl w0), some (.inl 0)] [] h Q)) ∧
        (w0 = (rd h 188 (4 * v2 + 118)) →
          (0 ≤ w0 →
            Rn xs xl e mm_stepOf 16 [some (.inr (.inr 182)), some (.inl v1), some (.inl v2), some (.inl v3), some (.inl v4), some (.inl (zor v5 (zshl 1 (w0 + 10)))), some (.inl v6), some (.inl (v7 + 1)), some (.inl w0), some (.inl 1)] [] h Q) ∧
          (w0 < 0 →
            Rn xs xl e mm_stepOf 16 [some (.inr (.inr 182)), some (.inl v1), some (.inl v2), some (.inl v3), some (.inl v4), some (.inl (zor v5 0)), some (.inl v6), some (.inl (v7 + 1)), some (.inl w0), some (.inl 1)] [] h Q)))) :
    Rn xs xl e mm_stepOf 54 [some (.inr (.inr 182)), some (.inl v1), some (.inl v2), some (.inl v3), some (.inl v4), some (.inl v5), some (.inl v6), some (.inl v7), o8, o9] [.inl w0] h Q := by
  refine R_st (ls' := [some (.inr (.inr 182)), some (.inl v1), some (.inl v2), some (.inl v3), some (.inl v4), some (.inl v5), some (.inl v6), some (.inl v7), some (.inl w0), o9]) dd_stepOf_54 rfl rfl rfl (Nat.le_of_ble_eq_true rfl) rfl rfl ?_
  refine R_ld (v := .inl v6) dd_stepOf_56 rfl rfl rfl rfl ?_
  refine R_bi dd_stepOf_58 (by decide) rfl ?_
  refine R_icmp dd_stepOf_60 rfl rfl (fun (c1 : 10 ≤ v6) => ?_) (fun (c1 : v6 < 10) => ?_)
  · replace k := k.1 c1
    refine R_ic dd_stepOf_74 (by decide) rfl ?_
    refine R_goto dd_stepOf_75 rfl ?_
    refine R_st (ls' := [some (.inr (.inr 182)), some (.inl v1), some (.inl v2), some (.inl v3), some (.inl v4), some (.inl v5), some (.inl v6), some (.inl v7), some (.inl w0), some (.inl 1)]) dd_stepOf_79 rfl rfl rfl (Nat.le_of_ble_eq_true rfl) rfl rfl ?_
    refine R_ld (v := .inl v5) dd_stepOf_81 rfl rfl rfl rfl ?_
    refine R_ld (v := .inl w0) dd_stepOf_83 rfl rfl rfl rfl ?_
    refine R_if dd_stepOf_85 rfl rfl (fun (c2 : 0 ≤ w0) => ?_) (fun (c2 : w0 < 0) => ?_)
    · replace k := k.1 c2
      refine R_ic dd_stepOf_92 (by decide) rfl ?_
      refine R_ld (v := .inl w0) dd_stepOf_93 rfl rfl rfl rfl ?_
      refine R_ld (v := .inl 1) dd_stepOf_95 rfl rfl rfl rfl ?_
      refine R_if dd_stepOf_97 rfl rfl (fun (c3 : 1 = 0) => ?_) (fun (c3 : 1 ≠ 0) => ?_)
      · exact absurd c3 (by omega)
      · skip
        refine R_bi dd_stepOf_100 (by decide) rfl ?_
        refine R_goto dd_stepOf_102 rfl ?_
        refine R_iadd (c := w0 + 10) dd_stepOf_106 (by omega) (by omega) rfl ?_
        refine R_A dd_stepOf_107 rfl rfl rfl rfl ?_
        refine R_A dd_stepOf_108 rfl rfl rfl rfl ?_
        refine R_st (ls' := [some (.inr (.inr 182)), some (.inl v1), some (.inl v2), some (.inl v3), some (.inl v4), some (.inl (zor v5 (zshl 1 (w0 + 10)))), some (.inl v6), some (.inl v7), some (.inl w0), some (.inl 1)]) dd_stepOf_109 rfl rfl rfl (Nat.le_of_ble_eq_true rfl) rfl rfl ?_
        refine R_inc (y := v7 + 1) (ls' := [some (.inr (.inr 182)), some (.inl v1), some (.inl v2), some (.inl v3), some (.inl v4), some (.inl (zor v5 (zshl 1 (w0 + 10)))), some (.inl v6), some (.inl (v7 + 1)), some (.inl w0), some (.inl 1)]) dd_stepOf_111 rfl (by decide) (by omega) (by omega) rfl rfl ?_
        refine R_goto dd_stepOf_114 rfl ?_
        exact k
    · replace k := k.2 c2
      refine R_ic dd_stepOf_88 (by decide) rfl ?_
      refine R_goto dd_stepOf_89 rfl ?_
      refine R_A dd_stepOf_108 rfl rfl rfl rfl ?_
      refine R_st (ls' := [some (.inr (.inr 182)), some (.inl v1), some (.inl v2), some (.inl v3), some (.inl v4), some (.inl (zor v5 0)), some (.inl v6), some (.inl v7), some (.inl w0), some (.inl 1)]) dd_stepOf_109 rfl rfl rfl (Nat.le_of_ble_eq_true rfl) rfl rfl ?_
      refine R_inc (y := v7 + 1) (ls' := [some (.inr (.inr 182)), some (.inl v1), some (.inl v2), some (.inl v3), some (.inl v4), some (.inl (zor v5 0)), some (.inl v6), some (.inl (v7 + 1)), some (.inl w0), some (.inl 1)]) dd_stepOf_111 rfl (by decide) (by omega) (by omega) rfl rfl ?_
      refine R_goto dd_stepOf_114 rfl ?_
      exact k
  · replace k := k.2 c1
    refine R_ld (v := .inl w0) dd_stepOf_63 rfl rfl rfl rfl ?_
    refine R_ld (v := .inr (.inr 182)) dd_stepOf_65 rfl rfl rfl rfl ?_
    refine R_ld (v := .inl v2) dd_stepOf_66 rfl rfl rfl rfl ?_
    refine R_ic dd_stepOf_67 (by decide) rfl ?_
    refine R_call (as := [.inr (.inr 182), .inl v2, .inl 2]) (rest := [.inl w0]) (M' := mm_personOf) (ls0 := [some (.inr (.inr 182)), some (.inl v2), some (.inl 2)]) dd_stepOf_68 rfl rfl (cw_v cw_12_325 io_182 rfl rfl (Nat.le_of_ble_eq_true rfl) (Nat.le_of_ble_eq_true rfl)) mt_personOf rfl (c := e - 1) (by omega) rfl ?_
    refine R_ld (v := .inr (.inr 182)) dd_personOf_0 rfl rfl rfl rfl ?_
    refine R_gf (v := .inr (.inr 188)) dd_personOf_1 fd_12_95 io_182 (congrArg (fun z : Int => (Sum.inr (Sum.inr z) : LV)) (rf_182_10 hF)) rfl ?_
    refine R_bi dd_personOf_4 (by decide) rfl ?_
    refine R_ic dd_personOf_6 (by decide) rfl ?_
    refine R_ld (v := .inl v2) dd_personOf_7 rfl rfl rfl rfl ?_
    refine R_imul (c := 4 * v2) dd_personOf_8 (by omega) (by omega) rfl ?_
    refine R_iadd (c := 4 * v2 + 116) dd_personOf_9 (by omega) (by omega) rfl ?_
    refine R_ld (v := .inl 2) dd_personOf_10 rfl rfl rfl rfl ?_
    refine R_iadd (c := 4 * v2 + 118) dd_personOf_11 (by omega) (by omega) rfl ?_
    refine R_iald (v := (rd h 188 (4 * v2 + 118))) (n := 300) dd_personOf_12 ia_188 la_188 (by omega) (rfl) rfl ?_
    refine R_iret dd_personOf_13 rfl ?_
    change Rn xs xl e mm_stepOf 71 [some (.inr (.inr 182)), some (.inl v1), some (.inl v2), some (.inl v3), some (.inl v4), some (.inl v5), some (.inl v6), some (.inl v7), some (.inl w0), o9] [.inl (rd h 188 (4 * v2 + 118)), .inl w0] h _
    refine R_icmp dd_stepOf_71 rfl rfl (fun (c4 : w0 ≠ (rd h 188 (4 * v2 + 118))) => ?_) (fun (c4 : w0 = (rd h 188 (4 * v2 + 118))) => ?_)
    · replace k := k.1 c4
      refine R_ic dd_stepOf_78 (by decide) rfl ?_
      refine R_st (ls' := [some (.inr (.inr 182)), some (.inl v1), some (.inl v2), some (.inl v3), some (.inl v4), some (.inl v5), some (.inl v6), some (.inl v7), some (.inl w0), some (.inl 0)]) dd_stepOf_79 rfl rfl rfl (Nat.le_of_ble_eq_true rfl) rfl rfl ?_
      refine R_ld (v := .inl v5) dd_stepOf_81 rfl rfl rfl rfl ?_
      refine R_ld (v := .inl w0) dd_stepOf_83 rfl rfl rfl rfl ?_
      refine R_if dd_stepOf_85 rfl rfl (fun (c5 : 0 ≤ w0) => ?_) (fun (c5 : w0 < 0) => ?_)
      · replace k := k.1 c5
        refine R_ic dd_stepOf_92 (by decide) rfl ?_
        refine R_ld (v := .inl w0) dd_stepOf_93 rfl rfl rfl rfl ?_
        refine R_ld (v := .inl 0) dd_stepOf_95 rfl rfl rfl rfl ?_
        refine R_if dd_stepOf_97 rfl rfl (fun (c6 : 0 = 0) => ?_) (fun (c6 : 0 ≠ 0) => ?_)
        · skip
          refine R_ic dd_stepOf_105 (by decide) rfl ?_
          refine R_iadd (c := w0) dd_stepOf_106 (by omega) (by omega) rfl ?_
          refine R_A dd_stepOf_107 rfl rfl rfl rfl ?_
          refine R_A dd_stepOf_108 rfl rfl rfl rfl ?_
          refine R_st (ls' := [some (.inr (.inr 182)), some (.inl v1), some (.inl v2), some (.inl v3), some (.inl v4), some (.inl (zor v5 (zshl 1 w0))), some (.inl v6), some (.inl v7), some (.inl w0), some (.inl 0)]) dd_stepOf_109 rfl rfl rfl (Nat.le_of_ble_eq_true rfl) rfl rfl ?_
          refine R_inc (y := v7 + 1) (ls' := [some (.inr (.inr 182)), some (.inl v1), some (.inl v2), some (.inl v3), some (.inl v4), some (.inl (zor v5 (zshl 1 w0))), some (.inl v6), some (.inl (v7 + 1)), some (.inl w0), some (.inl 0)]) dd_stepOf_111 rfl (by decide) (by omega) (by omega) rfl rfl ?_
          refine R_goto dd_stepOf_114 rfl ?_
          exact k
        · exact absurd c6 (by omega)
      · replace k := k.2 c5
        refine R_ic dd_stepOf_88 (by decide) rfl ?_
        refine R_goto dd_stepOf_89 rfl ?_
        refine R_A dd_stepOf_108 rfl rfl rfl rfl ?_
        refine R_st (ls' := [some (.inr (.inr 182)), some (.inl v1), some (.inl v2), some (.inl v3), some (.inl v4), some (.inl (zor v5 0)), some (.inl v6), some (.inl v7), some (.inl w0), some (.inl 0)]) dd_stepOf_109 rfl rfl rfl (Nat.le_of_ble_eq_true rfl) rfl rfl ?_
        refine R_inc (y := v7 + 1) (ls' := [some (.inr (.inr 182)), some (.inl v1), some (.inl v2), some (.inl v3), some (.inl v4), some (.inl (zor v5 0)), some (.inl v6), some (.inl (v7 + 1)), some (.inl w0), some (.inl 0)]) dd_stepOf_111 rfl (by decide) (by omega) (by omega) rfl rfl ?_
        refine R_goto dd_stepOf_114 rfl ?_
        exact k
    · replace k := k.2 c4
      refine R_ic dd_stepOf_74 (by decide) rfl ?_
      refine R_goto dd_stepOf_75 rfl ?_
      refine R_st (ls' := [some (.inr (.inr 182)), some (.inl v1), some (.inl v2), some (.inl v3), some (.inl v4), some (.inl v5), some (.inl v6), some (.inl v7), some (.inl w0), some (.inl 1)]) dd_stepOf_79 rfl rfl rfl (Nat.le_of_ble_eq_true rfl) rfl rfl ?_
      refine R_ld (v := .inl v5) dd_stepOf_81 rfl rfl rfl rfl ?_
      refine R_ld (v := .inl w0) dd_stepOf_83 rfl rfl rfl rfl ?_
      refine R_if dd_stepOf_85 rfl rfl (fun (c7 : 0 ≤ w0) => ?_) (fun (c7 : w0 < 0) => ?_)
      · replace k := k.1 c7
        refine R_ic dd_stepOf_92 (by decide) rfl ?_
        refine R_ld (v := .inl w0) dd_stepOf_93 rfl rfl rfl rfl ?_
        refine R_ld (v := .inl 1) dd_stepOf_95 rfl rfl rfl rfl ?_
        refine R_if dd_stepOf_97 rfl rfl (fun (c8 : 1 = 0) => ?_) (fun (c8 : 1 ≠ 0) => ?_)
        · exact absurd c8 (by omega)
        · skip
          refine R_bi dd_stepOf_100 (by decide) rfl ?_
          refine R_goto dd_stepOf_102 rfl ?_
          refine R_iadd (c := w0 + 10) dd_stepOf_106 (by omega) (by omega) rfl ?_
          refine R_A dd_stepOf_107 rfl rfl rfl rfl ?_
          refine R_A dd_stepOf_108 rfl rfl rfl rfl ?_
          refine R_st (ls' := [some (.inr (.inr 182)), some (.inl v1), some (.inl v2), some (.inl v3), some (.inl v4), some (.inl (zor v5 (zshl 1 (w0 + 10)))), some (.inl v6), some (.inl v7), some (.inl w0), some (.inl 1)]) dd_stepOf_109 rfl rfl rfl (Nat.le_of_ble_eq_true rfl) rfl rfl ?_
          refine R_inc (y := v7 + 1) (ls' := [some (.inr (.inr 182)), some (.inl v1), some (.inl v2), some (.inl v3), some (.inl v4), some (.inl (zor v5 (zshl 1 (w0 + 10)))), some (.inl v6), some (.inl (v7 + 1)), some (.inl w0), some (.inl 1)]) dd_stepOf_111 rfl (by decide) (by omega) (by omega) rfl rfl ?_
          refine R_goto dd_stepOf_114 rfl ?_
          exact k
      · replace k := k.2 c7
        refine R_ic dd_stepOf_88 (by decide) rfl ?_
        refine R_goto dd_stepOf_89 rfl ?_
        refine R_A dd_stepOf_108 rfl rfl rfl rfl ?_
        refine R_st (ls' := [some (.inr (.inr 182)), some (.inl v1), some (.inl v2), some (.inl v3), some (.inl v4), some (.inl (zor v5 0)), some (.inl v6), some (.inl v7), some (.inl w0), some (.inl 1)]) dd_stepOf_109 rfl rfl rfl (Nat.le_of_ble_eq_true rfl) rfl rfl ?_
        refine R_inc (y := v7 + 1) (ls' := [some (.inr (.inr 182)), some (.inl v1), some (.inl v2), some (.inl v3), some (.inl v4), some (.inl (zor v5 0)), some (.inl v6), some (.inl (v7 + 1)), some (.inl w0), some (.inl 1)]) dd_stepOf_111 rfl (by decide) (by omega) (by omega) rfl rfl ?_
        refine R_goto dd_stepOf_114 rfl ?_
        exact k
theorem B_firstHour_0 {xs : Nat → Int} {xl e : Nat} {h : LH} {Q : Option LV → LH → Prop} {v1 v2 v3 : Int} (hF : RF h) (r_v1 : 0 ≤ v1 ∧ v1 ≤ 1540) (r_v2 : 0 ≤ v2 ∧ v2 ≤ 5) (he : 1 ≤ e)
    (k : ((rd h 198 (v1 + v2 + 8)) ≠ 1 →
        (-2147483648 ≤ (rd h 198 (v1 + v2 + 2)) ∧ (rd h 198 (v1 + v2 + 2)) ≤ 2147483647) ∧
        ((zand (zshl 1 (rd h 198 (v1 + v2 + 2))) v3) = 0 →
          Rn xs xl e mm_firstHour 34 [some (.inr (.inr 182)), some (.inl v1), some (.inl v2), some (.inl v3), some (.inl (zshl 1 (rd h 198 (v1 + v2 + 2)))), some (.inl (rd h 198 v1))] [] h Q) ∧
        ((zand (zshl 1 (rd h 198 (v1 + v2 + 2))) v3) ≠ 0 →
          Q (some (.inl (rd h 198 v1))) h)) ∧
      ((rd h 198 (v1 + v2 + 8)) = 1 →
        (-2147483648 ≤ (rd h 198 (v1 + v2 + 2)) + 10 ∧ (rd h 198 (v1 + v2 + 2)) + 10 ≤ 2147483647) ∧
        ((zand (zshl 1 ((rd h 198 (v1 + v2 + 2)) + 10)) v3) = 0 →
          Rn xs xl e mm_firstHour 34 [some (.inr (.inr 182)), some (.inl v1), some (.inl v2), some (.inl v3), some (.inl (zshl 1 ((rd h 198 (v1 + v2 + 2)) + 10))), some (.inl (rd h 198 v1))] [] h Q) ∧
        ((zand (zshl 1 ((rd h 198 (v1 + v2 + 2)) + 10)) v3) ≠ 0 →
          Q (some (.inl (rd h 198 v1))) h))) :
    Rn xs xl e mm_firstHour 0 [some (.inr (.inr 182)), some (.inl v1), some (.inl v2), some (.inl v3), none, none] [] h Q := by
  refine R_ld (v := .inr (.inr 182)) dd_firstHour_0 rfl rfl rfl rfl ?_
  refine R_ld (v := .inl v1) dd_firstHour_1 rfl rfl rfl rfl ?_
  refine R_ld (v := .inl v2) dd_firstHour_2 rfl rfl rfl rfl ?_
  refine R_call (as := [.inr (.inr 182), .inl v1, .inl v2]) (rest := []) (M' := mm_startOf) (ls0 := [some (.inr (.inr 182)), some (.inl v1), some (.inl v2)]) dd_firstHour_3 rfl rfl (cw_v cw_12_386 io_182 rfl rfl (Nat.le_of_ble_eq_true rfl) (Nat.le_of_ble_eq_true rfl)) mt_startOf rfl (c := e - 1) (by omega) rfl ?_
  refine R_ic dd_startOf_0 (by decide) rfl ?_
  refine R_ld (v := .inr (.inr 182)) dd_startOf_1 rfl rfl rfl rfl ?_
  refine R_gf (v := .inr (.inr 198)) dd_startOf_2 fd_12_125 io_182 (congrArg (fun z : Int => (Sum.inr (Sum.inr z) : LV)) (rf_182_24 hF)) rfl ?_
  refine R_ld (v := .inl v1) dd_startOf_5 rfl rfl rfl rfl ?_
  refine R_ic dd_startOf_6 (by decide) rfl ?_
  refine R_iadd (c := v1 + 2) dd_startOf_7 (by omega) (by omega) rfl ?_
  refine R_ld (v := .inl v2) dd_startOf_8 rfl rfl rfl rfl ?_
  refine R_iadd (c := v1 + v2 + 2) dd_startOf_9 (by omega) (by omega) rfl ?_
  refine R_iald (v := (rd h 198 (v1 + v2 + 2))) (n := 1610) dd_startOf_10 ia_198 la_198 (by omega) (rfl) rfl ?_
  refine R_ld (v := .inr (.inr 182)) dd_startOf_11 rfl rfl rfl rfl ?_
  refine R_gf (v := .inr (.inr 198)) dd_startOf_12 fd_12_125 io_182 (congrArg (fun z : Int => (Sum.inr (Sum.inr z) : LV)) (rf_182_24 hF)) rfl ?_
  refine R_ld (v := .inl v1) dd_startOf_15 rfl rfl rfl rfl ?_
  refine R_bi dd_startOf_16 (by decide) rfl ?_
  refine R_iadd (c := v1 + 8) dd_startOf_18 (by omega) (by omega) rfl ?_
  refine R_ld (v := .inl v2) dd_startOf_19 rfl rfl rfl rfl ?_
  refine R_iadd (c := v1 + v2 + 8) dd_startOf_20 (by omega) (by omega) rfl ?_
  refine R_iald (v := (rd h 198 (v1 + v2 + 8))) (n := 1610) dd_startOf_21 ia_198 la_198 (by omega) (rfl) rfl ?_
  refine R_ic dd_startOf_22 (by decide) rfl ?_
  refine R_icmp dd_startOf_23 rfl rfl (fun (c3 : (rd h 198 (v1 + v2 + 8)) ≠ 1) => ?_) (fun (c3 : (rd h 198 (v1 + v2 + 8)) = 1) => ?_)
  · replace k := k.1 c3
    refine R_ic dd_startOf_31 (by decide) rfl ?_
    obtain ⟨s1, k⟩ := k
    refine R_iadd (c := (rd h 198 (v1 + v2 + 2))) dd_startOf_32 (by omega) s1 rfl ?_
    refine R_A dd_startOf_33 rfl rfl rfl rfl ?_
    refine R_iret dd_startOf_34 rfl ?_
    change Rn xs xl e mm_firstHour 6 [some (.inr (.inr 182)), some (.inl v1), some (.inl v2), some (.inl v3), none, none] [.inl (zshl 1 (rd h 198 (v1 + v2 + 2)))] h _
    refine R_st (ls' := [some (.inr (.inr 182)), some (.inl v1), some (.inl v2), some (.inl v3), some (.inl (zshl 1 (rd h 198 (v1 + v2 + 2)))), none]) dd_firstHour_6 rfl rfl rfl (Nat.le_of_ble_eq_true rfl) rfl rfl ?_
    refine R_ld (v := .inl (zshl 1 (rd h 198 (v1 + v2 + 2)))) dd_firstHour_8 rfl rfl rfl rfl ?_
    refine R_ld (v := .inl v3) dd_firstHour_10 rfl rfl rfl rfl ?_
    refine R_A dd_firstHour_11 rfl rfl rfl rfl ?_
    refine R_if dd_firstHour_12 rfl rfl (fun (c4 : (zand (zshl 1 (rd h 198 (v1 + v2 + 2))) v3) = 0) => ?_) (fun (c4 : (zand (zshl 1 (rd h 198 (v1 + v2 + 2))) v3) ≠ 0) => ?_)
    · replace k := k.1 c4
      refine R_ld (v := .inr (.inr 182)) dd_firstHour_24 rfl rfl rfl rfl ?_
      refine R_gf (v := .inr (.inr 198)) dd_firstHour_25 fd_12_125 io_182 (congrArg (fun z : Int => (Sum.inr (Sum.inr z) : LV)) (rf_182_24 hF)) rfl ?_
      refine R_ld (v := .inl v1) dd_firstHour_28 rfl rfl rfl rfl ?_
      refine R_ic dd_firstHour_29 (by decide) rfl ?_
      refine R_iadd (c := v1) dd_firstHour_30 (by omega) (by omega) rfl ?_
      refine R_iald (v := (rd h 198 v1)) (n := 1610) dd_firstHour_31 ia_198 la_198 (by omega) (rfl) rfl ?_
      refine R_st (ls' := [some (.inr (.inr 182)), some (.inl v1), some (.inl v2), some (.inl v3), some (.inl (zshl 1 (rd h 198 (v1 + v2 + 2)))), some (.inl (rd h 198 v1))]) dd_firstHour_32 rfl rfl rfl (Nat.le_of_ble_eq_true rfl) rfl rfl ?_
      exact k
    · replace k := k.2 c4
      refine R_ld (v := .inr (.inr 182)) dd_firstHour_15 rfl rfl rfl rfl ?_
      refine R_gf (v := .inr (.inr 198)) dd_firstHour_16 fd_12_125 io_182 (congrArg (fun z : Int => (Sum.inr (Sum.inr z) : LV)) (rf_182_24 hF)) rfl ?_
      refine R_ld (v := .inl v1) dd_firstHour_19 rfl rfl rfl rfl ?_
      refine R_ic dd_firstHour_20 (by decide) rfl ?_
      refine R_iadd (c := v1) dd_firstHour_21 (by omega) (by omega) rfl ?_
      refine R_iald (v := (rd h 198 v1)) (n := 1610) dd_firstHour_22 ia_198 la_198 (by omega) (rfl) rfl ?_
      exact R_iret dd_firstHour_23 rfl k
  · replace k := k.2 c3
    refine R_bi dd_startOf_26 (by decide) rfl ?_
    refine R_goto dd_startOf_28 rfl ?_
    obtain ⟨s2, k⟩ := k
    refine R_iadd (c := (rd h 198 (v1 + v2 + 2)) + 10) dd_startOf_32 (by omega) s2 rfl ?_
    refine R_A dd_startOf_33 rfl rfl rfl rfl ?_
    refine R_iret dd_startOf_34 rfl ?_
    change Rn xs xl e mm_firstHour 6 [some (.inr (.inr 182)), some (.inl v1), some (.inl v2), some (.inl v3), none, none] [.inl (zshl 1 ((rd h 198 (v1 + v2 + 2)) + 10))] h _
    refine R_st (ls' := [some (.inr (.inr 182)), some (.inl v1), some (.inl v2), some (.inl v3), some (.inl (zshl 1 ((rd h 198 (v1 + v2 + 2)) + 10))), none]) dd_firstHour_6 rfl rfl rfl (Nat.le_of_ble_eq_true rfl) rfl rfl ?_
    refine R_ld (v := .inl (zshl 1 ((rd h 198 (v1 + v2 + 2)) + 10))) dd_firstHour_8 rfl rfl rfl rfl ?_
    refine R_ld (v := .inl v3) dd_firstHour_10 rfl rfl rfl rfl ?_
    refine R_A dd_firstHour_11 rfl rfl rfl rfl ?_
    refine R_if dd_firstHour_12 rfl rfl (fun (c5 : (zand (zshl 1 ((rd h 198 (v1 + v2 + 2)) + 10)) v3) = 0) => ?_) (fun (c5 : (zand (zshl 1 ((rd h 198 (v1 + v2 + 2)) + 10)) v3) ≠ 0) => ?_)
    · replace k := k.1 c5
      refine R_ld (v := .inr (.inr 182)) dd_firstHour_24 rfl rfl rfl rfl ?_
      refine R_gf (v := .inr (.inr 198)) dd_firstHour_25 fd_12_125 io_182 (congrArg (fun z : Int => (Sum.inr (Sum.inr z) : LV)) (rf_182_24 hF)) rfl ?_
      refine R_ld (v := .inl v1) dd_firstHour_28 rfl rfl rfl rfl ?_
      refine R_ic dd_firstHour_29 (by decide) rfl ?_
      refine R_iadd (c := v1) dd_firstHour_30 (by omega) (by omega) rfl ?_
      refine R_iald (v := (rd h 198 v1)) (n := 1610) dd_firstHour_31 ia_198 la_198 (by omega) (rfl) rfl ?_
      refine R_st (ls' := [some (.inr (.inr 182)), some (.inl v1), some (.inl v2), some (.inl v3), some (.inl (zshl 1 ((rd h 198 (v1 + v2 + 2)) + 10))), some (.inl (rd h 198 v1))]) dd_firstHour_32 rfl rfl rfl (Nat.le_of_ble_eq_true rfl) rfl rfl ?_
      exact k
    · replace k := k.2 c5
      refine R_ld (v := .inr (.inr 182)) dd_firstHour_15 rfl rfl rfl rfl ?_
      refine R_gf (v := .inr (.inr 198)) dd_firstHour_16 fd_12_125 io_182 (congrArg (fun z : Int => (Sum.inr (Sum.inr z) : LV)) (rf_182_24 hF)) rfl ?_
      refine R_ld (v := .inl v1) dd_firstHour_19 rfl rfl rfl rfl ?_
      refine R_ic dd_firstHour_20 (by decide) rfl ?_
      refine R_iadd (c := v1) dd_firstHour_21 (by omega) (by omega) rfl ?_
      refine R_iald (v := (rd h 198 v1)) (n := 1610) dd_firstHour_22 ia_198 la_198 (by omega) (rfl) rfl ?_
      exact R_iret dd_firstHour_23 rfl k
theorem B_firstHour_34 {xs : Nat → Int} {xl e : Nat} {h : LH} {Q : Option LV → LH → Prop} {v1 v2 v3 v4 v5 : Int} (hF : RF h) (r_v1 : 0 ≤ v1 ∧ v1 ≤ 1540) (r_v2 : 0 ≤ v2 ∧ v2 ≤ 5) (r_v5 : 0 ≤ v5 ∧ v5 ≤ 24)
    (k : (24 ≤ v5 →
        Q (some (.inl (-1))) h) ∧
      (v5 < 24 →
        (v5 ≠ (rd h 198 v1) →
          (∃ c, c < e ∧ Rn xs xl c mm_stepOf 0 [some (.inr (.inr 182)), some (.inl v1), some (.inl v2), some (.inl v4), some (.inl v5), none, none, none, none, none] [] h (fun r h' => Rn xs xl e mm_firstHour 84 [some (.inr (.inr 182)), some (.inl v1), some (.inl v2), some (.inl v3), some (.inl v4), some (.inl v5)] (r.toList ++ []) h' Q))) ∧
        (v5 = (rd h 198 v1) →
          ((rd h 198 (v1 + v2 + 14)) ≠ 1 →
            (∃ c, c < e ∧ Rn xs xl c mm_stepOf 0 [some (.inr (.inr 182)), some (.inl v1), some (.inl v2), some (.inl v4), some (.inl v5), none, none, none, none, none] [] h (fun r h' => Rn xs xl e mm_firstHour 84 [some (.inr (.inr 182)), some (.inl v1), some (.inl v2), some (.inl v3), some (.inl v4), some (.inl v5)] (r.toList ++ []) h' Q))) ∧
          ((rd h 198 (v1 + v2 + 14)) = 1 →
            Rn xs xl e mm_firstHour 84 [some (.inr (.inr 182)), some (.inl v1), some (.inl v2), some (.inl v3), some (.inl v4), some (.inl v5)] [.inl v4] h Q)))) :
    Rn xs xl e mm_firstHour 34 [some (.inr (.inr 182)), some (.inl v1), some (.inl v2), some (.inl v3), some (.inl v4), some (.inl v5)] [] h Q := by
  refine R_ld (v := .inl v5) dd_firstHour_34 rfl rfl rfl rfl ?_
  refine R_bi dd_firstHour_36 (by decide) rfl ?_
  refine R_icmp dd_firstHour_38 rfl rfl (fun (c3 : 24 ≤ v5) => ?_) (fun (c3 : v5 < 24) => ?_)
  · replace k := k.1 c3
    refine R_ic dd_firstHour_102 (by decide) rfl ?_
    exact R_iret dd_firstHour_103 rfl k
  · replace k := k.2 c3
    refine R_ld (v := .inl v5) dd_firstHour_41 rfl rfl rfl rfl ?_
    refine R_ld (v := .inr (.inr 182)) dd_firstHour_43 rfl rfl rfl rfl ?_
    refine R_gf (v := .inr (.inr 198)) dd_firstHour_44 fd_12_125 io_182 (congrArg (fun z : Int => (Sum.inr (Sum.inr z) : LV)) (rf_182_24 hF)) rfl ?_
    refine R_ld (v := .inl v1) dd_firstHour_47 rfl rfl rfl rfl ?_
    refine R_ic dd_firstHour_48 (by decide) rfl ?_
    refine R_iadd (c := v1) dd_firstHour_49 (by omega) (by omega) rfl ?_
    refine R_iald (v := (rd h 198 v1)) (n := 1610) dd_firstHour_50 ia_198 la_198 (by omega) (rfl) rfl ?_
    refine R_icmp dd_firstHour_51 rfl rfl (fun (c4 : v5 ≠ (rd h 198 v1)) => ?_) (fun (c4 : v5 = (rd h 198 v1)) => ?_)
    · replace k := k.1 c4
      refine R_ld (v := .inr (.inr 182)) dd_firstHour_74 rfl rfl rfl rfl ?_
      refine R_ld (v := .inl v1) dd_firstHour_75 rfl rfl rfl rfl ?_
      refine R_ld (v := .inl v2) dd_firstHour_76 rfl rfl rfl rfl ?_
      refine R_ld (v := .inl v4) dd_firstHour_77 rfl rfl rfl rfl ?_
      refine R_ld (v := .inl v5) dd_firstHour_79 rfl rfl rfl rfl ?_
      obtain ⟨c, hc, k⟩ := k
      exact R_call (as := [.inr (.inr 182), .inl v1, .inl v2, .inl v4, .inl v5]) (rest := []) (M' := mm_stepOf) (ls0 := [some (.inr (.inr 182)), some (.inl v1), some (.inl v2), some (.inl v4), some (.inl v5), none, none, none, none, none]) dd_firstHour_81 rfl rfl (cw_v cw_12_389 io_182 rfl rfl (Nat.le_of_ble_eq_true rfl) (Nat.le_of_ble_eq_true rfl)) mt_stepOf rfl hc rfl k
    · replace k := k.2 c4
      refine R_ld (v := .inr (.inr 182)) dd_firstHour_54 rfl rfl rfl rfl ?_
      refine R_gf (v := .inr (.inr 198)) dd_firstHour_55 fd_12_125 io_182 (congrArg (fun z : Int => (Sum.inr (Sum.inr z) : LV)) (rf_182_24 hF)) rfl ?_
      refine R_ld (v := .inl v1) dd_firstHour_58 rfl rfl rfl rfl ?_
      refine R_bi dd_firstHour_59 (by decide) rfl ?_
      refine R_iadd (c := v1 + 14) dd_firstHour_61 (by omega) (by omega) rfl ?_
      refine R_ld (v := .inl v2) dd_firstHour_62 rfl rfl rfl rfl ?_
      refine R_iadd (c := v1 + v2 + 14) dd_firstHour_63 (by omega) (by omega) rfl ?_
      refine R_iald (v := (rd h 198 (v1 + v2 + 14))) (n := 1610) dd_firstHour_64 ia_198 la_198 (by omega) (rfl) rfl ?_
      refine R_ic dd_firstHour_65 (by decide) rfl ?_
      refine R_icmp dd_firstHour_66 rfl rfl (fun (c5 : (rd h 198 (v1 + v2 + 14)) ≠ 1) => ?_) (fun (c5 : (rd h 198 (v1 + v2 + 14)) = 1) => ?_)
      · replace k := k.1 c5
        refine R_ld (v := .inr (.inr 182)) dd_firstHour_74 rfl rfl rfl rfl ?_
        refine R_ld (v := .inl v1) dd_firstHour_75 rfl rfl rfl rfl ?_
        refine R_ld (v := .inl v2) dd_firstHour_76 rfl rfl rfl rfl ?_
        refine R_ld (v := .inl v4) dd_firstHour_77 rfl rfl rfl rfl ?_
        refine R_ld (v := .inl v5) dd_firstHour_79 rfl rfl rfl rfl ?_
        obtain ⟨c, hc, k⟩ := k
        exact R_call (as := [.inr (.inr 182), .inl v1, .inl v2, .inl v4, .inl v5]) (rest := []) (M' := mm_stepOf) (ls0 := [some (.inr (.inr 182)), some (.inl v1), some (.inl v2), some (.inl v4), some (.inl v5), none, none, none, none, none]) dd_firstHour_81 rfl rfl (cw_v cw_12_389 io_182 rfl rfl (Nat.le_of_ble_eq_true rfl) (Nat.le_of_ble_eq_true rfl)) mt_stepOf rfl hc rfl k
      · replace k := k.2 c5
        refine R_ld (v := .inl v4) dd_firstHour_69 rfl rfl rfl rfl ?_
        refine R_goto dd_firstHour_71 rfl ?_
        exact k
theorem B_firstHour_84 {xs : Nat → Int} {xl e : Nat} {h : LH} {Q : Option LV → LH → Prop} {v1 v2 v3 v4 v5 w0 : Int} (hF : RF h) (r_v1 : 0 ≤ v1 ∧ v1 ≤ 1540) (r_v2 : 0 ≤ v2 ∧ v2 ≤ 5) (r_v5 : 0 ≤ v5 ∧ v5 ≤ 23)
    (k : ((zand w0 v3) = 0 →
        Rn xs xl e mm_firstHour 34 [some (.inr (.inr 182)), some (.inl v1), some (.inl v2), some (.inl v3), some (.inl w0), some (.inl (v5 + 1))] [] h Q) ∧
      ((zand w0 v3) ≠ 0 →
        Q (some (.inl v5)) h)) :
    Rn xs xl e mm_firstHour 84 [some (.inr (.inr 182)), some (.inl v1), some (.inl v2), some (.inl v3), some (.inl v4), some (.inl v5)] [.inl w0] h Q := by
  refine R_st (ls' := [some (.inr (.inr 182)), some (.inl v1), some (.inl v2), some (.inl v3), some (.inl w0), some (.inl v5)]) dd_firstHour_84 rfl rfl rfl (Nat.le_of_ble_eq_true rfl) rfl rfl ?_
  refine R_ld (v := .inl w0) dd_firstHour_86 rfl rfl rfl rfl ?_
  refine R_ld (v := .inl v3) dd_firstHour_88 rfl rfl rfl rfl ?_
  refine R_A dd_firstHour_89 rfl rfl rfl rfl ?_
  refine R_if dd_firstHour_90 rfl rfl (fun (c1 : (zand w0 v3) = 0) => ?_) (fun (c1 : (zand w0 v3) ≠ 0) => ?_)
  · replace k := k.1 c1
    refine R_inc (y := v5 + 1) (ls' := [some (.inr (.inr 182)), some (.inl v1), some (.inl v2), some (.inl v3), some (.inl w0), some (.inl (v5 + 1))]) dd_firstHour_96 rfl (by decide) (by omega) (by omega) rfl rfl ?_
    refine R_goto dd_firstHour_99 rfl ?_
    exact k
  · replace k := k.2 c1
    refine R_ld (v := .inl v5) dd_firstHour_93 rfl rfl rfl rfl ?_
    exact R_iret dd_firstHour_95 rfl k
theorem B_errandHour_0 {xs : Nat → Int} {xl e : Nat} {h : LH} {Q : Option LV → LH → Prop} {v1 v2 : Int} (hF : RF h) (r_v1 : 0 ≤ v1 ∧ v1 ≤ 1540) (r_v2 : 0 ≤ v2 ∧ v2 ≤ 5) (he : 1 ≤ e)
    (k : (-2147483648 ≤ (rd h 188 (4 * v2 + 117)) + 10 ∧ (rd h 188 (4 * v2 + 117)) + 10 ≤ 2147483647) ∧
      (∃ c, c < e ∧ Rn xs xl c mm_firstHour 0 [some (.inr (.inr 182)), some (.inl v1), some (.inl v2), some (.inl (zshl 1 ((rd h 188 (4 * v2 + 117)) + 10))), none, none] [] h (fun r h' => Rn xs xl e mm_errandHour 17 [some (.inr (.inr 182)), some (.inl v1), some (.inl v2)] (r.toList ++ []) h' Q))) :
    Rn xs xl e mm_errandHour 0 [some (.inr (.inr 182)), some (.inl v1), some (.inl v2)] [] h Q := by
  refine R_ld (v := .inr (.inr 182)) dd_errandHour_0 rfl rfl rfl rfl ?_
  refine R_ld (v := .inl v1) dd_errandHour_1 rfl rfl rfl rfl ?_
  refine R_ld (v := .inl v2) dd_errandHour_2 rfl rfl rfl rfl ?_
  refine R_ic dd_errandHour_3 (by decide) rfl ?_
  refine R_bi dd_errandHour_4 (by decide) rfl ?_
  refine R_ld (v := .inr (.inr 182)) dd_errandHour_6 rfl rfl rfl rfl ?_
  refine R_ld (v := .inl v2) dd_errandHour_7 rfl rfl rfl rfl ?_
  refine R_ic dd_errandHour_8 (by decide) rfl ?_
  refine R_call (as := [.inr (.inr 182), .inl v2, .inl 1]) (rest := [.inl 10, .inl 1, .inl v2, .inl v1, .inr (.inr 182)]) (M' := mm_personOf) (ls0 := [some (.inr (.inr 182)), some (.inl v2), some (.inl 1)]) dd_errandHour_9 rfl rfl (cw_v cw_12_325 io_182 rfl rfl (Nat.le_of_ble_eq_true rfl) (Nat.le_of_ble_eq_true rfl)) mt_personOf rfl (c := e - 1) (by omega) rfl ?_
  refine R_ld (v := .inr (.inr 182)) dd_personOf_0 rfl rfl rfl rfl ?_
  refine R_gf (v := .inr (.inr 188)) dd_personOf_1 fd_12_95 io_182 (congrArg (fun z : Int => (Sum.inr (Sum.inr z) : LV)) (rf_182_10 hF)) rfl ?_
  refine R_bi dd_personOf_4 (by decide) rfl ?_
  refine R_ic dd_personOf_6 (by decide) rfl ?_
  refine R_ld (v := .inl v2) dd_personOf_7 rfl rfl rfl rfl ?_
  refine R_imul (c := 4 * v2) dd_personOf_8 (by omega) (by omega) rfl ?_
  refine R_iadd (c := 4 * v2 + 116) dd_personOf_9 (by omega) (by omega) rfl ?_
  refine R_ld (v := .inl 1) dd_personOf_10 rfl rfl rfl rfl ?_
  refine R_iadd (c := 4 * v2 + 117) dd_personOf_11 (by omega) (by omega) rfl ?_
  refine R_iald (v := (rd h 188 (4 * v2 + 117))) (n := 300) dd_personOf_12 ia_188 la_188 (by omega) (rfl) rfl ?_
  refine R_iret dd_personOf_13 rfl ?_
  change Rn xs xl e mm_errandHour 12 [some (.inr (.inr 182)), some (.inl v1), some (.inl v2)] [.inl (rd h 188 (4 * v2 + 117)), .inl 10, .inl 1, .inl v2, .inl v1, .inr (.inr 182)] h _
  obtain ⟨s1, k⟩ := k
  refine R_iadd (c := (rd h 188 (4 * v2 + 117)) + 10) dd_errandHour_12 (by omega) s1 rfl ?_
  refine R_A dd_errandHour_13 rfl rfl rfl rfl ?_
  obtain ⟨c, hc, k⟩ := k
  exact R_call (as := [.inr (.inr 182), .inl v1, .inl v2, .inl (zshl 1 ((rd h 188 (4 * v2 + 117)) + 10))]) (rest := []) (M' := mm_firstHour) (ls0 := [some (.inr (.inr 182)), some (.inl v1), some (.inl v2), some (.inl (zshl 1 ((rd h 188 (4 * v2 + 117)) + 10))), none, none]) dd_errandHour_14 rfl rfl (cw_v cw_12_393 io_182 rfl rfl (Nat.le_of_ble_eq_true rfl) (Nat.le_of_ble_eq_true rfl)) mt_firstHour rfl hc rfl k
theorem B_errandHour_17 {xs : Nat → Int} {xl e : Nat} {h : LH} {Q : Option LV → LH → Prop} {v1 v2 w0 : Int} (hF : RF h) (r_v1 : 0 ≤ v1 ∧ v1 ≤ 1540) (r_v2 : 0 ≤ v2 ∧ v2 ≤ 5)
    (k : Q (some (.inl w0)) h) :
    Rn xs xl e mm_errandHour 17 [some (.inr (.inr 182)), some (.inl v1), some (.inl v2)] [.inl w0] h Q := by
  exact R_iret dd_errandHour_17 rfl k
theorem B_findFewest_0 {xs : Nat → Int} {xl e : Nat} {h : LH} {Q : Option LV → LH → Prop} {v1 v2 v3 : Int} (hF : RF h) (r_v1 : 0 ≤ v1 ∧ v1 ≤ 1540) (r_v2 : 0 ≤ v2 ∧ v2 ≤ 5) (r_v3 : 0 ≤ v3 ∧ v3 ≤ 23)
    (k : Rn xs xl e mm_findFewest 3 [some (.inr (.inr 182)), some (.inl v1), some (.inl v2), some (.inl v3), some (.inl 0), none, none, none, none, none, none] [] h Q) :
    Rn xs xl e mm_findFewest 0 [some (.inr (.inr 182)), some (.inl v1), some (.inl v2), some (.inl v3), none, none, none, none, none, none, none] [] h Q := by
  refine R_ic dd_findFewest_0 (by decide) rfl ?_
  refine R_st (ls' := [some (.inr (.inr 182)), some (.inl v1), some (.inl v2), some (.inl v3), some (.inl 0), none, none, none, none, none, none]) dd_findFewest_1 rfl rfl rfl (Nat.le_of_ble_eq_true rfl) rfl rfl ?_
  exact k
theorem B_findFewest_3 {xs : Nat → Int} {xl e : Nat} {h : LH} {Q : Option LV → LH → Prop} {v1 v2 v3 v4 : Int} (hF : RF h) (r_v1 : 0 ≤ v1 ∧ v1 ≤ 1540) (r_v2 : 0 ≤ v2 ∧ v2 ≤ 5) (r_v3 : 0 ≤ v3 ∧ v3 ≤ 23) (r_v4 : 0 ≤ v4 ∧ v4 ≤ 20) (he : 1 ≤ e)
    (k : (20 ≤ v4 →
        Rn xs xl e mm_findFewest 54 [some (.inr (.inr 182)), some (.inl v1), some (.inl v2), some (.inl v3), some (.inl v3), none, none, none, none, none, none] [] h Q) ∧
      (v4 < 20 →
        (-2147483648 ≤ (rd h 188 (4 * v2 + 117)) + 10 ∧ (rd h 188 (4 * v2 + 117)) + 10 ≤ 2147483647) ∧
        (v4 ≠ ((rd h 188 (4 * v2 + 117)) + 10) →
          (0 ≤ 20 * v3 + v4 + 20 ∧ 20 * v3 + v4 + 20 < 500) ∧
          Rn xs xl e mm_findFewest 3 [some (.inr (.inr 182)), some (.inl v1), some (.inl v2), some (.inl v3), some (.inl (v4 + 1)), none, none, none, none, none, none] [] (wr h 201 (20 * v3 + v4 + 20) 1000000) Q) ∧
        (v4 = ((rd h 188 (4 * v2 + 117)) + 10) →
          (0 ≤ 20 * v3 + v4 + 20 ∧ 20 * v3 + v4 + 20 < 500) ∧
          Rn xs xl e mm_findFewest 3 [some (.inr (.inr 182)), some (.inl v1), some (.inl v2), some (.inl v3), some (.inl (v4 + 1)), none, none, none, none, none, none] [] (wr h 201 (20 * v3 + v4 + 20) 0) Q))) :
    Rn xs xl e mm_findFewest 3 [some (.inr (.inr 182)), some (.inl v1), some (.inl v2), some (.inl v3), some (.inl v4), none, none, none, none, none, none] [] h Q := by
  refine R_ld (v := .inl v4) dd_findFewest_3 rfl rfl rfl rfl ?_
  refine R_bi dd_findFewest_5 (by decide) rfl ?_
  refine R_icmp dd_findFewest_7 rfl rfl (fun (c4 : 20 ≤ v4) => ?_) (fun (c4 : v4 < 20) => ?_)
  · replace k := k.1 c4
    refine R_ld (v := .inl v3) dd_findFewest_51 rfl rfl rfl rfl ?_
    refine R_st (ls' := [some (.inr (.inr 182)), some (.inl v1), some (.inl v2), some (.inl v3), some (.inl v3), none, none, none, none, none, none]) dd_findFewest_52 rfl rfl rfl (Nat.le_of_ble_eq_true rfl) rfl rfl ?_
    exact k
  · replace k := k.2 c4
    refine R_ld (v := .inr (.inr 182)) dd_findFewest_10 rfl rfl rfl rfl ?_
    refine R_gf (v := .inr (.inr 201)) dd_findFewest_11 fd_12_141 io_182 (congrArg (fun z : Int => (Sum.inr (Sum.inr z) : LV)) (rf_182_32 hF)) rfl ?_
    refine R_bi dd_findFewest_14 (by decide) rfl ?_
    refine R_ld (v := .inl v3) dd_findFewest_16 rfl rfl rfl rfl ?_
    refine R_ic dd_findFewest_17 (by decide) rfl ?_
    refine R_iadd (c := v3 + 1) dd_findFewest_18 (by omega) (by omega) rfl ?_
    refine R_imul (c := 20 * v3 + 20) dd_findFewest_19 (by omega) (by omega) rfl ?_
    refine R_ld (v := .inl v4) dd_findFewest_20 rfl rfl rfl rfl ?_
    refine R_iadd (c := 20 * v3 + v4 + 20) dd_findFewest_22 (by omega) (by omega) rfl ?_
    refine R_ld (v := .inl v4) dd_findFewest_23 rfl rfl rfl rfl ?_
    refine R_bi dd_findFewest_25 (by decide) rfl ?_
    refine R_ld (v := .inr (.inr 182)) dd_findFewest_27 rfl rfl rfl rfl ?_
    refine R_ld (v := .inl v2) dd_findFewest_28 rfl rfl rfl rfl ?_
    refine R_ic dd_findFewest_29 (by decide) rfl ?_
    refine R_call (as := [.inr (.inr 182), .inl v2, .inl 1]) (rest := [.inl 10, .inl v4, .inl (20 * v3 + v4 + 20), .inr (.inr 201)]) (M' := mm_personOf) (ls0 := [some (.inr (.inr 182)), some (.inl v2), some (.inl 1)]) dd_findFewest_30 rfl rfl (cw_v cw_12_325 io_182 rfl rfl (Nat.le_of_ble_eq_true rfl) (Nat.le_of_ble_eq_true rfl)) mt_personOf rfl (c := e - 1) (by omega) rfl ?_
    refine R_ld (v := .inr (.inr 182)) dd_personOf_0 rfl rfl rfl rfl ?_
    refine R_gf (v := .inr (.inr 188)) dd_personOf_1 fd_12_95 io_182 (congrArg (fun z : Int => (Sum.inr (Sum.inr z) : LV)) (rf_182_10 hF)) rfl ?_
    refine R_bi dd_personOf_4 (by decide) rfl ?_
    refine R_ic dd_personOf_6 (by decide) rfl ?_
    refine R_ld (v := .inl v2) dd_personOf_7 rfl rfl rfl rfl ?_
    refine R_imul (c := 4 * v2) dd_personOf_8 (by omega) (by omega) rfl ?_
    refine R_iadd (c := 4 * v2 + 116) dd_personOf_9 (by omega) (by omega) rfl ?_
    refine R_ld (v := .inl 1) dd_personOf_10 rfl rfl rfl rfl ?_
    refine R_iadd (c := 4 * v2 + 117) dd_personOf_11 (by omega) (by omega) rfl ?_
    refine R_iald (v := (rd h 188 (4 * v2 + 117))) (n := 300) dd_personOf_12 ia_188 la_188 (by omega) (rfl) rfl ?_
    refine R_iret dd_personOf_13 rfl ?_
    change Rn xs xl e mm_findFewest 33 [some (.inr (.inr 182)), some (.inl v1), some (.inl v2), some (.inl v3), some (.inl v4), none, none, none, none, none, none] [.inl (rd h 188 (4 * v2 + 117)), .inl 10, .inl v4, .inl (20 * v3 + v4 + 20), .inr (.inr 201)] h _
    obtain ⟨s1, k⟩ := k
    refine R_iadd (c := (rd h 188 (4 * v2 + 117)) + 10) dd_findFewest_33 (by omega) s1 rfl ?_
    refine R_icmp dd_findFewest_34 rfl rfl (fun (c5 : v4 ≠ ((rd h 188 (4 * v2 + 117)) + 10)) => ?_) (fun (c5 : v4 = ((rd h 188 (4 * v2 + 117)) + 10)) => ?_)
    · replace k := k.1 c5
      refine R_C (v := .inl (1000000)) dd_findFewest_41 rfl rfl (by decide +kernel) rfl ?_
      obtain ⟨s2, k⟩ := k
      refine R_iast (n := 500) dd_findFewest_44 ia_201 la_201 s2 rfl ?_
      refine R_inc (y := v4 + 1) (ls' := [some (.inr (.inr 182)), some (.inl v1), some (.inl v2), some (.inl v3), some (.inl (v4 + 1)), none, none, none, none, none, none]) dd_findFewest_45 rfl (by decide) (by omega) (by omega) rfl rfl ?_
      refine R_goto dd_findFewest_48 rfl ?_
      exact k
    · replace k := k.2 c5
      refine R_ic dd_findFewest_37 (by decide) rfl ?_
      refine R_goto dd_findFewest_38 rfl ?_
      obtain ⟨s3, k⟩ := k
      refine R_iast (n := 500) dd_findFewest_44 ia_201 la_201 s3 rfl ?_
      refine R_inc (y := v4 + 1) (ls' := [some (.inr (.inr 182)), some (.inl v1), some (.inl v2), some (.inl v3), some (.inl (v4 + 1)), none, none, none, none, none, none]) dd_findFewest_45 rfl (by decide) (by omega) (by omega) rfl rfl ?_
      refine R_goto dd_findFewest_48 rfl ?_
      exact k
theorem B_findFewest_54 {xs : Nat → Int} {xl e : Nat} {h : LH} {Q : Option LV → LH → Prop} {v1 v2 v3 v4 : Int} {o5 : Option LV} {o6 : Option LV} {o7 : Option LV} {o8 : Option LV} {o9 : Option LV} {o10 : Option LV} (hF : RF h) (r_v1 : 0 ≤ v1 ∧ v1 ≤ 1540) (r_v2 : 0 ≤ v2 ∧ v2 ≤ 5) (r_v4 : -1 ≤ v4 ∧ v4 ≤ 23)
    (k : (v4 < (rd h 198 v1) →
        Q none h) ∧
      ((rd h 198 v1) ≤ v4 →
        Rn xs xl e mm_findFewest 70 [some (.inr (.inr 182)), some (.inl v1), some (.inl v2), some (.inl v3), some (.inl v4), some (.inl 0), o6, o7, o8, o9, o10] [] h Q)) :
    Rn xs xl e mm_findFewest 54 [some (.inr (.inr 182)), some (.inl v1), some (.inl v2), some (.inl v3), some (.inl v4), o5, o6, o7, o8, o9, o10] [] h Q := by
  refine R_ld (v := .inl v4) dd_findFewest_54 rfl rfl rfl rfl ?_
  refine R_ld (v := .inr (.inr 182)) dd_findFewest_56 rfl rfl rfl rfl ?_
  refine R_gf (v := .inr (.inr 198)) dd_findFewest_57 fd_12_125 io_182 (congrArg (fun z : Int => (Sum.inr (Sum.inr z) : LV)) (rf_182_24 hF)) rfl ?_
  refine R_ld (v := .inl v1) dd_findFewest_60 rfl rfl rfl rfl ?_
  refine R_ic dd_findFewest_61 (by decide) rfl ?_
  refine R_iadd (c := v1) dd_findFewest_62 (by omega) (by omega) rfl ?_
  refine R_iald (v := (rd h 198 v1)) (n := 1610) dd_findFewest_63 ia_198 la_198 (by omega) (rfl) rfl ?_
  refine R_icmp dd_findFewest_64 rfl rfl (fun (c1 : v4 < (rd h 198 v1)) => ?_) (fun (c1 : (rd h 198 v1) ≤ v4) => ?_)
  · replace k := k.1 c1
    exact R_vret dd_findFewest_256 rfl k
  · replace k := k.2 c1
    refine R_ic dd_findFewest_67 (by decide) rfl ?_
    refine R_st (ls' := [some (.inr (.inr 182)), some (.inl v1), some (.inl v2), some (.inl v3), some (.inl v4), some (.inl 0), o6, o7, o8, o9, o10]) dd_findFewest_68 rfl rfl rfl (Nat.le_of_ble_eq_true rfl) rfl rfl ?_
    exact k
theorem B_findFewest_70 {xs : Nat → Int} {xl e : Nat} {h : LH} {Q : Option LV → LH → Prop} {v1 v2 v3 v4 v5 : Int} {o6 : Option LV} {o7 : Option LV} {o8 : Option LV} {o9 : Option LV} {o10 : Option LV} (hF : RF h) (r_v1 : 0 ≤ v1 ∧ v1 ≤ 1540) (r_v2 : 0 ≤ v2 ∧ v2 ≤ 5) (r_v4 : 0 ≤ v4 ∧ v4 ≤ 23) (r_v5 : 0 ≤ v5 ∧ v5 ≤ 20)
    (k : (20 ≤ v5 →
        Rn xs xl e mm_findFewest 54 [some (.inr (.inr 182)), some (.inl v1), some (.inl v2), some (.inl v3), some (.inl (v4 - 1)), some (.inl v5), o6, o7, o8, o9, o10] [] h Q) ∧
      (v5 < 20 →
        (0 ≤ 20 * v4 + v5 + 20 ∧ 20 * v4 + v5 + 20 < 500) ∧
        Rn xs xl e mm_findFewest 97 [some (.inr (.inr 182)), some (.inl v1), some (.inl v2), some (.inl v3), some (.inl v4), some (.inl v5), some (.inl (rd h 201 (20 * v4 + v5 + 20))), some (.inl 0), o8, o9, o10] [] h Q)) :
    Rn xs xl e mm_findFewest 70 [some (.inr (.inr 182)), some (.inl v1), some (.inl v2), some (.inl v3), some (.inl v4), some (.inl v5), o6, o7, o8, o9, o10] [] h Q := by
  refine R_ld (v := .inl v5) dd_findFewest_70 rfl rfl rfl rfl ?_
  refine R_bi dd_findFewest_72 (by decide) rfl ?_
  refine R_icmp dd_findFewest_74 rfl rfl (fun (c2 : 20 ≤ v5) => ?_) (fun (c2 : v5 < 20) => ?_)
  · replace k := k.1 c2
    refine R_inc (y := v4 - 1) (ls' := [some (.inr (.inr 182)), some (.inl v1), some (.inl v2), some (.inl v3), some (.inl (v4 - 1)), some (.inl v5), o6, o7, o8, o9, o10]) dd_findFewest_250 rfl (by decide) (by omega) (by omega) rfl rfl ?_
    refine R_goto dd_findFewest_253 rfl ?_
    exact k
  · replace k := k.2 c2
    refine R_ld (v := .inr (.inr 182)) dd_findFewest_77 rfl rfl rfl rfl ?_
    refine R_gf (v := .inr (.inr 201)) dd_findFewest_78 fd_12_141 io_182 (congrArg (fun z : Int => (Sum.inr (Sum.inr z) : LV)) (rf_182_32 hF)) rfl ?_
    refine R_bi dd_findFewest_81 (by decide) rfl ?_
    refine R_ld (v := .inl v4) dd_findFewest_83 rfl rfl rfl rfl ?_
    refine R_ic dd_findFewest_85 (by decide) rfl ?_
    refine R_iadd (c := v4 + 1) dd_findFewest_86 (by omega) (by omega) rfl ?_
    refine R_imul (c := 20 * v4 + 20) dd_findFewest_87 (by omega) (by omega) rfl ?_
    refine R_ld (v := .inl v5) dd_findFewest_88 rfl rfl rfl rfl ?_
    refine R_iadd (c := 20 * v4 + v5 + 20) dd_findFewest_90 (by omega) (by omega) rfl ?_
    obtain ⟨s1, k⟩ := k
    refine R_iald (v := (rd h 201 (20 * v4 + v5 + 20))) (n := 500) dd_findFewest_91 ia_201 la_201 s1 (rfl) rfl ?_
    refine R_st (ls' := [some (.inr (.inr 182)), some (.inl v1), some (.inl v2), some (.inl v3), some (.inl v4), some (.inl v5), some (.inl (rd h 201 (20 * v4 + v5 + 20))), o7, o8, o9, o10]) dd_findFewest_92 rfl rfl rfl (Nat.le_of_ble_eq_true rfl) rfl rfl ?_
    refine R_ic dd_findFewest_94 (by decide) rfl ?_
    refine R_st (ls' := [some (.inr (.inr 182)), some (.inl v1), some (.inl v2), some (.inl v3), some (.inl v4), some (.inl v5), some (.inl (rd h 201 (20 * v4 + v5 + 20))), some (.inl 0), o8, o9, o10]) dd_findFewest_95 rfl rfl rfl (Nat.le_of_ble_eq_true rfl) rfl rfl ?_
    exact k
theorem B_findFewest_97 {xs : Nat → Int} {xl e : Nat} {h : LH} {Q : Option LV → LH → Prop} {v1 v2 v3 v4 v5 v6 v7 : Int} {o8 : Option LV} {o9 : Option LV} {o10 : Option LV} (hF : RF h) (r_v1 : 0 ≤ v1 ∧ v1 ≤ 1540) (r_v2 : 0 ≤ v2 ∧ v2 ≤ 5) (r_v4 : 0 ≤ v4 ∧ v4 ≤ 23) (r_v5 : 0 ≤ v5 ∧ v5 ≤ 19) (r_v7 : 0 ≤ v7 ∧ v7 ≤ 14) (he : 1 ≤ e)
    (k : ((rd h 188 1) ≤ v7 →
        Rn xs xl e mm_findFewest 229 [some (.inr (.inr 182)), some (.inl v1), some (.inl v2), some (.inl v3), some (.inl v4), some (.inl v5), some (.inl v6), some (.inl v7), o8, o9, o10] [] h Q) ∧
      (v7 < (rd h 188 1) →
        ((rd h 188 0) ≤ (v5 % 10) →
          Rn xs xl e mm_findFewest 229 [some (.inr (.inr 182)), some (.inl v1), some (.inl v2), some (.inl v3), some (.inl v4), some (.inl v5), some (.inl v6), some (.inl v7), o8, o9, o10] [] h Q) ∧
        ((v5 % 10) < (rd h 188 0) →
          (∃ c, c < e ∧ Rn xs xl c mm_leadsNow 0 [some (.inr (.inr 182)), some (.inl v1), some (.inl v7), some (.inl (rd h 188 (4 * v2 + 116))), some (.inl (v5 % 10)), some (.inl v4)] [] h (fun r h' => Rn xs xl e mm_findFewest 138 [some (.inr (.inr 182)), some (.inl v1), some (.inl v2), some (.inl v3), some (.inl v4), some (.inl v5), some (.inl v6), some (.inl v7), o8, o9, o10] (r.toList ++ []) h' Q))))) :
    Rn xs xl e mm_findFewest 97 [some (.inr (.inr 182)), some (.inl v1), some (.inl v2), some (.inl v3), some (.inl v4), some (.inl v5), some (.inl v6), some (.inl v7), o8, o9, o10] [] h Q := by
  refine R_ld (v := .inl v7) dd_findFewest_97 rfl rfl rfl rfl ?_
  refine R_ld (v := .inr (.inr 182)) dd_findFewest_99 rfl rfl rfl rfl ?_
  refine R_call (as := [.inr (.inr 182)]) (rest := [.inl v7]) (M' := mm_doors) (ls0 := [some (.inr (.inr 182))]) dd_findFewest_100 rfl rfl (cw_v cw_12_335 io_182 rfl rfl (Nat.le_of_ble_eq_true rfl) (Nat.le_of_ble_eq_true rfl)) mt_doors rfl (c := e - 1) (by omega) rfl ?_
  refine R_ld (v := .inr (.inr 182)) dd_doors_0 rfl rfl rfl rfl ?_
  refine R_gf (v := .inr (.inr 188)) dd_doors_1 fd_12_95 io_182 (congrArg (fun z : Int => (Sum.inr (Sum.inr z) : LV)) (rf_182_10 hF)) rfl ?_
  refine R_ic dd_doors_4 (by decide) rfl ?_
  refine R_iald (v := (rd h 188 1)) (n := 300) dd_doors_5 ia_188 la_188 (by decide) (rfl) rfl ?_
  refine R_iret dd_doors_6 rfl ?_
  change Rn xs xl e mm_findFewest 103 [some (.inr (.inr 182)), some (.inl v1), some (.inl v2), some (.inl v3), some (.inl v4), some (.inl v5), some (.inl v6), some (.inl v7), o8, o9, o10] [.inl (rd h 188 1), .inl v7] h _
  refine R_icmp dd_findFewest_103 rfl rfl (fun (c2 : (rd h 188 1) ≤ v7) => ?_) (fun (c2 : v7 < (rd h 188 1)) => ?_)
  · replace k := k.1 c2
    exact k
  · replace k := k.2 c2
    refine R_ld (v := .inl v5) dd_findFewest_106 rfl rfl rfl rfl ?_
    refine R_bi dd_findFewest_108 (by decide) rfl ?_
    refine R_irem dd_findFewest_110 (by omega) (by decide) rfl ?_
    refine R_ld (v := .inr (.inr 182)) dd_findFewest_111 rfl rfl rfl rfl ?_
    refine R_call (as := [.inr (.inr 182)]) (rest := [.inl (v5 % 10)]) (M' := mm_rooms) (ls0 := [some (.inr (.inr 182))]) dd_findFewest_112 rfl rfl (cw_v cw_12_332 io_182 rfl rfl (Nat.le_of_ble_eq_true rfl) (Nat.le_of_ble_eq_true rfl)) mt_rooms rfl (c := e - 1) (by omega) rfl ?_
    refine R_ld (v := .inr (.inr 182)) dd_rooms_0 rfl rfl rfl rfl ?_
    refine R_gf (v := .inr (.inr 188)) dd_rooms_1 fd_12_95 io_182 (congrArg (fun z : Int => (Sum.inr (Sum.inr z) : LV)) (rf_182_10 hF)) rfl ?_
    refine R_ic dd_rooms_4 (by decide) rfl ?_
    refine R_iald (v := (rd h 188 0)) (n := 300) dd_rooms_5 ia_188 la_188 (by decide) (rfl) rfl ?_
    refine R_iret dd_rooms_6 rfl ?_
    change Rn xs xl e mm_findFewest 115 [some (.inr (.inr 182)), some (.inl v1), some (.inl v2), some (.inl v3), some (.inl v4), some (.inl v5), some (.inl v6), some (.inl v7), o8, o9, o10] [.inl (rd h 188 0), .inl (v5 % 10)] h _
    refine R_icmp dd_findFewest_115 rfl rfl (fun (c3 : (rd h 188 0) ≤ (v5 % 10)) => ?_) (fun (c3 : (v5 % 10) < (rd h 188 0)) => ?_)
    · replace k := k.1 c3
      exact k
    · replace k := k.2 c3
      refine R_ld (v := .inr (.inr 182)) dd_findFewest_118 rfl rfl rfl rfl ?_
      refine R_ld (v := .inl v1) dd_findFewest_119 rfl rfl rfl rfl ?_
      refine R_ld (v := .inl v7) dd_findFewest_120 rfl rfl rfl rfl ?_
      refine R_ld (v := .inr (.inr 182)) dd_findFewest_122 rfl rfl rfl rfl ?_
      refine R_ld (v := .inl v2) dd_findFewest_123 rfl rfl rfl rfl ?_
      refine R_ic dd_findFewest_124 (by decide) rfl ?_
      refine R_call (as := [.inr (.inr 182), .inl v2, .inl 0]) (rest := [.inl v7, .inl v1, .inr (.inr 182)]) (M' := mm_personOf) (ls0 := [some (.inr (.inr 182)), some (.inl v2), some (.inl 0)]) dd_findFewest_125 rfl rfl (cw_v cw_12_325 io_182 rfl rfl (Nat.le_of_ble_eq_true rfl) (Nat.le_of_ble_eq_true rfl)) mt_personOf rfl (c := e - 1) (by omega) rfl ?_
      refine R_ld (v := .inr (.inr 182)) dd_personOf_0 rfl rfl rfl rfl ?_
      refine R_gf (v := .inr (.inr 188)) dd_personOf_1 fd_12_95 io_182 (congrArg (fun z : Int => (Sum.inr (Sum.inr z) : LV)) (rf_182_10 hF)) rfl ?_
      refine R_bi dd_personOf_4 (by decide) rfl ?_
      refine R_ic dd_personOf_6 (by decide) rfl ?_
      refine R_ld (v := .inl v2) dd_personOf_7 rfl rfl rfl rfl ?_
      refine R_imul (c := 4 * v2) dd_personOf_8 (by omega) (by omega) rfl ?_
      refine R_iadd (c := 4 * v2 + 116) dd_personOf_9 (by omega) (by omega) rfl ?_
      refine R_ld (v := .inl 0) dd_personOf_10 rfl rfl rfl rfl ?_
      refine R_iadd (c := 4 * v2 + 116) dd_personOf_11 (by omega) (by omega) rfl ?_
      refine R_iald (v := (rd h 188 (4 * v2 + 116))) (n := 300) dd_personOf_12 ia_188 la_188 (by omega) (rfl) rfl ?_
      refine R_iret dd_personOf_13 rfl ?_
      change Rn xs xl e mm_findFewest 128 [some (.inr (.inr 182)), some (.inl v1), some (.inl v2), some (.inl v3), some (.inl v4), some (.inl v5), some (.inl v6), some (.inl v7), o8, o9, o10] [.inl (rd h 188 (4 * v2 + 116)), .inl v7, .inl v1, .inr (.inr 182)] h _
      refine R_ld (v := .inl v5) dd_findFewest_128 rfl rfl rfl rfl ?_
      refine R_bi dd_findFewest_130 (by decide) rfl ?_
      refine R_irem dd_findFewest_132 (by omega) (by decide) rfl ?_
      refine R_ld (v := .inl v4) dd_findFewest_133 rfl rfl rfl rfl ?_
      obtain ⟨c, hc, k⟩ := k
      exact R_call (as := [.inr (.inr 182), .inl v1, .inl v7, .inl (rd h 188 (4 * v2 + 116)), .inl (v5 % 10), .inl v4]) (rest := []) (M' := mm_leadsNow) (ls0 := [some (.inr (.inr 182)), some (.inl v1), some (.inl v7), some (.inl (rd h 188 (4 * v2 + 116))), some (.inl (v5 % 10)), some (.inl v4)]) dd_findFewest_135 rfl rfl (cw_v cw_12_373 io_182 rfl rfl (Nat.le_of_ble_eq_true rfl) (Nat.le_of_ble_eq_true rfl)) mt_leadsNow rfl hc rfl k
theorem B_findFewest_138 {xs : Nat → Int} {xl e : Nat} {h : LH} {Q : Option LV → LH → Prop} {v1 v2 v3 v4 v5 v6 v7 w0 : Int} {o8 : Option LV} {o9 : Option LV} {o10 : Option LV} (hF : RF h) (r_v1 : 0 ≤ v1 ∧ v1 ≤ 1540) (r_v2 : 0 ≤ v2 ∧ v2 ≤ 5) (r_v4 : 0 ≤ v4 ∧ v4 ≤ 23) (r_v5 : 0 ≤ v5 ∧ v5 ≤ 19) (r_v7 : 0 ≤ v7 ∧ v7 ≤ 13) (r_w0 : -1 ≤ w0 ∧ w0 ≤ 9) (he : 1 ≤ e)
    (k : (10 ≤ v5 →
        (0 ≤ w0 →
          (-2147483648 ≤ (rd h 201 (20 * v4 + w0 + 30)) + 1 ∧ (rd h 201 (20 * v4 + w0 + 30)) + 1 ≤ 2147483647) ∧
          (v6 ≤ ((rd h 201 (20 * v4 + w0 + 30)) + 1) →
            Rn xs xl e mm_findFewest 97 [some (.inr (.inr 182)), some (.inl v1), some (.inl v2), some (.inl v3), some (.inl v4), some (.inl v5), some (.inl v6), some (.inl (v7 + 1)), some (.inl w0), some (.inl 1), some (.inl ((rd h 201 (20 * v4 + w0 + 30)) + 1))] [] h Q) ∧
          (((rd h 201 (20 * v4 + w0 + 30)) + 1) < v6 →
            Rn xs xl e mm_findFewest 97 [some (.inr (.inr 182)), some (.inl v1), some (.inl v2), some (.inl v3), some (.inl v4), some (.inl v5), some (.inl ((rd h 201 (20 * v4 + w0 + 30)) + 1)), some (.inl (v7 + 1)), some (.inl w0), some (.inl 1), some (.inl ((rd h 201 (20 * v4 + w0 + 30)) + 1))] [] h Q)) ∧
        (w0 < 0 →
          (v6 ≤ 1000000 →
            Rn xs xl e mm_findFewest 97 [some (.inr (.inr 182)), some (.inl v1), some (.inl v2), some (.inl v3), some (.inl v4), some (.inl v5), some (.inl v6), some (.inl (v7 + 1)), some (.inl w0), some (.inl 1), some (.inl 1000000)] [] h Q) ∧
          (1000000 < v6 →
            Rn xs xl e mm_findFewest 97 [some (.inr (.inr 182)), some (.inl v1), some (.inl v2), some (.inl v3), some (.inl v4), some (.inl v5), some (.inl 1000000), some (.inl (v7 + 1)), some (.inl w0), some (.inl 1), some (.inl 1000000)] [] h Q))) ∧
      (v5 < 10 →
        (w0 ≠ (rd h 188 (4 * v2 + 118)) →
          (0 ≤ w0 →
            (-2147483648 ≤ (rd h 201 (20 * v4 + w0 + 20)) + 1 ∧ (rd h 201 (20 * v4 + w0 + 20)) + 1 ≤ 2147483647) ∧
            (v6 ≤ ((rd h 201 (20 * v4 + w0 + 20)) + 1) →
              Rn xs xl e mm_findFewest 97 [some (.inr (.inr 182)), some (.inl v1), some (.inl v2), some (.inl v3), some (.inl v4), some (.inl v5), some (.inl v6), some (.inl (v7 + 1)), some (.inl w0), some (.inl 0), some (.inl ((rd h 201 (20 * v4 + w0 + 20)) + 1))] [] h Q) ∧
            (((rd h 201 (20 * v4 + w0 + 20)) + 1) < v6 →
              Rn xs xl e mm_findFewest 97 [some (.inr (.inr 182)), some (.inl v1), some (.inl v2), some (.inl v3), some (.inl v4), some (.inl v5), some (.inl ((rd h 201 (20 * v4 + w0 + 20)) + 1)), some (.inl (v7 + 1)), some (.inl w0), some (.inl 0), some (.inl ((rd h 201 (20 * v4 + w0 + 20)) + 1))] [] h Q)) ∧
          (w0 < 0 →
            (v6 ≤ 1000000 →
              Rn xs xl e mm_findFewest 97 [some (.inr (.inr 182)), some (.inl v1), some (.inl v2), some (.inl v3), some (.inl v4), some (.inl v5), some (.inl v6), some (.inl (v7 + 1)), some (.inl w0), some (.inl 0), some (.inl 1000000)] [] h Q) ∧
            (1000000 < v6 →
              Rn xs xl e mm_findFewest 97 [some (.inr (.inr 182)), some (.inl v1), some (.inl v2), some (.inl v3), some (.inl v4), some (.inl v5), some (.inl 1000000), some (.inl (v7 + 1)), some (.inl w0), some (.inl 0), some (.inl 1000000)] [] h Q))) ∧
        (w0 = (rd h 188 (4 * v2 + 118)) →
          (0 ≤ w0 →
            (-2147483648 ≤ (rd h 201 (20 * v4 + w0 + 30)) + 1 ∧ (rd h 201 (20 * v4 + w0 + 30)) + 1 ≤ 2147483647) ∧
            (v6 ≤ ((rd h 201 (20 * v4 + w0 + 30)) + 1) →
              Rn xs xl e mm_findFewest 97 [some (.inr (.inr 182)), some (.inl v1), some (.inl v2), some (.inl v3), some (.inl v4), some (.inl v5), some (.inl v6), some (.inl (v7 + 1)), some (.inl w0), some (.inl 1), some (.inl ((rd h 201 (20 * v4 + w0 + 30)) + 1))] [] h Q) ∧
            (((rd h 201 (20 * v4 + w0 + 30)) + 1) < v6 →
              Rn xs xl e mm_findFewest 97 [some (.inr (.inr 182)), some (.inl v1), some (.inl v2), some (.inl v3), some (.inl v4), some (.inl v5), some (.inl ((rd h 201 (20 * v4 + w0 + 30)) + 1)), some (.inl (v7 + 1)), some (.inl w0), some (.inl 1), some (.inl ((rd h 201 (20 * v4 + w0 + 30)) + 1))] [] h Q)) ∧
          (w0 < 0 →
            (v6 ≤ 1000000 →
              Rn xs xl e mm_findFewest 97 [some (.inr (.inr 182)), some (.inl v1), some (.inl v2), some (.inl v3), some (.inl v4), some (.inl v5), some (.inl v6), some (.inl (v7 + 1)), some (.inl w0), some (.inl 1), some (.inl 1000000)] [] h Q) ∧
            (1000000 < v6 →
              Rn xs xl e mm_findFewest 97 [some (.inr (.inr 182)), some (.inl v1), some (.inl v2), some (.inl v3), some (.inl v4), some (.inl v5), some (.inl 1000000), some (.inl (v7 + 1)), some (.inl w0), some (.inl 1), some (.inl 1000000)] [] h Q))))) :
    Rn xs xl e mm_findFewest 138 [some (.inr (.inr 182)), some (.inl v1), some (.inl v2), some (.inl v3), some (.inl v4), some (.inl v5), some (.inl v6), some (.inl v7), o8, o9, o10] [.inl w0] h Q := by
  refine R_st (ls' := [some (.inr (.inr 182)), some (.inl v1), some (.inl v2), some (.inl v3), some (.inl v4), some (.inl v5), some (.inl v6), some (.inl v7), some (.inl w0), o9, o10]) dd_findFewest_138 rfl rfl rfl (Nat.le_of_ble_eq_true rfl) rfl rfl ?_
  refine R_ld (v := .inl v5) dd_findFewest_140 rfl rfl rfl rfl ?_
  refine R_bi dd_findFewest_142 (by decide) rfl ?_
  refine R_icmp dd_findFewest_144 rfl rfl (fun (c4 : 10 ≤ v5) => ?_) (fun (c4 : v5 < 10) => ?_)
  · replace k := k.1 c4
    refine R_ic dd_findFewest_158 (by decide) rfl ?_
    refine R_goto dd_findFewest_159 rfl ?_
    refine R_st (ls' := [some (.inr (.inr 182)), some (.inl v1), some (.inl v2), some (.inl v3), some (.inl v4), some (.inl v5), some (.inl v6), some (.inl v7), some (.inl w0), some (.inl 1), o10]) dd_findFewest_163 rfl rfl rfl (Nat.le_of_ble_eq_true rfl) rfl rfl ?_
    refine R_ld (v := .inl w0) dd_findFewest_165 rfl rfl rfl rfl ?_
    refine R_if dd_findFewest_167 rfl rfl (fun (c5 : 0 ≤ w0) => ?_) (fun (c5 : w0 < 0) => ?_)
    · replace k := k.1 c5
      refine R_ic dd_findFewest_176 (by decide) rfl ?_
      refine R_ld (v := .inr (.inr 182)) dd_findFewest_177 rfl rfl rfl rfl ?_
      refine R_gf (v := .inr (.inr 201)) dd_findFewest_178 fd_12_141 io_182 (congrArg (fun z : Int => (Sum.inr (Sum.inr z) : LV)) (rf_182_32 hF)) rfl ?_
      refine R_bi dd_findFewest_181 (by decide) rfl ?_
      refine R_ld (v := .inl v4) dd_findFewest_183 rfl rfl rfl rfl ?_
      refine R_ic dd_findFewest_185 (by decide) rfl ?_
      refine R_iadd (c := v4 + 1) dd_findFewest_186 (by omega) (by omega) rfl ?_
      refine R_imul (c := 20 * v4 + 20) dd_findFewest_187 (by omega) (by omega) rfl ?_
      refine R_ld (v := .inl w0) dd_findFewest_188 rfl rfl rfl rfl ?_
      refine R_iadd (c := 20 * v4 + w0 + 20) dd_findFewest_190 (by omega) (by omega) rfl ?_
      refine R_ld (v := .inl 1) dd_findFewest_191 rfl rfl rfl rfl ?_
      refine R_if dd_findFewest_193 rfl rfl (fun (c6 : 1 = 0) => ?_) (fun (c6 : 1 ≠ 0) => ?_)
      · exact absurd c6 (by omega)
      · skip
        refine R_bi dd_findFewest_196 (by decide) rfl ?_
        refine R_goto dd_findFewest_198 rfl ?_
        refine R_iadd (c := 20 * v4 + w0 + 30) dd_findFewest_202 (by omega) (by omega) rfl ?_
        refine R_iald (v := (rd h 201 (20 * v4 + w0 + 30))) (n := 500) dd_findFewest_203 ia_201 la_201 (by omega) (rfl) rfl ?_
        obtain ⟨s1, k⟩ := k
        refine R_iadd (c := (rd h 201 (20 * v4 + w0 + 30)) + 1) dd_findFewest_204 (by omega) s1 rfl ?_
        refine R_st (ls' := [some (.inr (.inr 182)), some (.inl v1), some (.inl v2), some (.inl v3), some (.inl v4), some (.inl v5), some (.inl v6), some (.inl v7), some (.inl w0), some (.inl 1), some (.inl ((rd h 201 (20 * v4 + w0 + 30)) + 1))]) dd_findFewest_205 rfl rfl rfl (Nat.le_of_ble_eq_true rfl) rfl rfl ?_
        refine R_ld (v := .inl ((rd h 201 (20 * v4 + w0 + 30)) + 1)) dd_findFewest_207 rfl rfl rfl rfl ?_
        refine R_ld (v := .inl v6) dd_findFewest_209 rfl rfl rfl rfl ?_
        refine R_icmp dd_findFewest_211 rfl rfl (fun (c7 : v6 ≤ ((rd h 201 (20 * v4 + w0 + 30)) + 1)) => ?_) (fun (c7 : ((rd h 201 (20 * v4 + w0 + 30)) + 1) < v6) => ?_)
        · replace k := k.1 c7
          refine R_ld (v := .inl v6) dd_findFewest_219 rfl rfl rfl rfl ?_
          refine R_st (ls' := [some (.inr (.inr 182)), some (.inl v1), some (.inl v2), some (.inl v3), some (.inl v4), some (.inl v5), some (.inl v6), some (.inl v7), some (.inl w0), some (.inl 1), some (.inl ((rd h 201 (20 * v4 + w0 + 30)) + 1))]) dd_findFewest_221 rfl rfl rfl (Nat.le_of_ble_eq_true rfl) rfl rfl ?_
          refine R_inc (y := v7 + 1) (ls' := [some (.inr (.inr 182)), some (.inl v1), some (.inl v2), some (.inl v3), some (.inl v4), some (.inl v5), some (.inl v6), some (.inl (v7 + 1)), some (.inl w0), some (.inl 1), some (.inl ((rd h 201 (20 * v4 + w0 + 30)) + 1))]) dd_findFewest_223 rfl (by decide) (by omega) (by omega) rfl rfl ?_
          refine R_goto dd_findFewest_226 rfl ?_
          exact k
        · replace k := k.2 c7
          refine R_ld (v := .inl ((rd h 201 (20 * v4 + w0 + 30)) + 1)) dd_findFewest_214 rfl rfl rfl rfl ?_
          refine R_goto dd_findFewest_216 rfl ?_
          refine R_st (ls' := [some (.inr (.inr 182)), some (.inl v1), some (.inl v2), some (.inl v3), some (.inl v4), some (.inl v5), some (.inl ((rd h 201 (20 * v4 + w0 + 30)) + 1)), some (.inl v7), some (.inl w0), some (.inl 1), some (.inl ((rd h 201 (20 * v4 + w0 + 30)) + 1))]) dd_findFewest_221 rfl rfl rfl (Nat.le_of_ble_eq_true rfl) rfl rfl ?_
          refine R_inc (y := v7 + 1) (ls' := [some (.inr (.inr 182)), some (.inl v1), some (.inl v2), some (.inl v3), some (.inl v4), some (.inl v5), some (.inl ((rd h 201 (20 * v4 + w0 + 30)) + 1)), some (.inl (v7 + 1)), some (.inl w0), some (.inl 1), some (.inl ((rd h 201 (20 * v4 + w0 + 30)) + 1))]) dd_findFewest_223 rfl (by decide) (by omega) (by omega) rfl rfl ?_
          refine R_goto dd_findFewest_226 rfl ?_
          exact k
    · replace k := k.2 c5
      refine R_C (v := .inl (1000000)) dd_findFewest_170 rfl rfl (by decide +kernel) rfl ?_
      refine R_goto dd_findFewest_173 rfl ?_
      refine R_st (ls' := [some (.inr (.inr 182)), some (.inl v1), some (.inl v2), some (.inl v3), some (.inl v4), some (.inl v5), some (.inl v6), some (.inl v7), some (.inl w0), some (.inl 1), some (.inl 1000000)]) dd_findFewest_205 rfl rfl rfl (Nat.le_of_ble_eq_true rfl) rfl rfl ?_
      refine R_ld (v := .inl 1000000) dd_findFewest_207 rfl rfl rfl rfl ?_
      refine R_ld (v := .inl v6) dd_findFewest_209 rfl rfl rfl rfl ?_
      refine R_icmp dd_findFewest_211 rfl rfl (fun (c8 : v6 ≤ 1000000) => ?_) (fun (c8 : 1000000 < v6) => ?_)
      · replace k := k.1 c8
        refine R_ld (v := .inl v6) dd_findFewest_219 rfl rfl rfl rfl ?_
        refine R_st (ls' := [some (.inr (.inr 182)), some (.inl v1), some (.inl v2), some (.inl v3), some (.inl v4), some (.inl v5), some (.inl v6), some (.inl v7), some (.inl w0), some (.inl 1), some (.inl 1000000)]) dd_findFewest_221 rfl rfl rfl (Nat.le_of_ble_eq_true rfl) rfl rfl ?_
        refine R_inc (y := v7 + 1) (ls' := [some (.inr (.inr 182)), some (.inl v1), some (.inl v2), some (.inl v3), some (.inl v4), some (.inl v5), some (.inl v6), some (.inl (v7 + 1)), some (.inl w0), some (.inl 1), some (.inl 1000000)]) dd_findFewest_223 rfl (by decide) (by omega) (by omega) rfl rfl ?_
        refine R_goto dd_findFewest_226 rfl ?_
        exact k
      · replace k := k.2 c8
        refine R_ld (v := .inl 1000000) dd_findFewest_214 rfl rfl rfl rfl ?_
        refine R_goto dd_findFewest_216 rfl ?_
        refine R_st (ls' := [some (.inr (.inr 182)), some (.inl v1), some (.inl v2), some (.inl v3), some (.inl v4), some (.inl v5), some (.inl 1000000), some (.inl v7), some (.inl w0), some (.inl 1), some (.inl 1000000)]) dd_findFewest_221 rfl rfl rfl (Nat.le_of_ble_eq_true rfl) rfl rfl ?_
        refine R_inc (y := v7 + 1) (ls' := [some (.inr (.inr 182)), some (.inl v1), some (.inl v2), some (.inl v3), some (.inl v4), some (.inl v5), some (.inl 1000000), some (.inl (v7 + 1)), some (.inl w0), some (.inl 1), some (.inl 1000000)]) dd_findFewest_223 rfl (by decide) (by omega) (by omega) rfl rfl ?_
        refine R_goto dd_findFewest_226 rfl ?_
        exact k
  · replace k := k.2 c4
    refine R_ld (v := .inl w0) dd_findFewest_147 rfl rfl rfl rfl ?_
    refine R_ld (v := .inr (.inr 182)) dd_findFewest_149 rfl rfl rfl rfl ?_
    refine R_ld (v := .inl v2) dd_findFewest_150 rfl rfl rfl rfl ?_
    refine R_ic dd_findFewest_151 (by decide) rfl ?_
    refine R_call (as := [.inr (.inr 182), .inl v2, .inl 2]) (rest := [.inl w0]) (M' := mm_personOf) (ls0 := [some (.inr (.inr 182)), some (.inl v2), some (.inl 2)]) dd_findFewest_152 rfl rfl (cw_v cw_12_325 io_182 rfl rfl (Nat.le_of_ble_eq_true rfl) (Nat.le_of_ble_eq_true rfl)) mt_personOf rfl (c := e - 1) (by omega) rfl ?_
    refine R_ld (v := .inr (.inr 182)) dd_personOf_0 rfl rfl rfl rfl ?_
    refine R_gf (v := .inr (.inr 188)) dd_personOf_1 fd_12_95 io_182 (congrArg (fun z : Int => (Sum.inr (Sum.inr z) : LV)) (rf_182_10 hF)) rfl ?_
    refine R_bi dd_personOf_4 (by decide) rfl ?_
    refine R_ic dd_personOf_6 (by decide) rfl ?_
    refine R_ld (v := .inl v2) dd_personOf_7 rfl rfl rfl rfl ?_
    refine R_imul (c := 4 * v2) dd_personOf_8 (by omega) (by omega) rfl ?_
    refine R_iadd (c := 4 * v2 + 116) dd_personOf_9 (by omega) (by omega) rfl ?_
    refine R_ld (v := .inl 2) dd_personOf_10 rfl rfl rfl rfl ?_
    refine R_iadd (c := 4 * v2 + 118) dd_personOf_11 (by omega) (by omega) rfl ?_
    refine R_iald (v := (rd h 188 (4 * v2 + 118))) (n := 300) dd_personOf_12 ia_188 la_188 (by omega) (rfl) rfl ?_
    refine R_iret dd_personOf_13 rfl ?_
    change Rn xs xl e mm_findFewest 155 [some (.inr (.inr 182)), some (.inl v1), some (.inl v2), some (.inl v3), some (.inl v4), some (.inl v5), some (.inl v6), some (.inl v7), some (.inl w0), o9, o10] [.inl (rd h 188 (4 * v2 + 118)), .inl w0] h _
    refine R_icmp dd_findFewest_155 rfl rfl (fun (c9 : w0 ≠ (rd h 188 (4 * v2 + 118))) => ?_) (fun (c9 : w0 = (rd h 188 (4 * v2 + 118))) => ?_)
    · replace k := k.1 c9
      refine R_ic dd_findFewest_162 (by decide) rfl ?_
      refine R_st (ls' := [some (.inr (.inr 182)), some (.inl v1), some (.inl v2), some (.inl v3), some (.inl v4), some (.inl v5), some (.inl v6), some (.inl v7), some (.inl w0), some (.inl 0), o10]) dd_findFewest_163 rfl rfl rfl (Nat.le_of_ble_eq_true rfl) rfl rfl ?_
      refine R_ld (v := .inl w0) dd_findFewest_165 rfl rfl rfl rfl ?_
      refine R_if dd_findFewest_167 rfl rfl (fun (c10 : 0 ≤ w0) => ?_) (fun (c10 : w0 < 0) => ?_)
      · replace k := k.1 c10
        refine R_ic dd_findFewest_176 (by decide) rfl ?_
        refine R_ld (v := .inr (.inr 182)) dd_findFewest_177 rfl rfl rfl rfl ?_
        refine R_gf (v := .inr (.inr 201)) dd_findFewest_178 fd_12_141 io_182 (congrArg (fun z : Int => (Sum.inr (Sum.inr z) : LV)) (rf_182_32 hF)) rfl ?_
        refine R_bi dd_findFewest_181 (by decide) rfl ?_
        refine R_ld (v := .inl v4) dd_findFewest_183 rfl rfl rfl rfl ?_
        refine R_ic dd_findFewest_185 (by decide) rfl ?_
        refine R_iadd (c := v4 + 1) dd_findFewest_186 (by omega) (by omega) rfl ?_
        refine R_imul (c := 20 * v4 + 20) dd_findFewest_187 (by omega) (by omega) rfl ?_
        refine R_ld (v := .inl w0) dd_findFewest_188 rfl rfl rfl rfl ?_
        refine R_iadd (c := 20 * v4 + w0 + 20) dd_findFewest_190 (by omega) (by omega) rfl ?_
        refine R_ld (v := .inl 0) dd_findFewest_191 rfl rfl rfl rfl ?_
        refine R_if dd_findFewest_193 rfl rfl (fun (c11 : 0 = 0) => ?_) (fun (c11 : 0 ≠ 0) => ?_)
        · skip
          refine R_ic dd_findFewest_201 (by decide) rfl ?_
          refine R_iadd (c := 20 * v4 + w0 + 20) dd_findFewest_202 (by omega) (by omega) rfl ?_
          refine R_iald (v := (rd h 201 (20 * v4 + w0 + 20))) (n := 500) dd_findFewest_203 ia_201 la_201 (by omega) (rfl) rfl ?_
          obtain ⟨s2, k⟩ := k
          refine R_iadd (c := (rd h 201 (20 * v4 + w0 + 20)) + 1) dd_findFewest_204 (by omega) s2 rfl ?_
          refine R_st (ls' := [some (.inr (.inr 182)), some (.inl v1), some (.inl v2), some (.inl v3), some (.inl v4), some (.inl v5), some (.inl v6), some (.inl v7), some (.inl w0), some (.inl 0), some (.inl ((rd h 201 (20 * v4 + w0 + 20)) + 1))]) dd_findFewest_205 rfl rfl rfl (Nat.le_of_ble_eq_true rfl) rfl rfl ?_
          refine R_ld (v := .inl ((rd h 201 (20 * v4 + w0 + 20)) + 1)) dd_findFewest_207 rfl rfl rfl rfl ?_
          refine R_ld (v := .inl v6) dd_findFewest_209 rfl rfl rfl rfl ?_
          refine R_icmp dd_findFewest_211 rfl rfl (fun (c12 : v6 ≤ ((rd h 201 (20 * v4 + w0 + 20)) + 1)) => ?_) (fun (c12 : ((rd h 201 (20 * v4 + w0 + 20)) + 1) < v6) => ?_)
          · replace k := k.1 c12
            refine R_ld (v := .inl v6) dd_findFewest_219 rfl rfl rfl rfl ?_
            refine R_st (ls' := [some (.inr (.inr 182)), some (.inl v1), some (.inl v2), some (.inl v3), some (.inl v4), some (.inl v5), some (.inl v6), some (.inl v7), some (.inl w0), some (.inl 0), some (.inl ((rd h 201 (20 * v4 + w0 + 20)) + 1))]) dd_findFewest_221 rfl rfl rfl (Nat.le_of_ble_eq_true rfl) rfl rfl ?_
            refine R_inc (y := v7 + 1) (ls' := [some (.inr (.inr 182)), some (.inl v1), some (.inl v2), some (.inl v3), some (.inl v4), some (.inl v5), some (.inl v6), some (.inl (v7 + 1)), some (.inl w0), some (.inl 0), some (.inl ((rd h 201 (20 * v4 + w0 + 20)) + 1))]) dd_findFewest_223 rfl (by decide) (by omega) (by omega) rfl rfl ?_
            refine R_goto dd_findFewest_226 rfl ?_
            exact k
          · replace k := k.2 c12
            refine R_ld (v := .inl ((rd h 201 (20 * v4 + w0 + 20)) + 1)) dd_findFewest_214 rfl rfl rfl rfl ?_
            refine R_goto dd_findFewest_216 rfl ?_
            refine R_st (ls' := [some (.inr (.inr 182)), some (.inl v1), some (.inl v2), some (.inl v3), some (.inl v4), some (.inl v5), some (.inl ((rd h 201 (20 * v4 + w0 + 20)) + 1)), some (.inl v7), some (.inl w0), some (.inl 0), some (.inl ((rd h 201 (20 * v4 + w0 + 20)) + 1))]) dd_findFewest_221 rfl rfl rfl (Nat.le_of_ble_eq_true rfl) rfl rfl ?_
            refine R_inc (y := v7 + 1) (ls' := [some (.inr (.inr 182)), some (.inl v1), some (.inl v2), some (.inl v3), some (.inl v4), some (.inl v5), some (.inl ((rd h 201 (20 * v4 + w0 + 20)) + 1)), some (.inl (v7 + 1)), some (.inl w0), some (.inl 0), some (.inl ((rd h 201 (20 * v4 + w0 + 20)) + 1))]) dd_findFewest_223 rfl (by decide) (by omega) (by omega) rfl rfl ?_
            refine R_goto dd_findFewest_226 rfl ?_
            exact k
        · exact absurd c11 (by omega)
      · replace k := k.2 c10
        refine R_C (v := .inl (1000000)) dd_findFewest_170 rfl rfl (by decide +kernel) rfl ?_
        refine R_goto dd_findFewest_173 rfl ?_
        refine R_st (ls' := [some (.inr (.inr 182)), some (.inl v1), some (.inl v2), some (.inl v3), some (.inl v4), some (.inl v5), some (.inl v6), some (.inl v7), some (.inl w0), some (.inl 0), some (.inl 1000000)]) dd_findFewest_205 rfl rfl rfl (Nat.le_of_ble_eq_true rfl) rfl rfl ?_
        refine R_ld (v := .inl 1000000) dd_findFewest_207 rfl rfl rfl rfl ?_
        refine R_ld (v := .inl v6) dd_findFewest_209 rfl rfl rfl rfl ?_
        refine R_icmp dd_findFewest_211 rfl rfl (fun (c13 : v6 ≤ 1000000) => ?_) (fun (c13 : 1000000 < v6) => ?_)
        · replace k := k.1 c13
          refine R_ld (v := .inl v6) dd_findFewest_219 rfl rfl rfl rfl ?_
          refine R_st (ls' := [some (.inr (.inr 182)), some (.inl v1), some (.inl v2), some (.inl v3), some (.inl v4), some (.inl v5), some (.inl v6), some (.inl v7), some (.inl w0), some (.inl 0), some (.inl 1000000)]) dd_findFewest_221 rfl rfl rfl (Nat.le_of_ble_eq_true rfl) rfl rfl ?_
          refine R_inc (y := v7 + 1) (ls' := [some (.inr (.inr 182)), some (.inl v1), some (.inl v2), some (.inl v3), some (.inl v4), some (.inl v5), some (.inl v6), some (.inl (v7 + 1)), some (.inl w0), some (.inl 0), some (.inl 1000000)]) dd_findFewest_223 rfl (by decide) (by omega) (by omega) rfl rfl ?_
          refine R_goto dd_findFewest_226 rfl ?_
          exact k
        · replace k := k.2 c13
          refine R_ld (v := .inl 1000000) dd_findFewest_214 rfl rfl rfl rfl ?_
          refine R_goto dd_findFewest_216 rfl ?_
          refine R_st (ls' := [some (.inr (.inr 182)), some (.inl v1), some (.inl v2), some (.inl v3), some (.inl v4), some (.inl v5), some (.inl 1000000), some (.inl v7), some (.inl w0), some (.inl 0), some (.inl 1000000)]) dd_findFewest_221 rfl rfl rfl (Nat.le_of_ble_eq_true rfl) rfl rfl ?_
          refine R_inc (y := v7 + 1) (ls' := [some (.inr (.inr 182)), some (.inl v1), some (.inl v2), some (.inl v3), some (.inl v4), some (.inl v5), some (.inl 1000000), some (.inl (v7 + 1)), some (.inl w0), some (.inl 0), some (.inl 1000000)]) dd_findFewest_223 rfl (by decide) (by omega) (by omega) rfl rfl ?_
          refine R_goto dd_findFewest_226 rfl ?_
          exact k
    · replace k := k.2 c9
      refine R_ic dd_findFewest_158 (by decide) rfl ?_
      refine R_goto dd_findFewest_159 rfl ?_
      refine R_st (ls' := [some (.inr (.inr 182)), some (.inl v1), some (.inl v2), some (.inl v3), some (.inl v4), some (.inl v5), some (.inl v6), some (.inl v7), some (.inl w0), some (.inl 1), o10]) dd_findFewest_163 rfl rfl rfl (Nat.le_of_ble_eq_true rfl) rfl rfl ?_
      refine R_ld (v := .inl w0) dd_findFewest_165 rfl rfl rfl rfl ?_
      refine R_if dd_findFewest_167 rfl rfl (fun (c14 : 0 ≤ w0) => ?_) (fun (c14 : w0 < 0) => ?_)
      · replace k := k.1 c14
        refine R_ic dd_findFewest_176 (by decide) rfl ?_
        refine R_ld (v := .inr (.inr 182)) dd_findFewest_177 rfl rfl rfl rfl ?_
        refine R_gf (v := .inr (.inr 201)) dd_findFewest_178 fd_12_141 io_182 (congrArg (fun z : Int => (Sum.inr (Sum.inr z) : LV)) (rf_182_32 hF)) rfl ?_
        refine R_bi dd_findFewest_181 (by decide) rfl ?_
        refine R_ld (v := .inl v4) dd_findFewest_183 rfl rfl rfl rfl ?_
        refine R_ic dd_findFewest_185 (by decide) rfl ?_
        refine R_iadd (c := v4 + 1) dd_findFewest_186 (by omega) (by omega) rfl ?_
        refine R_imul (c := 20 * v4 + 20) dd_findFewest_187 (by omega) (by omega) rfl ?_
        refine R_ld (v := .inl w0) dd_findFewest_188 rfl rfl rfl rfl ?_
        refine R_iadd (c := 20 * v4 + w0 + 20) dd_findFewest_190 (by omega) (by omega) rfl ?_
        refine R_ld (v := .inl 1) dd_findFewest_191 rfl rfl rfl rfl ?_
        refine R_if dd_findFewest_193 rfl rfl (fun (c15 : 1 = 0) => ?_) (fun (c15 : 1 ≠ 0) => ?_)
        · exact absurd c15 (by omega)
        · skip
          refine R_bi dd_findFewest_196 (by decide) rfl ?_
          refine R_goto dd_findFewest_198 rfl ?_
          refine R_iadd (c := 20 * v4 + w0 + 30) dd_findFewest_202 (by omega) (by omega) rfl ?_
          refine R_iald (v := (rd h 201 (20 * v4 + w0 + 30))) (n := 500) dd_findFewest_203 ia_201 la_201 (by omega) (rfl) rfl ?_
          obtain ⟨s3, k⟩ := k
          refine R_iadd (c := (rd h 201 (20 * v4 + w0 + 30)) + 1) dd_findFewest_204 (by omega) s3 rfl ?_
          refine R_st (ls' := [some (.inr (.inr 182)), some (.inl v1), some (.inl v2), some (.inl v3), some (.inl v4), some (.inl v5), some (.inl v6), some (.inl v7), some (.inl w0), some (.inl 1), some (.inl ((rd h 201 (20 * v4 + w0 + 30)) + 1))]) dd_findFewest_205 rfl rfl rfl (Nat.le_of_ble_eq_true rfl) rfl rfl ?_
          refine R_ld (v := .inl ((rd h 201 (20 * v4 + w0 + 30)) + 1)) dd_findFewest_207 rfl rfl rfl rfl ?_
          refine R_ld (v := .inl v6) dd_findFewest_209 rfl rfl rfl rfl ?_
          refine R_icmp dd_findFewest_211 rfl rfl (fun (c16 : v6 ≤ ((rd h 201 (20 * v4 + w0 + 30)) + 1)) => ?_) (fun (c16 : ((rd h 201 (20 * v4 + w0 + 30)) + 1) < v6) => ?_)
          · replace k := k.1 c16
            refine R_ld (v := .inl v6) dd_findFewest_219 rfl rfl rfl rfl ?_
            refine R_st (ls' := [some (.inr (.inr 182)), some (.inl v1), some (.inl v2), some (.inl v3), some (.inl v4), some (.inl v5), some (.inl v6), some (.inl v7), some (.inl w0), some (.inl 1), some (.inl ((rd h 201 (20 * v4 + w0 + 30)) + 1))]) dd_findFewest_221 rfl rfl rfl (Nat.le_of_ble_eq_true rfl) rfl rfl ?_
            refine R_inc (y := v7 + 1) (ls' := [some (.inr (.inr 182)), some (.inl v1), some (.inl v2), some (.inl v3), some (.inl v4), some (.inl v5), some (.inl v6), some (.inl (v7 + 1)), some (.inl w0), some (.inl 1), some (.inl ((rd h 201 (20 * v4 + w0 + 30)) + 1))]) dd_findFewest_223 rfl (by decide) (by omega) (by omega) rfl rfl ?_
            refine R_goto dd_findFewest_226 rfl ?_
            exact k
          · replace k := k.2 c16
            refine R_ld (v := .inl ((rd h 201 (20 * v4 + w0 + 30)) + 1)) dd_findFewest_214 rfl rfl rfl rfl ?_
            refine R_goto dd_findFewest_216 rfl ?_
            refine R_st (ls' := [some (.inr (.inr 182)), some (.inl v1), some (.inl v2), some (.inl v3), some (.inl v4), some (.inl v5), some (.inl ((rd h 201 (20 * v4 + w0 + 30)) + 1)), some (.inl v7), some (.inl w0), some (.inl 1), some (.inl ((rd h 201 (20 * v4 + w0 + 30)) + 1))]) dd_findFewest_221 rfl rfl rfl (Nat.le_of_ble_eq_true rfl) rfl rfl ?_
            refine R_inc (y := v7 + 1) (ls' := [some (.inr (.inr 182)), some (.inl v1), some (.inl v2), some (.inl v3), some (.inl v4), some (.inl v5), some (.inl ((rd h 201 (20 * v4 + w0 + 30)) + 1)), some (.inl (v7 + 1)), some (.inl w0), some (.inl 1), some (.inl ((rd h 201 (20 * v4 + w0 + 30)) + 1))]) dd_findFewest_223 rfl (by decide) (by omega) (by omega) rfl rfl ?_
            refine R_goto dd_findFewest_226 rfl ?_
            exact k
      · replace k := k.2 c14
        refine R_C (v := .inl (1000000)) dd_findFewest_170 rfl rfl (by decide +kernel) rfl ?_
        refine R_goto dd_findFewest_173 rfl ?_
        refine R_st (ls' := [some (.inr (.inr 182)), some (.inl v1), some (.inl v2), some (.inl v3), some (.inl v4), some (.inl v5), some (.inl v6), some (.inl v7), some (.inl w0), some (.inl 1), some (.inl 1000000)]) dd_findFewest_205 rfl rfl rfl (Nat.le_of_ble_eq_true rfl) rfl rfl ?_
        refine R_ld (v := .inl 1000000) dd_findFewest_207 rfl rfl rfl rfl ?_
        refine R_ld (v := .inl v6) dd_findFewest_209 rfl rfl rfl rfl ?_
        refine R_icmp dd_findFewest_211 rfl rfl (fun (c17 : v6 ≤ 1000000) => ?_) (fun (c17 : 1000000 < v6) => ?_)
        · replace k := k.1 c17
          refine R_ld (v := .inl v6) dd_findFewest_219 rfl rfl rfl rfl ?_
          refine R_st (ls' := [some (.inr (.inr 182)), some (.inl v1), some (.inl v2), some (.inl v3), some (.inl v4), some (.inl v5), some (.inl v6), some (.inl v7), some (.inl w0), some (.inl 1), some (.inl 1000000)]) dd_findFewest_221 rfl rfl rfl (Nat.le_of_ble_eq_true rfl) rfl rfl ?_
          refine R_inc (y := v7 + 1) (ls' := [some (.inr (.inr 182)), some (.inl v1), some (.inl v2), some (.inl v3), some (.inl v4), some (.inl v5), some (.inl v6), some (.inl (v7 + 1)), some (.inl w0), some (.inl 1), some (.inl 1000000)]) dd_findFewest_223 rfl (by decide) (by omega) (by omega) rfl rfl ?_
          refine R_goto dd_findFewest_226 rfl ?_
          exact k
        · replace k := k.2 c17
          refine R_ld (v := .inl 1000000) dd_findFewest_214 rfl rfl rfl rfl ?_
          refine R_goto dd_findFewest_216 rfl ?_
          refine R_st (ls' := [some (.inr (.inr 182)), some (.inl v1), some (.inl v2), some (.inl v3), some (.inl v4), some (.inl v5), some (.inl 1000000), some (.inl v7), some (.inl w0), some (.inl 1), some (.inl 1000000)]) dd_findFewest_221 rfl rfl rfl (Nat.le_of_ble_eq_true rfl) rfl rfl ?_
          refine R_inc (y := v7 + 1) (ls' := [some (.inr (.inr 182)), some (.inl v1), some (.inl v2), some (.inl v3), some (.inl v4), some (.inl v5), some (.inl 1000000), some (.inl (v7 + 1)), some (.inl w0), some (.inl 1), some (.inl 1000000)]) dd_findFewest_223 rfl (by decide) (by omega) (by omega) rfl rfl ?_
          refine R_goto dd_findFewest_226 rfl ?_
          exact k
theorem B_findFewest_229 {xs : Nat → Int} {xl e : Nat} {h : LH} {Q : Option LV → LH → Prop} {v1 v2 v3 v4 v5 v6 v7 : Int} {o8 : Option LV} {o9 : Option LV} {o10 : Option LV} (hF : RF h) (r_v1 : 0 ≤ v1 ∧ v1 ≤ 1540) (r_v2 : 0 ≤ v2 ∧ v2 ≤ 5) (r_v4 : 0 ≤ v4 ∧ v4 ≤ 23) (r_v5 : 0 ≤ v5 ∧ v5 ≤ 19)
    (k : Rn xs xl e mm_findFewest 70 [some (.inr (.inr 182)), some (.inl v1), some (.inl v2), some (.inl v3), some (.inl v4), some (.inl (v5 + 1)), some (.inl v6), some (.inl v7), o8, o9, o10] [] (wr h 201 (20 * v4 + v5) v6) Q) :
    Rn xs xl e mm_findFewest 229 [some (.inr (.inr 182)), some (.inl v1), some (.inl v2), some (.inl v3), some (.inl v4), some (.inl v5), some (.inl v6), some (.inl v7), o8, o9, o10] [] h Q := by
  refine R_ld (v := .inr (.inr 182)) dd_findFewest_229 rfl rfl rfl rfl ?_
  refine R_gf (v := .inr (.inr 201)) dd_findFewest_230 fd_12_141 io_182 (congrArg (fun z : Int => (Sum.inr (Sum.inr z) : LV)) (rf_182_32 hF)) rfl ?_
  refine R_bi dd_findFewest_233 (by decide) rfl ?_
  refine R_ld (v := .inl v4) dd_findFewest_235 rfl rfl rfl rfl ?_
  refine R_imul (c := 20 * v4) dd_findFewest_237 (by omega) (by omega) rfl ?_
  refine R_ld (v := .inl v5) dd_findFewest_238 rfl rfl rfl rfl ?_
  refine R_iadd (c := 20 * v4 + v5) dd_findFewest_240 (by omega) (by omega) rfl ?_
  refine R_ld (v := .inl v6) dd_findFewest_241 rfl rfl rfl rfl ?_
  refine R_iast (n := 500) dd_findFewest_243 ia_201 la_201 (by omega) rfl ?_
  refine R_inc (y := v5 + 1) (ls' := [some (.inr (.inr 182)), some (.inl v1), some (.inl v2), some (.inl v3), some (.inl v4), some (.inl (v5 + 1)), some (.inl v6), some (.inl v7), o8, o9, o10]) dd_findFewest_244 rfl (by decide) (by omega) (by omega) rfl rfl ?_
  refine R_goto dd_findFewest_247 rfl ?_
  exact k
theorem B_isNext_0 {xs : Nat → Int} {xl e : Nat} {h : LH} {Q : Option LV → LH → Prop} {v1 v2 v3 v4 v5 v6 v7 : Int} (hF : RF h) (r_v1 : 0 ≤ v1 ∧ v1 ≤ 1540) (r_v2 : 0 ≤ v2 ∧ v2 ≤ 5)
    (k : Rn xs xl e mm_isNext 4 [some (.inr (.inr 182)), some (.inl v1), some (.inl v2), some (.inl v3), some (.inl v4), some (.inl v5), some (.inl v6), some (.inl v7), some (.inl v5), none] [] h Q) :
    Rn xs xl e mm_isNext 0 [some (.inr (.inr 182)), some (.inl v1), some (.inl v2), some (.inl v3), some (.inl v4), some (.inl v5), some (.inl v6), some (.inl v7), none, none] [] h Q := by
  refine R_ld (v := .inl v5) dd_isNext_0 rfl rfl rfl rfl ?_
  refine R_st (ls' := [some (.inr (.inr 182)), some (.inl v1), some (.inl v2), some (.inl v3), some (.inl v4), some (.inl v5), some (.inl v6), some (.inl v7), some (.inl v5), none]) dd_isNext_2 rfl rfl rfl (Nat.le_of_ble_eq_true rfl) rfl rfl ?_
  exact k
theorem B_isNext_4 {xs : Nat → Int} {xl e : Nat} {h : LH} {Q : Option LV → LH → Prop} {v1 v2 v3 v4 v5 v6 v7 v8 : Int} (hF : RF h) (r_v1 : 0 ≤ v1 ∧ v1 ≤ 1540) (r_v2 : 0 ≤ v2 ∧ v2 ≤ 5) (r_v3 : 0 ≤ v3 ∧ v3 ≤ 19) (r_v8 : 0 ≤ v8 ∧ v8 ≤ 24) (he : 1 ≤ e)
    (k : (v6 < v8 →
        Rn xs xl e mm_isNext 39 [some (.inr (.inr 182)), some (.inl v1), some (.inl v2), some (.inl v3), some (.inl v4), some (.inl v5), some (.inl v6), some (.inl v7), some (.inl v8), none] [] h Q) ∧
      (v8 ≤ v6 →
        (∃ c, c < e ∧ Rn xs xl c mm_leadsNow 0 [some (.inr (.inr 182)), some (.inl v1), some (.inl v4), some (.inl (rd h 188 (4 * v2 + 116))), some (.inl (v3 % 10)), some (.inl v8)] [] h (fun r h' => Rn xs xl e mm_isNext 30 [some (.inr (.inr 182)), some (.inl v1), some (.inl v2), some (.inl v3), some (.inl v4), some (.inl v5), some (.inl v6), some (.inl v7), some (.inl v8), none] (r.toList ++ []) h' Q)))) :
    Rn xs xl e mm_isNext 4 [some (.inr (.inr 182)), some (.inl v1), some (.inl v2), some (.inl v3), some (.inl v4), some (.inl v5), some (.inl v6), some (.inl v7), some (.inl v8), none] [] h Q := by
  refine R_ld (v := .inl v8) dd_isNext_4 rfl rfl rfl rfl ?_
  refine R_ld (v := .inl v6) dd_isNext_6 rfl rfl rfl rfl ?_
  refine R_icmp dd_isNext_8 rfl rfl (fun (c2 : v6 < v8) => ?_) (fun (c2 : v8 ≤ v6) => ?_)
  · replace k := k.1 c2
    exact k
  · replace k := k.2 c2
    refine R_ld (v := .inr (.inr 182)) dd_isNext_11 rfl rfl rfl rfl ?_
    refine R_ld (v := .inl v1) dd_isNext_12 rfl rfl rfl rfl ?_
    refine R_ld (v := .inl v4) dd_isNext_13 rfl rfl rfl rfl ?_
    refine R_ld (v := .inr (.inr 182)) dd_isNext_15 rfl rfl rfl rfl ?_
    refine R_ld (v := .inl v2) dd_isNext_16 rfl rfl rfl rfl ?_
    refine R_ic dd_isNext_17 (by decide) rfl ?_
    refine R_call (as := [.inr (.inr 182), .inl v2, .inl 0]) (rest := [.inl v4, .inl v1, .inr (.inr 182)]) (M' := mm_personOf) (ls0 := [some (.inr (.inr 182)), some (.inl v2), some (.inl 0)]) dd_isNext_18 rfl rfl (cw_v cw_12_325 io_182 rfl rfl (Nat.le_of_ble_eq_true rfl) (Nat.le_of_ble_eq_true rfl)) mt_personOf rfl (c := e - 1) (by omega) rfl ?_
    refine R_ld (v := .inr (.inr 182)) dd_personOf_0 rfl rfl rfl rfl ?_
    refine R_gf (v := .inr (.inr 188)) dd_personOf_1 fd_12_95 io_182 (congrArg (fun z : Int => (Sum.inr (Sum.inr z) : LV)) (rf_182_10 hF)) rfl ?_
    refine R_bi dd_personOf_4 (by decide) rfl ?_
    refine R_ic dd_personOf_6 (by decide) rfl ?_
    refine R_ld (v := .inl v2) dd_personOf_7 rfl rfl rfl rfl ?_
    refine R_imul (c := 4 * v2) dd_personOf_8 (by omega) (by omega) rfl ?_
    refine R_iadd (c := 4 * v2 + 116) dd_personOf_9 (by omega) (by omega) rfl ?_
    refine R_ld (v := .inl 0) dd_personOf_10 rfl rfl rfl rfl ?_
    refine R_iadd (c := 4 * v2 + 116) dd_personOf_11 (by omega) (by omega) rfl ?_
    refine R_iald (v := (rd h 188 (4 * v2 + 116))) (n := 300) dd_personOf_12 ia_188 la_188 (by omega) (rfl) rfl ?_
    refine R_iret dd_personOf_13 rfl ?_
    change Rn xs xl e mm_isNext 21 [some (.inr (.inr 182)), some (.inl v1), some (.inl v2), some (.inl v3), some (.inl v4), some (.inl v5), some (.inl v6), some (.inl v7), some (.inl v8), none] [.inl (rd h 188 (4 * v2 + 116)), .inl v4, .inl v1, .inr (.inr 182)] h _
    refine R_ld (v := .inl v3) dd_isNext_21 rfl rfl rfl rfl ?_
    refine R_bi dd_isNext_22 (by decide) rfl ?_
    refine R_irem dd_isNext_24 (by omega) (by decide) rfl ?_
    refine R_ld (v := .inl v8) dd_isNext_25 rfl rfl rfl rfl ?_
    obtain ⟨c, hc, k⟩ := k
    exact R_call (as := [.inr (.inr 182), .inl v1, .inl v4, .inl (rd h 188 (4 * v2 + 116)), .inl (v3 % 10), .inl v8]) (rest := []) (M' := mm_leadsNow) (ls0 := [some (.inr (.inr 182)), some (.inl v1), some (.inl v4), some (.inl (rd h 188 (4 * v2 + 116))), some (.inl (v3 % 10)), some (.inl v8)]) dd_isNext_27 rfl rfl (cw_v cw_12_373 io_182 rfl rfl (Nat.le_of_ble_eq_true rfl) (Nat.le_of_ble_eq_true rfl)) mt_leadsNow rfl hc rfl k
theorem B_isNext_30 {xs : Nat → Int} {xl e : Nat} {h : LH} {Q : Option LV → LH → Prop} {v1 v2 v3 v4 v5 v6 v7 v8 w0 : Int} (hF : RF h) (r_v1 : 0 ≤ v1 ∧ v1 ≤ 1540) (r_v2 : 0 ≤ v2 ∧ v2 ≤ 5) (r_v8 : 0 ≤ v8 ∧ v8 ≤ 23)
    (k : (0 ≤ w0 →
        Rn xs xl e mm_isNext 39 [some (.inr (.inr 182)), some (.inl v1), some (.inl v2), some (.inl v3), some (.inl v4), some (.inl v5), some (.inl v6), some (.inl v7), some (.inl v8), none] [] h Q) ∧
      (w0 < 0 →
        Rn xs xl e mm_isNext 4 [some (.inr (.inr 182)), some (.inl v1), some (.inl v2), some (.inl v3), some (.inl v4), some (.inl v5), some (.inl v6), some (.inl v7), some (.inl (v8 + 1)), none] [] h Q)) :
    Rn xs xl e mm_isNext 30 [some (.inr (.inr 182)), some (.inl v1), some (.inl v2), some (.inl v3), some (.inl v4), some (.inl v5), some (.inl v6), some (.inl v7), some (.inl v8), none] [.inl w0] h Q := by
  refine R_if dd_isNext_30 rfl rfl (fun (c1 : 0 ≤ w0) => ?_) (fun (c1 : w0 < 0) => ?_)
  · replace k := k.1 c1
    exact k
  · replace k := k.2 c1
    refine R_inc (y := v8 + 1) (ls' := [some (.inr (.inr 182)), some (.inl v1), some (.inl v2), some (.inl v3), some (.inl v4), some (.inl v5), some (.inl v6), some (.inl v7), some (.inl (v8 + 1)), none]) dd_isNext_33 rfl (by decide) (by omega) (by omega) rfl rfl ?_
    refine R_goto dd_isNext_36 rfl ?_
    exact k
theorem B_isNext_39 {xs : Nat → Int} {xl e : Nat} {h : LH} {Q : Option LV → LH → Prop} {v1 v2 v3 v4 v5 v6 v7 v8 : Int} (hF : RF h) (r_v1 : 0 ≤ v1 ∧ v1 ≤ 1540) (r_v2 : 0 ≤ v2 ∧ v2 ≤ 5) (r_v3 : 0 ≤ v3 ∧ v3 ≤ 19) (he : 1 ≤ e)
    (k : (v8 ≤ v6 →
        (∃ c, c < e ∧ Rn xs xl c mm_leadsNow 0 [some (.inr (.inr 182)), some (.inl v1), some (.inl v4), some (.inl (rd h 188 (4 * v2 + 116))), some (.inl (v3 % 10)), some (.inl v8)] [] h (fun r h' => Rn xs xl e mm_isNext 67 [some (.inr (.inr 182)), some (.inl v1), some (.inl v2), some (.inl v3), some (.inl v4), some (.inl v5), some (.inl v6), some (.inl v7), some (.inl v8), none] (r.toList ++ []) h' Q))) ∧
      (v6 < v8 →
        Q (some (.inl 0)) h)) :
    Rn xs xl e mm_isNext 39 [some (.inr (.inr 182)), some (.inl v1), some (.inl v2), some (.inl v3), some (.inl v4), some (.inl v5), some (.inl v6), some (.inl v7), some (.inl v8), none] [] h Q := by
  refine R_ld (v := .inl v8) dd_isNext_39 rfl rfl rfl rfl ?_
  refine R_ld (v := .inl v6) dd_isNext_41 rfl rfl rfl rfl ?_
  refine R_icmp dd_isNext_43 rfl rfl (fun (c2 : v8 ≤ v6) => ?_) (fun (c2 : v6 < v8) => ?_)
  · replace k := k.1 c2
    refine R_ld (v := .inr (.inr 182)) dd_isNext_48 rfl rfl rfl rfl ?_
    refine R_ld (v := .inl v1) dd_isNext_49 rfl rfl rfl rfl ?_
    refine R_ld (v := .inl v4) dd_isNext_50 rfl rfl rfl rfl ?_
    refine R_ld (v := .inr (.inr 182)) dd_isNext_52 rfl rfl rfl rfl ?_
    refine R_ld (v := .inl v2) dd_isNext_53 rfl rfl rfl rfl ?_
    refine R_ic dd_isNext_54 (by decide) rfl ?_
    refine R_call (as := [.inr (.inr 182), .inl v2, .inl 0]) (rest := [.inl v4, .inl v1, .inr (.inr 182)]) (M' := mm_personOf) (ls0 := [some (.inr (.inr 182)), some (.inl v2), some (.inl 0)]) dd_isNext_55 rfl rfl (cw_v cw_12_325 io_182 rfl rfl (Nat.le_of_ble_eq_true rfl) (Nat.le_of_ble_eq_true rfl)) mt_personOf rfl (c := e - 1) (by omega) rfl ?_
    refine R_ld (v := .inr (.inr 182)) dd_personOf_0 rfl rfl rfl rfl ?_
    refine R_gf (v := .inr (.inr 188)) dd_personOf_1 fd_12_95 io_182 (congrArg (fun z : Int => (Sum.inr (Sum.inr z) : LV)) (rf_182_10 hF)) rfl ?_
    refine R_bi dd_personOf_4 (by decide) rfl ?_
    refine R_ic dd_personOf_6 (by decide) rfl ?_
    refine R_ld (v := .inl v2) dd_personOf_7 rfl rfl rfl rfl ?_
    refine R_imul (c := 4 * v2) dd_personOf_8 (by omega) (by omega) rfl ?_
    refine R_iadd (c := 4 * v2 + 116) dd_personOf_9 (by omega) (by omega) rfl ?_
    refine R_ld (v := .inl 0) dd_personOf_10 rfl rfl rfl rfl ?_
    refine R_iadd (c := 4 * v2 + 116) dd_personOf_11 (by omega) (by omega) rfl ?_
    refine R_iald (v := (rd h 188 (4 * v2 + 116))) (n := 300) dd_personOf_12 ia_188 la_188 (by omega) (rfl) rfl ?_
    refine R_iret dd_personOf_13 rfl ?_
    change Rn xs xl e mm_isNext 58 [some (.inr (.inr 182)), some (.inl v1), some (.inl v2), some (.inl v3), some (.inl v4), some (.inl v5), some (.inl v6), some (.inl v7), some (.inl v8), none] [.inl (rd h 188 (4 * v2 + 116)), .inl v4, .inl v1, .inr (.inr 182)] h _
    refine R_ld (v := .inl v3) dd_isNext_58 rfl rfl rfl rfl ?_
    refine R_bi dd_isNext_59 (by decide) rfl ?_
    refine R_irem dd_isNext_61 (by omega) (by decide) rfl ?_
    refine R_ld (v := .inl v8) dd_isNext_62 rfl rfl rfl rfl ?_
    obtain ⟨c, hc, k⟩ := k
    exact R_call (as := [.inr (.inr 182), .inl v1, .inl v4, .inl (rd h 188 (4 * v2 + 116)), .inl (v3 % 10), .inl v8]) (rest := []) (M' := mm_leadsNow) (ls0 := [some (.inr (.inr 182)), some (.inl v1), some (.inl v4), some (.inl (rd h 188 (4 * v2 + 116))), some (.inl (v3 % 10)), some (.inl v8)]) dd_isNext_64 rfl rfl (cw_v cw_12_373 io_182 rfl rfl (Nat.le_of_ble_eq_true rfl) (Nat.le_of_ble_eq_true rfl)) mt_leadsNow rfl hc rfl k
  · replace k := k.2 c2
    refine R_ic dd_isNext_46 (by decide) rfl ?_
    exact R_zret dd_isNext_47 rfl (by decide) k
theorem B_isNext_67 {xs : Nat → Int} {xl e : Nat} {h : LH} {Q : Option LV → LH → Prop} {v1 v2 v3 v4 v5 v6 v7 v8 w0 : Int} (hF : RF h) (r_v1 : 0 ≤ v1 ∧ v1 ≤ 1540) (r_v2 : 0 ≤ v2 ∧ v2 ≤ 5) (r_v3 : 0 ≤ v3 ∧ v3 ≤ 19) (r_v8 : 0 ≤ v8 ∧ v8 ≤ 23) (r_w0 : 0 ≤ w0 ∧ w0 ≤ 9) (he : 1 ≤ e)
    (k : (10 ≤ v3 →
        (-2147483648 ≤ 20 * (v8 + 1) ∧ 20 * (v8 + 1) ≤ 2147483647) ∧
        (-2147483648 ≤ 20 * (v8 + 1) + (w0 + 10) ∧ 20 * (v8 + 1) + (w0 + 10) ≤ 2147483647) ∧
        (0 ≤ 20 * (v8 + 1) + (w0 + 10) ∧ 20 * (v8 + 1) + (w0 + 10) < 500) ∧
        ((rd h 201 (20 * (v8 + 1) + (w0 + 10))) ≠ v7 →
          Q (some (.inl 0)) (wr (wr h 182 35 (w0 + 10)) 182 36 (v8 + 1))) ∧
        ((rd h 201 (20 * (v8 + 1) + (w0 + 10))) = v7 →
          Q (some (.inl 1)) (wr (wr h 182 35 (w0 + 10)) 182 36 (v8 + 1)))) ∧
      (v3 < 10 →
        (w0 ≠ (rd h 188 (4 * v2 + 118)) →
          (-2147483648 ≤ 20 * (v8 + 1) ∧ 20 * (v8 + 1) ≤ 2147483647) ∧
          (-2147483648 ≤ 20 * (v8 + 1) + w0 ∧ 20 * (v8 + 1) + w0 ≤ 2147483647) ∧
          (0 ≤ 20 * (v8 + 1) + w0 ∧ 20 * (v8 + 1) + w0 < 500) ∧
          ((rd h 201 (20 * (v8 + 1) + w0)) ≠ v7 →
            Q (some (.inl 0)) (wr (wr h 182 35 w0) 182 36 (v8 + 1))) ∧
          ((rd h 201 (20 * (v8 + 1) + w0)) = v7 →
            Q (some (.inl 1)) (wr (wr h 182 35 w0) 182 36 (v8 + 1)))) ∧
        (w0 = (rd h 188 (4 * v2 + 118)) →
          (-2147483648 ≤ 20 * (v8 + 1) ∧ 20 * (v8 + 1) ≤ 2147483647) ∧
          (-2147483648 ≤ 20 * (v8 + 1) + (w0 + 10) ∧ 20 * (v8 + 1) + (w0 + 10) ≤ 2147483647) ∧
          (0 ≤ 20 * (v8 + 1) + (w0 + 10) ∧ 20 * (v8 + 1) + (w0 + 10) < 500) ∧
          ((rd h 201 (20 * (v8 + 1) + (w0 + 10))) ≠ v7 →
            Q (some (.inl 0)) (wr (wr h 182 35 (w0 + 10)) 182 36 (v8 + 1))) ∧
          ((rd h 201 (20 * (v8 + 1) + (w0 + 10))) = v7 →
            Q (some (.inl 1)) (wr (wr h 182 35 (w0 + 10)) 182 36 (v8 + 1)))))) :
    Rn xs xl e mm_isNext 67 [some (.inr (.inr 182)), some (.inl v1), some (.inl v2), some (.inl v3), some (.inl v4), some (.inl v5), some (.inl v6), some (.inl v7), some (.inl v8), none] [.inl w0] h Q := by
  refine R_st (ls' := [some (.inr (.inr 182)), some (.inl v1), some (.inl v2), some (.inl v3), some (.inl v4), some (.inl v5), some (.inl v6), some (.inl v7), some (.inl v8), some (.inl w0)]) dd_isNext_67 rfl rfl rfl (Nat.le_of_ble_eq_true rfl) rfl rfl ?_
  refine R_ld (v := .inr (.inr 182)) dd_isNext_69 rfl rfl rfl rfl ?_
  refine R_ld (v := .inl w0) dd_isNext_70 rfl rfl rfl rfl ?_
  refine R_ld (v := .inl v3) dd_isNext_72 rfl rfl rfl rfl ?_
  refine R_bi dd_isNext_73 (by decide) rfl ?_
  refine R_icmp dd_isNext_75 rfl rfl (fun (c10 : 10 ≤ v3) => ?_) (fun (c10 : v3 < 10) => ?_)
  · replace k := k.1 c10
    refine R_bi dd_isNext_89 (by decide) rfl ?_
    refine R_goto dd_isNext_91 rfl ?_
    refine R_iadd (c := w0 + 10) dd_isNext_95 (by omega) (by omega) rfl ?_
    refine R_pf (z := (w0 + 10)) dd_isNext_96 fd_12_410 io_182 fn_12_35 rfl rfl ?_
    refine R_ld (v := .inr (.inr 182)) dd_isNext_99 rfl rfl rfl rfl ?_
    refine R_ld (v := .inl v8) dd_isNext_100 rfl rfl rfl rfl ?_
    refine R_ic dd_isNext_102 (by decide) rfl ?_
    refine R_iadd (c := v8 + 1) dd_isNext_103 (by omega) (by omega) rfl ?_
    refine R_pf (z := (v8 + 1)) dd_isNext_104 fd_12_413 io_182 fn_12_36 rfl rfl ?_
    refine R_ld (v := .inr (.inr 182)) dd_isNext_107 rfl rfl rfl rfl ?_
    refine R_gf (v := .inr (.inr 201)) dd_isNext_108 fd_12_141 io_182 (congrArg (fun z : Int => (Sum.inr (Sum.inr z) : LV)) ((rdw_nei (by omega)).trans ((rdw_nei (by omega)).trans (rf_182_32 hF)))) rfl ?_
    refine R_bi dd_isNext_111 (by decide) rfl ?_
    refine R_ld (v := .inr (.inr 182)) dd_isNext_113 rfl rfl rfl rfl ?_
    refine R_gf (v := .inl (v8 + 1)) dd_isNext_114 fd_12_413 io_182 (congrArg (fun z : Int => (Sum.inl z : LV)) (rdw_eq)) rfl ?_
    obtain ⟨s1, k⟩ := k
    refine R_imul (c := 20 * (v8 + 1)) dd_isNext_117 (by omega) s1 rfl ?_
    refine R_ld (v := .inr (.inr 182)) dd_isNext_118 rfl rfl rfl rfl ?_
    refine R_gf (v := .inl (w0 + 10)) dd_isNext_119 fd_12_410 io_182 (congrArg (fun z : Int => (Sum.inl z : LV)) ((rdw_nei (by omega)).trans (rdw_eq))) rfl ?_
    obtain ⟨s2, k⟩ := k
    refine R_iadd (c := 20 * (v8 + 1) + (w0 + 10)) dd_isNext_122 (by omega) s2 rfl ?_
    obtain ⟨s3, k⟩ := k
    refine R_iald (v := (rd h 201 (20 * (v8 + 1) + (w0 + 10)))) (n := 500) dd_isNext_123 ia_201 la_201 s3 ((rdw_ne (by decide)).trans (rdw_ne (by decide))) rfl ?_
    refine R_ld (v := .inl v7) dd_isNext_124 rfl rfl rfl rfl ?_
    refine R_icmp dd_isNext_126 rfl rfl (fun (c11 : (rd h 201 (20 * (v8 + 1) + (w0 + 10))) ≠ v7) => ?_) (fun (c11 : (rd h 201 (20 * (v8 + 1) + (w0 + 10))) = v7) => ?_)
    · replace k := k.1 c11
      refine R_ic dd_isNext_133 (by decide) rfl ?_
      exact R_zret dd_isNext_134 rfl (by decide) k
    · replace k := k.2 c11
      refine R_ic dd_isNext_129 (by decide) rfl ?_
      refine R_goto dd_isNext_130 rfl ?_
      exact R_zret dd_isNext_134 rfl (by decide) k
  · replace k := k.2 c10
    refine R_ld (v := .inl w0) dd_isNext_78 rfl rfl rfl rfl ?_
    refine R_ld (v := .inr (.inr 182)) dd_isNext_80 rfl rfl rfl rfl ?_
    refine R_ld (v := .inl v2) dd_isNext_81 rfl rfl rfl rfl ?_
    refine R_ic dd_isNext_82 (by decide) rfl ?_
    refine R_call (as := [.inr (.inr 182), .inl v2, .inl 2]) (rest := [.inl w0, .inl w0, .inr (.inr 182)]) (M' := mm_personOf) (ls0 := [some (.inr (.inr 182)), some (.inl v2), some (.inl 2)]) dd_isNext_83 rfl rfl (cw_v cw_12_325 io_182 rfl rfl (Nat.le_of_ble_eq_true rfl) (Nat.le_of_ble_eq_true rfl)) mt_personOf rfl (c := e - 1) (by omega) rfl ?_
    refine R_ld (v := .inr (.inr 182)) dd_personOf_0 rfl rfl rfl rfl ?_
    refine R_gf (v := .inr (.inr 188)) dd_personOf_1 fd_12_95 io_182 (congrArg (fun z : Int => (Sum.inr (Sum.inr z) : LV)) (rf_182_10 hF)) rfl ?_
    refine R_bi dd_personOf_4 (by decide) rfl ?_
    refine R_ic dd_personOf_6 (by decide) rfl ?_
    refine R_ld (v := .inl v2) dd_personOf_7 rfl rfl rfl rfl ?_
    refine R_imul (c := 4 * v2) dd_personOf_8 (by omega) (by omega) rfl ?_
    refine R_iadd (c := 4 * v2 + 116) dd_personOf_9 (by omega) (by omega) rfl ?_
    refine R_ld (v := .inl 2) dd_personOf_10 rfl rfl rfl rfl ?_
    refine R_iadd (c := 4 * v2 + 118) dd_personOf_11 (by omega) (by omega) rfl ?_
    refine R_iald (v := (rd h 188 (4 * v2 + 118))) (n := 300) dd_personOf_12 ia_188 la_188 (by omega) (rfl) rfl ?_
    refine R_iret dd_personOf_13 rfl ?_
    change Rn xs xl e mm_isNext 86 [some (.inr (.inr 182)), some (.inl v1), some (.inl v2), some (.inl v3), some (.inl v4), some (.inl v5), some (.inl v6), some (.inl v7), some (.inl v8), some (.inl w0)] [.inl (rd h 188 (4 * v2 + 118)), .inl w0, .inl w0, .inr (.inr 182)] h _
    refine R_icmp dd_isNext_86 rfl rfl (fun (c12 : w0 ≠ (rd h 188 (4 * v2 + 118))) => ?_) (fun (c12 : w0 = (rd h 188 (4 * v2 + 118))) => ?_)
    · replace k := k.1 c12
      refine R_ic dd_isNext_94 (by decide) rfl ?_
      refine R_iadd (c := w0) dd_isNext_95 (by omega) (by omega) rfl ?_
      refine R_pf (z := w0) dd_isNext_96 fd_12_410 io_182 fn_12_35 rfl rfl ?_
      refine R_ld (v := .inr (.inr 182)) dd_isNext_99 rfl rfl rfl rfl ?_
      refine R_ld (v := .inl v8) dd_isNext_100 rfl rfl rfl rfl ?_
      refine R_ic dd_isNext_102 (by decide) rfl ?_
      refine R_iadd (c := v8 + 1) dd_isNext_103 (by omega) (by omega) rfl ?_
      refine R_pf (z := (v8 + 1)) dd_isNext_104 fd_12_413 io_182 fn_12_36 rfl rfl ?_
      refine R_ld (v := .inr (.inr 182)) dd_isNext_107 rfl rfl rfl rfl ?_
      refine R_gf (v := .inr (.inr 201)) dd_isNext_108 fd_12_141 io_182 (congrArg (fun z : Int => (Sum.inr (Sum.inr z) : LV)) ((rdw_nei (by omega)).trans ((rdw_nei (by omega)).trans (rf_182_32 hF)))) rfl ?_
      refine R_bi dd_isNext_111 (by decide) rfl ?_
      refine R_ld (v := .inr (.inr 182)) dd_isNext_113 rfl rfl rfl rfl ?_
      refine R_gf (v := .inl (v8 + 1)) dd_isNext_114 fd_12_413 io_182 (congrArg (fun z : Int => (Sum.inl z : LV)) (rdw_eq)) rfl ?_
      obtain ⟨s4, k⟩ := k
      refine R_imul (c := 20 * (v8 + 1)) dd_isNext_117 (by omega) s4 rfl ?_
      refine R_ld (v := .inr (.inr 182)) dd_isNext_118 rfl rfl rfl rfl ?_
      refine R_gf (v := .inl w0) dd_isNext_119 fd_12_410 io_182 (congrArg (fun z : Int => (Sum.inl z : LV)) ((rdw_nei (by omega)).trans (rdw_eq))) rfl ?_
      obtain ⟨s5, k⟩ := k
      refine R_iadd (c := 20 * (v8 + 1) + w0) dd_isNext_122 (by omega) s5 rfl ?_
      obtain ⟨s6, k⟩ := k
      refine R_iald (v := (rd h 201 (20 * (v8 + 1) + w0))) (n := 500) dd_isNext_123 ia_201 la_201 s6 ((rdw_ne (by decide)).trans (rdw_ne (by decide))) rfl ?_
      refine R_ld (v := .inl v7) dd_isNext_124 rfl rfl rfl rfl ?_
      refine R_icmp dd_isNext_126 rfl rfl (fun (c13 : (rd h 201 (20 * (v8 + 1) + w0)) ≠ v7) => ?_) (fun (c13 : (rd h 201 (20 * (v8 + 1) + w0)) = v7) => ?_)
      · replace k := k.1 c13
        refine R_ic dd_isNext_133 (by decide) rfl ?_
        exact R_zret dd_isNext_134 rfl (by decide) k
      · replace k := k.2 c13
        refine R_ic dd_isNext_129 (by decide) rfl ?_
        refine R_goto dd_isNext_130 rfl ?_
        exact R_zret dd_isNext_134 rfl (by decide) k
    · replace k := k.2 c12
      refine R_bi dd_isNext_89 (by decide) rfl ?_
      refine R_goto dd_isNext_91 rfl ?_
      refine R_iadd (c := w0 + 10) dd_isNext_95 (by omega) (by omega) rfl ?_
      refine R_pf (z := (w0 + 10)) dd_isNext_96 fd_12_410 io_182 fn_12_35 rfl rfl ?_
      refine R_ld (v := .inr (.inr 182)) dd_isNext_99 rfl rfl rfl rfl ?_
      refine R_ld (v := .inl v8) dd_isNext_100 rfl rfl rfl rfl ?_
      refine R_ic dd_isNext_102 (by decide) rfl ?_
      refine R_iadd (c := v8 + 1) dd_isNext_103 (by omega) (by omega) rfl ?_
      refine R_pf (z := (v8 + 1)) dd_isNext_104 fd_12_413 io_182 fn_12_36 rfl rfl ?_
      refine R_ld (v := .inr (.inr 182)) dd_isNext_107 rfl rfl rfl rfl ?_
      refine R_gf (v := .inr (.inr 201)) dd_isNext_108 fd_12_141 io_182 (congrArg (fun z : Int => (Sum.inr (Sum.inr z) : LV)) ((rdw_nei (by omega)).trans ((rdw_nei (by omega)).trans (rf_182_32 hF)))) rfl ?_
      refine R_bi dd_isNext_111 (by decide) rfl ?_
      refine R_ld (v := .inr (.inr 182)) dd_isNext_113 rfl rfl rfl rfl ?_
      refine R_gf (v := .inl (v8 + 1)) dd_isNext_114 fd_12_413 io_182 (congrArg (fun z : Int => (Sum.inl z : LV)) (rdw_eq)) rfl ?_
      obtain ⟨s7, k⟩ := k
      refine R_imul (c := 20 * (v8 + 1)) dd_isNext_117 (by omega) s7 rfl ?_
      refine R_ld (v := .inr (.inr 182)) dd_isNext_118 rfl rfl rfl rfl ?_
      refine R_gf (v := .inl (w0 + 10)) dd_isNext_119 fd_12_410 io_182 (congrArg (fun z : Int => (Sum.inl z : LV)) ((rdw_nei (by omega)).trans (rdw_eq))) rfl ?_
      obtain ⟨s8, k⟩ := k
      refine R_iadd (c := 20 * (v8 + 1) + (w0 + 10)) dd_isNext_122 (by omega) s8 rfl ?_
      obtain ⟨s9, k⟩ := k
      refine R_iald (v := (rd h 201 (20 * (v8 + 1) + (w0 + 10)))) (n := 500) dd_isNext_123 ia_201 la_201 s9 ((rdw_ne (by decide)).trans (rdw_ne (by decide))) rfl ?_
      refine R_ld (v := .inl v7) dd_isNext_124 rfl rfl rfl rfl ?_
      refine R_icmp dd_isNext_126 rfl rfl (fun (c14 : (rd h 201 (20 * (v8 + 1) + (w0 + 10))) ≠ v7) => ?_) (fun (c14 : (rd h 201 (20 * (v8 + 1) + (w0 + 10))) = v7) => ?_)
      · replace k := k.1 c14
        refine R_ic dd_isNext_133 (by decide) rfl ?_
        exact R_zret dd_isNext_134 rfl (by decide) k
      · replace k := k.2 c14
        refine R_ic dd_isNext_129 (by decide) rfl ?_
        refine R_goto dd_isNext_130 rfl ?_
        exact R_zret dd_isNext_134 rfl (by decide) k
theorem B_findWay_0 {xs : Nat → Int} {xl e : Nat} {h : LH} {Q : Option LV → LH → Prop} {v1 v2 : Int} (hF : RF h) (r_v1 : 0 ≤ v1 ∧ v1 ≤ 1540) (r_v2 : 0 ≤ v2 ∧ v2 ≤ 5)
    (k : (∃ c, c < e ∧ Rn xs xl c mm_errandHour 0 [some (.inr (.inr 182)), some (.inl v1), some (.inl v2)] [] h (fun r h' => Rn xs xl e mm_findWay 6 [some (.inr (.inr 182)), some (.inl v1), some (.inl v2), none, none, none, none, none] (r.toList ++ []) h' Q))) :
    Rn xs xl e mm_findWay 0 [some (.inr (.inr 182)), some (.inl v1), some (.inl v2), none, none, none, none, none] [] h Q := by
  refine R_ld (v := .inr (.inr 182)) dd_findWay_0 rfl rfl rfl rfl ?_
  refine R_ld (v := .inl v1) dd_findWay_1 rfl rfl rfl rfl ?_
  refine R_ld (v := .inl v2) dd_findWay_2 rfl rfl rfl rfl ?_
  obtain ⟨c, hc, k⟩ := k
  exact R_call (as := [.inr (.inr 182), .inl v1, .inl v2]) (rest := []) (M' := mm_errandHour) (ls0 := [some (.inr (.inr 182)), some (.inl v1), some (.inl v2)]) dd_findWay_3 rfl rfl (cw_v cw_12_397 io_182 rfl rfl (Nat.le_of_ble_eq_true rfl) (Nat.le_of_ble_eq_true rfl)) mt_errandHour rfl hc rfl k
theorem B_findWay_6 {xs : Nat → Int} {xl e : Nat} {h : LH} {Q : Option LV → LH → Prop} {v1 v2 w0 : Int} (hF : RF h) (r_v1 : 0 ≤ v1 ∧ v1 ≤ 1540) (r_v2 : 0 ≤ v2 ∧ v2 ≤ 5) (he : 1 ≤ e)
    (k : ((rd h 198 (v1 + v2 + 8)) ≠ 1 →
        (-2147483648 ≤ (rd h 198 (v1 + v2 + 2)) ∧ (rd h 198 (v1 + v2 + 2)) ≤ 2147483647) ∧
        (w0 < 0 →
          Q (some (.inl w0)) (wr h 182 34 0)) ∧
        (0 ≤ w0 →
          (-2147483648 ≤ (rd h 188 (4 * v2 + 117)) + 10 ∧ (rd h 188 (4 * v2 + 117)) + 10 ≤ 2147483647) ∧
          ((rd h 198 (v1 + v2 + 2)) ≠ ((rd h 188 (4 * v2 + 117)) + 10) →
            (∃ c, c < e ∧ Rn xs xl c mm_findFewest 0 [some (.inr (.inr 182)), some (.inl v1), some (.inl v2), some (.inl w0), none, none, none, none, none, none, none] [] (wr h 182 34 0) (fun r h' => Rn xs xl e mm_findWay 73 [some (.inr (.inr 182)), some (.inl v1), some (.inl v2), some (.inl w0), some (.inl (rd h 198 (v1 + v2 + 2))), none, none, none] (r.toList ++ []) h' Q))) ∧
          ((rd h 198 (v1 + v2 + 2)) = ((rd h 188 (4 * v2 + 117)) + 10) →
            Q (some (.inl w0)) (wr h 182 34 0)))) ∧
      ((rd h 198 (v1 + v2 + 8)) = 1 →
        (-2147483648 ≤ (rd h 198 (v1 + v2 + 2)) + 10 ∧ (rd h 198 (v1 + v2 + 2)) + 10 ≤ 2147483647) ∧
        (w0 < 0 →
          Q (some (.inl w0)) (wr h 182 34 0)) ∧
        (0 ≤ w0 →
          (-2147483648 ≤ (rd h 188 (4 * v2 + 117)) + 10 ∧ (rd h 188 (4 * v2 + 117)) + 10 ≤ 2147483647) ∧
          (((rd h 198 (v1 + v2 + 2)) + 10) ≠ ((rd h 188 (4 * v2 + 117)) + 10) →
            (∃ c, c < e ∧ Rn xs xl c mm_findFewest 0 [some (.inr (.inr 182)), some (.inl v1), some (.inl v2), some (.inl w0), none, none, none, none, none, none, none] [] (wr h 182 34 0) (fun r h' => Rn xs xl e mm_findWay 73 [some (.inr (.inr 182)), some (.inl v1), some (.inl v2), some (.inl w0), some (.inl ((rd h 198 (v1 + v2 + 2)) + 10)), none, none, none] (r.toList ++ []) h' Q))) ∧
          (((rd h 198 (v1 + v2 + 2)) + 10) = ((rd h 188 (4 * v2 + 117)) + 10) →
            Q (some (.inl w0)) (wr h 182 34 0))))) :
    Rn xs xl e mm_findWay 6 [some (.inr (.inr 182)), some (.inl v1), some (.inl v2), none, none, none, none, none] [.inl w0] h Q := by
  refine R_st (ls' := [some (.inr (.inr 182)), some (.inl v1), some (.inl v2), some (.inl w0), none, none, none, none]) dd_findWay_6 rfl rfl rfl (Nat.le_of_ble_eq_true rfl) rfl rfl ?_
  refine R_ld (v := .inr (.inr 182)) dd_findWay_7 rfl rfl rfl rfl ?_
  refine R_ic dd_findWay_8 (by decide) rfl ?_
  refine R_pf (z := 0) dd_findWay_9 fd_12_400 io_182 fn_12_34 rfl rfl ?_
  refine R_ld (v := .inr (.inr 182)) dd_findWay_12 rfl rfl rfl rfl ?_
  refine R_gf (v := .inr (.inr 198)) dd_findWay_13 fd_12_125 io_182 (congrArg (fun z : Int => (Sum.inr (Sum.inr z) : LV)) ((rdw_nei (by omega)).trans (rf_182_24 hF))) rfl ?_
  refine R_ld (v := .inl v1) dd_findWay_16 rfl rfl rfl rfl ?_
  refine R_ic dd_findWay_17 (by decide) rfl ?_
  refine R_iadd (c := v1 + 2) dd_findWay_18 (by omega) (by omega) rfl ?_
  refine R_ld (v := .inl v2) dd_findWay_19 rfl rfl rfl rfl ?_
  refine R_iadd (c := v1 + v2 + 2) dd_findWay_20 (by omega) (by omega) rfl ?_
  refine R_iald (v := (rd h 198 (v1 + v2 + 2))) (n := 1610) dd_findWay_21 ia_198 la_198 (by omega) (rdw_ne (by decide)) rfl ?_
  refine R_ld (v := .inr (.inr 182)) dd_findWay_22 rfl rfl rfl rfl ?_
  refine R_gf (v := .inr (.inr 198)) dd_findWay_23 fd_12_125 io_182 (congrArg (fun z : Int => (Sum.inr (Sum.inr z) : LV)) ((rdw_nei (by omega)).trans (rf_182_24 hF))) rfl ?_
  refine R_ld (v := .inl v1) dd_findWay_26 rfl rfl rfl rfl ?_
  refine R_bi dd_findWay_27 (by decide) rfl ?_
  refine R_iadd (c := v1 + 8) dd_findWay_29 (by omega) (by omega) rfl ?_
  refine R_ld (v := .inl v2) dd_findWay_30 rfl rfl rfl rfl ?_
  refine R_iadd (c := v1 + v2 + 8) dd_findWay_31 (by omega) (by omega) rfl ?_
  refine R_iald (v := (rd h 198 (v1 + v2 + 8))) (n := 1610) dd_findWay_32 ia_198 la_198 (by omega) (rdw_ne (by decide)) rfl ?_
  refine R_ic dd_findWay_33 (by decide) rfl ?_
  refine R_icmp dd_findWay_34 rfl rfl (fun (c7 : (rd h 198 (v1 + v2 + 8)) ≠ 1) => ?_) (fun (c7 : (rd h 198 (v1 + v2 + 8)) = 1) => ?_)
  · replace k := k.1 c7
    refine R_ic dd_findWay_42 (by decide) rfl ?_
    obtain ⟨s1, k⟩ := k
    refine R_iadd (c := (rd h 198 (v1 + v2 + 2))) dd_findWay_43 (by omega) s1 rfl ?_
    refine R_st (ls' := [some (.inr (.inr 182)), some (.inl v1), some (.inl v2), some (.inl w0), some (.inl (rd h 198 (v1 + v2 + 2))), none, none, none]) dd_findWay_44 rfl rfl rfl (Nat.le_of_ble_eq_true rfl) rfl rfl ?_
    refine R_ld (v := .inl w0) dd_findWay_46 rfl rfl rfl rfl ?_
    refine R_if dd_findWay_47 rfl rfl (fun (c8 : w0 < 0) => ?_) (fun (c8 : 0 ≤ w0) => ?_)
    · replace k := k.1 c8
      refine R_ld (v := .inl w0) dd_findWay_64 rfl rfl rfl rfl ?_
      exact R_iret dd_findWay_65 rfl k
    · replace k := k.2 c8
      refine R_ld (v := .inl (rd h 198 (v1 + v2 + 2))) dd_findWay_50 rfl rfl rfl rfl ?_
      refine R_bi dd_findWay_52 (by decide) rfl ?_
      refine R_ld (v := .inr (.inr 182)) dd_findWay_54 rfl rfl rfl rfl ?_
      refine R_ld (v := .inl v2) dd_findWay_55 rfl rfl rfl rfl ?_
      refine R_ic dd_findWay_56 (by decide) rfl ?_
      refine R_call (as := [.inr (.inr 182), .inl v2, .inl 1]) (rest := [.inl 10, .inl (rd h 198 (v1 + v2 + 2))]) (M' := mm_personOf) (ls0 := [some (.inr (.inr 182)), some (.inl v2), some (.inl 1)]) dd_findWay_57 rfl rfl (cw_v cw_12_325 io_182 rfl rfl (Nat.le_of_ble_eq_true rfl) (Nat.le_of_ble_eq_true rfl)) mt_personOf rfl (c := e - 1) (by omega) rfl ?_
      refine R_ld (v := .inr (.inr 182)) dd_personOf_0 rfl rfl rfl rfl ?_
      refine R_gf (v := .inr (.inr 188)) dd_personOf_1 fd_12_95 io_182 (congrArg (fun z : Int => (Sum.inr (Sum.inr z) : LV)) ((rdw_nei (by omega)).trans (rf_182_10 hF))) rfl ?_
      refine R_bi dd_personOf_4 (by decide) rfl ?_
      refine R_ic dd_personOf_6 (by decide) rfl ?_
      refine R_ld (v := .inl v2) dd_personOf_7 rfl rfl rfl rfl ?_
      refine R_imul (c := 4 * v2) dd_personOf_8 (by omega) (by omega) rfl ?_
      refine R_iadd (c := 4 * v2 + 116) dd_personOf_9 (by omega) (by omega) rfl ?_
      refine R_ld (v := .inl 1) dd_personOf_10 rfl rfl rfl rfl ?_
      refine R_iadd (c := 4 * v2 + 117) dd_personOf_11 (by omega) (by omega) rfl ?_
      refine R_iald (v := (rd h 188 (4 * v2 + 117))) (n := 300) dd_personOf_12 ia_188 la_188 (by omega) (rdw_ne (by decide)) rfl ?_
      refine R_iret dd_personOf_13 rfl ?_
      change Rn xs xl e mm_findWay 60 [some (.inr (.inr 182)), some (.inl v1), some (.inl v2), some (.inl w0), some (.inl (rd h 198 (v1 + v2 + 2))), none, none, none] [.inl (rd h 188 (4 * v2 + 117)), .inl 10, .inl (rd h 198 (v1 + v2 + 2))] (wr h 182 34 0) _
      obtain ⟨s2, k⟩ := k
      refine R_iadd (c := (rd h 188 (4 * v2 + 117)) + 10) dd_findWay_60 (by omega) s2 rfl ?_
      refine R_icmp dd_findWay_61 rfl rfl (fun (c9 : (rd h 198 (v1 + v2 + 2)) ≠ ((rd h 188 (4 * v2 + 117)) + 10)) => ?_) (fun (c9 : (rd h 198 (v1 + v2 + 2)) = ((rd h 188 (4 * v2 + 117)) + 10)) => ?_)
      · replace k := k.1 c9
        refine R_ld (v := .inr (.inr 182)) dd_findWay_66 rfl rfl rfl rfl ?_
        refine R_ld (v := .inl v1) dd_findWay_67 rfl rfl rfl rfl ?_
        refine R_ld (v := .inl v2) dd_findWay_68 rfl rfl rfl rfl ?_
        refine R_ld (v := .inl w0) dd_findWay_69 rfl rfl rfl rfl ?_
        obtain ⟨c, hc, k⟩ := k
        exact R_call (as := [.inr (.inr 182), .inl v1, .inl v2, .inl w0]) (rest := []) (M' := mm_findFewest) (ls0 := [some (.inr (.inr 182)), some (.inl v1), some (.inl v2), some (.inl w0), none, none, none, none, none, none, none]) dd_findWay_70 rfl rfl (cw_v cw_12_403 io_182 rfl rfl (Nat.le_of_ble_eq_true rfl) (Nat.le_of_ble_eq_true rfl)) mt_findFewest rfl hc rfl k
      · replace k := k.2 c9
        refine R_ld (v := .inl w0) dd_findWay_64 rfl rfl rfl rfl ?_
        exact R_iret dd_findWay_65 rfl k
  · replace k := k.2 c7
    refine R_bi dd_findWay_37 (by decide) rfl ?_
    refine R_goto dd_findWay_39 rfl ?_
    obtain ⟨s4, k⟩ := k
    refine R_iadd (c := (rd h 198 (v1 + v2 + 2)) + 10) dd_findWay_43 (by omega) s4 rfl ?_
    refine R_st (ls' := [some (.inr (.inr 182)), some (.inl v1), some (.inl v2), some (.inl w0), some (.inl ((rd h 198 (v1 + v2 + 2)) + 10)), none, none, none]) dd_findWay_44 rfl rfl rfl (Nat.le_of_ble_eq_true rfl) rfl rfl ?_
    refine R_ld (v := .inl w0) dd_findWay_46 rfl rfl rfl rfl ?_
    refine R_if dd_findWay_47 rfl rfl (fun (c10 : w0 < 0) => ?_) (fun (c10 : 0 ≤ w0) => ?_)
    · replace k := k.1 c10
      refine R_ld (v := .inl w0) dd_findWay_64 rfl rfl rfl rfl ?_
      exact R_iret dd_findWay_65 rfl k
    · replace k := k.2 c10
      refine R_ld (v := .inl ((rd h 198 (v1 + v2 + 2)) + 10)) dd_findWay_50 rfl rfl rfl rfl ?_
      refine R_bi dd_findWay_52 (by decide) rfl ?_
      refine R_ld (v := .inr (.inr 182)) dd_findWay_54 rfl rfl rfl rfl ?_
      refine R_ld (v := .inl v2) dd_findWay_55 rfl rfl rfl rfl ?_
      refine R_ic dd_findWay_56 (by decide) rfl ?_
      refine R_call (as := [.inr (.inr 182), .inl v2, .inl 1]) (rest := [.inl 10, .inl ((rd h 198 (v1 + v2 + 2)) + 10)]) (M' := mm_personOf) (ls0 := [some (.inr (.inr 182)), some (.inl v2), some (.inl 1)]) dd_findWay_57 rfl rfl (cw_v cw_12_325 io_182 rfl rfl (Nat.le_of_ble_eq_true rfl) (Nat.le_of_ble_eq_true rfl)) mt_personOf rfl (c := e - 1) (by omega) rfl ?_
      refine R_ld (v := .inr (.inr 182)) dd_personOf_0 rfl rfl rfl rfl ?_
      refine R_gf (v := .inr (.inr 188)) dd_personOf_1 fd_12_95 io_182 (congrArg (fun z : Int => (Sum.inr (Sum.inr z) : LV)) ((rdw_nei (by omega)).trans (rf_182_10 hF))) rfl ?_
      refine R_bi dd_personOf_4 (by decide) rfl ?_
      refine R_ic dd_personOf_6 (by decide) rfl ?_
      refine R_ld (v := .inl v2) dd_personOf_7 rfl rfl rfl rfl ?_
      refine R_imul (c := 4 * v2) dd_personOf_8 (by omega) (by omega) rfl ?_
      refine R_iadd (c := 4 * v2 + 116) dd_personOf_9 (by omega) (by omega) rfl ?_
      refine R_ld (v := .inl 1) dd_personOf_10 rfl rfl rfl rfl ?_
      refine R_iadd (c := 4 * v2 + 117) dd_personOf_11 (by omega) (by omega) rfl ?_
      refine R_iald (v := (rd h 188 (4 * v2 + 117))) (n := 300) dd_personOf_12 ia_188 la_188 (by omega) (rdw_ne (by decide)) rfl ?_
      refine R_iret dd_personOf_13 rfl ?_
      change Rn xs xl e mm_findWay 60 [some (.inr (.inr 182)), some (.inl v1), some (.inl v2), some (.inl w0), some (.inl ((rd h 198 (v1 + v2 + 2)) + 10)), none, none, none] [.inl (rd h 188 (4 * v2 + 117)), .inl 10, .inl ((rd h 198 (v1 + v2 + 2)) + 10)] (wr h 182 34 0) _
      obtain ⟨s5, k⟩ := k
      refine R_iadd (c := (rd h 188 (4 * v2 + 117)) + 10) dd_findWay_60 (by omega) s5 rfl ?_
      refine R_icmp dd_findWay_61 rfl rfl (fun (c11 : ((rd h 198 (v1 + v2 + 2)) + 10) ≠ ((rd h 188 (4 * v2 + 117)) + 10)) => ?_) (fun (c11 : ((rd h 198 (v1 + v2 + 2)) + 10) = ((rd h 188 (4 * v2 + 117)) + 10)) => ?_)
      · replace k := k.1 c11
        refine R_ld (v := .inr (.inr 182)) dd_findWay_66 rfl rfl rfl rfl ?_
        refine R_ld (v := .inl v1) dd_findWay_67 rfl rfl rfl rfl ?_
        refine R_ld (v := .inl v2) dd_findWay_68 rfl rfl rfl rfl ?_
        refine R_ld (v := .inl w0) dd_findWay_69 rfl rfl rfl rfl ?_
        obtain ⟨c, hc, k⟩ := k
        exact R_call (as := [.inr (.inr 182), .inl v1, .inl v2, .inl w0]) (rest := []) (M' := mm_findFewest) (ls0 := [some (.inr (.inr 182)), some (.inl v1), some (.inl v2), some (.inl w0), none, none, none, none, none, none, none]) dd_findWay_70 rfl rfl (cw_v cw_12_403 io_182 rfl rfl (Nat.le_of_ble_eq_true rfl) (Nat.le_of_ble_eq_true rfl)) mt_findFewest rfl hc rfl k
      · replace k := k.2 c11
        refine R_ld (v := .inl w0) dd_findWay_64 rfl rfl rfl rfl ?_
        exact R_iret dd_findWay_65 rfl k
theorem B_findWay_73 {xs : Nat → Int} {xl e : Nat} {h : LH} {Q : Option LV → LH → Prop} {v1 v2 v3 v4 : Int} (hF : RF h) (r_v1 : 0 ≤ v1 ∧ v1 ≤ 1540) (r_v2 : 0 ≤ v2 ∧ v2 ≤ 5)
    (k : (-2147483648 ≤ (rd h 198 v1) + (rd h 198 (v1 + v2 + 14)) ∧ (rd h 198 v1) + (rd h 198 (v1 + v2 + 14)) ≤ 2147483647) ∧
      Rn xs xl e mm_findWay 95 [some (.inr (.inr 182)), some (.inl v1), some (.inl v2), some (.inl v3), some (.inl v4), some (.inl ((rd h 198 v1) + (rd h 198 (v1 + v2 + 14)))), none, none] [] h Q) :
    Rn xs xl e mm_findWay 73 [some (.inr (.inr 182)), some (.inl v1), some (.inl v2), some (.inl v3), some (.inl v4), none, none, none] [] h Q := by
  refine R_ld (v := .inr (.inr 182)) dd_findWay_73 rfl rfl rfl rfl ?_
  refine R_gf (v := .inr (.inr 198)) dd_findWay_74 fd_12_125 io_182 (congrArg (fun z : Int => (Sum.inr (Sum.inr z) : LV)) (rf_182_24 hF)) rfl ?_
  refine R_ld (v := .inl v1) dd_findWay_77 rfl rfl rfl rfl ?_
  refine R_ic dd_findWay_78 (by decide) rfl ?_
  refine R_iadd (c := v1) dd_findWay_79 (by omega) (by omega) rfl ?_
  refine R_iald (v := (rd h 198 v1)) (n := 1610) dd_findWay_80 ia_198 la_198 (by omega) (rfl) rfl ?_
  refine R_ld (v := .inr (.inr 182)) dd_findWay_81 rfl rfl rfl rfl ?_
  refine R_gf (v := .inr (.inr 198)) dd_findWay_82 fd_12_125 io_182 (congrArg (fun z : Int => (Sum.inr (Sum.inr z) : LV)) (rf_182_24 hF)) rfl ?_
  refine R_ld (v := .inl v1) dd_findWay_85 rfl rfl rfl rfl ?_
  refine R_bi dd_findWay_86 (by decide) rfl ?_
  refine R_iadd (c := v1 + 14) dd_findWay_88 (by omega) (by omega) rfl ?_
  refine R_ld (v := .inl v2) dd_findWay_89 rfl rfl rfl rfl ?_
  refine R_iadd (c := v1 + v2 + 14) dd_findWay_90 (by omega) (by omega) rfl ?_
  refine R_iald (v := (rd h 198 (v1 + v2 + 14))) (n := 1610) dd_findWay_91 ia_198 la_198 (by omega) (rfl) rfl ?_
  obtain ⟨s1, k⟩ := k
  refine R_iadd (c := (rd h 198 v1) + (rd h 198 (v1 + v2 + 14))) dd_findWay_92 (by omega) s1 rfl ?_
  refine R_st (ls' := [some (.inr (.inr 182)), some (.inl v1), some (.inl v2), some (.inl v3), some (.inl v4), some (.inl ((rd h 198 v1) + (rd h 198 (v1 + v2 + 14)))), none, none]) dd_findWay_93 rfl rfl rfl (Nat.le_of_ble_eq_true rfl) rfl rfl ?_
  exact k
theorem B_findWay_95 {xs : Nat → Int} {xl e : Nat} {h : LH} {Q : Option LV → LH → Prop} {v1 v2 v3 v4 v5 : Int} {o6 : Option LV} {o7 : Option LV} (hF : RF h) (r_v1 : 0 ≤ v1 ∧ v1 ≤ 1540) (r_v2 : 0 ≤ v2 ∧ v2 ≤ 5) (r_v4 : 0 ≤ v4 ∧ v4 ≤ 19) (r_v5 : 0 ≤ v5 ∧ v5 ≤ 24) (he : 1 ≤ e)
    (k : (-2147483648 ≤ (rd h 188 (4 * v2 + 117)) + 10 ∧ (rd h 188 (4 * v2 + 117)) + 10 ≤ 2147483647) ∧
      (v4 ≠ ((rd h 188 (4 * v2 + 117)) + 10) →
        (-2147483648 ≤ (rd h 201 (20 * v5 + v4)) - 1 ∧ (rd h 201 (20 * v5 + v4)) - 1 ≤ 2147483647) ∧
        Rn xs xl e mm_findWay 145 [some (.inr (.inr 182)), some (.inl v1), some (.inl v2), some (.inl v3), some (.inl v4), some (.inl v5), some (.inl ((rd h 201 (20 * v5 + v4)) - 1)), some (.inl 0)] [] h Q) ∧
      (v4 = ((rd h 188 (4 * v2 + 117)) + 10) →
        ((rd h 201 (20 * v5 + v4)) ≤ 0 →
          Q (some (.inl v3)) h) ∧
        (0 < (rd h 201 (20 * v5 + v4)) →
          (-2147483648 ≤ (rd h 201 (20 * v5 + v4)) - 1 ∧ (rd h 201 (20 * v5 + v4)) - 1 ≤ 2147483647) ∧
          Rn xs xl e mm_findWay 145 [some (.inr (.inr 182)), some (.inl v1), some (.inl v2), some (.inl v3), some (.inl v4), some (.inl v5), some (.inl ((rd h 201 (20 * v5 + v4)) - 1)), some (.inl 0)] [] h Q))) :
    Rn xs xl e mm_findWay 95 [some (.inr (.inr 182)), some (.inl v1), some (.inl v2), some (.inl v3), some (.inl v4), some (.inl v5), o6, o7] [] h Q := by
  refine R_ld (v := .inl v4) dd_findWay_95 rfl rfl rfl rfl ?_
  refine R_bi dd_findWay_97 (by decide) rfl ?_
  refine R_ld (v := .inr (.inr 182)) dd_findWay_99 rfl rfl rfl rfl ?_
  refine R_ld (v := .inl v2) dd_findWay_100 rfl rfl rfl rfl ?_
  refine R_ic dd_findWay_101 (by decide) rfl ?_
  refine R_call (as := [.inr (.inr 182), .inl v2, .inl 1]) (rest := [.inl 10, .inl v4]) (M' := mm_personOf) (ls0 := [some (.inr (.inr 182)), some (.inl v2), some (.inl 1)]) dd_findWay_102 rfl rfl (cw_v cw_12_325 io_182 rfl rfl (Nat.le_of_ble_eq_true rfl) (Nat.le_of_ble_eq_true rfl)) mt_personOf rfl (c := e - 1) (by omega) rfl ?_
  refine R_ld (v := .inr (.inr 182)) dd_personOf_0 rfl rfl rfl rfl ?_
  refine R_gf (v := .inr (.inr 188)) dd_personOf_1 fd_12_95 io_182 (congrArg (fun z : Int => (Sum.inr (Sum.inr z) : LV)) (rf_182_10 hF)) rfl ?_
  refine R_bi dd_personOf_4 (by decide) rfl ?_
  refine R_ic dd_personOf_6 (by decide) rfl ?_
  refine R_ld (v := .inl v2) dd_personOf_7 rfl rfl rfl rfl ?_
  refine R_imul (c := 4 * v2) dd_personOf_8 (by omega) (by omega) rfl ?_
  refine R_iadd (c := 4 * v2 + 116) dd_personOf_9 (by omega) (by omega) rfl ?_
  refine R_ld (v := .inl 1) dd_personOf_10 rfl rfl rfl rfl ?_
  refine R_iadd (c := 4 * v2 + 117) dd_personOf_11 (by omega) (by omega) rfl ?_
  refine R_iald (v := (rd h 188 (4 * v2 + 117))) (n := 300) dd_personOf_12 ia_188 la_188 (by omega) (rfl) rfl ?_
  refine R_iret dd_personOf_13 rfl ?_
  change Rn xs xl e mm_findWay 105 [some (.inr (.inr 182)), some (.inl v1), some (.inl v2), some (.inl v3), some (.inl v4), some (.inl v5), o6, o7] [.inl (rd h 188 (4 * v2 + 117)), .inl 10, .inl v4] h _
  obtain ⟨s1, k⟩ := k
  refine R_iadd (c := (rd h 188 (4 * v2 + 117)) + 10) dd_findWay_105 (by omega) s1 rfl ?_
  refine R_icmp dd_findWay_106 rfl rfl (fun (c4 : v4 ≠ ((rd h 188 (4 * v2 + 117)) + 10)) => ?_) (fun (c4 : v4 = ((rd h 188 (4 * v2 + 117)) + 10)) => ?_)
  · replace k := k.1 c4
    refine R_ld (v := .inr (.inr 182)) dd_findWay_125 rfl rfl rfl rfl ?_
    refine R_gf (v := .inr (.inr 201)) dd_findWay_126 fd_12_141 io_182 (congrArg (fun z : Int => (Sum.inr (Sum.inr z) : LV)) (rf_182_32 hF)) rfl ?_
    refine R_bi dd_findWay_129 (by decide) rfl ?_
    refine R_ld (v := .inl v5) dd_findWay_131 rfl rfl rfl rfl ?_
    refine R_imul (c := 20 * v5) dd_findWay_133 (by omega) (by omega) rfl ?_
    refine R_ld (v := .inl v4) dd_findWay_134 rfl rfl rfl rfl ?_
    refine R_iadd (c := 20 * v5 + v4) dd_findWay_136 (by omega) (by omega) rfl ?_
    refine R_iald (v := (rd h 201 (20 * v5 + v4))) (n := 500) dd_findWay_137 ia_201 la_201 (by omega) (rfl) rfl ?_
    refine R_ic dd_findWay_138 (by decide) rfl ?_
    obtain ⟨s2, k⟩ := k
    refine R_isub (c := (rd h 201 (20 * v5 + v4)) - 1) dd_findWay_139 (by omega) s2 rfl ?_
    refine R_st (ls' := [some (.inr (.inr 182)), some (.inl v1), some (.inl v2), some (.inl v3), some (.inl v4), some (.inl v5), some (.inl ((rd h 201 (20 * v5 + v4)) - 1)), o7]) dd_findWay_140 rfl rfl rfl (Nat.le_of_ble_eq_true rfl) rfl rfl ?_
    refine R_ic dd_findWay_142 (by decide) rfl ?_
    refine R_st (ls' := [some (.inr (.inr 182)), some (.inl v1), some (.inl v2), some (.inl v3), some (.inl v4), some (.inl v5), some (.inl ((rd h 201 (20 * v5 + v4)) - 1)), some (.inl 0)]) dd_findWay_143 rfl rfl rfl (Nat.le_of_ble_eq_true rfl) rfl rfl ?_
    exact k
  · replace k := k.2 c4
    refine R_ld (v := .inr (.inr 182)) dd_findWay_109 rfl rfl rfl rfl ?_
    refine R_gf (v := .inr (.inr 201)) dd_findWay_110 fd_12_141 io_182 (congrArg (fun z : Int => (Sum.inr (Sum.inr z) : LV)) (rf_182_32 hF)) rfl ?_
    refine R_bi dd_findWay_113 (by decide) rfl ?_
    refine R_ld (v := .inl v5) dd_findWay_115 rfl rfl rfl rfl ?_
    refine R_imul (c := 20 * v5) dd_findWay_117 (by omega) (by omega) rfl ?_
    refine R_ld (v := .inl v4) dd_findWay_118 rfl rfl rfl rfl ?_
    refine R_iadd (c := 20 * v5 + v4) dd_findWay_120 (by omega) (by omega) rfl ?_
    refine R_iald (v := (rd h 201 (20 * v5 + v4))) (n := 500) dd_findWay_121 ia_201 la_201 (by omega) (rfl) rfl ?_
    refine R_if dd_findWay_122 rfl rfl (fun (c5 : (rd h 201 (20 * v5 + v4)) ≤ 0) => ?_) (fun (c5 : 0 < (rd h 201 (20 * v5 + v4))) => ?_)
    · replace k := k.1 c5
      refine R_ld (v := .inl v3) dd_findWay_205 rfl rfl rfl rfl ?_
      exact R_iret dd_findWay_206 rfl k
    · replace k := k.2 c5
      refine R_ld (v := .inr (.inr 182)) dd_findWay_125 rfl rfl rfl rfl ?_
      refine R_gf (v := .inr (.inr 201)) dd_findWay_126 fd_12_141 io_182 (congrArg (fun z : Int => (Sum.inr (Sum.inr z) : LV)) (rf_182_32 hF)) rfl ?_
      refine R_bi dd_findWay_129 (by decide) rfl ?_
      refine R_ld (v := .inl v5) dd_findWay_131 rfl rfl rfl rfl ?_
      refine R_imul (c := 20 * v5) dd_findWay_133 (by omega) (by omega) rfl ?_
      refine R_ld (v := .inl v4) dd_findWay_134 rfl rfl rfl rfl ?_
      refine R_iadd (c := 20 * v5 + v4) dd_findWay_136 (by omega) (by omega) rfl ?_
      refine R_iald (v := (rd h 201 (20 * v5 + v4))) (n := 500) dd_findWay_137 ia_201 la_201 (by omega) (rfl) rfl ?_
      refine R_ic dd_findWay_138 (by decide) rfl ?_
      obtain ⟨s3, k⟩ := k
      refine R_isub (c := (rd h 201 (20 * v5 + v4)) - 1) dd_findWay_139 (by omega) s3 rfl ?_
      refine R_st (ls' := [some (.inr (.inr 182)), some (.inl v1), some (.inl v2), some (.inl v3), some (.inl v4), some (.inl v5), some (.inl ((rd h 201 (20 * v5 + v4)) - 1)), o7]) dd_findWay_140 rfl rfl rfl (Nat.le_of_ble_eq_true rfl) rfl rfl ?_
      refine R_ic dd_findWay_142 (by decide) rfl ?_
      refine R_st (ls' := [some (.inr (.inr 182)), some (.inl v1), some (.inl v2), some (.inl v3), some (.inl v4), some (.inl v5), some (.inl ((rd h 201 (20 * v5 + v4)) - 1)), some (.inl 0)]) dd_findWay_143 rfl rfl rfl (Nat.le_of_ble_eq_true rfl) rfl rfl ?_
      exact k
theorem B_findWay_145 {xs : Nat → Int} {xl e : Nat} {h : LH} {Q : Option LV → LH → Prop} {v1 v2 v3 v4 v5 v6 v7 : Int} (hF : RF h) (r_v1 : 0 ≤ v1 ∧ v1 ≤ 1540) (r_v2 : 0 ≤ v2 ∧ v2 ≤ 5)
    (k : (∃ c, c < e ∧ Rn xs xl c mm_isNext 0 [some (.inr (.inr 182)), some (.inl v1), some (.inl v2), some (.inl v4), some (.inl v7), some (.inl v5), some (.inl v3), some (.inl v6), none, none] [] h (fun r h' => Rn xs xl e mm_findWay 160 [some (.inr (.inr 182)), some (.inl v1), some (.inl v2), some (.inl v3), some (.inl v4), some (.inl v5), some (.inl v6), some (.inl v7)] (r.toList ++ []) h' Q))) :
    Rn xs xl e mm_findWay 145 [some (.inr (.inr 182)), some (.inl v1), some (.inl v2), some (.inl v3), some (.inl v4), some (.inl v5), some (.inl v6), some (.inl v7)] [] h Q := by
  refine R_ld (v := .inr (.inr 182)) dd_findWay_145 rfl rfl rfl rfl ?_
  refine R_ld (v := .inl v1) dd_findWay_146 rfl rfl rfl rfl ?_
  refine R_ld (v := .inl v2) dd_findWay_147 rfl rfl rfl rfl ?_
  refine R_ld (v := .inl v4) dd_findWay_148 rfl rfl rfl rfl ?_
  refine R_ld (v := .inl v7) dd_findWay_150 rfl rfl rfl rfl ?_
  refine R_ld (v := .inl v5) dd_findWay_152 rfl rfl rfl rfl ?_
  refine R_ld (v := .inl v3) dd_findWay_154 rfl rfl rfl rfl ?_
  refine R_ld (v := .inl v6) dd_findWay_155 rfl rfl rfl rfl ?_
  obtain ⟨c, hc, k⟩ := k
  exact R_call (as := [.inr (.inr 182), .inl v1, .inl v2, .inl v4, .inl v7, .inl v5, .inl v3, .inl v6]) (rest := []) (M' := mm_isNext) (ls0 := [some (.inr (.inr 182)), some (.inl v1), some (.inl v2), some (.inl v4), some (.inl v7), some (.inl v5), some (.inl v3), some (.inl v6), none, none]) dd_findWay_157 rfl rfl (cw_v cw_12_406 io_182 rfl rfl (Nat.le_of_ble_eq_true rfl) (Nat.le_of_ble_eq_true rfl)) mt_isNext rfl hc rfl k
theorem B_findWay_160_1 {xs : Nat → Int} {xl e : Nat} {h : LH} {Q : Option LV → LH → Prop} {v1 v2 v3 v4 v5 v6 v7 : Int} (hF : RF h) (r_v1 : 0 ≤ v1 ∧ v1 ≤ 1540) (r_v2 : 0 ≤ v2 ∧ v2 ≤ 5)
    (k : (0 ≤ (rd h 182 34) ∧ (rd h 182 34) < 30) ∧
      (-2147483648 ≤ (rd h 182 34) + 1 ∧ (rd h 182 34) + 1 ≤ 2147483647) ∧
      Rn xs xl e mm_findWay 95 [some (.inr (.inr 182)), some (.inl v1), some (.inl v2), some (.inl v3), some (.inl (rd h 182 35)), some (.inl (rd h 182 36)), some (.inl v6), some (.inl v7)] [] (wr (wr h 202 (rd h 182 34) v7) 182 34 ((rd h 182 34) + 1)) Q) :
    Rn xs xl e mm_findWay 160 [some (.inr (.inr 182)), some (.inl v1), some (.inl v2), some (.inl v3), some (.inl v4), some (.inl v5), some (.inl v6), some (.inl v7)] [.inl 1] h Q := by
  refine R_if dd_findWay_160 rfl rfl (fun (c3 : 1 ≠ 0) => ?_) (fun (c3 : 1 = 0) => ?_)
  · skip
    refine R_ld (v := .inr (.inr 182)) dd_findWay_169 rfl rfl rfl rfl ?_
    refine R_gf (v := .inr (.inr 202)) dd_findWay_170 fd_12_144 io_182 (congrArg (fun z : Int => (Sum.inr (Sum.inr z) : LV)) (rf_182_33 hF)) rfl ?_
    refine R_ld (v := .inr (.inr 182)) dd_findWay_173 rfl rfl rfl rfl ?_
    refine R_gf (v := .inl (rd h 182 34)) dd_findWay_174 fd_12_400 io_182 (congrArg (fun z : Int => (Sum.inl z : LV)) (rfl)) rfl ?_
    refine R_ld (v := .inl v7) dd_findWay_177 rfl rfl rfl rfl ?_
    obtain ⟨s1, k⟩ := k
    refine R_iast (n := 30) dd_findWay_179 ia_202 la_202 s1 rfl ?_
    refine R_ld (v := .inr (.inr 182)) dd_findWay_180 rfl rfl rfl rfl ?_
    refine R_A dd_findWay_181 rfl rfl rfl rfl ?_
    refine R_gf (v := .inl (rd h 182 34)) dd_findWay_182 fd_12_400 io_182 (congrArg (fun z : Int => (Sum.inl z : LV)) (rdw_ne (by decide))) rfl ?_
    refine R_ic dd_findWay_185 (by decide) rfl ?_
    obtain ⟨s2, k⟩ := k
    refine R_iadd (c := (rd h 182 34) + 1) dd_findWay_186 (by omega) s2 rfl ?_
    refine R_pf (z := ((rd h 182 34) + 1)) dd_findWay_187 fd_12_400 io_182 fn_12_34 rfl rfl ?_
    refine R_ld (v := .inr (.inr 182)) dd_findWay_190 rfl rfl rfl rfl ?_
    refine R_gf (v := .inl (rd h 182 35)) dd_findWay_191 fd_12_410 io_182 (congrArg (fun z : Int => (Sum.inl z : LV)) ((rdw_nei (by omega)).trans (rdw_ne (by decide)))) rfl ?_
    refine R_st (ls' := [some (.inr (.inr 182)), some (.inl v1), some (.inl v2), some (.inl v3), some (.inl (rd h 182 35)), some (.inl v5), some (.inl v6), some (.inl v7)]) dd_findWay_194 rfl rfl rfl (Nat.le_of_ble_eq_true rfl) rfl rfl ?_
    refine R_ld (v := .inr (.inr 182)) dd_findWay_196 rfl rfl rfl rfl ?_
    refine R_gf (v := .inl (rd h 182 36)) dd_findWay_197 fd_12_413 io_182 (congrArg (fun z : Int => (Sum.inl z : LV)) ((rdw_nei (by omega)).trans (rdw_ne (by decide)))) rfl ?_
    refine R_st (ls' := [some (.inr (.inr 182)), some (.inl v1), some (.inl v2), some (.inl v3), some (.inl (rd h 182 35)), some (.inl (rd h 182 36)), some (.inl v6), some (.inl v7)]) dd_findWay_200 rfl rfl rfl (Nat.le_of_ble_eq_true rfl) rfl rfl ?_
    refine R_goto dd_findWay_202 rfl ?_
    exact k
  · exact absurd c3 (by omega)
theorem B_findWay_160_0 {xs : Nat → Int} {xl e : Nat} {h : LH} {Q : Option LV → LH → Prop} {v1 v2 v3 v4 v5 v6 v7 : Int} (hF : RF h) (r_v1 : 0 ≤ v1 ∧ v1 ≤ 1540) (r_v2 : 0 ≤ v2 ∧ v2 ≤ 5) (r_v7 : 0 ≤ v7 ∧ v7 ≤ 13)
    (k : Rn xs xl e mm_findWay 145 [some (.inr (.inr 182)), some (.inl v1), some (.inl v2), some (.inl v3), some (.inl v4), some (.inl v5), some (.inl v6), some (.inl (v7 + 1))] [] h Q) :
    Rn xs xl e mm_findWay 160 [some (.inr (.inr 182)), some (.inl v1), some (.inl v2), some (.inl v3), some (.inl v4), some (.inl v5), some (.inl v6), some (.inl v7)] [.inl 0] h Q := by
  refine R_if dd_findWay_160 rfl rfl (fun (c1 : 0 ≠ 0) => ?_) (fun (c1 : 0 = 0) => ?_)
  · exact absurd c1 (by omega)
  · skip
    refine R_inc (y := v7 + 1) (ls' := [some (.inr (.inr 182)), some (.inl v1), some (.inl v2), some (.inl v3), some (.inl v4), some (.inl v5), some (.inl v6), some (.inl (v7 + 1))]) dd_findWay_163 rfl (by decide) (by omega) (by omega) rfl rfl ?_
    refine R_goto dd_findWay_166 rfl ?_
    exact k
