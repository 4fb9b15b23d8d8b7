/-! LM, by program (wip/p2/hand.py): rows of years -/
def mm_Plans_doneInTime : LM_M := (⟨"OneSided$Plans", "doneInTime", "(LOneSided$Quarter;LOneSided$Scene;)I"⟩, prog_7_method_18_code, 6, (some .int), 5, 3, 0, 1173, 1172, 1000059)
def mm_Plans_runYears : LM_M := (⟨"OneSided$Plans", "runYears", "(LOneSided$Quarter;LOneSided$Scene;IIIZ)I"⟩, prog_7_method_15_code, 14, (some .int), 5, 7, 0, 1158, 1156, 1157)
def mm_Plans_nextDraw : LM_M := (⟨"OneSided$Plans", "nextDraw", "(J)J"⟩, prog_7_method_16_code, 2, (some .long), 5, 1, 1, 1161, 1160, 0)
def mm_Plans_below : LM_M := (⟨"OneSided$Plans", "below", "(JI)I"⟩, prog_7_method_17_code, 3, (some .int), 5, 2, 1, 1167, 1166, 0)
def mm_draw : LM_M := (⟨"OneSidedModel", "draw", "(I)I"⟩, prog_14_method_107_code, 2, (some .int), 12, 2, 0, 1809, 1808, 1000130)
theorem dd_Plans_doneInTime_0 : decode mm_Plans_doneInTime.2.1 0 = .ok (.iconst 0, 1) := by decide +kernel
theorem dd_Plans_doneInTime_1 : decode mm_Plans_doneInTime.2.1 1 = .ok (.istore_n 3, 1) := by decide +kernel
theorem dd_Plans_doneInTime_2 : decode mm_Plans_doneInTime.2.1 2 = .ok (.iconst 0, 1) := by decide +kernel
theorem dd_Plans_doneInTime_3 : decode mm_Plans_doneInTime.2.1 3 = .ok (.istore 4, 2) := by decide +kernel
theorem dd_Plans_doneInTime_5 : decode mm_Plans_doneInTime.2.1 5 = .ok (.iload 4, 2) := by decide +kernel
theorem dd_Plans_doneInTime_7 : decode mm_Plans_doneInTime.2.1 7 = .ok (.aload_n 1, 1) := by decide +kernel
theorem dd_Plans_doneInTime_8 : decode mm_Plans_doneInTime.2.1 8 = .ok (.getfield 132, 3) := by decide +kernel
theorem fd_5_132 : fld 5 132 = some (6, 4) := by decide +kernel
theorem dd_Plans_doneInTime_11 : decode mm_Plans_doneInTime.2.1 11 = .ok (.if_icmp .ge (43), 3) := by decide +kernel
theorem dd_Plans_doneInTime_54 : decode mm_Plans_doneInTime.2.1 54 = .ok (.iload_n 3, 1) := by decide +kernel
theorem dd_Plans_doneInTime_55 : decode mm_Plans_doneInTime.2.1 55 = .ok (.ireturn, 1) := by decide +kernel
theorem dd_Plans_doneInTime_14 : decode mm_Plans_doneInTime.2.1 14 = .ok (.aload_n 0, 1) := by decide +kernel
theorem dd_Plans_doneInTime_15 : decode mm_Plans_doneInTime.2.1 15 = .ok (.aload_n 1, 1) := by decide +kernel
theorem dd_Plans_doneInTime_16 : decode mm_Plans_doneInTime.2.1 16 = .ok (.aload_n 2, 1) := by decide +kernel
theorem dd_Plans_doneInTime_17 : decode mm_Plans_doneInTime.2.1 17 = .ok (.iload 4, 2) := by decide +kernel
theorem dd_Plans_doneInTime_19 : decode mm_Plans_doneInTime.2.1 19 = .ok (.invokevirtual 71, 3) := by decide +kernel
theorem cw_5_71 : cwOk 5 71 0 86 4 11 5 = true := by decide +kernel
theorem dd_Plans_doneInTime_22 : decode mm_Plans_doneInTime.2.1 22 = .ok (.istore 5, 2) := by decide +kernel
theorem dd_Plans_doneInTime_24 : decode mm_Plans_doneInTime.2.1 24 = .ok (.iload 5, 2) := by decide +kernel
theorem dd_Plans_doneInTime_26 : decode mm_Plans_doneInTime.2.1 26 = .ok (.iconst (-1), 1) := by decide +kernel
theorem dd_Plans_doneInTime_27 : decode mm_Plans_doneInTime.2.1 27 = .ok (.if_icmp .eq (21), 3) := by decide +kernel
theorem dd_Plans_doneInTime_48 : decode mm_Plans_doneInTime.2.1 48 = .ok (.iinc 4 1, 3) := by decide +kernel
theorem dd_Plans_doneInTime_51 : decode mm_Plans_doneInTime.2.1 51 = .ok (.goto (-46), 3) := by decide +kernel
theorem dd_Plans_doneInTime_30 : decode mm_Plans_doneInTime.2.1 30 = .ok (.iload 5, 2) := by decide +kernel
theorem dd_Plans_doneInTime_32 : decode mm_Plans_doneInTime.2.1 32 = .ok (.aload_n 1, 1) := by decide +kernel
theorem dd_Plans_doneInTime_33 : decode mm_Plans_doneInTime.2.1 33 = .ok (.getfield 27, 3) := by decide +kernel
theorem dd_Plans_doneInTime_36 : decode mm_Plans_doneInTime.2.1 36 = .ok (.iload 4, 2) := by decide +kernel
theorem dd_Plans_doneInTime_38 : decode mm_Plans_doneInTime.2.1 38 = .ok (.aaload, 1) := by decide +kernel
theorem dd_Plans_doneInTime_39 : decode mm_Plans_doneInTime.2.1 39 = .ok (.getfield 165, 3) := by decide +kernel
theorem fd_5_165 : fld 5 165 = some (4, 4) := by decide +kernel
theorem dd_Plans_doneInTime_42 : decode mm_Plans_doneInTime.2.1 42 = .ok (.if_icmp .gt (6), 3) := by decide +kernel
theorem dd_Plans_doneInTime_45 : decode mm_Plans_doneInTime.2.1 45 = .ok (.iinc 3 1, 3) := by decide +kernel
theorem dd_Plans_runYears_0 : decode mm_Plans_runYears.2.1 0 = .ok (.iload 4, 2) := by decide +kernel
theorem dd_Plans_runYears_2 : decode mm_Plans_runYears.2.1 2 = .ok (.i2l, 1) := by decide +kernel
theorem dd_Plans_runYears_3 : decode mm_Plans_runYears.2.1 3 = .ok (.lstore 7, 2) := by decide +kernel
theorem dd_Plans_runYears_5 : decode mm_Plans_runYears.2.1 5 = .ok (.iload_n 3, 1) := by decide +kernel
theorem dd_Plans_runYears_6 : decode mm_Plans_runYears.2.1 6 = .ok (.istore 9, 2) := by decide +kernel
theorem dd_Plans_runYears_8 : decode mm_Plans_runYears.2.1 8 = .ok (.iconst 0, 1) := by decide +kernel
theorem dd_Plans_runYears_9 : decode mm_Plans_runYears.2.1 9 = .ok (.istore 10, 2) := by decide +kernel
theorem dd_Plans_runYears_11 : decode mm_Plans_runYears.2.1 11 = .ok (.bipush 6, 2) := by decide +kernel
theorem dd_Plans_runYears_13 : decode mm_Plans_runYears.2.1 13 = .ok (.istore 11, 2) := by decide +kernel
theorem dd_Plans_runYears_15 : decode mm_Plans_runYears.2.1 15 = .ok (.iconst 0, 1) := by decide +kernel
theorem dd_Plans_runYears_16 : decode mm_Plans_runYears.2.1 16 = .ok (.istore 12, 2) := by decide +kernel
theorem dd_Plans_runYears_18 : decode mm_Plans_runYears.2.1 18 = .ok (.iload 12, 2) := by decide +kernel
theorem dd_Plans_runYears_20 : decode mm_Plans_runYears.2.1 20 = .ok (.iload 5, 2) := by decide +kernel
theorem dd_Plans_runYears_22 : decode mm_Plans_runYears.2.1 22 = .ok (.if_icmp .ge (87), 3) := by decide +kernel
theorem dd_Plans_runYears_109 : decode mm_Plans_runYears.2.1 109 = .ok (.iload 6, 2) := by decide +kernel
theorem dd_Plans_runYears_111 : decode mm_Plans_runYears.2.1 111 = .ok (.ifCond .eq (8), 3) := by decide +kernel
theorem dd_Plans_runYears_119 : decode mm_Plans_runYears.2.1 119 = .ok (.iload 10, 2) := by decide +kernel
theorem dd_Plans_runYears_121 : decode mm_Plans_runYears.2.1 121 = .ok (.ireturn, 1) := by decide +kernel
theorem dd_Plans_runYears_114 : decode mm_Plans_runYears.2.1 114 = .ok (.iload 11, 2) := by decide +kernel
theorem dd_Plans_runYears_116 : decode mm_Plans_runYears.2.1 116 = .ok (.goto 5, 3) := by decide +kernel
theorem dd_Plans_runYears_25 : decode mm_Plans_runYears.2.1 25 = .ok (.lload 7, 2) := by decide +kernel
theorem dd_Plans_runYears_27 : decode mm_Plans_runYears.2.1 27 = .ok (.invokestatic 168, 3) := by decide +kernel
theorem cw_5_168 : cwOk 5 168 1 149 1 2 5 = true := by decide +kernel
theorem mt_Plans_nextDraw : MTB 149 = some mm_Plans_nextDraw := rfl
theorem dd_Plans_nextDraw_0 : decode mm_Plans_nextDraw.2.1 0 = .ok (.lload_n 0, 1) := by decide +kernel
theorem dd_Plans_nextDraw_1 : decode mm_Plans_nextDraw.2.1 1 = .ok (.ldc2_w 184, 3) := by decide +kernel
theorem dd_Plans_nextDraw_4 : decode mm_Plans_nextDraw.2.1 4 = .ok (.lmul, 1) := by decide +kernel
theorem dd_Plans_nextDraw_5 : decode mm_Plans_nextDraw.2.1 5 = .ok (.ldc2_w 186, 3) := by decide +kernel
theorem dd_Plans_nextDraw_8 : decode mm_Plans_nextDraw.2.1 8 = .ok (.ladd, 1) := by decide +kernel
theorem dd_Plans_nextDraw_9 : decode mm_Plans_nextDraw.2.1 9 = .ok (.ldc2_w 188, 3) := by decide +kernel
theorem dd_Plans_nextDraw_12 : decode mm_Plans_nextDraw.2.1 12 = .ok (.lrem, 1) := by decide +kernel
theorem dd_Plans_nextDraw_13 : decode mm_Plans_nextDraw.2.1 13 = .ok (.lreturn, 1) := by decide +kernel
theorem dd_Plans_runYears_30 : decode mm_Plans_runYears.2.1 30 = .ok (.lstore 7, 2) := by decide +kernel
theorem dd_Plans_runYears_32 : decode mm_Plans_runYears.2.1 32 = .ok (.iload 9, 2) := by decide +kernel
theorem dd_Plans_runYears_34 : decode mm_Plans_runYears.2.1 34 = .ok (.iconst 1, 1) := by decide +kernel
theorem dd_Plans_runYears_35 : decode mm_Plans_runYears.2.1 35 = .ok (.lload 7, 2) := by decide +kernel
theorem dd_Plans_runYears_37 : decode mm_Plans_runYears.2.1 37 = .ok (.aload_n 1, 1) := by decide +kernel
theorem dd_Plans_runYears_38 : decode mm_Plans_runYears.2.1 38 = .ok (.getfield 103, 3) := by decide +kernel
theorem fd_5_103 : fld 5 103 = some (6, 2) := by decide +kernel
theorem dd_Plans_runYears_41 : decode mm_Plans_runYears.2.1 41 = .ok (.invokestatic 172, 3) := by decide +kernel
theorem cw_5_172 : cwOk 5 172 1 150 2 3 5 = true := by decide +kernel
theorem mt_Plans_below : MTB 150 = some mm_Plans_below := rfl
theorem dd_Plans_below_0 : decode mm_Plans_below.2.1 0 = .ok (.iload_n 2, 1) := by decide +kernel
theorem dd_Plans_below_1 : decode mm_Plans_below.2.1 1 = .ok (.ifCond .le (15), 3) := by decide +kernel
theorem dd_Plans_below_16 : decode mm_Plans_below.2.1 16 = .ok (.iconst 0, 1) := by decide +kernel
theorem dd_Plans_below_17 : decode mm_Plans_below.2.1 17 = .ok (.ireturn, 1) := by decide +kernel
theorem dd_Plans_runYears_44 : decode mm_Plans_runYears.2.1 44 = .ok (.ishl, 1) := by decide +kernel
theorem dd_Plans_runYears_45 : decode mm_Plans_runYears.2.1 45 = .ok (.ixor, 1) := by decide +kernel
theorem dd_Plans_runYears_46 : decode mm_Plans_runYears.2.1 46 = .ok (.istore 9, 2) := by decide +kernel
theorem dd_Plans_runYears_48 : decode mm_Plans_runYears.2.1 48 = .ok (.lload 7, 2) := by decide +kernel
theorem dd_Plans_runYears_50 : decode mm_Plans_runYears.2.1 50 = .ok (.invokestatic 168, 3) := by decide +kernel
theorem dd_Plans_runYears_53 : decode mm_Plans_runYears.2.1 53 = .ok (.lstore 7, 2) := by decide +kernel
theorem dd_Plans_runYears_55 : decode mm_Plans_runYears.2.1 55 = .ok (.lload 7, 2) := by decide +kernel
theorem dd_Plans_runYears_57 : decode mm_Plans_runYears.2.1 57 = .ok (.bipush 10, 2) := by decide +kernel
theorem dd_Plans_runYears_59 : decode mm_Plans_runYears.2.1 59 = .ok (.invokestatic 172, 3) := by decide +kernel
theorem dd_Plans_below_4 : decode mm_Plans_below.2.1 4 = .ok (.lload_n 0, 1) := by decide +kernel
theorem dd_Plans_below_5 : decode mm_Plans_below.2.1 5 = .ok (.ldc2_w 190, 3) := by decide +kernel
theorem dd_Plans_below_8 : decode mm_Plans_below.2.1 8 = .ok (.ldiv, 1) := by decide +kernel
theorem dd_Plans_below_9 : decode mm_Plans_below.2.1 9 = .ok (.iload_n 2, 1) := by decide +kernel
theorem dd_Plans_below_10 : decode mm_Plans_below.2.1 10 = .ok (.i2l, 1) := by decide +kernel
theorem dd_Plans_below_11 : decode mm_Plans_below.2.1 11 = .ok (.lrem, 1) := by decide +kernel
theorem dd_Plans_below_12 : decode mm_Plans_below.2.1 12 = .ok (.l2i, 1) := by decide +kernel
theorem dd_Plans_below_13 : decode mm_Plans_below.2.1 13 = .ok (.goto 4, 3) := by decide +kernel
theorem dd_Plans_runYears_62 : decode mm_Plans_runYears.2.1 62 = .ok (.ifCond .ne (6), 3) := by decide +kernel
theorem dd_Plans_runYears_65 : decode mm_Plans_runYears.2.1 65 = .ok (.iconst 0, 1) := by decide +kernel
theorem dd_Plans_runYears_66 : decode mm_Plans_runYears.2.1 66 = .ok (.istore 9, 2) := by decide +kernel
theorem dd_Plans_runYears_68 : decode mm_Plans_runYears.2.1 68 = .ok (.aload_n 2, 1) := by decide +kernel
theorem dd_Plans_runYears_69 : decode mm_Plans_runYears.2.1 69 = .ok (.aload_n 1, 1) := by decide +kernel
theorem dd_Plans_runYears_70 : decode mm_Plans_runYears.2.1 70 = .ok (.invokevirtual 176, 3) := by decide +kernel
theorem cw_5_176 : cwOk 5 176 0 52 2 4 9 = true := by decide +kernel
theorem dd_Plans_runYears_73 : decode mm_Plans_runYears.2.1 73 = .ok (.aload_n 2, 1) := by decide +kernel
theorem dd_Plans_runYears_74 : decode mm_Plans_runYears.2.1 74 = .ok (.iload 9, 2) := by decide +kernel
theorem dd_Plans_runYears_76 : decode mm_Plans_runYears.2.1 76 = .ok (.putfield 46, 3) := by decide +kernel
theorem dd_Plans_runYears_79 : decode mm_Plans_runYears.2.1 79 = .ok (.aload_n 0, 1) := by decide +kernel
theorem dd_Plans_runYears_80 : decode mm_Plans_runYears.2.1 80 = .ok (.aload_n 1, 1) := by decide +kernel
theorem dd_Plans_runYears_81 : decode mm_Plans_runYears.2.1 81 = .ok (.aload_n 2, 1) := by decide +kernel
theorem dd_Plans_runYears_82 : decode mm_Plans_runYears.2.1 82 = .ok (.invokevirtual 180, 3) := by decide +kernel
theorem cw_5_180 : cwOk 5 180 0 151 3 6 5 = true := by decide +kernel
theorem mt_Plans_doneInTime : MTB 151 = some mm_Plans_doneInTime := rfl
theorem dd_Plans_runYears_85 : decode mm_Plans_runYears.2.1 85 = .ok (.istore 13, 2) := by decide +kernel
theorem dd_Plans_runYears_87 : decode mm_Plans_runYears.2.1 87 = .ok (.iload 10, 2) := by decide +kernel
theorem dd_Plans_runYears_89 : decode mm_Plans_runYears.2.1 89 = .ok (.iload 13, 2) := by decide +kernel
theorem dd_Plans_runYears_91 : decode mm_Plans_runYears.2.1 91 = .ok (.iadd, 1) := by decide +kernel
theorem dd_Plans_runYears_92 : decode mm_Plans_runYears.2.1 92 = .ok (.istore 10, 2) := by decide +kernel
theorem dd_Plans_runYears_94 : decode mm_Plans_runYears.2.1 94 = .ok (.iload 11, 2) := by decide +kernel
theorem dd_Plans_runYears_96 : decode mm_Plans_runYears.2.1 96 = .ok (.iload 13, 2) := by decide +kernel
theorem dd_Plans_runYears_98 : decode mm_Plans_runYears.2.1 98 = .ok (.invokestatic 122, 3) := by decide +kernel
theorem dd_Plans_runYears_101 : decode mm_Plans_runYears.2.1 101 = .ok (.istore 11, 2) := by decide +kernel
theorem dd_Plans_runYears_103 : decode mm_Plans_runYears.2.1 103 = .ok (.iinc 12 1, 3) := by decide +kernel
theorem dd_Plans_runYears_106 : decode mm_Plans_runYears.2.1 106 = .ok (.goto (-88), 3) := by decide +kernel
theorem dd_OneSided_years_0 : decode mm_OneSided_years.2.1 0 = .ok (.iload_n 1, 1) := by decide +kernel
theorem dd_OneSided_years_1 : decode mm_OneSided_years.2.1 1 = .ok (.ifCond .lt (21), 3) := by decide +kernel
theorem dd_OneSided_years_22 : decode mm_OneSided_years.2.1 22 = .ok (.iconst (-1), 1) := by decide +kernel
theorem dd_OneSided_years_23 : decode mm_OneSided_years.2.1 23 = .ok (.ireturn, 1) := by decide +kernel
theorem dd_OneSided_years_4 : decode mm_OneSided_years.2.1 4 = .ok (.iload_n 1, 1) := by decide +kernel
theorem dd_OneSided_years_5 : decode mm_OneSided_years.2.1 5 = .ok (.sipush 9999, 3) := by decide +kernel
theorem dd_OneSided_years_8 : decode mm_OneSided_years.2.1 8 = .ok (.if_icmp .gt (14), 3) := by decide +kernel
theorem dd_OneSided_years_11 : decode mm_OneSided_years.2.1 11 = .ok (.iload_n 2, 1) := by decide +kernel
theorem dd_OneSided_years_12 : decode mm_OneSided_years.2.1 12 = .ok (.iconst 1, 1) := by decide +kernel
theorem dd_OneSided_years_13 : decode mm_OneSided_years.2.1 13 = .ok (.if_icmp .lt (9), 3) := by decide +kernel
theorem dd_OneSided_years_16 : decode mm_OneSided_years.2.1 16 = .ok (.iload_n 2, 1) := by decide +kernel
theorem dd_OneSided_years_17 : decode mm_OneSided_years.2.1 17 = .ok (.bipush 60, 2) := by decide +kernel
theorem dd_OneSided_years_19 : decode mm_OneSided_years.2.1 19 = .ok (.if_icmp .le (5), 3) := by decide +kernel
theorem dd_OneSided_years_24 : decode mm_OneSided_years.2.1 24 = .ok (.iload_n 3, 1) := by decide +kernel
theorem dd_OneSided_years_25 : decode mm_OneSided_years.2.1 25 = .ok (.ifCond .eq (8), 3) := by decide +kernel
theorem dd_OneSided_years_33 : decode mm_OneSided_years.2.1 33 = .ok (.aload_n 0, 1) := by decide +kernel
theorem dd_OneSided_years_34 : decode mm_OneSided_years.2.1 34 = .ok (.getfield 19, 3) := by decide +kernel
theorem dd_OneSided_years_37 : decode mm_OneSided_years.2.1 37 = .ok (.getfield 345, 3) := by decide +kernel
theorem dd_OneSided_years_40 : decode mm_OneSided_years.2.1 40 = .ok (.iconst 1, 1) := by decide +kernel
theorem dd_OneSided_years_41 : decode mm_OneSided_years.2.1 41 = .ok (.if_icmp .ge (5), 3) := by decide +kernel
theorem dd_OneSided_years_46 : decode mm_OneSided_years.2.1 46 = .ok (.aload_n 0, 1) := by decide +kernel
theorem dd_OneSided_years_47 : decode mm_OneSided_years.2.1 47 = .ok (.getfield 49, 3) := by decide +kernel
theorem dd_OneSided_years_50 : decode mm_OneSided_years.2.1 50 = .ok (.aload_n 0, 1) := by decide +kernel
theorem dd_OneSided_years_51 : decode mm_OneSided_years.2.1 51 = .ok (.getfield 19, 3) := by decide +kernel
theorem dd_OneSided_years_54 : decode mm_OneSided_years.2.1 54 = .ok (.aload_n 0, 1) := by decide +kernel
theorem dd_OneSided_years_55 : decode mm_OneSided_years.2.1 55 = .ok (.getfield 33, 3) := by decide +kernel
theorem dd_OneSided_years_58 : decode mm_OneSided_years.2.1 58 = .ok (.getfield 149, 3) := by decide +kernel
theorem dd_OneSided_years_61 : decode mm_OneSided_years.2.1 61 = .ok (.aload_n 0, 1) := by decide +kernel
theorem dd_OneSided_years_62 : decode mm_OneSided_years.2.1 62 = .ok (.getfield 29, 3) := by decide +kernel
theorem dd_OneSided_years_65 : decode mm_OneSided_years.2.1 65 = .ok (.getfield 149, 3) := by decide +kernel
theorem dd_OneSided_years_68 : decode mm_OneSided_years.2.1 68 = .ok (.getfield 153, 3) := by decide +kernel
theorem dd_OneSided_years_71 : decode mm_OneSided_years.2.1 71 = .ok (.iload_n 1, 1) := by decide +kernel
theorem dd_OneSided_years_72 : decode mm_OneSided_years.2.1 72 = .ok (.iload_n 2, 1) := by decide +kernel
theorem dd_OneSided_years_73 : decode mm_OneSided_years.2.1 73 = .ok (.iload_n 3, 1) := by decide +kernel
theorem dd_OneSided_years_74 : decode mm_OneSided_years.2.1 74 = .ok (.iconst 1, 1) := by decide +kernel
theorem dd_OneSided_years_75 : decode mm_OneSided_years.2.1 75 = .ok (.if_icmp .ne (7), 3) := by decide +kernel
theorem dd_OneSided_years_82 : decode mm_OneSided_years.2.1 82 = .ok (.iconst 0, 1) := by decide +kernel
theorem dd_OneSided_years_83 : decode mm_OneSided_years.2.1 83 = .ok (.invokevirtual 348, 3) := by decide +kernel
theorem cw_11_348 : cwOk 11 348 0 148 7 14 5 = true := by decide +kernel
theorem mt_Plans_runYears : MTB 148 = some mm_Plans_runYears := rfl
theorem dd_OneSided_years_78 : decode mm_OneSided_years.2.1 78 = .ok (.iconst 1, 1) := by decide +kernel
theorem dd_OneSided_years_79 : decode mm_OneSided_years.2.1 79 = .ok (.goto 4, 3) := by decide +kernel
theorem dd_OneSided_years_44 : decode mm_OneSided_years.2.1 44 = .ok (.iconst (-1), 1) := by decide +kernel
theorem dd_OneSided_years_45 : decode mm_OneSided_years.2.1 45 = .ok (.ireturn, 1) := by decide +kernel
theorem dd_OneSided_years_28 : decode mm_OneSided_years.2.1 28 = .ok (.iload_n 3, 1) := by decide +kernel
theorem dd_OneSided_years_29 : decode mm_OneSided_years.2.1 29 = .ok (.iconst 1, 1) := by decide +kernel
theorem dd_OneSided_years_30 : decode mm_OneSided_years.2.1 30 = .ok (.if_icmp .ne (14), 3) := by decide +kernel
theorem dd_OneSided_years_86 : decode mm_OneSided_years.2.1 86 = .ok (.ireturn, 1) := by decide +kernel
theorem dd_years_0 : decode mm_years.2.1 0 = .ok (.aload_n 0, 1) := by decide +kernel
theorem dd_years_1 : decode mm_years.2.1 1 = .ok (.iconst 0, 1) := by decide +kernel
theorem dd_years_2 : decode mm_years.2.1 2 = .ok (.putfield 1, 3) := by decide +kernel
theorem dd_years_5 : decode mm_years.2.1 5 = .ok (.iload_n 1, 1) := by decide +kernel
theorem dd_years_6 : decode mm_years.2.1 6 = .ok (.iconst 0, 1) := by decide +kernel
theorem dd_years_7 : decode mm_years.2.1 7 = .ok (.sipush 9999, 3) := by decide +kernel
theorem dd_years_10 : decode mm_years.2.1 10 = .ok (.invokestatic 297, 3) := by decide +kernel
theorem dd_years_13 : decode mm_years.2.1 13 = .ok (.ifCond .eq (29), 3) := by decide +kernel
theorem dd_years_42 : decode mm_years.2.1 42 = .ok (.iconst (-1), 1) := by decide +kernel
theorem dd_years_43 : decode mm_years.2.1 43 = .ok (.ireturn, 1) := by decide +kernel
theorem dd_years_16 : decode mm_years.2.1 16 = .ok (.iload_n 2, 1) := by decide +kernel
theorem dd_years_17 : decode mm_years.2.1 17 = .ok (.iconst 1, 1) := by decide +kernel
theorem dd_years_18 : decode mm_years.2.1 18 = .ok (.bipush 60, 2) := by decide +kernel
theorem dd_years_20 : decode mm_years.2.1 20 = .ok (.invokestatic 297, 3) := by decide +kernel
theorem dd_years_23 : decode mm_years.2.1 23 = .ok (.ifCond .eq (19), 3) := by decide +kernel
theorem dd_years_26 : decode mm_years.2.1 26 = .ok (.iload_n 3, 1) := by decide +kernel
theorem dd_years_27 : decode mm_years.2.1 27 = .ok (.iconst 0, 1) := by decide +kernel
theorem dd_years_28 : decode mm_years.2.1 28 = .ok (.iconst 1, 1) := by decide +kernel
theorem dd_years_29 : decode mm_years.2.1 29 = .ok (.invokestatic 297, 3) := by decide +kernel
theorem dd_years_32 : decode mm_years.2.1 32 = .ok (.ifCond .eq (10), 3) := by decide +kernel
theorem dd_years_35 : decode mm_years.2.1 35 = .ok (.aload_n 0, 1) := by decide +kernel
theorem dd_years_36 : decode mm_years.2.1 36 = .ok (.invokevirtual 335, 3) := by decide +kernel
theorem dd_years_39 : decode mm_years.2.1 39 = .ok (.ifCond .ne (5), 3) := by decide +kernel
theorem dd_years_44 : decode mm_years.2.1 44 = .ok (.aload_n 0, 1) := by decide +kernel
theorem dd_years_45 : decode mm_years.2.1 45 = .ok (.iload_n 1, 1) := by decide +kernel
theorem dd_years_46 : decode mm_years.2.1 46 = .ok (.i2l, 1) := by decide +kernel
theorem dd_years_47 : decode mm_years.2.1 47 = .ok (.putfield 492, 3) := by decide +kernel
theorem fd_12_492 : fld 12 492 = some (12, 54) := by decide +kernel
theorem fn_12_54 : fin 12 54 = false := by decide +kernel
theorem dd_years_50 : decode mm_years.2.1 50 = .ok (.aload_n 0, 1) := by decide +kernel
theorem dd_years_51 : decode mm_years.2.1 51 = .ok (.sipush 1540, 3) := by decide +kernel
theorem dd_years_54 : decode mm_years.2.1 54 = .ok (.invokevirtual 319, 3) := by decide +kernel
theorem dd_years_57 : decode mm_years.2.1 57 = .ok (.aload_n 0, 1) := by decide +kernel
theorem dd_years_58 : decode mm_years.2.1 58 = .ok (.getfield 125, 3) := by decide +kernel
theorem dd_years_61 : decode mm_years.2.1 61 = .ok (.sipush 1541, 3) := by decide +kernel
theorem dd_years_64 : decode mm_years.2.1 64 = .ok (.aload_n 0, 1) := by decide +kernel
theorem dd_years_65 : decode mm_years.2.1 65 = .ok (.getfield 125, 3) := by decide +kernel
theorem dd_years_68 : decode mm_years.2.1 68 = .ok (.iconst 1, 1) := by decide +kernel
theorem dd_years_69 : decode mm_years.2.1 69 = .ok (.iaload, 1) := by decide +kernel
theorem dd_years_70 : decode mm_years.2.1 70 = .ok (.iastore, 1) := by decide +kernel
theorem dd_years_71 : decode mm_years.2.1 71 = .ok (.iconst 0, 1) := by decide +kernel
theorem dd_years_72 : decode mm_years.2.1 72 = .ok (.istore 4, 2) := by decide +kernel
theorem dd_years_74 : decode mm_years.2.1 74 = .ok (.ldc_w 396, 3) := by decide +kernel
theorem dd_years_77 : decode mm_years.2.1 77 = .ok (.istore 5, 2) := by decide +kernel
theorem dd_years_79 : decode mm_years.2.1 79 = .ok (.iconst 0, 1) := by decide +kernel
theorem dd_years_80 : decode mm_years.2.1 80 = .ok (.istore 6, 2) := by decide +kernel
theorem dd_years_82 : decode mm_years.2.1 82 = .ok (.iload 6, 2) := by decide +kernel
theorem dd_years_84 : decode mm_years.2.1 84 = .ok (.iload_n 2, 1) := by decide +kernel
theorem dd_years_85 : decode mm_years.2.1 85 = .ok (.if_icmp .ge (141), 3) := by decide +kernel
theorem dd_years_226 : decode mm_years.2.1 226 = .ok (.iload_n 3, 1) := by decide +kernel
theorem dd_years_227 : decode mm_years.2.1 227 = .ok (.ifCond .ne (8), 3) := by decide +kernel
theorem dd_years_235 : decode mm_years.2.1 235 = .ok (.iload 5, 2) := by decide +kernel
theorem dd_years_237 : decode mm_years.2.1 237 = .ok (.ireturn, 1) := by decide +kernel
theorem dd_years_230 : decode mm_years.2.1 230 = .ok (.iload 4, 2) := by decide +kernel
theorem dd_years_232 : decode mm_years.2.1 232 = .ok (.goto 5, 3) := by decide +kernel
theorem dd_years_88 : decode mm_years.2.1 88 = .ok (.aload_n 0, 1) := by decide +kernel
theorem dd_years_89 : decode mm_years.2.1 89 = .ok (.getfield 125, 3) := by decide +kernel
theorem dd_years_92 : decode mm_years.2.1 92 = .ok (.sipush 1541, 3) := by decide +kernel
theorem dd_years_95 : decode mm_years.2.1 95 = .ok (.dup2, 1) := by decide +kernel
theorem dd_years_96 : decode mm_years.2.1 96 = .ok (.iaload, 1) := by decide +kernel
theorem dd_years_97 : decode mm_years.2.1 97 = .ok (.iconst 1, 1) := by decide +kernel
theorem dd_years_98 : decode mm_years.2.1 98 = .ok (.aload_n 0, 1) := by decide +kernel
theorem dd_years_99 : decode mm_years.2.1 99 = .ok (.aload_n 0, 1) := by decide +kernel
theorem dd_years_100 : decode mm_years.2.1 100 = .ok (.invokevirtual 335, 3) := by decide +kernel
theorem dd_years_103 : decode mm_years.2.1 103 = .ok (.invokevirtual 504, 3) := by decide +kernel
theorem cw_12_504 : cwOk 12 504 0 261 2 2 12 = true := by decide +kernel
theorem mt_draw : MTB 261 = some mm_draw := rfl
theorem dd_draw_0 : decode mm_draw.2.1 0 = .ok (.aload_n 0, 1) := by decide +kernel
theorem dd_draw_1 : decode mm_draw.2.1 1 = .ok (.aload_n 0, 1) := by decide +kernel
theorem dd_draw_2 : decode mm_draw.2.1 2 = .ok (.getfield 492, 3) := by decide +kernel
theorem dd_draw_5 : decode mm_draw.2.1 5 = .ok (.ldc2_w 496, 3) := by decide +kernel
theorem dd_draw_8 : decode mm_draw.2.1 8 = .ok (.lmul, 1) := by decide +kernel
theorem dd_draw_9 : decode mm_draw.2.1 9 = .ok (.ldc2_w 498, 3) := by decide +kernel
theorem dd_draw_12 : decode mm_draw.2.1 12 = .ok (.ladd, 1) := by decide +kernel
theorem dd_draw_13 : decode mm_draw.2.1 13 = .ok (.ldc2_w 500, 3) := by decide +kernel
theorem dd_draw_16 : decode mm_draw.2.1 16 = .ok (.lrem, 1) := by decide +kernel
theorem dd_draw_17 : decode mm_draw.2.1 17 = .ok (.putfield 492, 3) := by decide +kernel
theorem dd_draw_20 : decode mm_draw.2.1 20 = .ok (.aload_n 0, 1) := by decide +kernel
theorem dd_draw_21 : decode mm_draw.2.1 21 = .ok (.getfield 492, 3) := by decide +kernel
theorem dd_draw_24 : decode mm_draw.2.1 24 = .ok (.ldc2_w 502, 3) := by decide +kernel
theorem dd_draw_27 : decode mm_draw.2.1 27 = .ok (.ldiv, 1) := by decide +kernel
theorem dd_draw_28 : decode mm_draw.2.1 28 = .ok (.iload_n 1, 1) := by decide +kernel
theorem dd_draw_29 : decode mm_draw.2.1 29 = .ok (.i2l, 1) := by decide +kernel
theorem dd_draw_30 : decode mm_draw.2.1 30 = .ok (.lrem, 1) := by decide +kernel
theorem dd_draw_31 : decode mm_draw.2.1 31 = .ok (.l2i, 1) := by decide +kernel
theorem dd_draw_32 : decode mm_draw.2.1 32 = .ok (.ireturn, 1) := by decide +kernel
theorem dd_years_106 : decode mm_years.2.1 106 = .ok (.ishl, 1) := by decide +kernel
theorem dd_years_107 : decode mm_years.2.1 107 = .ok (.ixor, 1) := by decide +kernel
theorem dd_years_108 : decode mm_years.2.1 108 = .ok (.iastore, 1) := by decide +kernel
theorem dd_years_109 : decode mm_years.2.1 109 = .ok (.aload_n 0, 1) := by decide +kernel
theorem dd_years_110 : decode mm_years.2.1 110 = .ok (.getfield 125, 3) := by decide +kernel
theorem dd_years_113 : decode mm_years.2.1 113 = .ok (.sipush 1541, 3) := by decide +kernel
theorem dd_years_116 : decode mm_years.2.1 116 = .ok (.aload_n 0, 1) := by decide +kernel
theorem dd_years_117 : decode mm_years.2.1 117 = .ok (.bipush 10, 2) := by decide +kernel
theorem dd_years_119 : decode mm_years.2.1 119 = .ok (.invokevirtual 504, 3) := by decide +kernel
theorem dd_years_122 : decode mm_years.2.1 122 = .ok (.ifCond .ne (7), 3) := by decide +kernel
theorem dd_years_129 : decode mm_years.2.1 129 = .ok (.aload_n 0, 1) := by decide +kernel
theorem dd_years_130 : decode mm_years.2.1 130 = .ok (.getfield 125, 3) := by decide +kernel
theorem dd_years_133 : decode mm_years.2.1 133 = .ok (.sipush 1541, 3) := by decide +kernel
theorem dd_years_136 : decode mm_years.2.1 136 = .ok (.iaload, 1) := by decide +kernel
theorem dd_years_137 : decode mm_years.2.1 137 = .ok (.iastore, 1) := by decide +kernel
theorem dd_years_125 : decode mm_years.2.1 125 = .ok (.iconst 0, 1) := by decide +kernel
theorem dd_years_126 : decode mm_years.2.1 126 = .ok (.goto 11, 3) := by decide +kernel
theorem dd_years_138 : decode mm_years.2.1 138 = .ok (.iconst 0, 1) := by decide +kernel
theorem dd_years_139 : decode mm_years.2.1 139 = .ok (.istore 7, 2) := by decide +kernel
theorem dd_years_141 : decode mm_years.2.1 141 = .ok (.iconst 0, 1) := by decide +kernel
theorem dd_years_142 : decode mm_years.2.1 142 = .ok (.istore 8, 2) := by decide +kernel
theorem dd_years_144 : decode mm_years.2.1 144 = .ok (.iload 8, 2) := by decide +kernel
theorem dd_years_146 : decode mm_years.2.1 146 = .ok (.aload_n 0, 1) := by decide +kernel
theorem dd_years_147 : decode mm_years.2.1 147 = .ok (.invokevirtual 338, 3) := by decide +kernel
theorem dd_years_150 : decode mm_years.2.1 150 = .ok (.if_icmp .ge (47), 3) := by decide +kernel
theorem dd_years_197 : decode mm_years.2.1 197 = .ok (.iload 4, 2) := by decide +kernel
theorem dd_years_199 : decode mm_years.2.1 199 = .ok (.iload 7, 2) := by decide +kernel
theorem dd_years_201 : decode mm_years.2.1 201 = .ok (.iadd, 1) := by decide +kernel
theorem dd_years_202 : decode mm_years.2.1 202 = .ok (.istore 4, 2) := by decide +kernel
theorem dd_years_204 : decode mm_years.2.1 204 = .ok (.iload 7, 2) := by decide +kernel
theorem dd_years_206 : decode mm_years.2.1 206 = .ok (.iload 5, 2) := by decide +kernel
theorem dd_years_208 : decode mm_years.2.1 208 = .ok (.if_icmp .ge (8), 3) := by decide +kernel
theorem dd_years_216 : decode mm_years.2.1 216 = .ok (.iload 5, 2) := by decide +kernel
theorem dd_years_218 : decode mm_years.2.1 218 = .ok (.istore 5, 2) := by decide +kernel
theorem dd_years_220 : decode mm_years.2.1 220 = .ok (.iinc 6 1, 3) := by decide +kernel
theorem dd_years_223 : decode mm_years.2.1 223 = .ok (.goto (-141), 3) := by decide +kernel
theorem dd_years_211 : decode mm_years.2.1 211 = .ok (.iload 7, 2) := by decide +kernel
theorem dd_years_213 : decode mm_years.2.1 213 = .ok (.goto 5, 3) := by decide +kernel
theorem dd_years_153 : decode mm_years.2.1 153 = .ok (.aload_n 0, 1) := by decide +kernel
theorem dd_years_154 : decode mm_years.2.1 154 = .ok (.sipush 1540, 3) := by decide +kernel
theorem dd_years_157 : decode mm_years.2.1 157 = .ok (.iload 8, 2) := by decide +kernel
theorem dd_years_159 : decode mm_years.2.1 159 = .ok (.invokevirtual 397, 3) := by decide +kernel
theorem dd_years_162 : decode mm_years.2.1 162 = .ok (.istore 9, 2) := by decide +kernel
theorem dd_years_164 : decode mm_years.2.1 164 = .ok (.iload 7, 2) := by decide +kernel
theorem dd_years_166 : decode mm_years.2.1 166 = .ok (.iload 9, 2) := by decide +kernel
theorem dd_years_168 : decode mm_years.2.1 168 = .ok (.ifCond .lt (19), 3) := by decide +kernel
theorem dd_years_187 : decode mm_years.2.1 187 = .ok (.iconst 0, 1) := by decide +kernel
theorem dd_years_188 : decode mm_years.2.1 188 = .ok (.iadd, 1) := by decide +kernel
theorem dd_years_189 : decode mm_years.2.1 189 = .ok (.istore 7, 2) := by decide +kernel
theorem dd_years_191 : decode mm_years.2.1 191 = .ok (.iinc 8 1, 3) := by decide +kernel
theorem dd_years_194 : decode mm_years.2.1 194 = .ok (.goto (-50), 3) := by decide +kernel
theorem dd_years_171 : decode mm_years.2.1 171 = .ok (.iload 9, 2) := by decide +kernel
theorem dd_years_173 : decode mm_years.2.1 173 = .ok (.aload_n 0, 1) := by decide +kernel
theorem dd_years_174 : decode mm_years.2.1 174 = .ok (.iload 8, 2) := by decide +kernel
theorem dd_years_176 : decode mm_years.2.1 176 = .ok (.iconst 3, 1) := by decide +kernel
theorem dd_years_177 : decode mm_years.2.1 177 = .ok (.invokevirtual 325, 3) := by decide +kernel
theorem dd_years_180 : decode mm_years.2.1 180 = .ok (.if_icmp .gt (7), 3) := by decide +kernel
theorem dd_years_183 : decode mm_years.2.1 183 = .ok (.iconst 1, 1) := by decide +kernel
theorem dd_years_184 : decode mm_years.2.1 184 = .ok (.goto 4, 3) := by decide +kernel
def ldv (a b : Int) : Int := w64 (a.tdiv b)
def lrm (a b : Int) : Int := w64 (a - w64 (w64 (a.tdiv b) * b))
section LDV
variable {xs : Nat → Int} {xl d : Nat} {M : LM_M} {pc p' : Nat} {ls : LL} {st : List LV} {h : LH} {Q : Option LV → LH → Prop}
theorem R_ldv {a b : Int} (hd : decode M.2.1 pc = .ok (.ldiv, 1)) (hb : b ≠ 0) (hp : pc + 1 = p') (k : Rn xs xl d M p' ls (.inr (.inl (ldv a b)) :: st) h Q) : Rn xs xl d M pc ls (.inr (.inl b) :: .inr (.inl a) :: st) h Q := R_A hd rfl rfl (by simp only [lmA]; rw [if_neg hb]; rfl) hp k
theorem R_lrm {a b : Int} (hd : decode M.2.1 pc = .ok (.lrem, 1)) (hb : b ≠ 0) (hp : pc + 1 = p') (k : Rn xs xl d M p' ls (.inr (.inl (lrm a b)) :: st) h Q) : Rn xs xl d M pc ls (.inr (.inl b) :: .inr (.inl a) :: st) h Q := R_A hd rfl rfl (by simp only [lmA]; rw [if_neg hb]; rfl) hp k
end LDV
theorem B_Plans_doneInTime_0 {xs : Nat → Int} {xl e : Nat} {h : LH} {Q : Option LV → LH → Prop} {q : Int} (hq : q = 5 ∨ q = 32) {sc : Int} (hsc : scn sc) (hc0 : 60 ≤ sc) (hF : RF h)
    (k : Rn xs xl e mm_Plans_doneInTime 5 [some (.inr (.inr 77)), some (.inr (.inr q)), some (.inr (.inr sc)), some (.inl 0), some (.inl 0), none] [] h Q) :
    Rn xs xl e mm_Plans_doneInTime 0 [some (.inr (.inr 77)), some (.inr (.inr q)), some (.inr (.inr sc)), none, none, none] [] h Q := by
  refine R_ic dd_Plans_doneInTime_0 (by decide) rfl ?_
  refine R_st (ls' := [some (.inr (.inr 77)), some (.inr (.inr q)), some (.inr (.inr sc)), some (.inl 0), none, none]) dd_Plans_doneInTime_1 rfl rfl rfl (Nat.le_of_ble_eq_true rfl) rfl rfl ?_
  refine R_ic dd_Plans_doneInTime_2 (by decide) rfl ?_
  refine R_st (ls' := [some (.inr (.inr 77)), some (.inr (.inr q)), some (.inr (.inr sc)), some (.inl 0), some (.inl 0), none]) dd_Plans_doneInTime_3 rfl rfl rfl (Nat.le_of_ble_eq_true rfl) rfl rfl ?_
  exact k
theorem B_Plans_doneInTime_5 {xs : Nat → Int} {xl e : Nat} {h : LH} {Q : Option LV → LH → Prop} {v3 v4 : Int} {q : Int} (hq : q = 5 ∨ q = 32) {sc : Int} (hsc : scn sc) (hc0 : 60 ≤ sc) {o5 : Option LV} (hF : RF h) (r_v3 : 0 ≤ v3 ∧ v3 ≤ 6) (r_v4 : 0 ≤ v4 ∧ v4 ≤ 6)
    (k : ((rd h q 4) ≤ v4 →
        Q (some (.inl v3)) h) ∧
      (v4 < (rd h q 4) →
        (∃ c, c < e ∧ Rn xs xl c mm_Plans_homeHour 0 [some (.inr (.inr 77)), some (.inr (.inr q)), some (.inr (.inr sc)), some (.inl v4), none, none, none, none, none, none, none] [] h (fun r h' => Rn xs xl e mm_Plans_doneInTime 22 [some (.inr (.inr 77)), some (.inr (.inr q)), some (.inr (.inr sc)), some (.inl v3), some (.inl v4), o5] (r.toList ++ []) h' Q)))) :
    Rn xs xl e mm_Plans_doneInTime 5 [some (.inr (.inr 77)), some (.inr (.inr q)), some (.inr (.inr sc)), some (.inl v3), some (.inl v4), o5] [] h Q := by
  refine R_ld (v := .inl v4) dd_Plans_doneInTime_5 rfl rfl rfl rfl ?_
  refine R_ld (v := .inr (.inr q)) dd_Plans_doneInTime_7 rfl rfl rfl rfl ?_
  refine R_gf (v := .inl (rd h q 4)) dd_Plans_doneInTime_8 fd_5_132 (io_q hq) (congrArg (fun z : Int => (Sum.inl z : LV)) (rfl)) rfl ?_
  refine R_icmp dd_Plans_doneInTime_11 rfl rfl (fun (c2 : (rd h q 4) ≤ v4) => ?_) (fun (c2 : v4 < (rd h q 4)) => ?_)
  · replace k := k.1 c2
    refine R_ld (v := .inl v3) dd_Plans_doneInTime_54 rfl rfl rfl rfl ?_
    exact R_iret dd_Plans_doneInTime_55 rfl k
  · replace k := k.2 c2
    refine R_ld (v := .inr (.inr 77)) dd_Plans_doneInTime_14 rfl rfl rfl rfl ?_
    refine R_ld (v := .inr (.inr q)) dd_Plans_doneInTime_15 rfl rfl rfl rfl ?_
    refine R_ld (v := .inr (.inr sc)) dd_Plans_doneInTime_16 rfl rfl rfl rfl ?_
    refine R_ld (v := .inl v4) dd_Plans_doneInTime_17 rfl rfl rfl rfl ?_
    obtain ⟨c, hc, k⟩ := k
    exact R_call (as := [.inr (.inr 77), .inr (.inr q), .inr (.inr sc), .inl v4]) (rest := []) (M' := mm_Plans_homeHour) (ls0 := [some (.inr (.inr 77)), some (.inr (.inr q)), some (.inr (.inr sc)), some (.inl v4), none, none, none, none, none, none, none]) dd_Plans_doneInTime_19 rfl rfl (cw_v cw_5_71 io_77 rfl rfl (Nat.le_of_ble_eq_true rfl) (Nat.le_of_ble_eq_true rfl)) mt_Plans_homeHour rfl hc rfl k
theorem B_Plans_doneInTime_22 {xs : Nat → Int} {xl e : Nat} {h : LH} {Q : Option LV → LH → Prop} {v3 v4 w0 : Int} {q : Int} (hq : q = 5 ∨ q = 32) {sc : Int} (hsc : scn sc) (hc0 : 60 ≤ sc) {o5 : Option LV} (hF : RF h) (hP : PT h) (r_v3 : 0 ≤ v3 ∧ v3 ≤ 6) (r_v4 : 0 ≤ v4 ∧ v4 ≤ 5)
    (k : (w0 = (-1) →
        Rn xs xl e mm_Plans_doneInTime 5 [some (.inr (.inr 77)), some (.inr (.inr q)), some (.inr (.inr sc)), some (.inl v3), some (.inl (v4 + 1)), some (.inl w0)] [] h Q) ∧
      (w0 ≠ (-1) →
        ((rd h (q + 21 + v4) 4) < w0 →
          Rn xs xl e mm_Plans_doneInTime 5 [some (.inr (.inr 77)), some (.inr (.inr q)), some (.inr (.inr sc)), some (.inl v3), some (.inl (v4 + 1)), some (.inl w0)] [] h Q) ∧
        (w0 ≤ (rd h (q + 21 + v4) 4) →
          Rn xs xl e mm_Plans_doneInTime 5 [some (.inr (.inr 77)), some (.inr (.inr q)), some (.inr (.inr sc)), some (.inl (v3 + 1)), some (.inl (v4 + 1)), some (.inl w0)] [] h Q))) :
    Rn xs xl e mm_Plans_doneInTime 22 [some (.inr (.inr 77)), some (.inr (.inr q)), some (.inr (.inr sc)), some (.inl v3), some (.inl v4), o5] [.inl w0] h Q := by
  refine R_st (ls' := [some (.inr (.inr 77)), some (.inr (.inr q)), some (.inr (.inr sc)), some (.inl v3), some (.inl v4), some (.inl w0)]) dd_Plans_doneInTime_22 rfl rfl rfl (Nat.le_of_ble_eq_true rfl) rfl rfl ?_
  refine R_ld (v := .inl w0) dd_Plans_doneInTime_24 rfl rfl rfl rfl ?_
  refine R_ic dd_Plans_doneInTime_26 (by decide) rfl ?_
  refine R_icmp dd_Plans_doneInTime_27 rfl rfl (fun (c1 : w0 = (-1)) => ?_) (fun (c1 : w0 ≠ (-1)) => ?_)
  · replace k := k.1 c1
    refine R_inc (y := v4 + 1) (ls' := [some (.inr (.inr 77)), some (.inr (.inr q)), some (.inr (.inr sc)), some (.inl v3), some (.inl (v4 + 1)), some (.inl w0)]) dd_Plans_doneInTime_48 rfl (by decide) (by omega) (by omega) rfl rfl ?_
    refine R_goto dd_Plans_doneInTime_51 rfl ?_
    exact k
  · replace k := k.2 c1
    refine R_ld (v := .inl w0) dd_Plans_doneInTime_30 rfl rfl rfl rfl ?_
    refine R_ld (v := .inr (.inr q)) dd_Plans_doneInTime_32 rfl rfl rfl rfl ?_
    refine R_gf (v := .inr (.inr (q + 2))) dd_Plans_doneInTime_33 fd_5_27 (io_q hq) (congrArg (fun z : Int => (Sum.inr (Sum.inr z) : LV)) (rq_ppl hF hq)) rfl ?_
    refine R_ld (v := .inl v4) dd_Plans_doneInTime_36 rfl rfl rfl rfl ?_
    refine R_aald (v := (q + 21 + v4)) (n := 6) dd_Plans_doneInTime_38 (ia_pq hq) (la_pq hq) (by omega) (rq_p hP hq (by omega)) rfl ?_
    refine R_gf (v := .inl (rd h (q + 21 + v4) 4)) dd_Plans_doneInTime_39 fd_5_165 (io_p hq (by omega)) (congrArg (fun z : Int => (Sum.inl z : LV)) (rfl)) rfl ?_
    refine R_icmp dd_Plans_doneInTime_42 rfl rfl (fun (c2 : (rd h (q + 21 + v4) 4) < w0) => ?_) (fun (c2 : w0 ≤ (rd h (q + 21 + v4) 4)) => ?_)
    · replace k := k.1 c2
      refine R_inc (y := v4 + 1) (ls' := [some (.inr (.inr 77)), some (.inr (.inr q)), some (.inr (.inr sc)), some (.inl v3), some (.inl (v4 + 1)), some (.inl w0)]) dd_Plans_doneInTime_48 rfl (by decide) (by omega) (by omega) rfl rfl ?_
      refine R_goto dd_Plans_doneInTime_51 rfl ?_
      exact k
    · replace k := k.2 c2
      refine R_inc (y := v3 + 1) (ls' := [some (.inr (.inr 77)), some (.inr (.inr q)), some (.inr (.inr sc)), some (.inl (v3 + 1)), some (.inl v4), some (.inl w0)]) dd_Plans_doneInTime_45 rfl (by decide) (by omega) (by omega) rfl rfl ?_
      refine R_inc (y := v4 + 1) (ls' := [some (.inr (.inr 77)), some (.inr (.inr q)), some (.inr (.inr sc)), some (.inl (v3 + 1)), some (.inl (v4 + 1)), some (.inl w0)]) dd_Plans_doneInTime_48 rfl (by decide) (by omega) (by omega) rfl rfl ?_
      refine R_goto dd_Plans_doneInTime_51 rfl ?_
      exact k
theorem B_Plans_runYears_0 {xs : Nat → Int} {xl e : Nat} {h : LH} {Q : Option LV → LH → Prop} {v3 v4 v5 v6 : Int} {q : Int} (hq : q = 5 ∨ q = 32) {sc : Int} (hsc : scn sc) (hc0 : 60 ≤ sc) (hF : RF h)
    (k : Rn xs xl e mm_Plans_runYears 18 [some (.inr (.inr 77)), some (.inr (.inr q)), some (.inr (.inr sc)), some (.inl v3), some (.inl v4), some (.inl v5), some (.inl v6), some (.inr (.inl v4)), none, some (.inl v3), some (.inl 0), some (.inl 6), some (.inl 0), none] [] h Q) :
    Rn xs xl e mm_Plans_runYears 0 [some (.inr (.inr 77)), some (.inr (.inr q)), some (.inr (.inr sc)), some (.inl v3), some (.inl v4), some (.inl v5), some (.inl v6), none, none, none, none, none, none, none] [] h Q := by
  refine R_ld (v := .inl v4) dd_Plans_runYears_0 rfl rfl rfl rfl ?_
  refine R_A dd_Plans_runYears_2 rfl rfl rfl rfl ?_
  refine R_st (ls' := [some (.inr (.inr 77)), some (.inr (.inr q)), some (.inr (.inr sc)), some (.inl v3), some (.inl v4), some (.inl v5), some (.inl v6), some (.inr (.inl v4)), none, none, none, none, none, none]) dd_Plans_runYears_3 rfl rfl rfl (Nat.le_of_ble_eq_true rfl) rfl rfl ?_
  refine R_ld (v := .inl v3) dd_Plans_runYears_5 rfl rfl rfl rfl ?_
  refine R_st (ls' := [some (.inr (.inr 77)), some (.inr (.inr q)), some (.inr (.inr sc)), some (.inl v3), some (.inl v4), some (.inl v5), some (.inl v6), some (.inr (.inl v4)), none, some (.inl v3), none, none, none, none]) dd_Plans_runYears_6 rfl rfl rfl (Nat.le_of_ble_eq_true rfl) rfl rfl ?_
  refine R_ic dd_Plans_runYears_8 (by decide) rfl ?_
  refine R_st (ls' := [some (.inr (.inr 77)), some (.inr (.inr q)), some (.inr (.inr sc)), some (.inl v3), some (.inl v4), some (.inl v5), some (.inl v6), some (.inr (.inl v4)), none, some (.inl v3), some (.inl 0), none, none, none]) dd_Plans_runYears_9 rfl rfl rfl (Nat.le_of_ble_eq_true rfl) rfl rfl ?_
  refine R_bi dd_Plans_runYears_11 (by decide) rfl ?_
  refine R_st (ls' := [some (.inr (.inr 77)), some (.inr (.inr q)), some (.inr (.inr sc)), some (.inl v3), some (.inl v4), some (.inl v5), some (.inl v6), some (.inr (.inl v4)), none, some (.inl v3), some (.inl 0), some (.inl 6), none, none]) dd_Plans_runYears_13 rfl rfl rfl (Nat.le_of_ble_eq_true rfl) rfl rfl ?_
  refine R_ic dd_Plans_runYears_15 (by decide) rfl ?_
  refine R_st (ls' := [some (.inr (.inr 77)), some (.inr (.inr q)), some (.inr (.inr sc)), some (.inl v3), some (.inl v4), some (.inl v5), some (.inl v6), some (.inr (.inl v4)), none, some (.inl v3), some (.inl 0), some (.inl 6), some (.inl 0), none]) dd_Plans_runYears_16 rfl rfl rfl (Nat.le_of_ble_eq_true rfl) rfl rfl ?_
  exact k
theorem B_Plans_runYears_18 {xs : Nat → Int} {xl e : Nat} {h : LH} {Q : Option LV → LH → Prop} {v3 v4 v5 v6 v7 v9 v10 v11 v12 : Int} {q : Int} (hq : q = 5 ∨ q = 32) {sc : Int} (hsc : scn sc) (hc0 : 60 ≤ sc) {o13 : Option LV} (hF : RF h) (r_v12 : 0 ≤ v12 ∧ v12 ≤ 60) (he : 1 ≤ e)
    (k : (v5 ≤ v12 →
        (v6 = 0 →
          Q (some (.inl v10)) h) ∧
        (v6 ≠ 0 →
          Q (some (.inl v11)) h)) ∧
      (v12 < v5 →
        ((rd h q 2) ≤ 0 →
          ((w32 (lrm (ldv (lrm (w64 ((w64 ((lrm (w64 ((w64 (v7 * (1103515245))) + (12345))) (2147483648)) * (1103515245))) + (12345))) (2147483648)) (65536)) 10)) ≠ 0 →
            Rn xs xl e mm_Plans_runYears 68 [some (.inr (.inr 77)), some (.inr (.inr q)), some (.inr (.inr sc)), some (.inl v3), some (.inl v4), some (.inl v5), some (.inl v6), some (.inr (.inl (lrm (w64 ((w64 ((lrm (w64 ((w64 (v7 * (1103515245))) + (12345))) (2147483648)) * (1103515245))) + (12345))) (2147483648)))), none, some (.inl (zxor v9 (zshl 1 0))), some (.inl v10), some (.inl v11), some (.inl v12), o13] [] h Q) ∧
          ((w32 (lrm (ldv (lrm (w64 ((w64 ((lrm (w64 ((w64 (v7 * (1103515245))) + (12345))) (2147483648)) * (1103515245))) + (12345))) (2147483648)) (65536)) 10)) = 0 →
            Rn xs xl e mm_Plans_runYears 68 [some (.inr (.inr 77)), some (.inr (.inr q)), some (.inr (.inr sc)), some (.inl v3), some (.inl v4), some (.inl v5), some (.inl v6), some (.inr (.inl (lrm (w64 ((w64 ((lrm (w64 ((w64 (v7 * (1103515245))) + (12345))) (2147483648)) * (1103515245))) + (12345))) (2147483648)))), none, some (.inl 0), some (.inl v10), some (.inl v11), some (.inl v12), o13] [] h Q)) ∧
        (0 < (rd h q 2) →
          ((rd h q 2) ≠ 0) ∧
          ((w32 (lrm (ldv (lrm (w64 ((w64 ((lrm (w64 ((w64 (v7 * (1103515245))) + (12345))) (2147483648)) * (1103515245))) + (12345))) (2147483648)) (65536)) 10)) ≠ 0 →
            Rn xs xl e mm_Plans_runYears 68 [some (.inr (.inr 77)), some (.inr (.inr q)), some (.inr (.inr sc)), some (.inl v3), some (.inl v4), some (.inl v5), some (.inl v6), some (.inr (.inl (lrm (w64 ((w64 ((lrm (w64 ((w64 (v7 * (1103515245))) + (12345))) (2147483648)) * (1103515245))) + (12345))) (2147483648)))), none, some (.inl (zxor v9 (zshl 1 (w32 (lrm (ldv (lrm (w64 ((w64 (v7 * (1103515245))) + (12345))) (2147483648)) (65536)) (rd h q 2)))))), some (.inl v10), some (.inl v11), some (.inl v12), o13] [] h Q) ∧
          ((w32 (lrm (ldv (lrm (w64 ((w64 ((lrm (w64 ((w64 (v7 * (1103515245))) + (12345))) (2147483648)) * (1103515245))) + (12345))) (2147483648)) (65536)) 10)) = 0 →
            Rn xs xl e mm_Plans_runYears 68 [some (.inr (.inr 77)), some (.inr (.inr q)), some (.inr (.inr sc)), some (.inl v3), some (.inl v4), some (.inl v5), some (.inl v6), some (.inr (.inl (lrm (w64 ((w64 ((lrm (w64 ((w64 (v7 * (1103515245))) + (12345))) (2147483648)) * (1103515245))) + (12345))) (2147483648)))), none, some (.inl 0), some (.inl v10), some (.inl v11), some (.inl v12), o13] [] h Q)))) :
    Rn xs xl e mm_Plans_runYears 18 [some (.inr (.inr 77)), some (.inr (.inr q)), some (.inr (.inr sc)), some (.inl v3), some (.inl v4), some (.inl v5), some (.inl v6), some (.inr (.inl v7)), none, some (.inl v9), some (.inl v10), some (.inl v11), some (.inl v12), o13] [] h Q := by
  refine R_ld (v := .inl v12) dd_Plans_runYears_18 rfl rfl rfl rfl ?_
  refine R_ld (v := .inl v5) dd_Plans_runYears_20 rfl rfl rfl rfl ?_
  refine R_icmp dd_Plans_runYears_22 rfl rfl (fun (c2 : v5 ≤ v12) => ?_) (fun (c2 : v12 < v5) => ?_)
  · replace k := k.1 c2
    refine R_ld (v := .inl v6) dd_Plans_runYears_109 rfl rfl rfl rfl ?_
    refine R_if dd_Plans_runYears_111 rfl rfl (fun (c3 : v6 = 0) => ?_) (fun (c3 : v6 ≠ 0) => ?_)
    · replace k := k.1 c3
      refine R_ld (v := .inl v10) dd_Plans_runYears_119 rfl rfl rfl rfl ?_
      exact R_iret dd_Plans_runYears_121 rfl k
    · replace k := k.2 c3
      refine R_ld (v := .inl v11) dd_Plans_runYears_114 rfl rfl rfl rfl ?_
      refine R_goto dd_Plans_runYears_116 rfl ?_
      exact R_iret dd_Plans_runYears_121 rfl k
  · replace k := k.2 c2
    refine R_ld (v := .inr (.inl v7)) dd_Plans_runYears_25 rfl rfl rfl rfl ?_
    refine R_call (as := [.inr (.inl v7)]) (rest := []) (M' := mm_Plans_nextDraw) (ls0 := [some (.inr (.inl v7)), none]) dd_Plans_runYears_27 rfl rfl (cw_s cw_5_168 rfl rfl (Nat.le_of_ble_eq_true rfl) (Nat.le_of_ble_eq_true rfl)) mt_Plans_nextDraw rfl (c := e - 1) (by omega) rfl ?_
    refine R_ld (v := .inr (.inl v7)) dd_Plans_nextDraw_0 rfl rfl rfl rfl ?_
    refine R_C (v := .inr (.inl (1103515245))) dd_Plans_nextDraw_1 rfl rfl (by decide +kernel) rfl ?_
    refine R_A dd_Plans_nextDraw_4 rfl rfl rfl rfl ?_
    refine R_C (v := .inr (.inl (12345))) dd_Plans_nextDraw_5 rfl rfl (by decide +kernel) rfl ?_
    refine R_A dd_Plans_nextDraw_8 rfl rfl rfl rfl ?_
    refine R_C (v := .inr (.inl (2147483648))) dd_Plans_nextDraw_9 rfl rfl (by decide +kernel) rfl ?_
    refine R_lrm dd_Plans_nextDraw_12 (by decide) rfl ?_
    refine R_lret dd_Plans_nextDraw_13 rfl ?_
    change Rn xs xl e mm_Plans_runYears 30 [some (.inr (.inr 77)), some (.inr (.inr q)), some (.inr (.inr sc)), some (.inl v3), some (.inl v4), some (.inl v5), some (.inl v6), some (.inr (.inl v7)), none, some (.inl v9), some (.inl v10), some (.inl v11), some (.inl v12), o13] [.inr (.inl (lrm (w64 ((w64 (v7 * (1103515245))) + (12345))) (2147483648)))] h _
    refine R_st (ls' := [some (.inr (.inr 77)), some (.inr (.inr q)), some (.inr (.inr sc)), some (.inl v3), some (.inl v4), some (.inl v5), some (.inl v6), some (.inr (.inl (lrm (w64 ((w64 (v7 * (1103515245))) + (12345))) (2147483648)))), none, some (.inl v9), some (.inl v10), some (.inl v11), some (.inl v12), o13]) dd_Plans_runYears_30 rfl rfl rfl (Nat.le_of_ble_eq_true rfl) rfl rfl ?_
    refine R_ld (v := .inl v9) dd_Plans_runYears_32 rfl rfl rfl rfl ?_
    refine R_ic dd_Plans_runYears_34 (by decide) rfl ?_
    refine R_ld (v := .inr (.inl (lrm (w64 ((w64 (v7 * (1103515245))) + (12345))) (2147483648)))) dd_Plans_runYears_35 rfl rfl rfl rfl ?_
    refine R_ld (v := .inr (.inr q)) dd_Plans_runYears_37 rfl rfl rfl rfl ?_
    refine R_gf (v := .inl (rd h q 2)) dd_Plans_runYears_38 fd_5_103 (io_q hq) (congrArg (fun z : Int => (Sum.inl z : LV)) (rfl)) rfl ?_
    refine R_call (as := [.inr (.inl (lrm (w64 ((w64 (v7 * (1103515245))) + (12345))) (2147483648))), .inl (rd h q 2)]) (rest := [.inl 1, .inl v9]) (M' := mm_Plans_below) (ls0 := [some (.inr (.inl (lrm (w64 ((w64 (v7 * (1103515245))) + (12345))) (2147483648)))), none, some (.inl (rd h q 2))]) dd_Plans_runYears_41 rfl rfl (cw_s cw_5_172 rfl rfl (Nat.le_of_ble_eq_true rfl) (Nat.le_of_ble_eq_true rfl)) mt_Plans_below rfl (c := e - 1) (by omega) rfl ?_
    refine R_ld (v := .inl (rd h q 2)) dd_Plans_below_0 rfl rfl rfl rfl ?_
    refine R_if dd_Plans_below_1 rfl rfl (fun (c4 : (rd h q 2) ≤ 0) => ?_) (fun (c4 : 0 < (rd h q 2)) => ?_)
    · replace k := k.1 c4
      refine R_ic dd_Plans_below_16 (by decide) rfl ?_
      refine R_iret dd_Plans_below_17 rfl ?_
      change Rn xs xl e mm_Plans_runYears 44 [some (.inr (.inr 77)), some (.inr (.inr q)), some (.inr (.inr sc)), some (.inl v3), some (.inl v4), some (.inl v5), some (.inl v6), some (.inr (.inl (lrm (w64 ((w64 (v7 * (1103515245))) + (12345))) (2147483648)))), none, some (.inl v9), some (.inl v10), some (.inl v11), some (.inl v12), o13] [.inl 0, .inl 1, .inl v9] h _
      refine R_A dd_Plans_runYears_44 rfl rfl rfl rfl ?_
      refine R_A dd_Plans_runYears_45 rfl rfl rfl rfl ?_
      refine R_st (ls' := [some (.inr (.inr 77)), some (.inr (.inr q)), some (.inr (.inr sc)), some (.inl v3), some (.inl v4), some (.inl v5), some (.inl v6), some (.inr (.inl (lrm (w64 ((w64 (v7 * (1103515245))) + (12345))) (2147483648)))), none, some (.inl (zxor v9 (zshl 1 0))), some (.inl v10), some (.inl v11), some (.inl v12), o13]) dd_Plans_runYears_46 rfl rfl rfl (Nat.le_of_ble_eq_true rfl) rfl rfl ?_
      refine R_ld (v := .inr (.inl (lrm (w64 ((w64 (v7 * (1103515245))) + (12345))) (2147483648)))) dd_Plans_runYears_48 rfl rfl rfl rfl ?_
      refine R_call (as := [.inr (.inl (lrm (w64 ((w64 (v7 * (1103515245))) + (12345))) (2147483648)))]) (rest := []) (M' := mm_Plans_nextDraw) (ls0 := [some (.inr (.inl (lrm (w64 ((w64 (v7 * (1103515245))) + (12345))) (2147483648)))), none]) dd_Plans_runYears_50 rfl rfl (cw_s cw_5_168 rfl rfl (Nat.le_of_ble_eq_true rfl) (Nat.le_of_ble_eq_true rfl)) mt_Plans_nextDraw rfl (c := e - 1) (by omega) rfl ?_
      refine R_ld (v := .inr (.inl (lrm (w64 ((w64 (v7 * (1103515245))) + (12345))) (2147483648)))) dd_Plans_nextDraw_0 rfl rfl rfl rfl ?_
      refine R_C (v := .inr (.inl (1103515245))) dd_Plans_nextDraw_1 rfl rfl (by decide +kernel) rfl ?_
      refine R_A dd_Plans_nextDraw_4 rfl rfl rfl rfl ?_
      refine R_C (v := .inr (.inl (12345))) dd_Plans_nextDraw_5 rfl rfl (by decide +kernel) rfl ?_
      refine R_A dd_Plans_nextDraw_8 rfl rfl rfl rfl ?_
      refine R_C (v := .inr (.inl (2147483648))) dd_Plans_nextDraw_9 rfl rfl (by decide +kernel) rfl ?_
      refine R_lrm dd_Plans_nextDraw_12 (by decide) rfl ?_
      refine R_lret dd_Plans_nextDraw_13 rfl ?_
      change Rn xs xl e mm_Plans_runYears 53 [some (.inr (.inr 77)), some (.inr (.inr q)), some (.inr (.inr sc)), some (.inl v3), some (.inl v4), some (.inl v5), some (.inl v6), some (.inr (.inl (lrm (w64 ((w64 (v7 * (1103515245))) + (12345))) (2147483648)))), none, some (.inl (zxor v9 (zshl 1 0))), some (.inl v10), some (.inl v11), some (.inl v12), o13] [.inr (.inl (lrm (w64 ((w64 ((lrm (w64 ((w64 (v7 * (1103515245))) + (12345))) (2147483648)) * (1103515245))) + (12345))) (2147483648)))] h _
      refine R_st (ls' := [some (.inr (.inr 77)), some (.inr (.inr q)), some (.inr (.inr sc)), some (.inl v3), some (.inl v4), some (.inl v5), some (.inl v6), some (.inr (.inl (lrm (w64 ((w64 ((lrm (w64 ((w64 (v7 * (1103515245))) + (12345))) (2147483648)) * (1103515245))) + (12345))) (2147483648)))), none, some (.inl (zxor v9 (zshl 1 0))), some (.inl v10), some (.inl v11), some (.inl v12), o13]) dd_Plans_runYears_53 rfl rfl rfl (Nat.le_of_ble_eq_true rfl) rfl rfl ?_
      refine R_ld (v := .inr (.inl (lrm (w64 ((w64 ((lrm (w64 ((w64 (v7 * (1103515245))) + (12345))) (2147483648)) * (1103515245))) + (12345))) (2147483648)))) dd_Plans_runYears_55 rfl rfl rfl rfl ?_
      refine R_bi dd_Plans_runYears_57 (by decide) rfl ?_
      refine R_call (as := [.inr (.inl (lrm (w64 ((w64 ((lrm (w64 ((w64 (v7 * (1103515245))) + (12345))) (2147483648)) * (1103515245))) + (12345))) (2147483648))), .inl 10]) (rest := []) (M' := mm_Plans_below) (ls0 := [some (.inr (.inl (lrm (w64 ((w64 ((lrm (w64 ((w64 (v7 * (1103515245))) + (12345))) (2147483648)) * (1103515245))) + (12345))) (2147483648)))), none, some (.inl 10)]) dd_Plans_runYears_59 rfl rfl (cw_s cw_5_172 rfl rfl (Nat.le_of_ble_eq_true rfl) (Nat.le_of_ble_eq_true rfl)) mt_Plans_below rfl (c := e - 1) (by omega) rfl ?_
      refine R_ld (v := .inl 10) dd_Plans_below_0 rfl rfl rfl rfl ?_
      refine R_if dd_Plans_below_1 rfl rfl (fun (c5 : 10 ≤ 0) => ?_) (fun (c5 : 0 < 10) => ?_)
      · exact absurd c5 (by omega)
      · skip
        refine R_ld (v := .inr (.inl (lrm (w64 ((w64 ((lrm (w64 ((w64 (v7 * (1103515245))) + (12345))) (2147483648)) * (1103515245))) + (12345))) (2147483648)))) dd_Plans_below_4 rfl rfl rfl rfl ?_
        refine R_C (v := .inr (.inl (65536))) dd_Plans_below_5 rfl rfl (by decide +kernel) rfl ?_
        refine R_ldv dd_Plans_below_8 (by decide) rfl ?_
        refine R_ld (v := .inl 10) dd_Plans_below_9 rfl rfl rfl rfl ?_
        refine R_A dd_Plans_below_10 rfl rfl rfl rfl ?_
        refine R_lrm dd_Plans_below_11 (by decide) rfl ?_
        refine R_A dd_Plans_below_12 rfl rfl rfl rfl ?_
        refine R_goto dd_Plans_below_13 rfl ?_
        refine R_iret dd_Plans_below_17 rfl ?_
        change Rn xs xl e mm_Plans_runYears 62 [some (.inr (.inr 77)), some (.inr (.inr q)), some (.inr (.inr sc)), some (.inl v3), some (.inl v4), some (.inl v5), some (.inl v6), some (.inr (.inl (lrm (w64 ((w64 ((lrm (w64 ((w64 (v7 * (1103515245))) + (12345))) (2147483648)) * (1103515245))) + (12345))) (2147483648)))), none, some (.inl (zxor v9 (zshl 1 0))), some (.inl v10), some (.inl v11), some (.inl v12), o13] [.inl (w32 (lrm (ldv (lrm (w64 ((w64 ((lrm (w64 ((w64 (v7 * (1103515245))) + (12345))) (2147483648)) * (1103515245))) + (12345))) (2147483648)) (65536)) 10))] h _
        refine R_if dd_Plans_runYears_62 rfl rfl (fun (c6 : (w32 (lrm (ldv (lrm (w64 ((w64 ((lrm (w64 ((w64 (v7 * (1103515245))) + (12345))) (2147483648)) * (1103515245))) + (12345))) (2147483648)) (65536)) 10)) ≠ 0) => ?_) (fun (c6 : (w32 (lrm (ldv (lrm (w64 ((w64 ((lrm (w64 ((w64 (v7 * (1103515245))) + (12345))) (2147483648)) * (1103515245))) + (12345))) (2147483648)) (65536)) 10)) = 0) => ?_)
        · replace k := k.1 c6
          exact k
        · replace k := k.2 c6
          refine R_ic dd_Plans_runYears_65 (by decide) rfl ?_
          refine R_st (ls' := [some (.inr (.inr 77)), some (.inr (.inr q)), some (.inr (.inr sc)), some (.inl v3), some (.inl v4), some (.inl v5), some (.inl v6), some (.inr (.inl (lrm (w64 ((w64 ((lrm (w64 ((w64 (v7 * (1103515245))) + (12345))) (2147483648)) * (1103515245))) + (12345))) (2147483648)))), none, some (.inl 0), some (.inl v10), some (.inl v11), some (.inl v12), o13]) dd_Plans_runYears_66 rfl rfl rfl (Nat.le_of_ble_eq_true rfl) rfl rfl ?_
          exact k
    · replace k := k.2 c4
      refine R_ld (v := .inr (.inl (lrm (w64 ((w64 (v7 * (1103515245))) + (12345))) (2147483648)))) dd_Plans_below_4 rfl rfl rfl rfl ?_
      refine R_C (v := .inr (.inl (65536))) dd_Plans_below_5 rfl rfl (by decide +kernel) rfl ?_
      refine R_ldv dd_Plans_below_8 (by decide) rfl ?_
      refine R_ld (v := .inl (rd h q 2)) dd_Plans_below_9 rfl rfl rfl rfl ?_
      refine R_A dd_Plans_below_10 rfl rfl rfl rfl ?_
      obtain ⟨s1, k⟩ := k
      refine R_lrm dd_Plans_below_11 s1 rfl ?_
      refine R_A dd_Plans_below_12 rfl rfl rfl rfl ?_
      refine R_goto dd_Plans_below_13 rfl ?_
      refine R_iret dd_Plans_below_17 rfl ?_
      change Rn xs xl e mm_Plans_runYears 44 [some (.inr (.inr 77)), some (.inr (.inr q)), some (.inr (.inr sc)), some (.inl v3), some (.inl v4), some (.inl v5), some (.inl v6), some (.inr (.inl (lrm (w64 ((w64 (v7 * (1103515245))) + (12345))) (2147483648)))), none, some (.inl v9), some (.inl v10), some (.inl v11), some (.inl v12), o13] [.inl (w32 (lrm (ldv (lrm (w64 ((w64 (v7 * (1103515245))) + (12345))) (2147483648)) (65536)) (rd h q 2))), .inl 1, .inl v9] h _
      refine R_A dd_Plans_runYears_44 rfl rfl rfl rfl ?_
      refine R_A dd_Plans_runYears_45 rfl rfl rfl rfl ?_
      refine R_st (ls' := [some (.inr (.inr 77)), some (.inr (.inr q)), some (.inr (.inr sc)), some (.inl v3), some (.inl v4), some (.inl v5), some (.inl v6), some (.inr (.inl (lrm (w64 ((w64 (v7 * (1103515245))) + (12345))) (2147483648)))), none, some (.inl (zxor v9 (zshl 1 (w32 (lrm (ldv (lrm (w64 ((w64 (v7 * (1103515245))) + (12345))) (2147483648)) (65536)) (rd h q 2)))))), some (.inl v10), some (.inl v11), some (.inl v12), o13]) dd_Plans_runYears_46 rfl rfl rfl (Nat.le_of_ble_eq_true rfl) rfl rfl ?_
      refine R_ld (v := .inr (.inl (lrm (w64 ((w64 (v7 * (1103515245))) + (12345))) (2147483648)))) dd_Plans_runYears_48 rfl rfl rfl rfl ?_
      refine R_call (as := [.inr (.inl (lrm (w64 ((w64 (v7 * (1103515245))) + (12345))) (2147483648)))]) (rest := []) (M' := mm_Plans_nextDraw) (ls0 := [some (.inr (.inl (lrm (w64 ((w64 (v7 * (1103515245))) + (12345))) (2147483648)))), none]) dd_Plans_runYears_50 rfl rfl (cw_s cw_5_168 rfl rfl (Nat.le_of_ble_eq_true rfl) (Nat.le_of_ble_eq_true rfl)) mt_Plans_nextDraw rfl (c := e - 1) (by omega) rfl ?_
      refine R_ld (v := .inr (.inl (lrm (w64 ((w64 (v7 * (1103515245))) + (12345))) (2147483648)))) dd_Plans_nextDraw_0 rfl rfl rfl rfl ?_
      refine R_C (v := .inr (.inl (1103515245))) dd_Plans_nextDraw_1 rfl rfl (by decide +kernel) rfl ?_
      refine R_A dd_Plans_nextDraw_4 rfl rfl rfl rfl ?_
      refine R_C (v := .inr (.inl (12345))) dd_Plans_nextDraw_5 rfl rfl (by decide +kernel) rfl ?_
      refine R_A dd_Plans_nextDraw_8 rfl rfl rfl rfl ?_
      refine R_C (v := .inr (.inl (2147483648))) dd_Plans_nextDraw_9 rfl rfl (by decide +kernel) rfl ?_
      refine R_lrm dd_Plans_nextDraw_12 (by decide) rfl ?_
      refine R_lret dd_Plans_nextDraw_13 rfl ?_
      change Rn xs xl e mm_Plans_runYears 53 [some (.inr (.inr 77)), some (.inr (.inr q)), some (.inr (.inr sc)), some (.inl v3), some (.inl v4), some (.inl v5), some (.inl v6), some (.inr (.inl (lrm (w64 ((w64 (v7 * (1103515245))) + (12345))) (2147483648)))), none, some (.inl (zxor v9 (zshl 1 (w32 (lrm (ldv (lrm (w64 ((w64 (v7 * (1103515245))) + (12345))) (2147483648)) (65536)) (rd h q 2)))))), some (.inl v10), some (.inl v11), some (.inl v12), o13] [.inr (.inl (lrm (w64 ((w64 ((lrm (w64 ((w64 (v7 * (1103515245))) + (12345))) (2147483648)) * (1103515245))) + (12345))) (2147483648)))] h _
      refine R_st (ls' := [some (.inr (.inr 77)), some (.inr (.inr q)), some (.inr (.inr sc)), some (.inl v3), some (.inl v4), some (.inl v5), some (.inl v6), some (.inr (.inl (lrm (w64 ((w64 ((lrm (w64 ((w64 (v7 * (1103515245))) + (12345))) (2147483648)) * (1103515245))) + (12345))) (2147483648)))), none, some (.inl (zxor v9 (zshl 1 (w32 (lrm (ldv (lrm (w64 ((w64 (v7 * (1103515245))) + (12345))) (2147483648)) (65536)) (rd h q 2)))))), some (.inl v10), some (.inl v11), some (.inl v12), o13]) dd_Plans_runYears_53 rfl rfl rfl (Nat.le_of_ble_eq_true rfl) rfl rfl ?_
      refine R_ld (v := .inr (.inl (lrm (w64 ((w64 ((lrm (w64 ((w64 (v7 * (1103515245))) + (12345))) (2147483648)) * (1103515245))) + (12345))) (2147483648)))) dd_Plans_runYears_55 rfl rfl rfl rfl ?_
      refine R_bi dd_Plans_runYears_57 (by decide) rfl ?_
      refine R_call (as := [.inr (.inl (lrm (w64 ((w64 ((lrm (w64 ((w64 (v7 * (1103515245))) + (12345))) (2147483648)) * (1103515245))) + (12345))) (2147483648))), .inl 10]) (rest := []) (M' := mm_Plans_below) (ls0 := [some (.inr (.inl (lrm (w64 ((w64 ((lrm (w64 ((w64 (v7 * (1103515245))) + (12345))) (2147483648)) * (1103515245))) + (12345))) (2147483648)))), none, some (.inl 10)]) dd_Plans_runYears_59 rfl rfl (cw_s cw_5_172 rfl rfl (Nat.le_of_ble_eq_true rfl) (Nat.le_of_ble_eq_true rfl)) mt_Plans_below rfl (c := e - 1) (by omega) rfl ?_
      refine R_ld (v := .inl 10) dd_Plans_below_0 rfl rfl rfl rfl ?_
      refine R_if dd_Plans_below_1 rfl rfl (fun (c7 : 10 ≤ 0) => ?_) (fun (c7 : 0 < 10) => ?_)
      · exact absurd c7 (by omega)
      · skip
        refine R_ld (v := .inr (.inl (lrm (w64 ((w64 ((lrm (w64 ((w64 (v7 * (1103515245))) + (12345))) (2147483648)) * (1103515245))) + (12345))) (2147483648)))) dd_Plans_below_4 rfl rfl rfl rfl ?_
        refine R_C (v := .inr (.inl (65536))) dd_Plans_below_5 rfl rfl (by decide +kernel) rfl ?_
        refine R_ldv dd_Plans_below_8 (by decide) rfl ?_
        refine R_ld (v := .inl 10) dd_Plans_below_9 rfl rfl rfl rfl ?_
        refine R_A dd_Plans_below_10 rfl rfl rfl rfl ?_
        refine R_lrm dd_Plans_below_11 (by decide) rfl ?_
        refine R_A dd_Plans_below_12 rfl rfl rfl rfl ?_
        refine R_goto dd_Plans_below_13 rfl ?_
        refine R_iret dd_Plans_below_17 rfl ?_
        change Rn xs xl e mm_Plans_runYears 62 [some (.inr (.inr 77)), some (.inr (.inr q)), some (.inr (.inr sc)), some (.inl v3), some (.inl v4), some (.inl v5), some (.inl v6), some (.inr (.inl (lrm (w64 ((w64 ((lrm (w64 ((w64 (v7 * (1103515245))) + (12345))) (2147483648)) * (1103515245))) + (12345))) (2147483648)))), none, some (.inl (zxor v9 (zshl 1 (w32 (lrm (ldv (lrm (w64 ((w64 (v7 * (1103515245))) + (12345))) (2147483648)) (65536)) (rd h q 2)))))), some (.inl v10), some (.inl v11), some (.inl v12), o13] [.inl (w32 (lrm (ldv (lrm (w64 ((w64 ((lrm (w64 ((w64 (v7 * (1103515245))) + (12345))) (2147483648)) * (1103515245))) + (12345))) (2147483648)) (65536)) 10))] h _
        refine R_if dd_Plans_runYears_62 rfl rfl (fun (c8 : (w32 (lrm (ldv (lrm (w64 ((w64 ((lrm (w64 ((w64 (v7 * (1103515245))) + (12345))) (2147483648)) * (1103515245))) + (12345))) (2147483648)) (65536)) 10)) ≠ 0) => ?_) (fun (c8 : (w32 (lrm (ldv (lrm (w64 ((w64 ((lrm (w64 ((w64 (v7 * (1103515245))) + (12345))) (2147483648)) * (1103515245))) + (12345))) (2147483648)) (65536)) 10)) = 0) => ?_)
        · replace k := k.1 c8
          exact k
        · replace k := k.2 c8
          refine R_ic dd_Plans_runYears_65 (by decide) rfl ?_
          refine R_st (ls' := [some (.inr (.inr 77)), some (.inr (.inr q)), some (.inr (.inr sc)), some (.inl v3), some (.inl v4), some (.inl v5), some (.inl v6), some (.inr (.inl (lrm (w64 ((w64 ((lrm (w64 ((w64 (v7 * (1103515245))) + (12345))) (2147483648)) * (1103515245))) + (12345))) (2147483648)))), none, some (.inl 0), some (.inl v10), some (.inl v11), some (.inl v12), o13]) dd_Plans_runYears_66 rfl rfl rfl (Nat.le_of_ble_eq_true rfl) rfl rfl ?_
          exact k
theorem B_Plans_runYears_68 {xs : Nat → Int} {xl e : Nat} {h : LH} {Q : Option LV → LH → Prop} {v3 v4 v5 v6 v7 v9 v10 v11 v12 : Int} {q : Int} (hq : q = 5 ∨ q = 32) {sc : Int} (hsc : scn sc) (hc0 : 60 ≤ sc) {o13 : Option LV} (hF : RF h) (r_v12 : 0 ≤ v12 ∧ v12 ≤ 59)
    (k : (∃ c, c < e ∧ Rn xs xl c mm_Scene_begin 0 [some (.inr (.inr sc)), some (.inr (.inr q)), none, none] [] h (fun r h' => Rn xs xl e mm_Plans_runYears 73 [some (.inr (.inr 77)), some (.inr (.inr q)), some (.inr (.inr sc)), some (.inl v3), some (.inl v4), some (.inl v5), some (.inl v6), some (.inr (.inl v7)), none, some (.inl v9), some (.inl v10), some (.inl v11), some (.inl v12), o13] (r.toList ++ []) h' Q))) :
    Rn xs xl e mm_Plans_runYears 68 [some (.inr (.inr 77)), some (.inr (.inr q)), some (.inr (.inr sc)), some (.inl v3), some (.inl v4), some (.inl v5), some (.inl v6), some (.inr (.inl v7)), none, some (.inl v9), some (.inl v10), some (.inl v11), some (.inl v12), o13] [] h Q := by
  refine R_ld (v := .inr (.inr sc)) dd_Plans_runYears_68 rfl rfl rfl rfl ?_
  refine R_ld (v := .inr (.inr q)) dd_Plans_runYears_69 rfl rfl rfl rfl ?_
  obtain ⟨c, hc, k⟩ := k
  exact R_call (as := [.inr (.inr sc), .inr (.inr q)]) (rest := []) (M' := mm_Scene_begin) (ls0 := [some (.inr (.inr sc)), some (.inr (.inr q)), none, none]) dd_Plans_runYears_70 rfl rfl (cw_v cw_5_176 (io_c hsc) rfl rfl (Nat.le_of_ble_eq_true rfl) (Nat.le_of_ble_eq_true rfl)) mt_Scene_begin rfl hc rfl k
theorem B_Plans_runYears_73 {xs : Nat → Int} {xl e : Nat} {h : LH} {Q : Option LV → LH → Prop} {v3 v4 v5 v6 v7 v9 v10 v11 v12 : Int} {q : Int} (hq : q = 5 ∨ q = 32) {sc : Int} (hsc : scn sc) (hc0 : 60 ≤ sc) {o13 : Option LV} (hF : RF h) (r_v12 : 0 ≤ v12 ∧ v12 ≤ 59)
    (k : (∃ c, c < e ∧ Rn xs xl c mm_Plans_doneInTime 0 [some (.inr (.inr 77)), some (.inr (.inr q)), some (.inr (.inr sc)), none, none, none] [] (wr h sc 1 v9) (fun r h' => Rn xs xl e mm_Plans_runYears 85 [some (.inr (.inr 77)), some (.inr (.inr q)), some (.inr (.inr sc)), some (.inl v3), some (.inl v4), some (.inl v5), some (.inl v6), some (.inr (.inl v7)), none, some (.inl v9), some (.inl v10), some (.inl v11), some (.inl v12), o13] (r.toList ++ []) h' Q))) :
    Rn xs xl e mm_Plans_runYears 73 [some (.inr (.inr 77)), some (.inr (.inr q)), some (.inr (.inr sc)), some (.inl v3), some (.inl v4), some (.inl v5), some (.inl v6), some (.inr (.inl v7)), none, some (.inl v9), some (.inl v10), some (.inl v11), some (.inl v12), o13] [] h Q := by
  refine R_ld (v := .inr (.inr sc)) dd_Plans_runYears_73 rfl rfl rfl rfl ?_
  refine R_ld (v := .inl v9) dd_Plans_runYears_74 rfl rfl rfl rfl ?_
  refine R_pf (z := v9) dd_Plans_runYears_76 fd_5_46 (io_c hsc) fn_9_1 rfl rfl ?_
  refine R_ld (v := .inr (.inr 77)) dd_Plans_runYears_79 rfl rfl rfl rfl ?_
  refine R_ld (v := .inr (.inr q)) dd_Plans_runYears_80 rfl rfl rfl rfl ?_
  refine R_ld (v := .inr (.inr sc)) dd_Plans_runYears_81 rfl rfl rfl rfl ?_
  obtain ⟨c, hc, k⟩ := k
  exact R_call (as := [.inr (.inr 77), .inr (.inr q), .inr (.inr sc)]) (rest := []) (M' := mm_Plans_doneInTime) (ls0 := [some (.inr (.inr 77)), some (.inr (.inr q)), some (.inr (.inr sc)), none, none, none]) dd_Plans_runYears_82 rfl rfl (cw_v cw_5_180 io_77 rfl rfl (Nat.le_of_ble_eq_true rfl) (Nat.le_of_ble_eq_true rfl)) mt_Plans_doneInTime rfl hc rfl k
theorem B_Plans_runYears_85 {xs : Nat → Int} {xl e : Nat} {h : LH} {Q : Option LV → LH → Prop} {v3 v4 v5 v6 v7 v9 v10 v11 v12 w0 : Int} {q : Int} (hq : q = 5 ∨ q = 32) {sc : Int} (hsc : scn sc) (hc0 : 60 ≤ sc) {o13 : Option LV} (hF : RF h) (r_v12 : 0 ≤ v12 ∧ v12 ≤ 59)
    (k : (-2147483648 ≤ v10 + w0 ∧ v10 + w0 ≤ 2147483647) ∧
      (∀ m2, m2 ≤ v11 ∧ m2 ≤ w0 ∧ (m2 = v11 ∨ m2 = w0) →
      Rn xs xl e mm_Plans_runYears 18 [some (.inr (.inr 77)), some (.inr (.inr q)), some (.inr (.inr sc)), some (.inl v3), some (.inl v4), some (.inl v5), some (.inl v6), some (.inr (.inl v7)), none, some (.inl v9), some (.inl (v10 + w0)), some (.inl m2), some (.inl (v12 + 1)), some (.inl w0)] [] h Q)) :
    Rn xs xl e mm_Plans_runYears 85 [some (.inr (.inr 77)), some (.inr (.inr q)), some (.inr (.inr sc)), some (.inl v3), some (.inl v4), some (.inl v5), some (.inl v6), some (.inr (.inl v7)), none, some (.inl v9), some (.inl v10), some (.inl v11), some (.inl v12), o13] [.inl w0] h Q := by
  refine R_st (ls' := [some (.inr (.inr 77)), some (.inr (.inr q)), some (.inr (.inr sc)), some (.inl v3), some (.inl v4), some (.inl v5), some (.inl v6), some (.inr (.inl v7)), none, some (.inl v9), some (.inl v10), some (.inl v11), some (.inl v12), some (.inl w0)]) dd_Plans_runYears_85 rfl rfl rfl (Nat.le_of_ble_eq_true rfl) rfl rfl ?_
  refine R_ld (v := .inl v10) dd_Plans_runYears_87 rfl rfl rfl rfl ?_
  refine R_ld (v := .inl w0) dd_Plans_runYears_89 rfl rfl rfl rfl ?_
  obtain ⟨s1, k⟩ := k
  refine R_iadd (c := v10 + w0) dd_Plans_runYears_91 (by omega) s1 rfl ?_
  refine R_st (ls' := [some (.inr (.inr 77)), some (.inr (.inr q)), some (.inr (.inr sc)), some (.inl v3), some (.inl v4), some (.inl v5), some (.inl v6), some (.inr (.inl v7)), none, some (.inl v9), some (.inl (v10 + w0)), some (.inl v11), some (.inl v12), some (.inl w0)]) dd_Plans_runYears_92 rfl rfl rfl (Nat.le_of_ble_eq_true rfl) rfl rfl ?_
  refine R_ld (v := .inl v11) dd_Plans_runYears_94 rfl rfl rfl rfl ?_
  refine R_ld (v := .inl w0) dd_Plans_runYears_96 rfl rfl rfl rfl ?_
  refine R_minv dd_Plans_runYears_98 (by decide +kernel) (by decide +kernel) (Nat.le_of_ble_eq_true rfl) rfl (fun m2 hm2 => ?_)
  replace k := k m2 hm2
  refine R_st (ls' := [some (.inr (.inr 77)), some (.inr (.inr q)), some (.inr (.inr sc)), some (.inl v3), some (.inl v4), some (.inl v5), some (.inl v6), some (.inr (.inl v7)), none, some (.inl v9), some (.inl (v10 + w0)), some (.inl m2), some (.inl v12), some (.inl w0)]) dd_Plans_runYears_101 rfl rfl rfl (Nat.le_of_ble_eq_true rfl) rfl rfl ?_
  refine R_inc (y := v12 + 1) (ls' := [some (.inr (.inr 77)), some (.inr (.inr q)), some (.inr (.inr sc)), some (.inl v3), some (.inl v4), some (.inl v5), some (.inl v6), some (.inr (.inl v7)), none, some (.inl v9), some (.inl (v10 + w0)), some (.inl m2), some (.inl (v12 + 1)), some (.inl w0)]) dd_Plans_runYears_103 rfl (by decide) (by omega) (by omega) rfl rfl ?_
  refine R_goto dd_Plans_runYears_106 rfl ?_
  exact k
theorem B_OneSided_years_0 {xs : Nat → Int} {xl e : Nat} {h : LH} {Q : Option LV → LH → Prop} {v1 v2 v3 : Int} {q : Int} (hq : q = 5 ∨ q = 32) (hQ : rd h 1 ((1 : Nat) : Int) = q) (hF : RF h)
    (k : (v1 < 0 →
        Q (some (.inl (-1))) h) ∧
      (0 ≤ v1 →
        (9999 < v1 →
          Q (some (.inl (-1))) h) ∧
        (v1 ≤ 9999 →
          (v2 < 1 →
            Q (some (.inl (-1))) h) ∧
          (1 ≤ v2 →
            (v2 ≤ 60 →
              (v3 = 0 →
                (1 ≤ (rd h q 2) →
                  (v3 ≠ 1 →
                    (∃ c, c < e ∧ Rn xs xl c mm_Plans_runYears 0 [some (.inr (.inr 77)), some (.inr (.inr q)), some (.inr (.inr 68)), some (.inl (rd h 60 1)), some (.inl v1), some (.inl v2), some (.inl 0), none, none, none, none, none, none, none] [] h (fun r h' => Rn xs xl e mm_OneSided_years 86 [some (.inr (.inr 1)), some (.inl v1), some (.inl v2), some (.inl v3)] (r.toList ++ []) h' Q))) ∧
                  (v3 = 1 →
                    (∃ c, c < e ∧ Rn xs xl c mm_Plans_runYears 0 [some (.inr (.inr 77)), some (.inr (.inr q)), some (.inr (.inr 68)), some (.inl (rd h 60 1)), some (.inl v1), some (.inl v2), some (.inl 1), none, none, none, none, none, none, none] [] h (fun r h' => Rn xs xl e mm_OneSided_years 86 [some (.inr (.inr 1)), some (.inl v1), some (.inl v2), some (.inl v3)] (r.toList ++ []) h' Q)))) ∧
                ((rd h q 2) < 1 →
                  Q (some (.inl (-1))) h)) ∧
              (v3 ≠ 0 →
                (v3 ≠ 1 →
                  Q (some (.inl (-1))) h) ∧
                (v3 = 1 →
                  (1 ≤ (rd h q 2) →
                    (∃ c, c < e ∧ Rn xs xl c mm_Plans_runYears 0 [some (.inr (.inr 77)), some (.inr (.inr q)), some (.inr (.inr 68)), some (.inl (rd h 60 1)), some (.inl v1), some (.inl v2), some (.inl 1), none, none, none, none, none, none, none] [] h (fun r h' => Rn xs xl e mm_OneSided_years 86 [some (.inr (.inr 1)), some (.inl v1), some (.inl v2), some (.inl v3)] (r.toList ++ []) h' Q))) ∧
                  ((rd h q 2) < 1 →
                    Q (some (.inl (-1))) h)))) ∧
            (60 < v2 →
              Q (some (.inl (-1))) h))))) :
    Rn xs xl e mm_OneSided_years 0 [some (.inr (.inr 1)), some (.inl v1), some (.inl v2), some (.inl v3)] [] h Q := by
  refine R_ld (v := .inl v1) dd_OneSided_years_0 rfl rfl rfl rfl ?_
  refine R_if dd_OneSided_years_1 rfl rfl (fun (c4 : v1 < 0) => ?_) (fun (c4 : 0 ≤ v1) => ?_)
  · replace k := k.1 c4
    refine R_ic dd_OneSided_years_22 (by decide) rfl ?_
    exact R_iret dd_OneSided_years_23 rfl k
  · replace k := k.2 c4
    refine R_ld (v := .inl v1) dd_OneSided_years_4 rfl rfl rfl rfl ?_
    refine R_si dd_OneSided_years_5 (by decide) rfl ?_
    refine R_icmp dd_OneSided_years_8 rfl rfl (fun (c5 : 9999 < v1) => ?_) (fun (c5 : v1 ≤ 9999) => ?_)
    · replace k := k.1 c5
      refine R_ic dd_OneSided_years_22 (by decide) rfl ?_
      exact R_iret dd_OneSided_years_23 rfl k
    · replace k := k.2 c5
      refine R_ld (v := .inl v2) dd_OneSided_years_11 rfl rfl rfl rfl ?_
      refine R_ic dd_OneSided_years_12 (by decide) rfl ?_
      refine R_icmp dd_OneSided_years_13 rfl rfl (fun (c6 : v2 < 1) => ?_) (fun (c6 : 1 ≤ v2) => ?_)
      · replace k := k.1 c6
        refine R_ic dd_OneSided_years_22 (by decide) rfl ?_
        exact R_iret dd_OneSided_years_23 rfl k
      · replace k := k.2 c6
        refine R_ld (v := .inl v2) dd_OneSided_years_16 rfl rfl rfl rfl ?_
        refine R_bi dd_OneSided_years_17 (by decide) rfl ?_
        refine R_icmp dd_OneSided_years_19 rfl rfl (fun (c7 : v2 ≤ 60) => ?_) (fun (c7 : 60 < v2) => ?_)
        · replace k := k.1 c7
          refine R_ld (v := .inl v3) dd_OneSided_years_24 rfl rfl rfl rfl ?_
          refine R_if dd_OneSided_years_25 rfl rfl (fun (c8 : v3 = 0) => ?_) (fun (c8 : v3 ≠ 0) => ?_)
          · replace k := k.1 c8
            refine R_ld (v := .inr (.inr 1)) dd_OneSided_years_33 rfl rfl rfl rfl ?_
            refine R_gf (v := .inr (.inr q)) dd_OneSided_years_34 fd_11_19 io_1 (congrArg (fun z : Int => (Sum.inr (Sum.inr z) : LV)) hQ) rfl ?_
            refine R_gf (v := .inl (rd h q 2)) dd_OneSided_years_37 fd_11_345 (io_q hq) (congrArg (fun z : Int => (Sum.inl z : LV)) (rfl)) rfl ?_
            refine R_ic dd_OneSided_years_40 (by decide) rfl ?_
            refine R_icmp dd_OneSided_years_41 rfl rfl (fun (c9 : 1 ≤ (rd h q 2)) => ?_) (fun (c9 : (rd h q 2) < 1) => ?_)
            · replace k := k.1 c9
              refine R_ld (v := .inr (.inr 1)) dd_OneSided_years_46 rfl rfl rfl rfl ?_
              refine R_gf (v := .inr (.inr 77)) dd_OneSided_years_47 fd_11_49 io_1 (congrArg (fun z : Int => (Sum.inr (Sum.inr z) : LV)) (rf_1_10 hF)) rfl ?_
              refine R_ld (v := .inr (.inr 1)) dd_OneSided_years_50 rfl rfl rfl rfl ?_
              refine R_gf (v := .inr (.inr q)) dd_OneSided_years_51 fd_11_19 io_1 (congrArg (fun z : Int => (Sum.inr (Sum.inr z) : LV)) hQ) rfl ?_
              refine R_ld (v := .inr (.inr 1)) dd_OneSided_years_54 rfl rfl rfl rfl ?_
              refine R_gf (v := .inr (.inr 67)) dd_OneSided_years_55 fd_11_33 io_1 (congrArg (fun z : Int => (Sum.inr (Sum.inr z) : LV)) (rf_1_4 hF)) rfl ?_
              refine R_gf (v := .inr (.inr 68)) dd_OneSided_years_58 fd_11_149 io_67 (congrArg (fun z : Int => (Sum.inr (Sum.inr z) : LV)) (rf_67_0 hF)) rfl ?_
              refine R_ld (v := .inr (.inr 1)) dd_OneSided_years_61 rfl rfl rfl rfl ?_
              refine R_gf (v := .inr (.inr 59)) dd_OneSided_years_62 fd_11_29 io_1 (congrArg (fun z : Int => (Sum.inr (Sum.inr z) : LV)) (rf_1_3 hF)) rfl ?_
              refine R_gf (v := .inr (.inr 60)) dd_OneSided_years_65 fd_11_149 io_59 (congrArg (fun z : Int => (Sum.inr (Sum.inr z) : LV)) (rf_59_0 hF)) rfl ?_
              refine R_gf (v := .inl (rd h 60 1)) dd_OneSided_years_68 fd_11_153 io_60 (congrArg (fun z : Int => (Sum.inl z : LV)) (rfl)) rfl ?_
              refine R_ld (v := .inl v1) dd_OneSided_years_71 rfl rfl rfl rfl ?_
              refine R_ld (v := .inl v2) dd_OneSided_years_72 rfl rfl rfl rfl ?_
              refine R_ld (v := .inl v3) dd_OneSided_years_73 rfl rfl rfl rfl ?_
              refine R_ic dd_OneSided_years_74 (by decide) rfl ?_
              refine R_icmp dd_OneSided_years_75 rfl rfl (fun (c10 : v3 ≠ 1) => ?_) (fun (c10 : v3 = 1) => ?_)
              · replace k := k.1 c10
                refine R_ic dd_OneSided_years_82 (by decide) rfl ?_
                obtain ⟨c, hc, k⟩ := k
                exact R_call (as := [.inr (.inr 77), .inr (.inr q), .inr (.inr 68), .inl (rd h 60 1), .inl v1, .inl v2, .inl 0]) (rest := []) (M' := mm_Plans_runYears) (ls0 := [some (.inr (.inr 77)), some (.inr (.inr q)), some (.inr (.inr 68)), some (.inl (rd h 60 1)), some (.inl v1), some (.inl v2), some (.inl 0), none, none, none, none, none, none, none]) dd_OneSided_years_83 rfl rfl (cw_v cw_11_348 io_77 rfl rfl (Nat.le_of_ble_eq_true rfl) (Nat.le_of_ble_eq_true rfl)) mt_Plans_runYears rfl hc rfl k
              · replace k := k.2 c10
                refine R_ic dd_OneSided_years_78 (by decide) rfl ?_
                refine R_goto dd_OneSided_years_79 rfl ?_
                obtain ⟨c, hc, k⟩ := k
                exact R_call (as := [.inr (.inr 77), .inr (.inr q), .inr (.inr 68), .inl (rd h 60 1), .inl v1, .inl v2, .inl 1]) (rest := []) (M' := mm_Plans_runYears) (ls0 := [some (.inr (.inr 77)), some (.inr (.inr q)), some (.inr (.inr 68)), some (.inl (rd h 60 1)), some (.inl v1), some (.inl v2), some (.inl 1), none, none, none, none, none, none, none]) dd_OneSided_years_83 rfl rfl (cw_v cw_11_348 io_77 rfl rfl (Nat.le_of_ble_eq_true rfl) (Nat.le_of_ble_eq_true rfl)) mt_Plans_runYears rfl hc rfl k
            · replace k := k.2 c9
              refine R_ic dd_OneSided_years_44 (by decide) rfl ?_
              exact R_iret dd_OneSided_years_45 rfl k
          · replace k := k.2 c8
            refine R_ld (v := .inl v3) dd_OneSided_years_28 rfl rfl rfl rfl ?_
            refine R_ic dd_OneSided_years_29 (by decide) rfl ?_
            refine R_icmp dd_OneSided_years_30 rfl rfl (fun (c11 : v3 ≠ 1) => ?_) (fun (c11 : v3 = 1) => ?_)
            · replace k := k.1 c11
              refine R_ic dd_OneSided_years_44 (by decide) rfl ?_
              exact R_iret dd_OneSided_years_45 rfl k
            · replace k := k.2 c11
              refine R_ld (v := .inr (.inr 1)) dd_OneSided_years_33 rfl rfl rfl rfl ?_
              refine R_gf (v := .inr (.inr q)) dd_OneSided_years_34 fd_11_19 io_1 (congrArg (fun z : Int => (Sum.inr (Sum.inr z) : LV)) hQ) rfl ?_
              refine R_gf (v := .inl (rd h q 2)) dd_OneSided_years_37 fd_11_345 (io_q hq) (congrArg (fun z : Int => (Sum.inl z : LV)) (rfl)) rfl ?_
              refine R_ic dd_OneSided_years_40 (by decide) rfl ?_
              refine R_icmp dd_OneSided_years_41 rfl rfl (fun (c12 : 1 ≤ (rd h q 2)) => ?_) (fun (c12 : (rd h q 2) < 1) => ?_)
              · replace k := k.1 c12
                refine R_ld (v := .inr (.inr 1)) dd_OneSided_years_46 rfl rfl rfl rfl ?_
                refine R_gf (v := .inr (.inr 77)) dd_OneSided_years_47 fd_11_49 io_1 (congrArg (fun z : Int => (Sum.inr (Sum.inr z) : LV)) (rf_1_10 hF)) rfl ?_
                refine R_ld (v := .inr (.inr 1)) dd_OneSided_years_50 rfl rfl rfl rfl ?_
                refine R_gf (v := .inr (.inr q)) dd_OneSided_years_51 fd_11_19 io_1 (congrArg (fun z : Int => (Sum.inr (Sum.inr z) : LV)) hQ) rfl ?_
                refine R_ld (v := .inr (.inr 1)) dd_OneSided_years_54 rfl rfl rfl rfl ?_
                refine R_gf (v := .inr (.inr 67)) dd_OneSided_years_55 fd_11_33 io_1 (congrArg (fun z : Int => (Sum.inr (Sum.inr z) : LV)) (rf_1_4 hF)) rfl ?_
                refine R_gf (v := .inr (.inr 68)) dd_OneSided_years_58 fd_11_149 io_67 (congrArg (fun z : Int => (Sum.inr (Sum.inr z) : LV)) (rf_67_0 hF)) rfl ?_
                refine R_ld (v := .inr (.inr 1)) dd_OneSided_years_61 rfl rfl rfl rfl ?_
                refine R_gf (v := .inr (.inr 59)) dd_OneSided_years_62 fd_11_29 io_1 (congrArg (fun z : Int => (Sum.inr (Sum.inr z) : LV)) (rf_1_3 hF)) rfl ?_
                refine R_gf (v := .inr (.inr 60)) dd_OneSided_years_65 fd_11_149 io_59 (congrArg (fun z : Int => (Sum.inr (Sum.inr z) : LV)) (rf_59_0 hF)) rfl ?_
                refine R_gf (v := .inl (rd h 60 1)) dd_OneSided_years_68 fd_11_153 io_60 (congrArg (fun z : Int => (Sum.inl z : LV)) (rfl)) rfl ?_
                refine R_ld (v := .inl v1) dd_OneSided_years_71 rfl rfl rfl rfl ?_
                refine R_ld (v := .inl v2) dd_OneSided_years_72 rfl rfl rfl rfl ?_
                refine R_ld (v := .inl v3) dd_OneSided_years_73 rfl rfl rfl rfl ?_
                refine R_ic dd_OneSided_years_74 (by decide) rfl ?_
                refine R_icmp dd_OneSided_years_75 rfl rfl (fun (c13 : v3 ≠ 1) => ?_) (fun (c13 : v3 = 1) => ?_)
                · exact absurd c13 (by omega)
                · skip
                  refine R_ic dd_OneSided_years_78 (by decide) rfl ?_
                  refine R_goto dd_OneSided_years_79 rfl ?_
                  obtain ⟨c, hc, k⟩ := k
                  exact R_call (as := [.inr (.inr 77), .inr (.inr q), .inr (.inr 68), .inl (rd h 60 1), .inl v1, .inl v2, .inl 1]) (rest := []) (M' := mm_Plans_runYears) (ls0 := [some (.inr (.inr 77)), some (.inr (.inr q)), some (.inr (.inr 68)), some (.inl (rd h 60 1)), some (.inl v1), some (.inl v2), some (.inl 1), none, none, none, none, none, none, none]) dd_OneSided_years_83 rfl rfl (cw_v cw_11_348 io_77 rfl rfl (Nat.le_of_ble_eq_true rfl) (Nat.le_of_ble_eq_true rfl)) mt_Plans_runYears rfl hc rfl k
              · replace k := k.2 c12
                refine R_ic dd_OneSided_years_44 (by decide) rfl ?_
                exact R_iret dd_OneSided_years_45 rfl k
        · replace k := k.2 c7
          refine R_ic dd_OneSided_years_22 (by decide) rfl ?_
          exact R_iret dd_OneSided_years_23 rfl k
theorem B_OneSided_years_86 {xs : Nat → Int} {xl e : Nat} {h : LH} {Q : Option LV → LH → Prop} {v1 v2 v3 w0 : Int} (hF : RF h)
    (k : Q (some (.inl w0)) h) :
    Rn xs xl e mm_OneSided_years 86 [some (.inr (.inr 1)), some (.inl v1), some (.inl v2), some (.inl v3)] [.inl w0] h Q := by
  exact R_iret dd_OneSided_years_86 rfl k
theorem B_years_0 {xs : Nat → Int} {xl e : Nat} {h : LH} {Q : Option LV → LH → Prop} {v1 v2 v3 : Int} (hF : RF h) (he : 1 ≤ e)
    (k : (v1 < 0 →
        Q (some (.inl (-1))) (wr h 182 0 0)) ∧
      (0 ≤ v1 →
        (9999 < v1 →
          Q (some (.inl (-1))) (wr h 182 0 0)) ∧
        (v1 ≤ 9999 →
          (v2 < 1 →
            Q (some (.inl (-1))) (wr h 182 0 0)) ∧
          (1 ≤ v2 →
            (60 < v2 →
              Q (some (.inl (-1))) (wr h 182 0 0)) ∧
            (v2 ≤ 60 →
              (v3 < 0 →
                Q (some (.inl (-1))) (wr h 182 0 0)) ∧
              (0 ≤ v3 →
                (1 < v3 →
                  Q (some (.inl (-1))) (wr h 182 0 0)) ∧
                (v3 ≤ 1 →
                  ((rd h 188 1) ≠ 0 →
                    (∃ c, c < e ∧ Rn xs xl c mm_startsDay 0 [some (.inr (.inr 182)), some (.inl 1540), none] [] (wr (wr h 182 0 0) 182 54 v1) (fun r h' => Rn xs xl e mm_years 57 [some (.inr (.inr 182)), some (.inl v1), some (.inl v2), some (.inl v3), none, none, none, none, none, none] (r.toList ++ []) h' Q))) ∧
                  ((rd h 188 1) = 0 →
                    Q (some (.inl (-1))) (wr h 182 0 0))))))))) :
    Rn xs xl e mm_years 0 [some (.inr (.inr 182)), some (.inl v1), some (.inl v2), some (.inl v3), none, none, none, none, none, none] [] h Q := by
  refine R_ld (v := .inr (.inr 182)) dd_years_0 rfl rfl rfl rfl ?_
  refine R_ic dd_years_1 (by decide) rfl ?_
  refine R_pf (z := 0) dd_years_2 fd_12_1 io_182 fn_12_0 rfl rfl ?_
  refine R_ld (v := .inl v1) dd_years_5 rfl rfl rfl rfl ?_
  refine R_ic dd_years_6 (by decide) rfl ?_
  refine R_si dd_years_7 (by decide) rfl ?_
  refine R_call (as := [.inl v1, .inl 0, .inl 9999]) (rest := []) (M' := mm_within) (ls0 := [some (.inl v1), some (.inl 0), some (.inl 9999)]) dd_years_10 rfl rfl (cw_s cw_12_297 rfl rfl (Nat.le_of_ble_eq_true rfl) (Nat.le_of_ble_eq_true rfl)) mt_within rfl (c := e - 1) (by omega) rfl ?_
  refine R_ld (v := .inl v1) dd_within_0 rfl rfl rfl rfl ?_
  refine R_ld (v := .inl 0) dd_within_1 rfl rfl rfl rfl ?_
  refine R_icmp dd_within_2 rfl rfl (fun (c2 : v1 < 0) => ?_) (fun (c2 : 0 ≤ v1) => ?_)
  · replace k := k.1 c2
    refine R_ic dd_within_14 (by decide) rfl ?_
    refine R_zret dd_within_15 rfl (by decide) ?_
    change Rn xs xl e mm_years 13 [some (.inr (.inr 182)), some (.inl v1), some (.inl v2), some (.inl v3), none, none, none, none, none, none] [.inl 0] (wr h 182 0 0) _
    refine R_if dd_years_13 rfl rfl (fun (c3 : 0 = 0) => ?_) (fun (c3 : 0 ≠ 0) => ?_)
    · skip
      refine R_ic dd_years_42 (by decide) rfl ?_
      exact R_iret dd_years_43 rfl k
    · exact absurd c3 (by omega)
  · replace k := k.2 c2
    refine R_ld (v := .inl v1) dd_within_5 rfl rfl rfl rfl ?_
    refine R_ld (v := .inl 9999) dd_within_6 rfl rfl rfl rfl ?_
    refine R_icmp dd_within_7 rfl rfl (fun (c4 : 9999 < v1) => ?_) (fun (c4 : v1 ≤ 9999) => ?_)
    · replace k := k.1 c4
      refine R_ic dd_within_14 (by decide) rfl ?_
      refine R_zret dd_within_15 rfl (by decide) ?_
      change Rn xs xl e mm_years 13 [some (.inr (.inr 182)), some (.inl v1), some (.inl v2), some (.inl v3), none, none, none, none, none, none] [.inl 0] (wr h 182 0 0) _
      refine R_if dd_years_13 rfl rfl (fun (c5 : 0 = 0) => ?_) (fun (c5 : 0 ≠ 0) => ?_)
      · skip
        refine R_ic dd_years_42 (by decide) rfl ?_
        exact R_iret dd_years_43 rfl k
      · exact absurd c5 (by omega)
    · replace k := k.2 c4
      refine R_ic dd_within_10 (by decide) rfl ?_
      refine R_goto dd_within_11 rfl ?_
      refine R_zret dd_within_15 rfl (by decide) ?_
      change Rn xs xl e mm_years 13 [some (.inr (.inr 182)), some (.inl v1), some (.inl v2), some (.inl v3), none, none, none, none, none, none] [.inl 1] (wr h 182 0 0) _
      refine R_if dd_years_13 rfl rfl (fun (c6 : 1 = 0) => ?_) (fun (c6 : 1 ≠ 0) => ?_)
      · exact absurd c6 (by omega)
      · skip
        refine R_ld (v := .inl v2) dd_years_16 rfl rfl rfl rfl ?_
        refine R_ic dd_years_17 (by decide) rfl ?_
        refine R_bi dd_years_18 (by decide) rfl ?_
        refine R_call (as := [.inl v2, .inl 1, .inl 60]) (rest := []) (M' := mm_within) (ls0 := [some (.inl v2), some (.inl 1), some (.inl 60)]) dd_years_20 rfl rfl (cw_s cw_12_297 rfl rfl (Nat.le_of_ble_eq_true rfl) (Nat.le_of_ble_eq_true rfl)) mt_within rfl (c := e - 1) (by omega) rfl ?_
        refine R_ld (v := .inl v2) dd_within_0 rfl rfl rfl rfl ?_
        refine R_ld (v := .inl 1) dd_within_1 rfl rfl rfl rfl ?_
        refine R_icmp dd_within_2 rfl rfl (fun (c7 : v2 < 1) => ?_) (fun (c7 : 1 ≤ v2) => ?_)
        · replace k := k.1 c7
          refine R_ic dd_within_14 (by decide) rfl ?_
          refine R_zret dd_within_15 rfl (by decide) ?_
          change Rn xs xl e mm_years 23 [some (.inr (.inr 182)), some (.inl v1), some (.inl v2), some (.inl v3), none, none, none, none, none, none] [.inl 0] (wr h 182 0 0) _
          refine R_if dd_years_23 rfl rfl (fun (c8 : 0 = 0) => ?_) (fun (c8 : 0 ≠ 0) => ?_)
          · skip
            refine R_ic dd_years_42 (by decide) rfl ?_
            exact R_iret dd_years_43 rfl k
          · exact absurd c8 (by omega)
        · replace k := k.2 c7
          refine R_ld (v := .inl v2) dd_within_5 rfl rfl rfl rfl ?_
          refine R_ld (v := .inl 60) dd_within_6 rfl rfl rfl rfl ?_
          refine R_icmp dd_within_7 rfl rfl (fun (c9 : 60 < v2) => ?_) (fun (c9 : v2 ≤ 60) => ?_)
          · replace k := k.1 c9
            refine R_ic dd_within_14 (by decide) rfl ?_
            refine R_zret dd_within_15 rfl (by decide) ?_
            change Rn xs xl e mm_years 23 [some (.inr (.inr 182)), some (.inl v1), some (.inl v2), some (.inl v3), none, none, none, none, none, none] [.inl 0] (wr h 182 0 0) _
            refine R_if dd_years_23 rfl rfl (fun (c10 : 0 = 0) => ?_) (fun (c10 : 0 ≠ 0) => ?_)
            · skip
              refine R_ic dd_years_42 (by decide) rfl ?_
              exact R_iret dd_years_43 rfl k
            · exact absurd c10 (by omega)
          · replace k := k.2 c9
            refine R_ic dd_within_10 (by decide) rfl ?_
            refine R_goto dd_within_11 rfl ?_
            refine R_zret dd_within_15 rfl (by decide) ?_
            change Rn xs xl e mm_years 23 [some (.inr (.inr 182)), some (.inl v1), some (.inl v2), some (.inl v3), none, none, none, none, none, none] [.inl 1] (wr h 182 0 0) _
            refine R_if dd_years_23 rfl rfl (fun (c11 : 1 = 0) => ?_) (fun (c11 : 1 ≠ 0) => ?_)
            · exact absurd c11 (by omega)
            · skip
              refine R_ld (v := .inl v3) dd_years_26 rfl rfl rfl rfl ?_
              refine R_ic dd_years_27 (by decide) rfl ?_
              refine R_ic dd_years_28 (by decide) rfl ?_
              refine R_call (as := [.inl v3, .inl 0, .inl 1]) (rest := []) (M' := mm_within) (ls0 := [some (.inl v3), some (.inl 0), some (.inl 1)]) dd_years_29 rfl rfl (cw_s cw_12_297 rfl rfl (Nat.le_of_ble_eq_true rfl) (Nat.le_of_ble_eq_true rfl)) mt_within rfl (c := e - 1) (by omega) rfl ?_
              refine R_ld (v := .inl v3) dd_within_0 rfl rfl rfl rfl ?_
              refine R_ld (v := .inl 0) dd_within_1 rfl rfl rfl rfl ?_
              refine R_icmp dd_within_2 rfl rfl (fun (c12 : v3 < 0) => ?_) (fun (c12 : 0 ≤ v3) => ?_)
              · replace k := k.1 c12
                refine R_ic dd_within_14 (by decide) rfl ?_
                refine R_zret dd_within_15 rfl (by decide) ?_
                change Rn xs xl e mm_years 32 [some (.inr (.inr 182)), some (.inl v1), some (.inl v2), some (.inl v3), none, none, none, none, none, none] [.inl 0] (wr h 182 0 0) _
                refine R_if dd_years_32 rfl rfl (fun (c13 : 0 = 0) => ?_) (fun (c13 : 0 ≠ 0) => ?_)
                · skip
                  refine R_ic dd_years_42 (by decide) rfl ?_
                  exact R_iret dd_years_43 rfl k
                · exact absurd c13 (by omega)
              · replace k := k.2 c12
                refine R_ld (v := .inl v3) dd_within_5 rfl rfl rfl rfl ?_
                refine R_ld (v := .inl 1) dd_within_6 rfl rfl rfl rfl ?_
                refine R_icmp dd_within_7 rfl rfl (fun (c14 : 1 < v3) => ?_) (fun (c14 : v3 ≤ 1) => ?_)
                · replace k := k.1 c14
                  refine R_ic dd_within_14 (by decide) rfl ?_
                  refine R_zret dd_within_15 rfl (by decide) ?_
                  change Rn xs xl e mm_years 32 [some (.inr (.inr 182)), some (.inl v1), some (.inl v2), some (.inl v3), none, none, none, none, none, none] [.inl 0] (wr h 182 0 0) _
                  refine R_if dd_years_32 rfl rfl (fun (c15 : 0 = 0) => ?_) (fun (c15 : 0 ≠ 0) => ?_)
                  · skip
                    refine R_ic dd_years_42 (by decide) rfl ?_
                    exact R_iret dd_years_43 rfl k
                  · exact absurd c15 (by omega)
                · replace k := k.2 c14
                  refine R_ic dd_within_10 (by decide) rfl ?_
                  refine R_goto dd_within_11 rfl ?_
                  refine R_zret dd_within_15 rfl (by decide) ?_
                  change Rn xs xl e mm_years 32 [some (.inr (.inr 182)), some (.inl v1), some (.inl v2), some (.inl v3), none, none, none, none, none, none] [.inl 1] (wr h 182 0 0) _
                  refine R_if dd_years_32 rfl rfl (fun (c16 : 1 = 0) => ?_) (fun (c16 : 1 ≠ 0) => ?_)
                  · exact absurd c16 (by omega)
                  · skip
                    refine R_ld (v := .inr (.inr 182)) dd_years_35 rfl rfl rfl rfl ?_
                    refine R_call (as := [.inr (.inr 182)]) (rest := []) (M' := mm_doors) (ls0 := [some (.inr (.inr 182))]) dd_years_36 rfl rfl (cw_v cw_12_335 io_182 rfl rfl (Nat.le_of_ble_eq_true rfl) (Nat.le_of_ble_eq_true rfl)) mt_doors rfl (c := e - 1) (by omega) rfl ?_
                    refine R_ld (v := .inr (.inr 182)) dd_doors_0 rfl rfl rfl rfl ?_
                    refine R_gf (v := .inr (.inr 188)) dd_doors_1 fd_12_95 io_182 (congrArg (fun z : Int => (Sum.inr (Sum.inr z) : LV)) ((rdw_nei (by omega)).trans (rf_182_10 hF))) rfl ?_
                    refine R_ic dd_doors_4 (by decide) rfl ?_
                    refine R_iald (v := (rd h 188 1)) (n := 300) dd_doors_5 ia_188 la_188 (by decide) (rdw_ne (by decide)) rfl ?_
                    refine R_iret dd_doors_6 rfl ?_
                    change Rn xs xl e mm_years 39 [some (.inr (.inr 182)), some (.inl v1), some (.inl v2), some (.inl v3), none, none, none, none, none, none] [.inl (rd h 188 1)] (wr h 182 0 0) _
                    refine R_if dd_years_39 rfl rfl (fun (c17 : (rd h 188 1) ≠ 0) => ?_) (fun (c17 : (rd h 188 1) = 0) => ?_)
                    · replace k := k.1 c17
                      refine R_ld (v := .inr (.inr 182)) dd_years_44 rfl rfl rfl rfl ?_
                      refine R_ld (v := .inl v1) dd_years_45 rfl rfl rfl rfl ?_
                      refine R_A dd_years_46 rfl rfl rfl rfl ?_
                      refine R_pf (z := v1) dd_years_47 fd_12_492 io_182 fn_12_54 rfl rfl ?_
                      refine R_ld (v := .inr (.inr 182)) dd_years_50 rfl rfl rfl rfl ?_
                      refine R_si dd_years_51 (by decide) rfl ?_
                      obtain ⟨c, hc, k⟩ := k
                      exact R_call (as := [.inr (.inr 182), .inl 1540]) (rest := []) (M' := mm_startsDay) (ls0 := [some (.inr (.inr 182)), some (.inl 1540), none]) dd_years_54 rfl rfl (cw_v cw_12_319 io_182 rfl rfl (Nat.le_of_ble_eq_true rfl) (Nat.le_of_ble_eq_true rfl)) mt_startsDay rfl hc rfl k
                    · replace k := k.2 c17
                      refine R_ic dd_years_42 (by decide) rfl ?_
                      exact R_iret dd_years_43 rfl k
theorem B_years_57 {xs : Nat → Int} {xl e : Nat} {h : LH} {Q : Option LV → LH → Prop} {v1 v2 v3 : Int} (hF : RF h)
    (k : Rn xs xl e mm_years 82 [some (.inr (.inr 182)), some (.inl v1), some (.inl v2), some (.inl v3), some (.inl 0), some (.inl 1000000), some (.inl 0), none, none, none] [] (wr h 198 1541 (rd h 198 1)) Q) :
    Rn xs xl e mm_years 57 [some (.inr (.inr 182)), some (.inl v1), some (.inl v2), some (.inl v3), none, none, none, none, none, none] [] h Q := by
  refine R_ld (v := .inr (.inr 182)) dd_years_57 rfl rfl rfl rfl ?_
  refine R_gf (v := .inr (.inr 198)) dd_years_58 fd_12_125 io_182 (congrArg (fun z : Int => (Sum.inr (Sum.inr z) : LV)) (rf_182_24 hF)) rfl ?_
  refine R_si dd_years_61 (by decide) rfl ?_
  refine R_ld (v := .inr (.inr 182)) dd_years_64 rfl rfl rfl rfl ?_
  refine R_gf (v := .inr (.inr 198)) dd_years_65 fd_12_125 io_182 (congrArg (fun z : Int => (Sum.inr (Sum.inr z) : LV)) (rf_182_24 hF)) rfl ?_
  refine R_ic dd_years_68 (by decide) rfl ?_
  refine R_iald (v := (rd h 198 1)) (n := 1610) dd_years_69 ia_198 la_198 (by decide) (rfl) rfl ?_
  refine R_iast (n := 1610) dd_years_70 ia_198 la_198 (by decide) rfl ?_
  refine R_ic dd_years_71 (by decide) rfl ?_
  refine R_st (ls' := [some (.inr (.inr 182)), some (.inl v1), some (.inl v2), some (.inl v3), some (.inl 0), none, none, none, none, none]) dd_years_72 rfl rfl rfl (Nat.le_of_ble_eq_true rfl) rfl rfl ?_
  refine R_C (v := .inl (1000000)) dd_years_74 rfl rfl (by decide +kernel) rfl ?_
  refine R_st (ls' := [some (.inr (.inr 182)), some (.inl v1), some (.inl v2), some (.inl v3), some (.inl 0), some (.inl 1000000), none, none, none, none]) dd_years_77 rfl rfl rfl (Nat.le_of_ble_eq_true rfl) rfl rfl ?_
  refine R_ic dd_years_79 (by decide) rfl ?_
  refine R_st (ls' := [some (.inr (.inr 182)), some (.inl v1), some (.inl v2), some (.inl v3), some (.inl 0), some (.inl 1000000), some (.inl 0), none, none, none]) dd_years_80 rfl rfl rfl (Nat.le_of_ble_eq_true rfl) rfl rfl ?_
  exact k
theorem B_years_82 {xs : Nat → Int} {xl e : Nat} {h : LH} {Q : Option LV → LH → Prop} {v1 v2 v3 v4 v5 v6 : Int} {o7 : Option LV} {o8 : Option LV} {o9 : Option LV} (hF : RF h) (r_v6 : 0 ≤ v6 ∧ v6 ≤ 60) (he : 1 ≤ e)
    (k : (v2 ≤ v6 →
        (v3 ≠ 0 →
          Q (some (.inl v5)) h) ∧
        (v3 = 0 →
          Q (some (.inl v4)) h)) ∧
      (v6 < v2 →
        ((rd h 188 1) ≠ 0) ∧
        ((w32 (lrm (ldv (lrm (w64 ((w64 ((lrm (w64 ((w64 ((rd h 182 54) * (1103515245))) + (12345))) (2147483648)) * (1103515245))) + (12345))) (2147483648)) (65536)) 10)) ≠ 0 →
          Rn xs xl e mm_years 138 [some (.inr (.inr 182)), some (.inl v1), some (.inl v2), some (.inl v3), some (.inl v4), some (.inl v5), some (.inl v6), o7, o8, o9] [] (wr (wr (wr (wr h 182 54 (lrm (w64 ((w64 ((rd h 182 54) * (1103515245))) + (12345))) (2147483648))) 198 1541 (zxor (rd h 198 1541) (zshl 1 (w32 (lrm (ldv (lrm (w64 ((w64 ((rd h 182 54) * (1103515245))) + (12345))) (2147483648)) (65536)) (rd h 188 1)))))) 182 54 (lrm (w64 ((w64 ((lrm (w64 ((w64 ((rd h 182 54) * (1103515245))) + (12345))) (2147483648)) * (1103515245))) + (12345))) (2147483648))) 198 1541 (zxor (rd h 198 1541) (zshl 1 (w32 (lrm (ldv (lrm (w64 ((w64 ((rd h 182 54) * (1103515245))) + (12345))) (2147483648)) (65536)) (rd h 188 1)))))) Q) ∧
        ((w32 (lrm (ldv (lrm (w64 ((w64 ((lrm (w64 ((w64 ((rd h 182 54) * (1103515245))) + (12345))) (2147483648)) * (1103515245))) + (12345))) (2147483648)) (65536)) 10)) = 0 →
          Rn xs xl e mm_years 138 [some (.inr (.inr 182)), some (.inl v1), some (.inl v2), some (.inl v3), some (.inl v4), some (.inl v5), some (.inl v6), o7, o8, o9] [] (wr (wr (wr (wr h 182 54 (lrm (w64 ((w64 ((rd h 182 54) * (1103515245))) + (12345))) (2147483648))) 198 1541 (zxor (rd h 198 1541) (zshl 1 (w32 (lrm (ldv (lrm (w64 ((w64 ((rd h 182 54) * (1103515245))) + (12345))) (2147483648)) (65536)) (rd h 188 1)))))) 182 54 (lrm (w64 ((w64 ((lrm (w64 ((w64 ((rd h 182 54) * (1103515245))) + (12345))) (2147483648)) * (1103515245))) + (12345))) (2147483648))) 198 1541 0) Q))) :
    Rn xs xl e mm_years 82 [some (.inr (.inr 182)), some (.inl v1), some (.inl v2), some (.inl v3), some (.inl v4), some (.inl v5), some (.inl v6), o7, o8, o9] [] h Q := by
  refine R_ld (v := .inl v6) dd_years_82 rfl rfl rfl rfl ?_
  refine R_ld (v := .inl v2) dd_years_84 rfl rfl rfl rfl ?_
  refine R_icmp dd_years_85 rfl rfl (fun (c2 : v2 ≤ v6) => ?_) (fun (c2 : v6 < v2) => ?_)
  · replace k := k.1 c2
    refine R_ld (v := .inl v3) dd_years_226 rfl rfl rfl rfl ?_
    refine R_if dd_years_227 rfl rfl (fun (c3 : v3 ≠ 0) => ?_) (fun (c3 : v3 = 0) => ?_)
    · replace k := k.1 c3
      refine R_ld (v := .inl v5) dd_years_235 rfl rfl rfl rfl ?_
      exact R_iret dd_years_237 rfl k
    · replace k := k.2 c3
      refine R_ld (v := .inl v4) dd_years_230 rfl rfl rfl rfl ?_
      refine R_goto dd_years_232 rfl ?_
      exact R_iret dd_years_237 rfl k
  · replace k := k.2 c2
    refine R_ld (v := .inr (.inr 182)) dd_years_88 rfl rfl rfl rfl ?_
    refine R_gf (v := .inr (.inr 198)) dd_years_89 fd_12_125 io_182 (congrArg (fun z : Int => (Sum.inr (Sum.inr z) : LV)) (rf_182_24 hF)) rfl ?_
    refine R_si dd_years_92 (by decide) rfl ?_
    refine R_A dd_years_95 rfl rfl rfl rfl ?_
    refine R_iald (v := (rd h 198 1541)) (n := 1610) dd_years_96 ia_198 la_198 (by decide) (rfl) rfl ?_
    refine R_ic dd_years_97 (by decide) rfl ?_
    refine R_ld (v := .inr (.inr 182)) dd_years_98 rfl rfl rfl rfl ?_
    refine R_ld (v := .inr (.inr 182)) dd_years_99 rfl rfl rfl rfl ?_
    refine R_call (as := [.inr (.inr 182)]) (rest := [.inr (.inr 182), .inl 1, .inl (rd h 198 1541), .inl 1541, .inr (.inr 198)]) (M' := mm_doors) (ls0 := [some (.inr (.inr 182))]) dd_years_100 rfl rfl (cw_v cw_12_335 io_182 rfl rfl (Nat.le_of_ble_eq_true rfl) (Nat.le_of_ble_eq_true rfl)) mt_doors rfl (c := e - 1) (by omega) rfl ?_
    refine R_ld (v := .inr (.inr 182)) dd_doors_0 rfl rfl rfl rfl ?_
    refine R_gf (v := .inr (.inr 188)) dd_doors_1 fd_12_95 io_182 (congrArg (fun z : Int => (Sum.inr (Sum.inr z) : LV)) (rf_182_10 hF)) rfl ?_
    refine R_ic dd_doors_4 (by decide) rfl ?_
    refine R_iald (v := (rd h 188 1)) (n := 300) dd_doors_5 ia_188 la_188 (by decide) (rfl) rfl ?_
    refine R_iret dd_doors_6 rfl ?_
    change Rn xs xl e mm_years 103 [some (.inr (.inr 182)), some (.inl v1), some (.inl v2), some (.inl v3), some (.inl v4), some (.inl v5), some (.inl v6), o7, o8, o9] [.inl (rd h 188 1), .inr (.inr 182), .inl 1, .inl (rd h 198 1541), .inl 1541, .inr (.inr 198)] h _
    refine R_call (as := [.inr (.inr 182), .inl (rd h 188 1)]) (rest := [.inl 1, .inl (rd h 198 1541), .inl 1541, .inr (.inr 198)]) (M' := mm_draw) (ls0 := [some (.inr (.inr 182)), some (.inl (rd h 188 1))]) dd_years_103 rfl rfl (cw_v cw_12_504 io_182 rfl rfl (Nat.le_of_ble_eq_true rfl) (Nat.le_of_ble_eq_true rfl)) mt_draw rfl (c := e - 1) (by omega) rfl ?_
    refine R_ld (v := .inr (.inr 182)) dd_draw_0 rfl rfl rfl rfl ?_
    refine R_ld (v := .inr (.inr 182)) dd_draw_1 rfl rfl rfl rfl ?_
    refine R_gf (v := .inr (.inl (rd h 182 54))) dd_draw_2 fd_12_492 io_182 (congrArg (fun z : Int => (Sum.inr (Sum.inl z) : LV)) (rfl)) rfl ?_
    refine R_C (v := .inr (.inl (1103515245))) dd_draw_5 rfl rfl (by decide +kernel) rfl ?_
    refine R_A dd_draw_8 rfl rfl rfl rfl ?_
    refine R_C (v := .inr (.inl (12345))) dd_draw_9 rfl rfl (by decide +kernel) rfl ?_
    refine R_A dd_draw_12 rfl rfl rfl rfl ?_
    refine R_C (v := .inr (.inl (2147483648))) dd_draw_13 rfl rfl (by decide +kernel) rfl ?_
    refine R_lrm dd_draw_16 (by decide) rfl ?_
    refine R_pf (z := (lrm (w64 ((w64 ((rd h 182 54) * (1103515245))) + (12345))) (2147483648))) dd_draw_17 fd_12_492 io_182 fn_12_54 rfl rfl ?_
    refine R_ld (v := .inr (.inr 182)) dd_draw_20 rfl rfl rfl rfl ?_
    refine R_gf (v := .inr (.inl (lrm (w64 ((w64 ((rd h 182 54) * (1103515245))) + (12345))) (2147483648)))) dd_draw_21 fd_12_492 io_182 (congrArg (fun z : Int => (Sum.inr (Sum.inl z) : LV)) (rdw_eq)) rfl ?_
    refine R_C (v := .inr (.inl (65536))) dd_draw_24 rfl rfl (by decide +kernel) rfl ?_
    refine R_ldv dd_draw_27 (by decide) rfl ?_
    refine R_ld (v := .inl (rd h 188 1)) dd_draw_28 rfl rfl rfl rfl ?_
    refine R_A dd_draw_29 rfl rfl rfl rfl ?_
    obtain ⟨s1, k⟩ := k
    refine R_lrm dd_draw_30 s1 rfl ?_
    refine R_A dd_draw_31 rfl rfl rfl rfl ?_
    refine R_iret dd_draw_32 rfl ?_
    change Rn xs xl e mm_years 106 [some (.inr (.inr 182)), some (.inl v1), some (.inl v2), some (.inl v3), some (.inl v4), some (.inl v5), some (.inl v6), o7, o8, o9] [.inl (w32 (lrm (ldv (lrm (w64 ((w64 ((rd h 182 54) * (1103515245))) + (12345))) (2147483648)) (65536)) (rd h 188 1))), .inl 1, .inl (rd h 198 1541), .inl 1541, .inr (.inr 198)] (wr h 182 54 (lrm (w64 ((w64 ((rd h 182 54) * (1103515245))) + (12345))) (2147483648))) _
    refine R_A dd_years_106 rfl rfl rfl rfl ?_
    refine R_A dd_years_107 rfl rfl rfl rfl ?_
    refine R_iast (n := 1610) dd_years_108 ia_198 la_198 (by decide) rfl ?_
    refine R_ld (v := .inr (.inr 182)) dd_years_109 rfl rfl rfl rfl ?_
    refine R_gf (v := .inr (.inr 198)) dd_years_110 fd_12_125 io_182 (congrArg (fun z : Int => (Sum.inr (Sum.inr z) : LV)) ((rdw_ne (by decide)).trans ((rdw_nei (by omega)).trans (rf_182_24 hF)))) rfl ?_
    refine R_si dd_years_113 (by decide) rfl ?_
    refine R_ld (v := .inr (.inr 182)) dd_years_116 rfl rfl rfl rfl ?_
    refine R_bi dd_years_117 (by decide) rfl ?_
    refine R_call (as := [.inr (.inr 182), .inl 10]) (rest := [.inl 1541, .inr (.inr 198)]) (M' := mm_draw) (ls0 := [some (.inr (.inr 182)), some (.inl 10)]) dd_years_119 rfl rfl (cw_v cw_12_504 io_182 rfl rfl (Nat.le_of_ble_eq_true rfl) (Nat.le_of_ble_eq_true rfl)) mt_draw rfl (c := e - 1) (by omega) rfl ?_
    refine R_ld (v := .inr (.inr 182)) dd_draw_0 rfl rfl rfl rfl ?_
    refine R_ld (v := .inr (.inr 182)) dd_draw_1 rfl rfl rfl rfl ?_
    refine R_gf (v := .inr (.inl (lrm (w64 ((w64 ((rd h 182 54) * (1103515245))) + (12345))) (2147483648)))) dd_draw_2 fd_12_492 io_182 (congrArg (fun z : Int => (Sum.inr (Sum.inl z) : LV)) ((rdw_ne (by decide)).trans (rdw_eq))) rfl ?_
    refine R_C (v := .inr (.inl (1103515245))) dd_draw_5 rfl rfl (by decide +kernel) rfl ?_
    refine R_A dd_draw_8 rfl rfl rfl rfl ?_
    refine R_C (v := .inr (.inl (12345))) dd_draw_9 rfl rfl (by decide +kernel) rfl ?_
    refine R_A dd_draw_12 rfl rfl rfl rfl ?_
    refine R_C (v := .inr (.inl (2147483648))) dd_draw_13 rfl rfl (by decide +kernel) rfl ?_
    refine R_lrm dd_draw_16 (by decide) rfl ?_
    refine R_pf (z := (lrm (w64 ((w64 ((lrm (w64 ((w64 ((rd h 182 54) * (1103515245))) + (12345))) (2147483648)) * (1103515245))) + (12345))) (2147483648))) dd_draw_17 fd_12_492 io_182 fn_12_54 rfl rfl ?_
    refine R_ld (v := .inr (.inr 182)) dd_draw_20 rfl rfl rfl rfl ?_
    refine R_gf (v := .inr (.inl (lrm (w64 ((w64 ((lrm (w64 ((w64 ((rd h 182 54) * (1103515245))) + (12345))) (2147483648)) * (1103515245))) + (12345))) (2147483648)))) dd_draw_21 fd_12_492 io_182 (congrArg (fun z : Int => (Sum.inr (Sum.inl z) : LV)) (rdw_eq)) rfl ?_
    refine R_C (v := .inr (.inl (65536))) dd_draw_24 rfl rfl (by decide +kernel) rfl ?_
    refine R_ldv dd_draw_27 (by decide) rfl ?_
    refine R_ld (v := .inl 10) dd_draw_28 rfl rfl rfl rfl ?_
    refine R_A dd_draw_29 rfl rfl rfl rfl ?_
    refine R_lrm dd_draw_30 (by decide) rfl ?_
    refine R_A dd_draw_31 rfl rfl rfl rfl ?_
    refine R_iret dd_draw_32 rfl ?_
    change Rn xs xl e mm_years 122 [some (.inr (.inr 182)), some (.inl v1), some (.inl v2), some (.inl v3), some (.inl v4), some (.inl v5), some (.inl v6), o7, o8, o9] [.inl (w32 (lrm (ldv (lrm (w64 ((w64 ((lrm (w64 ((w64 ((rd h 182 54) * (1103515245))) + (12345))) (2147483648)) * (1103515245))) + (12345))) (2147483648)) (65536)) 10)), .inl 1541, .inr (.inr 198)] (wr (wr (wr h 182 54 (lrm (w64 ((w64 ((rd h 182 54) * (1103515245))) + (12345))) (2147483648))) 198 1541 (zxor (rd h 198 1541) (zshl 1 (w32 (lrm (ldv (lrm (w64 ((w64 ((rd h 182 54) * (1103515245))) + (12345))) (2147483648)) (65536)) (rd h 188 1)))))) 182 54 (lrm (w64 ((w64 ((lrm (w64 ((w64 ((rd h 182 54) * (1103515245))) + (12345))) (2147483648)) * (1103515245))) + (12345))) (2147483648))) _
    refine R_if dd_years_122 rfl rfl (fun (c4 : (w32 (lrm (ldv (lrm (w64 ((w64 ((lrm (w64 ((w64 ((rd h 182 54) * (1103515245))) + (12345))) (2147483648)) * (1103515245))) + (12345))) (2147483648)) (65536)) 10)) ≠ 0) => ?_) (fun (c4 : (w32 (lrm (ldv (lrm (w64 ((w64 ((lrm (w64 ((w64 ((rd h 182 54) * (1103515245))) + (12345))) (2147483648)) * (1103515245))) + (12345))) (2147483648)) (65536)) 10)) = 0) => ?_)
    · replace k := k.1 c4
      refine R_ld (v := .inr (.inr 182)) dd_years_129 rfl rfl rfl rfl ?_
      refine R_gf (v := .inr (.inr 198)) dd_years_130 fd_12_125 io_182 (congrArg (fun z : Int => (Sum.inr (Sum.inr z) : LV)) ((rdw_nei (by omega)).trans ((rdw_ne (by decide)).trans ((rdw_nei (by omega)).trans (rf_182_24 hF))))) rfl ?_
      refine R_si dd_years_133 (by decide) rfl ?_
      refine R_iald (v := (zxor (rd h 198 1541) (zshl 1 (w32 (lrm (ldv (lrm (w64 ((w64 ((rd h 182 54) * (1103515245))) + (12345))) (2147483648)) (65536)) (rd h 188 1)))))) (n := 1610) dd_years_136 ia_198 la_198 (by decide) ((rdw_ne (by decide)).trans (rdw_eq)) rfl ?_
      refine R_iast (n := 1610) dd_years_137 ia_198 la_198 (by decide) rfl ?_
      exact k
    · replace k := k.2 c4
      refine R_ic dd_years_125 (by decide) rfl ?_
      refine R_goto dd_years_126 rfl ?_
      refine R_iast (n := 1610) dd_years_137 ia_198 la_198 (by decide) rfl ?_
      exact k
theorem B_years_138 {xs : Nat → Int} {xl e : Nat} {h : LH} {Q : Option LV → LH → Prop} {v1 v2 v3 v4 v5 v6 : Int} {o7 : Option LV} {o8 : Option LV} {o9 : Option LV} (hF : RF h) (r_v6 : 0 ≤ v6 ∧ v6 ≤ 59)
    (k : Rn xs xl e mm_years 144 [some (.inr (.inr 182)), some (.inl v1), some (.inl v2), some (.inl v3), some (.inl v4), some (.inl v5), some (.inl v6), some (.inl 0), some (.inl 0), o9] [] h Q) :
    Rn xs xl e mm_years 138 [some (.inr (.inr 182)), some (.inl v1), some (.inl v2), some (.inl v3), some (.inl v4), some (.inl v5), some (.inl v6), o7, o8, o9] [] h Q := by
  refine R_ic dd_years_138 (by decide) rfl ?_
  refine R_st (ls' := [some (.inr (.inr 182)), some (.inl v1), some (.inl v2), some (.inl v3), some (.inl v4), some (.inl v5), some (.inl v6), some (.inl 0), o8, o9]) dd_years_139 rfl rfl rfl (Nat.le_of_ble_eq_true rfl) rfl rfl ?_
  refine R_ic dd_years_141 (by decide) rfl ?_
  refine R_st (ls' := [some (.inr (.inr 182)), some (.inl v1), some (.inl v2), some (.inl v3), some (.inl v4), some (.inl v5), some (.inl v6), some (.inl 0), some (.inl 0), o9]) dd_years_142 rfl rfl rfl (Nat.le_of_ble_eq_true rfl) rfl rfl ?_
  exact k
theorem B_years_144 {xs : Nat → Int} {xl e : Nat} {h : LH} {Q : Option LV → LH → Prop} {v1 v2 v3 v4 v5 v6 v7 v8 : Int} {o9 : Option LV} (hF : RF h) (r_v6 : 0 ≤ v6 ∧ v6 ≤ 59) (r_v7 : 0 ≤ v7 ∧ v7 ≤ 6) (r_v8 : 0 ≤ v8 ∧ v8 ≤ 6) (he : 1 ≤ e)
    (k : ((rd h 188 2) ≤ v8 →
        (-2147483648 ≤ v4 + v7 ∧ v4 + v7 ≤ 2147483647) ∧
        (v5 ≤ v7 →
          Rn xs xl e mm_years 82 [some (.inr (.inr 182)), some (.inl v1), some (.inl v2), some (.inl v3), some (.inl (v4 + v7)), some (.inl v5), some (.inl (v6 + 1)), some (.inl v7), some (.inl v8), o9] [] h Q) ∧
        (v7 < v5 →
          Rn xs xl e mm_years 82 [some (.inr (.inr 182)), some (.inl v1), some (.inl v2), some (.inl v3), some (.inl (v4 + v7)), some (.inl v7), some (.inl (v6 + 1)), some (.inl v7), some (.inl v8), o9] [] h Q)) ∧
      (v8 < (rd h 188 2) →
        (∃ c, c < e ∧ Rn xs xl c mm_errandHour 0 [some (.inr (.inr 182)), some (.inl 1540), some (.inl v8)] [] h (fun r h' => Rn xs xl e mm_years 162 [some (.inr (.inr 182)), some (.inl v1), some (.inl v2), some (.inl v3), some (.inl v4), some (.inl v5), some (.inl v6), some (.inl v7), some (.inl v8), o9] (r.toList ++ []) h' Q)))) :
    Rn xs xl e mm_years 144 [some (.inr (.inr 182)), some (.inl v1), some (.inl v2), some (.inl v3), some (.inl v4), some (.inl v5), some (.inl v6), some (.inl v7), some (.inl v8), o9] [] h Q := by
  refine R_ld (v := .inl v8) dd_years_144 rfl rfl rfl rfl ?_
  refine R_ld (v := .inr (.inr 182)) dd_years_146 rfl rfl rfl rfl ?_
  refine R_call (as := [.inr (.inr 182)]) (rest := [.inl v8]) (M' := mm_people) (ls0 := [some (.inr (.inr 182))]) dd_years_147 rfl rfl (cw_v cw_12_338 io_182 rfl rfl (Nat.le_of_ble_eq_true rfl) (Nat.le_of_ble_eq_true rfl)) mt_people rfl (c := e - 1) (by omega) rfl ?_
  refine R_ld (v := .inr (.inr 182)) dd_people_0 rfl rfl rfl rfl ?_
  refine R_gf (v := .inr (.inr 188)) dd_people_1 fd_12_95 io_182 (congrArg (fun z : Int => (Sum.inr (Sum.inr z) : LV)) (rf_182_10 hF)) rfl ?_
  refine R_ic dd_people_4 (by decide) rfl ?_
  refine R_iald (v := (rd h 188 2)) (n := 300) dd_people_5 ia_188 la_188 (by decide) (rfl) rfl ?_
  refine R_iret dd_people_6 rfl ?_
  change Rn xs xl e mm_years 150 [some (.inr (.inr 182)), some (.inl v1), some (.inl v2), some (.inl v3), some (.inl v4), some (.inl v5), some (.inl v6), some (.inl v7), some (.inl v8), o9] [.inl (rd h 188 2), .inl v8] h _
  refine R_icmp dd_years_150 rfl rfl (fun (c3 : (rd h 188 2) ≤ v8) => ?_) (fun (c3 : v8 < (rd h 188 2)) => ?_)
  · replace k := k.1 c3
    refine R_ld (v := .inl v4) dd_years_197 rfl rfl rfl rfl ?_
    refine R_ld (v := .inl v7) dd_years_199 rfl rfl rfl rfl ?_
    obtain ⟨s1, k⟩ := k
    refine R_iadd (c := v4 + v7) dd_years_201 (by omega) s1 rfl ?_
    refine R_st (ls' := [some (.inr (.inr 182)), some (.inl v1), some (.inl v2), some (.inl v3), some (.inl (v4 + v7)), some (.inl v5), some (.inl v6), some (.inl v7), some (.inl v8), o9]) dd_years_202 rfl rfl rfl (Nat.le_of_ble_eq_true rfl) rfl rfl ?_
    refine R_ld (v := .inl v7) dd_years_204 rfl rfl rfl rfl ?_
    refine R_ld (v := .inl v5) dd_years_206 rfl rfl rfl rfl ?_
    refine R_icmp dd_years_208 rfl rfl (fun (c4 : v5 ≤ v7) => ?_) (fun (c4 : v7 < v5) => ?_)
    · replace k := k.1 c4
      refine R_ld (v := .inl v5) dd_years_216 rfl rfl rfl rfl ?_
      refine R_st (ls' := [some (.inr (.inr 182)), some (.inl v1), some (.inl v2), some (.inl v3), some (.inl (v4 + v7)), some (.inl v5), some (.inl v6), some (.inl v7), some (.inl v8), o9]) dd_years_218 rfl rfl rfl (Nat.le_of_ble_eq_true rfl) rfl rfl ?_
      refine R_inc (y := v6 + 1) (ls' := [some (.inr (.inr 182)), some (.inl v1), some (.inl v2), some (.inl v3), some (.inl (v4 + v7)), some (.inl v5), some (.inl (v6 + 1)), some (.inl v7), some (.inl v8), o9]) dd_years_220 rfl (by decide) (by omega) (by omega) rfl rfl ?_
      refine R_goto dd_years_223 rfl ?_
      exact k
    · replace k := k.2 c4
      refine R_ld (v := .inl v7) dd_years_211 rfl rfl rfl rfl ?_
      refine R_goto dd_years_213 rfl ?_
      refine R_st (ls' := [some (.inr (.inr 182)), some (.inl v1), some (.inl v2), some (.inl v3), some (.inl (v4 + v7)), some (.inl v7), some (.inl v6), some (.inl v7), some (.inl v8), o9]) dd_years_218 rfl rfl rfl (Nat.le_of_ble_eq_true rfl) rfl rfl ?_
      refine R_inc (y := v6 + 1) (ls' := [some (.inr (.inr 182)), some (.inl v1), some (.inl v2), some (.inl v3), some (.inl (v4 + v7)), some (.inl v7), some (.inl (v6 + 1)), some (.inl v7), some (.inl v8), o9]) dd_years_220 rfl (by decide) (by omega) (by omega) rfl rfl ?_
      refine R_goto dd_years_223 rfl ?_
      exact k
  · replace k := k.2 c3
    refine R_ld (v := .inr (.inr 182)) dd_years_153 rfl rfl rfl rfl ?_
    refine R_si dd_years_154 (by decide) rfl ?_
    refine R_ld (v := .inl v8) dd_years_157 rfl rfl rfl rfl ?_
    obtain ⟨c, hc, k⟩ := k
    exact R_call (as := [.inr (.inr 182), .inl 1540, .inl v8]) (rest := []) (M' := mm_errandHour) (ls0 := [some (.inr (.inr 182)), some (.inl 1540), some (.inl v8)]) dd_years_159 rfl rfl (cw_v cw_12_397 io_182 rfl rfl (Nat.le_of_ble_eq_true rfl) (Nat.le_of_ble_eq_true rfl)) mt_errandHour rfl hc rfl k
theorem B_years_162 {xs : Nat → Int} {xl e : Nat} {h : LH} {Q : Option LV → LH → Prop} {v1 v2 v3 v4 v5 v6 v7 v8 w0 : Int} {o9 : Option LV} (hF : RF h) (r_v7 : 0 ≤ v7 ∧ v7 ≤ 6) (r_v8 : 0 ≤ v8 ∧ v8 ≤ 5) (he : 1 ≤ e)
    (k : (w0 < 0 →
        Rn xs xl e mm_years 144 [some (.inr (.inr 182)), some (.inl v1), some (.inl v2), some (.inl v3), some (.inl v4), some (.inl v5), some (.inl v6), some (.inl v7), some (.inl (v8 + 1)), some (.inl w0)] [] h Q) ∧
      (0 ≤ w0 →
        ((rd h 188 (4 * v8 + 119)) < w0 →
          Rn xs xl e mm_years 144 [some (.inr (.inr 182)), some (.inl v1), some (.inl v2), some (.inl v3), some (.inl v4), some (.inl v5), some (.inl v6), some (.inl v7), some (.inl (v8 + 1)), some (.inl w0)] [] h Q) ∧
        (w0 ≤ (rd h 188 (4 * v8 + 119)) →
          Rn xs xl e mm_years 144 [some (.inr (.inr 182)), some (.inl v1), some (.inl v2), some (.inl v3), some (.inl v4), some (.inl v5), some (.inl v6), some (.inl (v7 + 1)), some (.inl (v8 + 1)), some (.inl w0)] [] h Q))) :
    Rn xs xl e mm_years 162 [some (.inr (.inr 182)), some (.inl v1), some (.inl v2), some (.inl v3), some (.inl v4), some (.inl v5), some (.inl v6), some (.inl v7), some (.inl v8), o9] [.inl w0] h Q := by
  refine R_st (ls' := [some (.inr (.inr 182)), some (.inl v1), some (.inl v2), some (.inl v3), some (.inl v4), some (.inl v5), some (.inl v6), some (.inl v7), some (.inl v8), some (.inl w0)]) dd_years_162 rfl rfl rfl (Nat.le_of_ble_eq_true rfl) rfl rfl ?_
  refine R_ld (v := .inl v7) dd_years_164 rfl rfl rfl rfl ?_
  refine R_ld (v := .inl w0) dd_years_166 rfl rfl rfl rfl ?_
  refine R_if dd_years_168 rfl rfl (fun (c1 : w0 < 0) => ?_) (fun (c1 : 0 ≤ w0) => ?_)
  · replace k := k.1 c1
    refine R_ic dd_years_187 (by decide) rfl ?_
    refine R_iadd (c := v7) dd_years_188 (by omega) (by omega) rfl ?_
    refine R_st (ls' := [some (.inr (.inr 182)), some (.inl v1), some (.inl v2), some (.inl v3), some (.inl v4), some (.inl v5), some (.inl v6), some (.inl v7), some (.inl v8), some (.inl w0)]) dd_years_189 rfl rfl rfl (Nat.le_of_ble_eq_true rfl) rfl rfl ?_
    refine R_inc (y := v8 + 1) (ls' := [some (.inr (.inr 182)), some (.inl v1), some (.inl v2), some (.inl v3), some (.inl v4), some (.inl v5), some (.inl v6), some (.inl v7), some (.inl (v8 + 1)), some (.inl w0)]) dd_years_191 rfl (by decide) (by omega) (by omega) rfl rfl ?_
    refine R_goto dd_years_194 rfl ?_
    exact k
  · replace k := k.2 c1
    refine R_ld (v := .inl w0) dd_years_171 rfl rfl rfl rfl ?_
    refine R_ld (v := .inr (.inr 182)) dd_years_173 rfl rfl rfl rfl ?_
    refine R_ld (v := .inl v8) dd_years_174 rfl rfl rfl rfl ?_
    refine R_ic dd_years_176 (by decide) rfl ?_
    refine R_call (as := [.inr (.inr 182), .inl v8, .inl 3]) (rest := [.inl w0, .inl v7]) (M' := mm_personOf) (ls0 := [some (.inr (.inr 182)), some (.inl v8), some (.inl 3)]) dd_years_177 rfl rfl (cw_v cw_12_325 io_182 rfl rfl (Nat.le_of_ble_eq_true rfl) (Nat.le_of_ble_eq_true rfl)) mt_personOf rfl (c := e - 1) (by omega) rfl ?_
    refine R_ld (v := .inr (.inr 182)) dd_personOf_0 rfl rfl rfl rfl ?_
    refine R_gf (v := .inr (.inr 188)) dd_personOf_1 fd_12_95 io_182 (congrArg (fun z : Int => (Sum.inr (Sum.inr z) : LV)) (rf_182_10 hF)) rfl ?_
    refine R_bi dd_personOf_4 (by decide) rfl ?_
    refine R_ic dd_personOf_6 (by decide) rfl ?_
    refine R_ld (v := .inl v8) dd_personOf_7 rfl rfl rfl rfl ?_
    refine R_imul (c := 4 * v8) dd_personOf_8 (by omega) (by omega) rfl ?_
    refine R_iadd (c := 4 * v8 + 116) dd_personOf_9 (by omega) (by omega) rfl ?_
    refine R_ld (v := .inl 3) dd_personOf_10 rfl rfl rfl rfl ?_
    refine R_iadd (c := 4 * v8 + 119) dd_personOf_11 (by omega) (by omega) rfl ?_
    refine R_iald (v := (rd h 188 (4 * v8 + 119))) (n := 300) dd_personOf_12 ia_188 la_188 (by omega) (rfl) rfl ?_
    refine R_iret dd_personOf_13 rfl ?_
    change Rn xs xl e mm_years 180 [some (.inr (.inr 182)), some (.inl v1), some (.inl v2), some (.inl v3), some (.inl v4), some (.inl v5), some (.inl v6), some (.inl v7), some (.inl v8), some (.inl w0)] [.inl (rd h 188 (4 * v8 + 119)), .inl w0, .inl v7] h _
    refine R_icmp dd_years_180 rfl rfl (fun (c2 : (rd h 188 (4 * v8 + 119)) < w0) => ?_) (fun (c2 : w0 ≤ (rd h 188 (4 * v8 + 119))) => ?_)
    · replace k := k.1 c2
      refine R_ic dd_years_187 (by decide) rfl ?_
      refine R_iadd (c := v7) dd_years_188 (by omega) (by omega) rfl ?_
      refine R_st (ls' := [some (.inr (.inr 182)), some (.inl v1), some (.inl v2), some (.inl v3), some (.inl v4), some (.inl v5), some (.inl v6), some (.inl v7), some (.inl v8), some (.inl w0)]) dd_years_189 rfl rfl rfl (Nat.le_of_ble_eq_true rfl) rfl rfl ?_
      refine R_inc (y := v8 + 1) (ls' := [some (.inr (.inr 182)), some (.inl v1), some (.inl v2), some (.inl v3), some (.inl v4), some (.inl v5), some (.inl v6), some (.inl v7), some (.inl (v8 + 1)), some (.inl w0)]) dd_years_191 rfl (by decide) (by omega) (by omega) rfl rfl ?_
      refine R_goto dd_years_194 rfl ?_
      exact k
    · replace k := k.2 c2
      refine R_ic dd_years_183 (by decide) rfl ?_
      refine R_goto dd_years_184 rfl ?_
      refine R_iadd (c := v7 + 1) dd_years_188 (by omega) (by omega) rfl ?_
      refine R_st (ls' := [some (.inr (.inr 182)), some (.inl v1), some (.inl v2), some (.inl v3), some (.inl v4), some (.inl v5), some (.inl v6), some (.inl (v7 + 1)), some (.inl v8), some (.inl w0)]) dd_years_189 rfl rfl rfl (Nat.le_of_ble_eq_true rfl) rfl rfl ?_
      refine R_inc (y := v8 + 1) (ls' := [some (.inr (.inr 182)), some (.inl v1), some (.inl v2), some (.inl v3), some (.inl v4), some (.inl v5), some (.inl v6), some (.inl (v7 + 1)), some (.inl (v8 + 1)), some (.inl w0)]) dd_years_191 rfl (by decide) (by omega) (by omega) rfl rfl ?_
      refine R_goto dd_years_194 rfl ?_
      exact k
