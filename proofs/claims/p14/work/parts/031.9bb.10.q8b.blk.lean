/-! LM, by program (wip/p2/hand.py): rows of doors by sort and hour -/
def mm_Quarter_letsInto : LM_M := (⟨"OneSided$Quarter", "letsInto", "(LOneSided$Door;IIII)Z"⟩, prog_8_method_9_code, 6, (some .boolean), 6, 6, 0, 712, 711, 1000023)
def mm_Quarter_ways : LM_M := (⟨"OneSided$Quarter", "ways", "(IIIIZ)I"⟩, prog_8_method_8_code, 9, (some .int), 6, 6, 0, 708, 706, 707)
def mm_Quarter_settleHour : LM_M := (⟨"OneSided$Quarter", "settleHour", "(II)V"⟩, prog_8_method_7_code, 7, none, 6, 3, 0, 704, 703, 1000022)
def mm_Quarter_aheadIn : LM_M := (⟨"OneSided$Quarter", "aheadIn", "(III)I"⟩, prog_8_method_13_code, 4, (some .int), 6, 4, 0, 796, 794, 795)
def mm_Quarter_backIn : LM_M := (⟨"OneSided$Quarter", "backIn", "(III)I"⟩, prog_8_method_14_code, 4, (some .int), 6, 4, 0, 800, 798, 799)
theorem dd_Quarter_letsInto_0 : decode mm_Quarter_letsInto.2.1 0 = .ok (.aload_n 1, 1) := by decide +kernel
theorem dd_Quarter_letsInto_1 : decode mm_Quarter_letsInto.2.1 1 = .ok (.getfield 67, 3) := by decide +kernel
theorem fd_6_67 : fld 6 67 = some (1, 1) := by decide +kernel
theorem dd_Quarter_letsInto_4 : decode mm_Quarter_letsInto.2.1 4 = .ok (.iconst 3, 1) := by decide +kernel
theorem dd_Quarter_letsInto_5 : decode mm_Quarter_letsInto.2.1 5 = .ok (.if_icmp .eq (19), 3) := by decide +kernel
theorem dd_Quarter_letsInto_24 : decode mm_Quarter_letsInto.2.1 24 = .ok (.iconst 0, 1) := by decide +kernel
theorem dd_Quarter_letsInto_25 : decode mm_Quarter_letsInto.2.1 25 = .ok (.ireturn, 1) := by decide +kernel
theorem dd_Quarter_letsInto_8 : decode mm_Quarter_letsInto.2.1 8 = .ok (.iload_n 3, 1) := by decide +kernel
theorem dd_Quarter_letsInto_9 : decode mm_Quarter_letsInto.2.1 9 = .ok (.aload_n 1, 1) := by decide +kernel
theorem dd_Quarter_letsInto_10 : decode mm_Quarter_letsInto.2.1 10 = .ok (.getfield 80, 3) := by decide +kernel
theorem fd_6_80 : fld 6 80 = some (1, 4) := by decide +kernel
theorem dd_Quarter_letsInto_13 : decode mm_Quarter_letsInto.2.1 13 = .ok (.if_icmp .lt (11), 3) := by decide +kernel
theorem dd_Quarter_letsInto_16 : decode mm_Quarter_letsInto.2.1 16 = .ok (.iload_n 3, 1) := by decide +kernel
theorem dd_Quarter_letsInto_17 : decode mm_Quarter_letsInto.2.1 17 = .ok (.aload_n 1, 1) := by decide +kernel
theorem dd_Quarter_letsInto_18 : decode mm_Quarter_letsInto.2.1 18 = .ok (.getfield 83, 3) := by decide +kernel
theorem fd_6_83 : fld 6 83 = some (1, 5) := by decide +kernel
theorem dd_Quarter_letsInto_21 : decode mm_Quarter_letsInto.2.1 21 = .ok (.if_icmp .lt (5), 3) := by decide +kernel
theorem dd_Quarter_letsInto_26 : decode mm_Quarter_letsInto.2.1 26 = .ok (.aload_n 1, 1) := by decide +kernel
theorem dd_Quarter_letsInto_27 : decode mm_Quarter_letsInto.2.1 27 = .ok (.getfield 86, 3) := by decide +kernel
theorem fd_6_86 : fld 6 86 = some (1, 6) := by decide +kernel
theorem dd_Quarter_letsInto_30 : decode mm_Quarter_letsInto.2.1 30 = .ok (.iconst (-1), 1) := by decide +kernel
theorem dd_Quarter_letsInto_31 : decode mm_Quarter_letsInto.2.1 31 = .ok (.if_icmp .eq (18), 3) := by decide +kernel
theorem dd_Quarter_letsInto_49 : decode mm_Quarter_letsInto.2.1 49 = .ok (.aload_n 0, 1) := by decide +kernel
theorem dd_Quarter_letsInto_50 : decode mm_Quarter_letsInto.2.1 50 = .ok (.iload_n 3, 1) := by decide +kernel
theorem dd_Quarter_letsInto_51 : decode mm_Quarter_letsInto.2.1 51 = .ok (.iload_n 2, 1) := by decide +kernel
theorem dd_Quarter_letsInto_52 : decode mm_Quarter_letsInto.2.1 52 = .ok (.iload 4, 2) := by decide +kernel
theorem dd_Quarter_letsInto_54 : decode mm_Quarter_letsInto.2.1 54 = .ok (.iload 5, 2) := by decide +kernel
theorem dd_Quarter_letsInto_56 : decode mm_Quarter_letsInto.2.1 56 = .ok (.invokevirtual 89, 3) := by decide +kernel
theorem cw_6_89 : cwOk 6 89 0 48 5 8 6 = true := by decide +kernel
theorem mt_Quarter_lawFor : MTB 48 = some mm_Quarter_lawFor := rfl
theorem dd_Quarter_letsInto_34 : decode mm_Quarter_letsInto.2.1 34 = .ok (.aload_n 1, 1) := by decide +kernel
theorem dd_Quarter_letsInto_35 : decode mm_Quarter_letsInto.2.1 35 = .ok (.getfield 86, 3) := by decide +kernel
theorem dd_Quarter_letsInto_38 : decode mm_Quarter_letsInto.2.1 38 = .ok (.iload_n 2, 1) := by decide +kernel
theorem dd_Quarter_letsInto_39 : decode mm_Quarter_letsInto.2.1 39 = .ok (.if_icmp .eq (10), 3) := by decide +kernel
theorem dd_Quarter_letsInto_42 : decode mm_Quarter_letsInto.2.1 42 = .ok (.iload_n 2, 1) := by decide +kernel
theorem dd_Quarter_letsInto_43 : decode mm_Quarter_letsInto.2.1 43 = .ok (.iconst 3, 1) := by decide +kernel
theorem dd_Quarter_letsInto_44 : decode mm_Quarter_letsInto.2.1 44 = .ok (.if_icmp .eq (5), 3) := by decide +kernel
theorem dd_Quarter_letsInto_47 : decode mm_Quarter_letsInto.2.1 47 = .ok (.iconst 0, 1) := by decide +kernel
theorem dd_Quarter_letsInto_48 : decode mm_Quarter_letsInto.2.1 48 = .ok (.ireturn, 1) := by decide +kernel
theorem dd_Quarter_letsInto_59 : decode mm_Quarter_letsInto.2.1 59 = .ok (.ifCond .eq (7), 3) := by decide +kernel
theorem dd_Quarter_letsInto_66 : decode mm_Quarter_letsInto.2.1 66 = .ok (.iconst 0, 1) := by decide +kernel
theorem dd_Quarter_letsInto_67 : decode mm_Quarter_letsInto.2.1 67 = .ok (.ireturn, 1) := by decide +kernel
theorem dd_Quarter_letsInto_62 : decode mm_Quarter_letsInto.2.1 62 = .ok (.iconst 1, 1) := by decide +kernel
theorem dd_Quarter_letsInto_63 : decode mm_Quarter_letsInto.2.1 63 = .ok (.goto 4, 3) := by decide +kernel
theorem dd_Quarter_ways_0 : decode mm_Quarter_ways.2.1 0 = .ok (.aload_n 0, 1) := by decide +kernel
theorem dd_Quarter_ways_1 : decode mm_Quarter_ways.2.1 1 = .ok (.getfield 17, 3) := by decide +kernel
theorem dd_Quarter_ways_4 : decode mm_Quarter_ways.2.1 4 = .ok (.iload_n 1, 1) := by decide +kernel
theorem dd_Quarter_ways_5 : decode mm_Quarter_ways.2.1 5 = .ok (.aaload, 1) := by decide +kernel
theorem dd_Quarter_ways_6 : decode mm_Quarter_ways.2.1 6 = .ok (.astore 6, 2) := by decide +kernel
theorem dd_Quarter_ways_8 : decode mm_Quarter_ways.2.1 8 = .ok (.aload 6, 2) := by decide +kernel
theorem dd_Quarter_ways_10 : decode mm_Quarter_ways.2.1 10 = .ok (.getfield 67, 3) := by decide +kernel
theorem dd_Quarter_ways_13 : decode mm_Quarter_ways.2.1 13 = .ok (.iconst 1, 1) := by decide +kernel
theorem dd_Quarter_ways_14 : decode mm_Quarter_ways.2.1 14 = .ok (.if_icmp .ne (13), 3) := by decide +kernel
theorem dd_Quarter_ways_27 : decode mm_Quarter_ways.2.1 27 = .ok (.iconst 0, 1) := by decide +kernel
theorem dd_Quarter_ways_28 : decode mm_Quarter_ways.2.1 28 = .ok (.iload 5, 2) := by decide +kernel
theorem dd_Quarter_ways_30 : decode mm_Quarter_ways.2.1 30 = .ok (.if_icmp .eq (7), 3) := by decide +kernel
theorem dd_Quarter_ways_37 : decode mm_Quarter_ways.2.1 37 = .ok (.iconst 0, 1) := by decide +kernel
theorem dd_Quarter_ways_33 : decode mm_Quarter_ways.2.1 33 = .ok (.iconst 1, 1) := by decide +kernel
theorem dd_Quarter_ways_34 : decode mm_Quarter_ways.2.1 34 = .ok (.goto 4, 3) := by decide +kernel
theorem dd_Quarter_ways_17 : decode mm_Quarter_ways.2.1 17 = .ok (.iload_n 3, 1) := by decide +kernel
theorem dd_Quarter_ways_18 : decode mm_Quarter_ways.2.1 18 = .ok (.bipush 12, 2) := by decide +kernel
theorem dd_Quarter_ways_20 : decode mm_Quarter_ways.2.1 20 = .ok (.if_icmp .lt (7), 3) := by decide +kernel
theorem dd_Quarter_ways_23 : decode mm_Quarter_ways.2.1 23 = .ok (.iconst 1, 1) := by decide +kernel
theorem dd_Quarter_ways_24 : decode mm_Quarter_ways.2.1 24 = .ok (.goto 4, 3) := by decide +kernel
theorem dd_Quarter_ways_38 : decode mm_Quarter_ways.2.1 38 = .ok (.istore 7, 2) := by decide +kernel
theorem dd_Quarter_ways_40 : decode mm_Quarter_ways.2.1 40 = .ok (.iconst 0, 1) := by decide +kernel
theorem dd_Quarter_ways_41 : decode mm_Quarter_ways.2.1 41 = .ok (.istore 8, 2) := by decide +kernel
theorem dd_Quarter_ways_43 : decode mm_Quarter_ways.2.1 43 = .ok (.iload_n 2, 1) := by decide +kernel
theorem dd_Quarter_ways_44 : decode mm_Quarter_ways.2.1 44 = .ok (.iconst 3, 1) := by decide +kernel
theorem dd_Quarter_ways_45 : decode mm_Quarter_ways.2.1 45 = .ok (.if_icmp .eq (8), 3) := by decide +kernel
theorem dd_Quarter_ways_53 : decode mm_Quarter_ways.2.1 53 = .ok (.aload_n 0, 1) := by decide +kernel
theorem dd_Quarter_ways_54 : decode mm_Quarter_ways.2.1 54 = .ok (.aload 6, 2) := by decide +kernel
theorem dd_Quarter_ways_56 : decode mm_Quarter_ways.2.1 56 = .ok (.iload_n 2, 1) := by decide +kernel
theorem dd_Quarter_ways_57 : decode mm_Quarter_ways.2.1 57 = .ok (.iload_n 3, 1) := by decide +kernel
theorem dd_Quarter_ways_58 : decode mm_Quarter_ways.2.1 58 = .ok (.iload 4, 2) := by decide +kernel
theorem dd_Quarter_ways_60 : decode mm_Quarter_ways.2.1 60 = .ok (.aload 6, 2) := by decide +kernel
theorem dd_Quarter_ways_62 : decode mm_Quarter_ways.2.1 62 = .ok (.getfield 70, 3) := by decide +kernel
theorem fd_6_70 : fld 6 70 = some (1, 3) := by decide +kernel
theorem dd_Quarter_ways_65 : decode mm_Quarter_ways.2.1 65 = .ok (.invokevirtual 73, 3) := by decide +kernel
theorem cw_6_73 : cwOk 6 73 0 47 6 6 6 = true := by decide +kernel
theorem mt_Quarter_letsInto : MTB 47 = some mm_Quarter_letsInto := rfl
theorem dd_Quarter_ways_48 : decode mm_Quarter_ways.2.1 48 = .ok (.iload 7, 2) := by decide +kernel
theorem dd_Quarter_ways_50 : decode mm_Quarter_ways.2.1 50 = .ok (.ifCond .ne (27), 3) := by decide +kernel
theorem dd_Quarter_ways_68 : decode mm_Quarter_ways.2.1 68 = .ok (.ifCond .eq (9), 3) := by decide +kernel
theorem dd_Quarter_ways_71 : decode mm_Quarter_ways.2.1 71 = .ok (.iload 8, 2) := by decide +kernel
theorem dd_Quarter_ways_73 : decode mm_Quarter_ways.2.1 73 = .ok (.iconst 1, 1) := by decide +kernel
theorem dd_Quarter_ways_74 : decode mm_Quarter_ways.2.1 74 = .ok (.ior, 1) := by decide +kernel
theorem dd_Quarter_ways_75 : decode mm_Quarter_ways.2.1 75 = .ok (.istore 8, 2) := by decide +kernel
theorem dd_Quarter_ways_77 : decode mm_Quarter_ways.2.1 77 = .ok (.iload_n 2, 1) := by decide +kernel
theorem dd_Quarter_ways_78 : decode mm_Quarter_ways.2.1 78 = .ok (.iconst 3, 1) := by decide +kernel
theorem dd_Quarter_ways_79 : decode mm_Quarter_ways.2.1 79 = .ok (.if_icmp .eq (8), 3) := by decide +kernel
theorem dd_Quarter_ways_87 : decode mm_Quarter_ways.2.1 87 = .ok (.aload_n 0, 1) := by decide +kernel
theorem dd_Quarter_ways_88 : decode mm_Quarter_ways.2.1 88 = .ok (.aload 6, 2) := by decide +kernel
theorem dd_Quarter_ways_90 : decode mm_Quarter_ways.2.1 90 = .ok (.iload_n 2, 1) := by decide +kernel
theorem dd_Quarter_ways_91 : decode mm_Quarter_ways.2.1 91 = .ok (.iload_n 3, 1) := by decide +kernel
theorem dd_Quarter_ways_92 : decode mm_Quarter_ways.2.1 92 = .ok (.iload 4, 2) := by decide +kernel
theorem dd_Quarter_ways_94 : decode mm_Quarter_ways.2.1 94 = .ok (.aload 6, 2) := by decide +kernel
theorem dd_Quarter_ways_96 : decode mm_Quarter_ways.2.1 96 = .ok (.getfield 77, 3) := by decide +kernel
theorem fd_6_77 : fld 6 77 = some (1, 2) := by decide +kernel
theorem dd_Quarter_ways_99 : decode mm_Quarter_ways.2.1 99 = .ok (.invokevirtual 73, 3) := by decide +kernel
theorem dd_Quarter_ways_82 : decode mm_Quarter_ways.2.1 82 = .ok (.iload 7, 2) := by decide +kernel
theorem dd_Quarter_ways_84 : decode mm_Quarter_ways.2.1 84 = .ok (.ifCond .eq (27), 3) := by decide +kernel
theorem dd_Quarter_ways_102 : decode mm_Quarter_ways.2.1 102 = .ok (.ifCond .eq (9), 3) := by decide +kernel
theorem dd_Quarter_ways_105 : decode mm_Quarter_ways.2.1 105 = .ok (.iload 8, 2) := by decide +kernel
theorem dd_Quarter_ways_107 : decode mm_Quarter_ways.2.1 107 = .ok (.iconst 2, 1) := by decide +kernel
theorem dd_Quarter_ways_108 : decode mm_Quarter_ways.2.1 108 = .ok (.ior, 1) := by decide +kernel
theorem dd_Quarter_ways_109 : decode mm_Quarter_ways.2.1 109 = .ok (.istore 8, 2) := by decide +kernel
theorem dd_Quarter_ways_111 : decode mm_Quarter_ways.2.1 111 = .ok (.iload 8, 2) := by decide +kernel
theorem dd_Quarter_ways_113 : decode mm_Quarter_ways.2.1 113 = .ok (.ireturn, 1) := by decide +kernel
theorem dd_Quarter_settleHour_0 : decode mm_Quarter_settleHour.2.1 0 = .ok (.iconst 0, 1) := by decide +kernel
theorem dd_Quarter_settleHour_1 : decode mm_Quarter_settleHour.2.1 1 = .ok (.istore_n 3, 1) := by decide +kernel
theorem dd_Quarter_settleHour_2 : decode mm_Quarter_settleHour.2.1 2 = .ok (.iconst 0, 1) := by decide +kernel
theorem dd_Quarter_settleHour_3 : decode mm_Quarter_settleHour.2.1 3 = .ok (.istore 4, 2) := by decide +kernel
theorem dd_Quarter_settleHour_5 : decode mm_Quarter_settleHour.2.1 5 = .ok (.iconst 0, 1) := by decide +kernel
theorem dd_Quarter_settleHour_6 : decode mm_Quarter_settleHour.2.1 6 = .ok (.istore 5, 2) := by decide +kernel
theorem dd_Quarter_settleHour_8 : decode mm_Quarter_settleHour.2.1 8 = .ok (.iload 5, 2) := by decide +kernel
theorem dd_Quarter_settleHour_10 : decode mm_Quarter_settleHour.2.1 10 = .ok (.aload_n 0, 1) := by decide +kernel
theorem dd_Quarter_settleHour_11 : decode mm_Quarter_settleHour.2.1 11 = .ok (.getfield 42, 3) := by decide +kernel
theorem dd_Quarter_settleHour_14 : decode mm_Quarter_settleHour.2.1 14 = .ok (.if_icmp .ge (68), 3) := by decide +kernel
theorem dd_Quarter_settleHour_17 : decode mm_Quarter_settleHour.2.1 17 = .ok (.aload_n 0, 1) := by decide +kernel
theorem dd_Quarter_settleHour_18 : decode mm_Quarter_settleHour.2.1 18 = .ok (.iload 5, 2) := by decide +kernel
theorem dd_Quarter_settleHour_20 : decode mm_Quarter_settleHour.2.1 20 = .ok (.iload_n 1, 1) := by decide +kernel
theorem dd_Quarter_settleHour_21 : decode mm_Quarter_settleHour.2.1 21 = .ok (.iload_n 2, 1) := by decide +kernel
theorem dd_Quarter_settleHour_22 : decode mm_Quarter_settleHour.2.1 22 = .ok (.aload_n 0, 1) := by decide +kernel
theorem dd_Quarter_settleHour_23 : decode mm_Quarter_settleHour.2.1 23 = .ok (.getfield 17, 3) := by decide +kernel
theorem dd_Quarter_settleHour_26 : decode mm_Quarter_settleHour.2.1 26 = .ok (.iload 5, 2) := by decide +kernel
theorem dd_Quarter_settleHour_28 : decode mm_Quarter_settleHour.2.1 28 = .ok (.aaload, 1) := by decide +kernel
theorem dd_Quarter_settleHour_29 : decode mm_Quarter_settleHour.2.1 29 = .ok (.getfield 60, 3) := by decide +kernel
theorem fd_6_60 : fld 6 60 = some (1, 8) := by decide +kernel
theorem dd_Quarter_settleHour_32 : decode mm_Quarter_settleHour.2.1 32 = .ok (.iconst 0, 1) := by decide +kernel
theorem dd_Quarter_settleHour_33 : decode mm_Quarter_settleHour.2.1 33 = .ok (.invokevirtual 63, 3) := by decide +kernel
theorem cw_6_63 : cwOk 6 63 0 46 6 9 6 = true := by decide +kernel
theorem mt_Quarter_ways : MTB 46 = some mm_Quarter_ways := rfl
theorem dd_Quarter_settleHour_36 : decode mm_Quarter_settleHour.2.1 36 = .ok (.istore 6, 2) := by decide +kernel
theorem dd_Quarter_settleHour_38 : decode mm_Quarter_settleHour.2.1 38 = .ok (.iload_n 3, 1) := by decide +kernel
theorem dd_Quarter_settleHour_39 : decode mm_Quarter_settleHour.2.1 39 = .ok (.iload 6, 2) := by decide +kernel
theorem dd_Quarter_settleHour_41 : decode mm_Quarter_settleHour.2.1 41 = .ok (.iconst 1, 1) := by decide +kernel
theorem dd_Quarter_settleHour_42 : decode mm_Quarter_settleHour.2.1 42 = .ok (.iand, 1) := by decide +kernel
theorem dd_Quarter_settleHour_43 : decode mm_Quarter_settleHour.2.1 43 = .ok (.ifCond .eq (10), 3) := by decide +kernel
theorem dd_Quarter_settleHour_53 : decode mm_Quarter_settleHour.2.1 53 = .ok (.iconst 0, 1) := by decide +kernel
theorem dd_Quarter_settleHour_54 : decode mm_Quarter_settleHour.2.1 54 = .ok (.ior, 1) := by decide +kernel
theorem dd_Quarter_settleHour_55 : decode mm_Quarter_settleHour.2.1 55 = .ok (.istore_n 3, 1) := by decide +kernel
theorem dd_Quarter_settleHour_56 : decode mm_Quarter_settleHour.2.1 56 = .ok (.iload 4, 2) := by decide +kernel
theorem dd_Quarter_settleHour_58 : decode mm_Quarter_settleHour.2.1 58 = .ok (.iload 6, 2) := by decide +kernel
theorem dd_Quarter_settleHour_60 : decode mm_Quarter_settleHour.2.1 60 = .ok (.iconst 2, 1) := by decide +kernel
theorem dd_Quarter_settleHour_61 : decode mm_Quarter_settleHour.2.1 61 = .ok (.iand, 1) := by decide +kernel
theorem dd_Quarter_settleHour_62 : decode mm_Quarter_settleHour.2.1 62 = .ok (.ifCond .eq (10), 3) := by decide +kernel
theorem dd_Quarter_settleHour_72 : decode mm_Quarter_settleHour.2.1 72 = .ok (.iconst 0, 1) := by decide +kernel
theorem dd_Quarter_settleHour_73 : decode mm_Quarter_settleHour.2.1 73 = .ok (.ior, 1) := by decide +kernel
theorem dd_Quarter_settleHour_74 : decode mm_Quarter_settleHour.2.1 74 = .ok (.istore 4, 2) := by decide +kernel
theorem dd_Quarter_settleHour_76 : decode mm_Quarter_settleHour.2.1 76 = .ok (.iinc 5 1, 3) := by decide +kernel
theorem dd_Quarter_settleHour_79 : decode mm_Quarter_settleHour.2.1 79 = .ok (.goto (-71), 3) := by decide +kernel
theorem dd_Quarter_settleHour_65 : decode mm_Quarter_settleHour.2.1 65 = .ok (.iconst 1, 1) := by decide +kernel
theorem dd_Quarter_settleHour_66 : decode mm_Quarter_settleHour.2.1 66 = .ok (.iload 5, 2) := by decide +kernel
theorem dd_Quarter_settleHour_68 : decode mm_Quarter_settleHour.2.1 68 = .ok (.ishl, 1) := by decide +kernel
theorem dd_Quarter_settleHour_69 : decode mm_Quarter_settleHour.2.1 69 = .ok (.goto 4, 3) := by decide +kernel
theorem dd_Quarter_settleHour_46 : decode mm_Quarter_settleHour.2.1 46 = .ok (.iconst 1, 1) := by decide +kernel
theorem dd_Quarter_settleHour_47 : decode mm_Quarter_settleHour.2.1 47 = .ok (.iload 5, 2) := by decide +kernel
theorem dd_Quarter_settleHour_49 : decode mm_Quarter_settleHour.2.1 49 = .ok (.ishl, 1) := by decide +kernel
theorem dd_Quarter_settleHour_50 : decode mm_Quarter_settleHour.2.1 50 = .ok (.goto 4, 3) := by decide +kernel
theorem dd_Quarter_settleHour_82 : decode mm_Quarter_settleHour.2.1 82 = .ok (.aload_n 0, 1) := by decide +kernel
theorem dd_Quarter_settleHour_83 : decode mm_Quarter_settleHour.2.1 83 = .ok (.getfield 34, 3) := by decide +kernel
theorem fd_6_34 : fld 6 34 = some (6, 8) := by decide +kernel
theorem dd_Quarter_settleHour_86 : decode mm_Quarter_settleHour.2.1 86 = .ok (.iload_n 1, 1) := by decide +kernel
theorem dd_Quarter_settleHour_87 : decode mm_Quarter_settleHour.2.1 87 = .ok (.bipush 24, 2) := by decide +kernel
theorem dd_Quarter_settleHour_89 : decode mm_Quarter_settleHour.2.1 89 = .ok (.imul, 1) := by decide +kernel
theorem dd_Quarter_settleHour_90 : decode mm_Quarter_settleHour.2.1 90 = .ok (.iload_n 2, 1) := by decide +kernel
theorem dd_Quarter_settleHour_91 : decode mm_Quarter_settleHour.2.1 91 = .ok (.iadd, 1) := by decide +kernel
theorem dd_Quarter_settleHour_92 : decode mm_Quarter_settleHour.2.1 92 = .ok (.iload_n 3, 1) := by decide +kernel
theorem dd_Quarter_settleHour_93 : decode mm_Quarter_settleHour.2.1 93 = .ok (.iastore, 1) := by decide +kernel
theorem dd_Quarter_settleHour_94 : decode mm_Quarter_settleHour.2.1 94 = .ok (.aload_n 0, 1) := by decide +kernel
theorem dd_Quarter_settleHour_95 : decode mm_Quarter_settleHour.2.1 95 = .ok (.getfield 37, 3) := by decide +kernel
theorem fd_6_37 : fld 6 37 = some (6, 9) := by decide +kernel
theorem dd_Quarter_settleHour_98 : decode mm_Quarter_settleHour.2.1 98 = .ok (.iload_n 1, 1) := by decide +kernel
theorem dd_Quarter_settleHour_99 : decode mm_Quarter_settleHour.2.1 99 = .ok (.bipush 24, 2) := by decide +kernel
theorem dd_Quarter_settleHour_101 : decode mm_Quarter_settleHour.2.1 101 = .ok (.imul, 1) := by decide +kernel
theorem dd_Quarter_settleHour_102 : decode mm_Quarter_settleHour.2.1 102 = .ok (.iload_n 2, 1) := by decide +kernel
theorem dd_Quarter_settleHour_103 : decode mm_Quarter_settleHour.2.1 103 = .ok (.iadd, 1) := by decide +kernel
theorem dd_Quarter_settleHour_104 : decode mm_Quarter_settleHour.2.1 104 = .ok (.iload 4, 2) := by decide +kernel
theorem dd_Quarter_settleHour_106 : decode mm_Quarter_settleHour.2.1 106 = .ok (.iastore, 1) := by decide +kernel
theorem dd_Quarter_settleHour_107 : decode mm_Quarter_settleHour.2.1 107 = .ok (.return_, 1) := by decide +kernel
theorem dd_Quarter_settle_0 : decode mm_Quarter_settle.2.1 0 = .ok (.iconst 0, 1) := by decide +kernel
theorem dd_Quarter_settle_1 : decode mm_Quarter_settle.2.1 1 = .ok (.istore_n 1, 1) := by decide +kernel
theorem dd_Quarter_settle_2 : decode mm_Quarter_settle.2.1 2 = .ok (.iload_n 1, 1) := by decide +kernel
theorem dd_Quarter_settle_3 : decode mm_Quarter_settle.2.1 3 = .ok (.iconst 4, 1) := by decide +kernel
theorem dd_Quarter_settle_4 : decode mm_Quarter_settle.2.1 4 = .ok (.if_icmp .ge (29), 3) := by decide +kernel
theorem dd_Quarter_settle_33 : decode mm_Quarter_settle.2.1 33 = .ok (.return_, 1) := by decide +kernel
theorem dd_Quarter_settle_7 : decode mm_Quarter_settle.2.1 7 = .ok (.iconst 0, 1) := by decide +kernel
theorem dd_Quarter_settle_8 : decode mm_Quarter_settle.2.1 8 = .ok (.istore_n 2, 1) := by decide +kernel
theorem dd_Quarter_settle_9 : decode mm_Quarter_settle.2.1 9 = .ok (.iload_n 2, 1) := by decide +kernel
theorem dd_Quarter_settle_10 : decode mm_Quarter_settle.2.1 10 = .ok (.bipush 24, 2) := by decide +kernel
theorem dd_Quarter_settle_12 : decode mm_Quarter_settle.2.1 12 = .ok (.if_icmp .ge (15), 3) := by decide +kernel
theorem dd_Quarter_settle_15 : decode mm_Quarter_settle.2.1 15 = .ok (.aload_n 0, 1) := by decide +kernel
theorem dd_Quarter_settle_16 : decode mm_Quarter_settle.2.1 16 = .ok (.iload_n 1, 1) := by decide +kernel
theorem dd_Quarter_settle_17 : decode mm_Quarter_settle.2.1 17 = .ok (.iload_n 2, 1) := by decide +kernel
theorem dd_Quarter_settle_18 : decode mm_Quarter_settle.2.1 18 = .ok (.invokevirtual 56, 3) := by decide +kernel
theorem cw_6_56 : cwOk 6 56 0 45 3 7 6 = true := by decide +kernel
theorem mt_Quarter_settleHour : MTB 45 = some mm_Quarter_settleHour := rfl
theorem dd_Quarter_settle_21 : decode mm_Quarter_settle.2.1 21 = .ok (.iinc 2 1, 3) := by decide +kernel
theorem dd_Quarter_settle_24 : decode mm_Quarter_settle.2.1 24 = .ok (.goto (-15), 3) := by decide +kernel
theorem dd_Quarter_settle_27 : decode mm_Quarter_settle.2.1 27 = .ok (.iinc 1 1, 3) := by decide +kernel
theorem dd_Quarter_settle_30 : decode mm_Quarter_settle.2.1 30 = .ok (.goto (-28), 3) := by decide +kernel
theorem dd_Quarter_aheadIn_0 : decode mm_Quarter_aheadIn.2.1 0 = .ok (.iload_n 2, 1) := by decide +kernel
theorem dd_Quarter_aheadIn_1 : decode mm_Quarter_aheadIn.2.1 1 = .ok (.bipush 24, 2) := by decide +kernel
theorem dd_Quarter_aheadIn_3 : decode mm_Quarter_aheadIn.2.1 3 = .ok (.if_icmp .ge (21), 3) := by decide +kernel
theorem dd_Quarter_aheadIn_24 : decode mm_Quarter_aheadIn.2.1 24 = .ok (.iconst 0, 1) := by decide +kernel
theorem dd_Quarter_aheadIn_25 : decode mm_Quarter_aheadIn.2.1 25 = .ok (.ireturn, 1) := by decide +kernel
theorem dd_Quarter_aheadIn_6 : decode mm_Quarter_aheadIn.2.1 6 = .ok (.aload_n 0, 1) := by decide +kernel
theorem dd_Quarter_aheadIn_7 : decode mm_Quarter_aheadIn.2.1 7 = .ok (.getfield 34, 3) := by decide +kernel
theorem dd_Quarter_aheadIn_10 : decode mm_Quarter_aheadIn.2.1 10 = .ok (.iload_n 1, 1) := by decide +kernel
theorem dd_Quarter_aheadIn_11 : decode mm_Quarter_aheadIn.2.1 11 = .ok (.bipush 24, 2) := by decide +kernel
theorem dd_Quarter_aheadIn_13 : decode mm_Quarter_aheadIn.2.1 13 = .ok (.imul, 1) := by decide +kernel
theorem dd_Quarter_aheadIn_14 : decode mm_Quarter_aheadIn.2.1 14 = .ok (.iload_n 2, 1) := by decide +kernel
theorem dd_Quarter_aheadIn_15 : decode mm_Quarter_aheadIn.2.1 15 = .ok (.iadd, 1) := by decide +kernel
theorem dd_Quarter_aheadIn_16 : decode mm_Quarter_aheadIn.2.1 16 = .ok (.iaload, 1) := by decide +kernel
theorem dd_Quarter_aheadIn_17 : decode mm_Quarter_aheadIn.2.1 17 = .ok (.iload_n 3, 1) := by decide +kernel
theorem dd_Quarter_aheadIn_18 : decode mm_Quarter_aheadIn.2.1 18 = .ok (.iconst (-1), 1) := by decide +kernel
theorem dd_Quarter_aheadIn_19 : decode mm_Quarter_aheadIn.2.1 19 = .ok (.ixor, 1) := by decide +kernel
theorem dd_Quarter_aheadIn_20 : decode mm_Quarter_aheadIn.2.1 20 = .ok (.iand, 1) := by decide +kernel
theorem dd_Quarter_aheadIn_21 : decode mm_Quarter_aheadIn.2.1 21 = .ok (.goto 4, 3) := by decide +kernel
theorem dd_Quarter_backIn_0 : decode mm_Quarter_backIn.2.1 0 = .ok (.iload_n 2, 1) := by decide +kernel
theorem dd_Quarter_backIn_1 : decode mm_Quarter_backIn.2.1 1 = .ok (.bipush 24, 2) := by decide +kernel
theorem dd_Quarter_backIn_3 : decode mm_Quarter_backIn.2.1 3 = .ok (.if_icmp .ge (21), 3) := by decide +kernel
theorem dd_Quarter_backIn_24 : decode mm_Quarter_backIn.2.1 24 = .ok (.iconst 0, 1) := by decide +kernel
theorem dd_Quarter_backIn_25 : decode mm_Quarter_backIn.2.1 25 = .ok (.ireturn, 1) := by decide +kernel
theorem dd_Quarter_backIn_6 : decode mm_Quarter_backIn.2.1 6 = .ok (.aload_n 0, 1) := by decide +kernel
theorem dd_Quarter_backIn_7 : decode mm_Quarter_backIn.2.1 7 = .ok (.getfield 37, 3) := by decide +kernel
theorem dd_Quarter_backIn_10 : decode mm_Quarter_backIn.2.1 10 = .ok (.iload_n 1, 1) := by decide +kernel
theorem dd_Quarter_backIn_11 : decode mm_Quarter_backIn.2.1 11 = .ok (.bipush 24, 2) := by decide +kernel
theorem dd_Quarter_backIn_13 : decode mm_Quarter_backIn.2.1 13 = .ok (.imul, 1) := by decide +kernel
theorem dd_Quarter_backIn_14 : decode mm_Quarter_backIn.2.1 14 = .ok (.iload_n 2, 1) := by decide +kernel
theorem dd_Quarter_backIn_15 : decode mm_Quarter_backIn.2.1 15 = .ok (.iadd, 1) := by decide +kernel
theorem dd_Quarter_backIn_16 : decode mm_Quarter_backIn.2.1 16 = .ok (.iaload, 1) := by decide +kernel
theorem dd_Quarter_backIn_17 : decode mm_Quarter_backIn.2.1 17 = .ok (.iload_n 3, 1) := by decide +kernel
theorem dd_Quarter_backIn_18 : decode mm_Quarter_backIn.2.1 18 = .ok (.iconst (-1), 1) := by decide +kernel
theorem dd_Quarter_backIn_19 : decode mm_Quarter_backIn.2.1 19 = .ok (.ixor, 1) := by decide +kernel
theorem dd_Quarter_backIn_20 : decode mm_Quarter_backIn.2.1 20 = .ok (.iand, 1) := by decide +kernel
theorem dd_Quarter_backIn_21 : decode mm_Quarter_backIn.2.1 21 = .ok (.goto 4, 3) := by decide +kernel
theorem dd_Quarter_into_0 : decode mm_Quarter_into.2.1 0 = .ok (.aload_n 0, 1) := by decide +kernel
theorem dd_Quarter_into_1 : decode mm_Quarter_into.2.1 1 = .ok (.getfield 17, 3) := by decide +kernel
theorem dd_Quarter_into_4 : decode mm_Quarter_into.2.1 4 = .ok (.iload_n 1, 1) := by decide +kernel
theorem dd_Quarter_into_5 : decode mm_Quarter_into.2.1 5 = .ok (.aaload, 1) := by decide +kernel
theorem dd_Quarter_into_6 : decode mm_Quarter_into.2.1 6 = .ok (.astore 6, 2) := by decide +kernel
theorem dd_Quarter_into_8 : decode mm_Quarter_into.2.1 8 = .ok (.aload 6, 2) := by decide +kernel
theorem dd_Quarter_into_10 : decode mm_Quarter_into.2.1 10 = .ok (.getfield 77, 3) := by decide +kernel
theorem dd_Quarter_into_13 : decode mm_Quarter_into.2.1 13 = .ok (.iload_n 3, 1) := by decide +kernel
theorem dd_Quarter_into_14 : decode mm_Quarter_into.2.1 14 = .ok (.if_icmp .ne (25), 3) := by decide +kernel
theorem dd_Quarter_into_17 : decode mm_Quarter_into.2.1 17 = .ok (.aload_n 0, 1) := by decide +kernel
theorem dd_Quarter_into_18 : decode mm_Quarter_into.2.1 18 = .ok (.iload_n 2, 1) := by decide +kernel
theorem dd_Quarter_into_19 : decode mm_Quarter_into.2.1 19 = .ok (.iload 4, 2) := by decide +kernel
theorem dd_Quarter_into_21 : decode mm_Quarter_into.2.1 21 = .ok (.iload 5, 2) := by decide +kernel
theorem dd_Quarter_into_23 : decode mm_Quarter_into.2.1 23 = .ok (.invokevirtual 101, 3) := by decide +kernel
theorem cw_6_101 : cwOk 6 101 0 68 4 4 6 = true := by decide +kernel
theorem mt_Quarter_aheadIn : MTB 68 = some mm_Quarter_aheadIn := rfl
theorem dd_Quarter_into_26 : decode mm_Quarter_into.2.1 26 = .ok (.iload_n 1, 1) := by decide +kernel
theorem dd_Quarter_into_27 : decode mm_Quarter_into.2.1 27 = .ok (.ishr, 1) := by decide +kernel
theorem dd_Quarter_into_28 : decode mm_Quarter_into.2.1 28 = .ok (.iconst 1, 1) := by decide +kernel
theorem dd_Quarter_into_29 : decode mm_Quarter_into.2.1 29 = .ok (.iand, 1) := by decide +kernel
theorem dd_Quarter_into_30 : decode mm_Quarter_into.2.1 30 = .ok (.ifCond .eq (9), 3) := by decide +kernel
theorem dd_Quarter_into_33 : decode mm_Quarter_into.2.1 33 = .ok (.aload 6, 2) := by decide +kernel
theorem dd_Quarter_into_35 : decode mm_Quarter_into.2.1 35 = .ok (.getfield 70, 3) := by decide +kernel
theorem dd_Quarter_into_38 : decode mm_Quarter_into.2.1 38 = .ok (.ireturn, 1) := by decide +kernel
theorem dd_Quarter_into_39 : decode mm_Quarter_into.2.1 39 = .ok (.aload 6, 2) := by decide +kernel
theorem dd_Quarter_into_41 : decode mm_Quarter_into.2.1 41 = .ok (.getfield 70, 3) := by decide +kernel
theorem dd_Quarter_into_44 : decode mm_Quarter_into.2.1 44 = .ok (.iload_n 3, 1) := by decide +kernel
theorem dd_Quarter_into_45 : decode mm_Quarter_into.2.1 45 = .ok (.if_icmp .ne (25), 3) := by decide +kernel
theorem dd_Quarter_into_70 : decode mm_Quarter_into.2.1 70 = .ok (.iconst (-1), 1) := by decide +kernel
theorem dd_Quarter_into_71 : decode mm_Quarter_into.2.1 71 = .ok (.ireturn, 1) := by decide +kernel
theorem dd_Quarter_into_48 : decode mm_Quarter_into.2.1 48 = .ok (.aload_n 0, 1) := by decide +kernel
theorem dd_Quarter_into_49 : decode mm_Quarter_into.2.1 49 = .ok (.iload_n 2, 1) := by decide +kernel
theorem dd_Quarter_into_50 : decode mm_Quarter_into.2.1 50 = .ok (.iload 4, 2) := by decide +kernel
theorem dd_Quarter_into_52 : decode mm_Quarter_into.2.1 52 = .ok (.iload 5, 2) := by decide +kernel
theorem dd_Quarter_into_54 : decode mm_Quarter_into.2.1 54 = .ok (.invokevirtual 104, 3) := by decide +kernel
theorem cw_6_104 : cwOk 6 104 0 69 4 4 6 = true := by decide +kernel
theorem mt_Quarter_backIn : MTB 69 = some mm_Quarter_backIn := rfl
theorem dd_Quarter_into_57 : decode mm_Quarter_into.2.1 57 = .ok (.iload_n 1, 1) := by decide +kernel
theorem dd_Quarter_into_58 : decode mm_Quarter_into.2.1 58 = .ok (.ishr, 1) := by decide +kernel
theorem dd_Quarter_into_59 : decode mm_Quarter_into.2.1 59 = .ok (.iconst 1, 1) := by decide +kernel
theorem dd_Quarter_into_60 : decode mm_Quarter_into.2.1 60 = .ok (.iand, 1) := by decide +kernel
theorem dd_Quarter_into_61 : decode mm_Quarter_into.2.1 61 = .ok (.ifCond .eq (9), 3) := by decide +kernel
theorem dd_Quarter_into_64 : decode mm_Quarter_into.2.1 64 = .ok (.aload 6, 2) := by decide +kernel
theorem dd_Quarter_into_66 : decode mm_Quarter_into.2.1 66 = .ok (.getfield 77, 3) := by decide +kernel
theorem dd_Quarter_into_69 : decode mm_Quarter_into.2.1 69 = .ok (.ireturn, 1) := by decide +kernel
theorem rq_ahd {h : LH} {q : Int} (hF : RF h) (hq : q = 5 ∨ q = 32) : rd h q ((8 : Nat) : Int) = q + 5 := by
  rcases hq with rfl | rfl
  · exact hF 5 8 10 (by decide +kernel) (by decide +kernel)
  · exact hF 32 8 37 (by decide +kernel) (by decide +kernel)
theorem rq_bck {h : LH} {q : Int} (hF : RF h) (hq : q = 5 ∨ q = 32) : rd h q ((9 : Nat) : Int) = q + 6 := by
  rcases hq with rfl | rfl
  · exact hF 5 9 11 (by decide +kernel) (by decide +kernel)
  · exact hF 32 9 38 (by decide +kernel) (by decide +kernel)
theorem ia_aq {q : Int} (hq : q = 5 ∨ q = 32) : isA NC (q + 5) 1 = true := by
  rcases hq with rfl | rfl <;> decide +kernel
theorem la_aq {q : Int} (hq : q = 5 ∨ q = 32) : (lay (q + 5).toNat).2.2 = 96 := by
  rcases hq with rfl | rfl <;> decide +kernel
theorem ia_bq {q : Int} (hq : q = 5 ∨ q = 32) : isA NC (q + 6) 1 = true := by
  rcases hq with rfl | rfl <;> decide +kernel
theorem la_bq {q : Int} (hq : q = 5 ∨ q = 32) : (lay (q + 6).toNat).2.2 = 96 := by
  rcases hq with rfl | rfl <;> decide +kernel
theorem B_Quarter_letsInto_0 {xs : Nat → Int} {xl e : Nat} {h : LH} {Q : Option LV → LH → Prop} {v2 v3 v4 v5 : Int} {q : Int} (hq : q = 5 ∨ q = 32) {d : Int} (hd : q + 7 ≤ d ∧ d ≤ q + 20) (hF : RF h)
    (k : ((rd h d 1) = 3 →
        Q (some (.inl 0)) h) ∧
      ((rd h d 1) ≠ 3 →
        (v3 < (rd h d 4) →
          Q (some (.inl 0)) h) ∧
        ((rd h d 4) ≤ v3 →
          (v3 < (rd h d 5) →
            ((rd h d 6) = (-1) →
              (∃ c, c < e ∧ Rn xs xl c mm_Quarter_lawFor 0 [some (.inr (.inr q)), some (.inl v3), some (.inl v2), some (.inl v4), some (.inl v5), none, none, none] [] h (fun r h' => Rn xs xl e mm_Quarter_letsInto 59 [some (.inr (.inr q)), some (.inr (.inr d)), some (.inl v2), some (.inl v3), some (.inl v4), some (.inl v5)] (r.toList ++ []) h' Q))) ∧
            ((rd h d 6) ≠ (-1) →
              ((rd h d 6) = v2 →
                (∃ c, c < e ∧ Rn xs xl c mm_Quarter_lawFor 0 [some (.inr (.inr q)), some (.inl v3), some (.inl v2), some (.inl v4), some (.inl v5), none, none, none] [] h (fun r h' => Rn xs xl e mm_Quarter_letsInto 59 [some (.inr (.inr q)), some (.inr (.inr d)), some (.inl v2), some (.inl v3), some (.inl v4), some (.inl v5)] (r.toList ++ []) h' Q))) ∧
              ((rd h d 6) ≠ v2 →
                (v2 = 3 →
                  (∃ c, c < e ∧ Rn xs xl c mm_Quarter_lawFor 0 [some (.inr (.inr q)), some (.inl v3), some (.inl v2), some (.inl v4), some (.inl v5), none, none, none] [] h (fun r h' => Rn xs xl e mm_Quarter_letsInto 59 [some (.inr (.inr q)), some (.inr (.inr d)), some (.inl v2), some (.inl v3), some (.inl v4), some (.inl v5)] (r.toList ++ []) h' Q))) ∧
                (v2 ≠ 3 →
                  Q (some (.inl 0)) h)))) ∧
          ((rd h d 5) ≤ v3 →
            Q (some (.inl 0)) h)))) :
    Rn xs xl e mm_Quarter_letsInto 0 [some (.inr (.inr q)), some (.inr (.inr d)), some (.inl v2), some (.inl v3), some (.inl v4), some (.inl v5)] [] h Q := by
  refine R_ld (v := .inr (.inr d)) dd_Quarter_letsInto_0 rfl rfl rfl rfl ?_
  refine R_gf (v := .inl (rd h d 1)) dd_Quarter_letsInto_1 fd_6_67 (io_d hq hd) (congrArg (fun z : Int => (Sum.inl z : LV)) (rfl)) rfl ?_
  refine R_ic dd_Quarter_letsInto_4 (by decide) rfl ?_
  refine R_icmp dd_Quarter_letsInto_5 rfl rfl (fun (c4 : (rd h d 1) = 3) => ?_) (fun (c4 : (rd h d 1) ≠ 3) => ?_)
  · replace k := k.1 c4
    refine R_ic dd_Quarter_letsInto_24 (by decide) rfl ?_
    exact R_zret dd_Quarter_letsInto_25 rfl (by decide) k
  · replace k := k.2 c4
    refine R_ld (v := .inl v3) dd_Quarter_letsInto_8 rfl rfl rfl rfl ?_
    refine R_ld (v := .inr (.inr d)) dd_Quarter_letsInto_9 rfl rfl rfl rfl ?_
    refine R_gf (v := .inl (rd h d 4)) dd_Quarter_letsInto_10 fd_6_80 (io_d hq hd) (congrArg (fun z : Int => (Sum.inl z : LV)) (rfl)) rfl ?_
    refine R_icmp dd_Quarter_letsInto_13 rfl rfl (fun (c5 : v3 < (rd h d 4)) => ?_) (fun (c5 : (rd h d 4) ≤ v3) => ?_)
    · replace k := k.1 c5
      refine R_ic dd_Quarter_letsInto_24 (by decide) rfl ?_
      exact R_zret dd_Quarter_letsInto_25 rfl (by decide) k
    · replace k := k.2 c5
      refine R_ld (v := .inl v3) dd_Quarter_letsInto_16 rfl rfl rfl rfl ?_
      refine R_ld (v := .inr (.inr d)) dd_Quarter_letsInto_17 rfl rfl rfl rfl ?_
      refine R_gf (v := .inl (rd h d 5)) dd_Quarter_letsInto_18 fd_6_83 (io_d hq hd) (congrArg (fun z : Int => (Sum.inl z : LV)) (rfl)) rfl ?_
      refine R_icmp dd_Quarter_letsInto_21 rfl rfl (fun (c6 : v3 < (rd h d 5)) => ?_) (fun (c6 : (rd h d 5) ≤ v3) => ?_)
      · replace k := k.1 c6
        refine R_ld (v := .inr (.inr d)) dd_Quarter_letsInto_26 rfl rfl rfl rfl ?_
        refine R_gf (v := .inl (rd h d 6)) dd_Quarter_letsInto_27 fd_6_86 (io_d hq hd) (congrArg (fun z : Int => (Sum.inl z : LV)) (rfl)) rfl ?_
        refine R_ic dd_Quarter_letsInto_30 (by decide) rfl ?_
        refine R_icmp dd_Quarter_letsInto_31 rfl rfl (fun (c7 : (rd h d 6) = (-1)) => ?_) (fun (c7 : (rd h d 6) ≠ (-1)) => ?_)
        · replace k := k.1 c7
          refine R_ld (v := .inr (.inr q)) dd_Quarter_letsInto_49 rfl rfl rfl rfl ?_
          refine R_ld (v := .inl v3) dd_Quarter_letsInto_50 rfl rfl rfl rfl ?_
          refine R_ld (v := .inl v2) dd_Quarter_letsInto_51 rfl rfl rfl rfl ?_
          refine R_ld (v := .inl v4) dd_Quarter_letsInto_52 rfl rfl rfl rfl ?_
          refine R_ld (v := .inl v5) dd_Quarter_letsInto_54 rfl rfl rfl rfl ?_
          obtain ⟨c, hc, k⟩ := k
          exact R_call (as := [.inr (.inr q), .inl v3, .inl v2, .inl v4, .inl v5]) (rest := []) (M' := mm_Quarter_lawFor) (ls0 := [some (.inr (.inr q)), some (.inl v3), some (.inl v2), some (.inl v4), some (.inl v5), none, none, none]) dd_Quarter_letsInto_56 rfl rfl (cw_v cw_6_89 (io_q hq) rfl rfl (Nat.le_of_ble_eq_true rfl) (Nat.le_of_ble_eq_true rfl)) mt_Quarter_lawFor rfl hc rfl k
        · replace k := k.2 c7
          refine R_ld (v := .inr (.inr d)) dd_Quarter_letsInto_34 rfl rfl rfl rfl ?_
          refine R_gf (v := .inl (rd h d 6)) dd_Quarter_letsInto_35 fd_6_86 (io_d hq hd) (congrArg (fun z : Int => (Sum.inl z : LV)) (rfl)) rfl ?_
          refine R_ld (v := .inl v2) dd_Quarter_letsInto_38 rfl rfl rfl rfl ?_
          refine R_icmp dd_Quarter_letsInto_39 rfl rfl (fun (c8 : (rd h d 6) = v2) => ?_) (fun (c8 : (rd h d 6) ≠ v2) => ?_)
          · replace k := k.1 c8
            refine R_ld (v := .inr (.inr q)) dd_Quarter_letsInto_49 rfl rfl rfl rfl ?_
            refine R_ld (v := .inl v3) dd_Quarter_letsInto_50 rfl rfl rfl rfl ?_
            refine R_ld (v := .inl v2) dd_Quarter_letsInto_51 rfl rfl rfl rfl ?_
            refine R_ld (v := .inl v4) dd_Quarter_letsInto_52 rfl rfl rfl rfl ?_
            refine R_ld (v := .inl v5) dd_Quarter_letsInto_54 rfl rfl rfl rfl ?_
            obtain ⟨c, hc, k⟩ := k
            exact R_call (as := [.inr (.inr q), .inl v3, .inl v2, .inl v4, .inl v5]) (rest := []) (M' := mm_Quarter_lawFor) (ls0 := [some (.inr (.inr q)), some (.inl v3), some (.inl v2), some (.inl v4), some (.inl v5), none, none, none]) dd_Quarter_letsInto_56 rfl rfl (cw_v cw_6_89 (io_q hq) rfl rfl (Nat.le_of_ble_eq_true rfl) (Nat.le_of_ble_eq_true rfl)) mt_Quarter_lawFor rfl hc rfl k
          · replace k := k.2 c8
            refine R_ld (v := .inl v2) dd_Quarter_letsInto_42 rfl rfl rfl rfl ?_
            refine R_ic dd_Quarter_letsInto_43 (by decide) rfl ?_
            refine R_icmp dd_Quarter_letsInto_44 rfl rfl (fun (c9 : v2 = 3) => ?_) (fun (c9 : v2 ≠ 3) => ?_)
            · replace k := k.1 c9
              refine R_ld (v := .inr (.inr q)) dd_Quarter_letsInto_49 rfl rfl rfl rfl ?_
              refine R_ld (v := .inl v3) dd_Quarter_letsInto_50 rfl rfl rfl rfl ?_
              refine R_ld (v := .inl v2) dd_Quarter_letsInto_51 rfl rfl rfl rfl ?_
              refine R_ld (v := .inl v4) dd_Quarter_letsInto_52 rfl rfl rfl rfl ?_
              refine R_ld (v := .inl v5) dd_Quarter_letsInto_54 rfl rfl rfl rfl ?_
              obtain ⟨c, hc, k⟩ := k
              exact R_call (as := [.inr (.inr q), .inl v3, .inl v2, .inl v4, .inl v5]) (rest := []) (M' := mm_Quarter_lawFor) (ls0 := [some (.inr (.inr q)), some (.inl v3), some (.inl v2), some (.inl v4), some (.inl v5), none, none, none]) dd_Quarter_letsInto_56 rfl rfl (cw_v cw_6_89 (io_q hq) rfl rfl (Nat.le_of_ble_eq_true rfl) (Nat.le_of_ble_eq_true rfl)) mt_Quarter_lawFor rfl hc rfl k
            · replace k := k.2 c9
              refine R_ic dd_Quarter_letsInto_47 (by decide) rfl ?_
              exact R_zret dd_Quarter_letsInto_48 rfl (by decide) k
      · replace k := k.2 c6
        refine R_ic dd_Quarter_letsInto_24 (by decide) rfl ?_
        exact R_zret dd_Quarter_letsInto_25 rfl (by decide) k
theorem B_Quarter_letsInto_59 {xs : Nat → Int} {xl e : Nat} {h : LH} {Q : Option LV → LH → Prop} {v2 v3 v4 v5 w0 : Int} {q : Int} (hq : q = 5 ∨ q = 32) {d : Int} (hd : q + 7 ≤ d ∧ d ≤ q + 20) (hF : RF h)
    (k : (w0 = 0 →
        Q (some (.inl 0)) h) ∧
      (w0 ≠ 0 →
        Q (some (.inl 1)) h)) :
    Rn xs xl e mm_Quarter_letsInto 59 [some (.inr (.inr q)), some (.inr (.inr d)), some (.inl v2), some (.inl v3), some (.inl v4), some (.inl v5)] [.inl w0] h Q := by
  refine R_if dd_Quarter_letsInto_59 rfl rfl (fun (c1 : w0 = 0) => ?_) (fun (c1 : w0 ≠ 0) => ?_)
  · replace k := k.1 c1
    refine R_ic dd_Quarter_letsInto_66 (by decide) rfl ?_
    exact R_zret dd_Quarter_letsInto_67 rfl (by decide) k
  · replace k := k.2 c1
    refine R_ic dd_Quarter_letsInto_62 (by decide) rfl ?_
    refine R_goto dd_Quarter_letsInto_63 rfl ?_
    exact R_zret dd_Quarter_letsInto_67 rfl (by decide) k
theorem B_Quarter_ways_0 {xs : Nat → Int} {xl e : Nat} {h : LH} {Q : Option LV → LH → Prop} {v1 v2 v3 v4 v5 : Int} {q : Int} (hq : q = 5 ∨ q = 32) (hF : RF h) (hP : PT h) (r_v1 : 0 ≤ v1 ∧ v1 ≤ 13)
    (k : ((rd h (q + 7 + v1) 1) ≠ 1 →
        (0 = v5 →
          Rn xs xl e mm_Quarter_ways 38 [some (.inr (.inr q)), some (.inl v1), some (.inl v2), some (.inl v3), some (.inl v4), some (.inl v5), some (.inr (.inr (q + 7 + v1))), none, none] [.inl 0] h Q) ∧
        (0 ≠ v5 →
          Rn xs xl e mm_Quarter_ways 38 [some (.inr (.inr q)), some (.inl v1), some (.inl v2), some (.inl v3), some (.inl v4), some (.inl v5), some (.inr (.inr (q + 7 + v1))), none, none] [.inl 1] h Q)) ∧
      ((rd h (q + 7 + v1) 1) = 1 →
        (v3 < 12 →
          (0 = v5 →
            Rn xs xl e mm_Quarter_ways 38 [some (.inr (.inr q)), some (.inl v1), some (.inl v2), some (.inl v3), some (.inl v4), some (.inl v5), some (.inr (.inr (q + 7 + v1))), none, none] [.inl 0] h Q) ∧
          (0 ≠ v5 →
            Rn xs xl e mm_Quarter_ways 38 [some (.inr (.inr q)), some (.inl v1), some (.inl v2), some (.inl v3), some (.inl v4), some (.inl v5), some (.inr (.inr (q + 7 + v1))), none, none] [.inl 1] h Q)) ∧
        (12 ≤ v3 →
          (1 = v5 →
            Rn xs xl e mm_Quarter_ways 38 [some (.inr (.inr q)), some (.inl v1), some (.inl v2), some (.inl v3), some (.inl v4), some (.inl v5), some (.inr (.inr (q + 7 + v1))), none, none] [.inl 0] h Q) ∧
          (1 ≠ v5 →
            Rn xs xl e mm_Quarter_ways 38 [some (.inr (.inr q)), some (.inl v1), some (.inl v2), some (.inl v3), some (.inl v4), some (.inl v5), some (.inr (.inr (q + 7 + v1))), none, none] [.inl 1] h Q)))) :
    Rn xs xl e mm_Quarter_ways 0 [some (.inr (.inr q)), some (.inl v1), some (.inl v2), some (.inl v3), some (.inl v4), some (.inl v5), none, none, none] [] h Q := by
  refine R_ld (v := .inr (.inr q)) dd_Quarter_ways_0 rfl rfl rfl rfl ?_
  refine R_gf (v := .inr (.inr (q + 1))) dd_Quarter_ways_1 fd_6_17 (io_q hq) (congrArg (fun z : Int => (Sum.inr (Sum.inr z) : LV)) (rq_arr hF hq)) rfl ?_
  refine R_ld (v := .inl v1) dd_Quarter_ways_4 rfl rfl rfl rfl ?_
  refine R_aald (v := (q + 7 + v1)) (n := 14) dd_Quarter_ways_5 (ia_dq hq) (la_dq hq) (by omega) (rq_d hP hq (by omega)) rfl ?_
  refine R_st (ls' := [some (.inr (.inr q)), some (.inl v1), some (.inl v2), some (.inl v3), some (.inl v4), some (.inl v5), some (.inr (.inr (q + 7 + v1))), none, none]) dd_Quarter_ways_6 rfl rfl rfl (Nat.le_of_ble_eq_true rfl) rfl rfl ?_
  refine R_ld (v := .inr (.inr (q + 7 + v1))) dd_Quarter_ways_8 rfl rfl rfl rfl ?_
  refine R_gf (v := .inl (rd h (q + 7 + v1) 1)) dd_Quarter_ways_10 fd_6_67 (io_d hq (by omega)) (congrArg (fun z : Int => (Sum.inl z : LV)) (rfl)) rfl ?_
  refine R_ic dd_Quarter_ways_13 (by decide) rfl ?_
  refine R_icmp dd_Quarter_ways_14 rfl rfl (fun (c1 : (rd h (q + 7 + v1) 1) ≠ 1) => ?_) (fun (c1 : (rd h (q + 7 + v1) 1) = 1) => ?_)
  · replace k := k.1 c1
    refine R_ic dd_Quarter_ways_27 (by decide) rfl ?_
    refine R_ld (v := .inl v5) dd_Quarter_ways_28 rfl rfl rfl rfl ?_
    refine R_icmp dd_Quarter_ways_30 rfl rfl (fun (c2 : 0 = v5) => ?_) (fun (c2 : 0 ≠ v5) => ?_)
    · replace k := k.1 c2
      refine R_ic dd_Quarter_ways_37 (by decide) rfl ?_
      exact k
    · replace k := k.2 c2
      refine R_ic dd_Quarter_ways_33 (by decide) rfl ?_
      refine R_goto dd_Quarter_ways_34 rfl ?_
      exact k
  · replace k := k.2 c1
    refine R_ld (v := .inl v3) dd_Quarter_ways_17 rfl rfl rfl rfl ?_
    refine R_bi dd_Quarter_ways_18 (by decide) rfl ?_
    refine R_icmp dd_Quarter_ways_20 rfl rfl (fun (c3 : v3 < 12) => ?_) (fun (c3 : 12 ≤ v3) => ?_)
    · replace k := k.1 c3
      refine R_ic dd_Quarter_ways_27 (by decide) rfl ?_
      refine R_ld (v := .inl v5) dd_Quarter_ways_28 rfl rfl rfl rfl ?_
      refine R_icmp dd_Quarter_ways_30 rfl rfl (fun (c4 : 0 = v5) => ?_) (fun (c4 : 0 ≠ v5) => ?_)
      · replace k := k.1 c4
        refine R_ic dd_Quarter_ways_37 (by decide) rfl ?_
        exact k
      · replace k := k.2 c4
        refine R_ic dd_Quarter_ways_33 (by decide) rfl ?_
        refine R_goto dd_Quarter_ways_34 rfl ?_
        exact k
    · replace k := k.2 c3
      refine R_ic dd_Quarter_ways_23 (by decide) rfl ?_
      refine R_goto dd_Quarter_ways_24 rfl ?_
      refine R_ld (v := .inl v5) dd_Quarter_ways_28 rfl rfl rfl rfl ?_
      refine R_icmp dd_Quarter_ways_30 rfl rfl (fun (c5 : 1 = v5) => ?_) (fun (c5 : 1 ≠ v5) => ?_)
      · replace k := k.1 c5
        refine R_ic dd_Quarter_ways_37 (by decide) rfl ?_
        exact k
      · replace k := k.2 c5
        refine R_ic dd_Quarter_ways_33 (by decide) rfl ?_
        refine R_goto dd_Quarter_ways_34 rfl ?_
        exact k
theorem B_Quarter_ways_38 {xs : Nat → Int} {xl e : Nat} {h : LH} {Q : Option LV → LH → Prop} {v1 v2 v3 v4 v5 w0 : Int} {q : Int} (hq : q = 5 ∨ q = 32) (hF : RF h) (r_v1 : 0 ≤ v1 ∧ v1 ≤ 13)
    (k : (v2 = 3 →
        (∃ c, c < e ∧ Rn xs xl c mm_Quarter_letsInto 0 [some (.inr (.inr q)), some (.inr (.inr (q + 7 + v1))), some (.inl v2), some (.inl v3), some (.inl v4), some (.inl (rd h (q + 7 + v1) 3))] [] h (fun r h' => Rn xs xl e mm_Quarter_ways 68 [some (.inr (.inr q)), some (.inl v1), some (.inl v2), some (.inl v3), some (.inl v4), some (.inl v5), some (.inr (.inr (q + 7 + v1))), some (.inl w0), some (.inl 0)] (r.toList ++ []) h' Q))) ∧
      (v2 ≠ 3 →
        (w0 ≠ 0 →
          Rn xs xl e mm_Quarter_ways 77 [some (.inr (.inr q)), some (.inl v1), some (.inl v2), some (.inl v3), some (.inl v4), some (.inl v5), some (.inr (.inr (q + 7 + v1))), some (.inl w0), some (.inl 0)] [] h Q) ∧
        (w0 = 0 →
          (∃ c, c < e ∧ Rn xs xl c mm_Quarter_letsInto 0 [some (.inr (.inr q)), some (.inr (.inr (q + 7 + v1))), some (.inl v2), some (.inl v3), some (.inl v4), some (.inl (rd h (q + 7 + v1) 3))] [] h (fun r h' => Rn xs xl e mm_Quarter_ways 68 [some (.inr (.inr q)), some (.inl v1), some (.inl v2), some (.inl v3), some (.inl v4), some (.inl v5), some (.inr (.inr (q + 7 + v1))), some (.inl w0), some (.inl 0)] (r.toList ++ []) h' Q))))) :
    Rn xs xl e mm_Quarter_ways 38 [some (.inr (.inr q)), some (.inl v1), some (.inl v2), some (.inl v3), some (.inl v4), some (.inl v5), some (.inr (.inr (q + 7 + v1))), none, none] [.inl w0] h Q := by
  refine R_st (ls' := [some (.inr (.inr q)), some (.inl v1), some (.inl v2), some (.inl v3), some (.inl v4), some (.inl v5), some (.inr (.inr (q + 7 + v1))), some (.inl w0), none]) dd_Quarter_ways_38 rfl rfl rfl (Nat.le_of_ble_eq_true rfl) rfl rfl ?_
  refine R_ic dd_Quarter_ways_40 (by decide) rfl ?_
  refine R_st (ls' := [some (.inr (.inr q)), some (.inl v1), some (.inl v2), some (.inl v3), some (.inl v4), some (.inl v5), some (.inr (.inr (q + 7 + v1))), some (.inl w0), some (.inl 0)]) dd_Quarter_ways_41 rfl rfl rfl (Nat.le_of_ble_eq_true rfl) rfl rfl ?_
  refine R_ld (v := .inl v2) dd_Quarter_ways_43 rfl rfl rfl rfl ?_
  refine R_ic dd_Quarter_ways_44 (by decide) rfl ?_
  refine R_icmp dd_Quarter_ways_45 rfl rfl (fun (c3 : v2 = 3) => ?_) (fun (c3 : v2 ≠ 3) => ?_)
  · replace k := k.1 c3
    refine R_ld (v := .inr (.inr q)) dd_Quarter_ways_53 rfl rfl rfl rfl ?_
    refine R_ld (v := .inr (.inr (q + 7 + v1))) dd_Quarter_ways_54 rfl rfl rfl rfl ?_
    refine R_ld (v := .inl v2) dd_Quarter_ways_56 rfl rfl rfl rfl ?_
    refine R_ld (v := .inl v3) dd_Quarter_ways_57 rfl rfl rfl rfl ?_
    refine R_ld (v := .inl v4) dd_Quarter_ways_58 rfl rfl rfl rfl ?_
    refine R_ld (v := .inr (.inr (q + 7 + v1))) dd_Quarter_ways_60 rfl rfl rfl rfl ?_
    refine R_gf (v := .inl (rd h (q + 7 + v1) 3)) dd_Quarter_ways_62 fd_6_70 (io_d hq (by omega)) (congrArg (fun z : Int => (Sum.inl z : LV)) (rfl)) rfl ?_
    obtain ⟨c, hc, k⟩ := k
    exact R_call (as := [.inr (.inr q), .inr (.inr (q + 7 + v1)), .inl v2, .inl v3, .inl v4, .inl (rd h (q + 7 + v1) 3)]) (rest := []) (M' := mm_Quarter_letsInto) (ls0 := [some (.inr (.inr q)), some (.inr (.inr (q + 7 + v1))), some (.inl v2), some (.inl v3), some (.inl v4), some (.inl (rd h (q + 7 + v1) 3))]) dd_Quarter_ways_65 rfl rfl (cw_v cw_6_73 (io_q hq) rfl rfl (Nat.le_of_ble_eq_true rfl) (Nat.le_of_ble_eq_true rfl)) mt_Quarter_letsInto rfl hc rfl k
  · replace k := k.2 c3
    refine R_ld (v := .inl w0) dd_Quarter_ways_48 rfl rfl rfl rfl ?_
    refine R_if dd_Quarter_ways_50 rfl rfl (fun (c4 : w0 ≠ 0) => ?_) (fun (c4 : w0 = 0) => ?_)
    · replace k := k.1 c4
      exact k
    · replace k := k.2 c4
      refine R_ld (v := .inr (.inr q)) dd_Quarter_ways_53 rfl rfl rfl rfl ?_
      refine R_ld (v := .inr (.inr (q + 7 + v1))) dd_Quarter_ways_54 rfl rfl rfl rfl ?_
      refine R_ld (v := .inl v2) dd_Quarter_ways_56 rfl rfl rfl rfl ?_
      refine R_ld (v := .inl v3) dd_Quarter_ways_57 rfl rfl rfl rfl ?_
      refine R_ld (v := .inl v4) dd_Quarter_ways_58 rfl rfl rfl rfl ?_
      refine R_ld (v := .inr (.inr (q + 7 + v1))) dd_Quarter_ways_60 rfl rfl rfl rfl ?_
      refine R_gf (v := .inl (rd h (q + 7 + v1) 3)) dd_Quarter_ways_62 fd_6_70 (io_d hq (by omega)) (congrArg (fun z : Int => (Sum.inl z : LV)) (rfl)) rfl ?_
      obtain ⟨c, hc, k⟩ := k
      exact R_call (as := [.inr (.inr q), .inr (.inr (q + 7 + v1)), .inl v2, .inl v3, .inl v4, .inl (rd h (q + 7 + v1) 3)]) (rest := []) (M' := mm_Quarter_letsInto) (ls0 := [some (.inr (.inr q)), some (.inr (.inr (q + 7 + v1))), some (.inl v2), some (.inl v3), some (.inl v4), some (.inl (rd h (q + 7 + v1) 3))]) dd_Quarter_ways_65 rfl rfl (cw_v cw_6_73 (io_q hq) rfl rfl (Nat.le_of_ble_eq_true rfl) (Nat.le_of_ble_eq_true rfl)) mt_Quarter_letsInto rfl hc rfl k
theorem B_Quarter_ways_68 {xs : Nat → Int} {xl e : Nat} {h : LH} {Q : Option LV → LH → Prop} {v1 v2 v3 v4 v5 v7 v8 w0 : Int} {q : Int} (hq : q = 5 ∨ q = 32) (hF : RF h) (r_v1 : 0 ≤ v1 ∧ v1 ≤ 13)
    (k : (w0 = 0 →
        Rn xs xl e mm_Quarter_ways 77 [some (.inr (.inr q)), some (.inl v1), some (.inl v2), some (.inl v3), some (.inl v4), some (.inl v5), some (.inr (.inr (q + 7 + v1))), some (.inl v7), some (.inl v8)] [] h Q) ∧
      (w0 ≠ 0 →
        Rn xs xl e mm_Quarter_ways 77 [some (.inr (.inr q)), some (.inl v1), some (.inl v2), some (.inl v3), some (.inl v4), some (.inl v5), some (.inr (.inr (q + 7 + v1))), some (.inl v7), some (.inl (zor v8 1))] [] h Q)) :
    Rn xs xl e mm_Quarter_ways 68 [some (.inr (.inr q)), some (.inl v1), some (.inl v2), some (.inl v3), some (.inl v4), some (.inl v5), some (.inr (.inr (q + 7 + v1))), some (.inl v7), some (.inl v8)] [.inl w0] h Q := by
  refine R_if dd_Quarter_ways_68 rfl rfl (fun (c1 : w0 = 0) => ?_) (fun (c1 : w0 ≠ 0) => ?_)
  · replace k := k.1 c1
    exact k
  · replace k := k.2 c1
    refine R_ld (v := .inl v8) dd_Quarter_ways_71 rfl rfl rfl rfl ?_
    refine R_ic dd_Quarter_ways_73 (by decide) rfl ?_
    refine R_A dd_Quarter_ways_74 rfl rfl rfl rfl ?_
    refine R_st (ls' := [some (.inr (.inr q)), some (.inl v1), some (.inl v2), some (.inl v3), some (.inl v4), some (.inl v5), some (.inr (.inr (q + 7 + v1))), some (.inl v7), some (.inl (zor v8 1))]) dd_Quarter_ways_75 rfl rfl rfl (Nat.le_of_ble_eq_true rfl) rfl rfl ?_
    exact k
theorem B_Quarter_ways_77 {xs : Nat → Int} {xl e : Nat} {h : LH} {Q : Option LV → LH → Prop} {v1 v2 v3 v4 v5 v7 v8 : Int} {q : Int} (hq : q = 5 ∨ q = 32) (hF : RF h) (r_v1 : 0 ≤ v1 ∧ v1 ≤ 13)
    (k : (v2 = 3 →
        (∃ c, c < e ∧ Rn xs xl c mm_Quarter_letsInto 0 [some (.inr (.inr q)), some (.inr (.inr (q + 7 + v1))), some (.inl v2), some (.inl v3), some (.inl v4), some (.inl (rd h (q + 7 + v1) 2))] [] h (fun r h' => Rn xs xl e mm_Quarter_ways 102 [some (.inr (.inr q)), some (.inl v1), some (.inl v2), some (.inl v3), some (.inl v4), some (.inl v5), some (.inr (.inr (q + 7 + v1))), some (.inl v7), some (.inl v8)] (r.toList ++ []) h' Q))) ∧
      (v2 ≠ 3 →
        (v7 = 0 →
          Rn xs xl e mm_Quarter_ways 111 [some (.inr (.inr q)), some (.inl v1), some (.inl v2), some (.inl v3), some (.inl v4), some (.inl v5), some (.inr (.inr (q + 7 + v1))), some (.inl v7), some (.inl v8)] [] h Q) ∧
        (v7 ≠ 0 →
          (∃ c, c < e ∧ Rn xs xl c mm_Quarter_letsInto 0 [some (.inr (.inr q)), some (.inr (.inr (q + 7 + v1))), some (.inl v2), some (.inl v3), some (.inl v4), some (.inl (rd h (q + 7 + v1) 2))] [] h (fun r h' => Rn xs xl e mm_Quarter_ways 102 [some (.inr (.inr q)), some (.inl v1), some (.inl v2), some (.inl v3), some (.inl v4), some (.inl v5), some (.inr (.inr (q + 7 + v1))), some (.inl v7), some (.inl v8)] (r.toList ++ []) h' Q))))) :
    Rn xs xl e mm_Quarter_ways 77 [some (.inr (.inr q)), some (.inl v1), some (.inl v2), some (.inl v3), some (.inl v4), some (.inl v5), some (.inr (.inr (q + 7 + v1))), some (.inl v7), some (.inl v8)] [] h Q := by
  refine R_ld (v := .inl v2) dd_Quarter_ways_77 rfl rfl rfl rfl ?_
  refine R_ic dd_Quarter_ways_78 (by decide) rfl ?_
  refine R_icmp dd_Quarter_ways_79 rfl rfl (fun (c3 : v2 = 3) => ?_) (fun (c3 : v2 ≠ 3) => ?_)
  · replace k := k.1 c3
    refine R_ld (v := .inr (.inr q)) dd_Quarter_ways_87 rfl rfl rfl rfl ?_
    refine R_ld (v := .inr (.inr (q + 7 + v1))) dd_Quarter_ways_88 rfl rfl rfl rfl ?_
    refine R_ld (v := .inl v2) dd_Quarter_ways_90 rfl rfl rfl rfl ?_
    refine R_ld (v := .inl v3) dd_Quarter_ways_91 rfl rfl rfl rfl ?_
    refine R_ld (v := .inl v4) dd_Quarter_ways_92 rfl rfl rfl rfl ?_
    refine R_ld (v := .inr (.inr (q + 7 + v1))) dd_Quarter_ways_94 rfl rfl rfl rfl ?_
    refine R_gf (v := .inl (rd h (q + 7 + v1) 2)) dd_Quarter_ways_96 fd_6_77 (io_d hq (by omega)) (congrArg (fun z : Int => (Sum.inl z : LV)) (rfl)) rfl ?_
    obtain ⟨c, hc, k⟩ := k
    exact R_call (as := [.inr (.inr q), .inr (.inr (q + 7 + v1)), .inl v2, .inl v3, .inl v4, .inl (rd h (q + 7 + v1) 2)]) (rest := []) (M' := mm_Quarter_letsInto) (ls0 := [some (.inr (.inr q)), some (.inr (.inr (q + 7 + v1))), some (.inl v2), some (.inl v3), some (.inl v4), some (.inl (rd h (q + 7 + v1) 2))]) dd_Quarter_ways_99 rfl rfl (cw_v cw_6_73 (io_q hq) rfl rfl (Nat.le_of_ble_eq_true rfl) (Nat.le_of_ble_eq_true rfl)) mt_Quarter_letsInto rfl hc rfl k
  · replace k := k.2 c3
    refine R_ld (v := .inl v7) dd_Quarter_ways_82 rfl rfl rfl rfl ?_
    refine R_if dd_Quarter_ways_84 rfl rfl (fun (c4 : v7 = 0) => ?_) (fun (c4 : v7 ≠ 0) => ?_)
    · replace k := k.1 c4
      exact k
    · replace k := k.2 c4
      refine R_ld (v := .inr (.inr q)) dd_Quarter_ways_87 rfl rfl rfl rfl ?_
      refine R_ld (v := .inr (.inr (q + 7 + v1))) dd_Quarter_ways_88 rfl rfl rfl rfl ?_
      refine R_ld (v := .inl v2) dd_Quarter_ways_90 rfl rfl rfl rfl ?_
      refine R_ld (v := .inl v3) dd_Quarter_ways_91 rfl rfl rfl rfl ?_
      refine R_ld (v := .inl v4) dd_Quarter_ways_92 rfl rfl rfl rfl ?_
      refine R_ld (v := .inr (.inr (q + 7 + v1))) dd_Quarter_ways_94 rfl rfl rfl rfl ?_
      refine R_gf (v := .inl (rd h (q + 7 + v1) 2)) dd_Quarter_ways_96 fd_6_77 (io_d hq (by omega)) (congrArg (fun z : Int => (Sum.inl z : LV)) (rfl)) rfl ?_
      obtain ⟨c, hc, k⟩ := k
      exact R_call (as := [.inr (.inr q), .inr (.inr (q + 7 + v1)), .inl v2, .inl v3, .inl v4, .inl (rd h (q + 7 + v1) 2)]) (rest := []) (M' := mm_Quarter_letsInto) (ls0 := [some (.inr (.inr q)), some (.inr (.inr (q + 7 + v1))), some (.inl v2), some (.inl v3), some (.inl v4), some (.inl (rd h (q + 7 + v1) 2))]) dd_Quarter_ways_99 rfl rfl (cw_v cw_6_73 (io_q hq) rfl rfl (Nat.le_of_ble_eq_true rfl) (Nat.le_of_ble_eq_true rfl)) mt_Quarter_letsInto rfl hc rfl k
theorem B_Quarter_ways_102 {xs : Nat → Int} {xl e : Nat} {h : LH} {Q : Option LV → LH → Prop} {v1 v2 v3 v4 v5 v7 v8 w0 : Int} {q : Int} (hq : q = 5 ∨ q = 32) (hF : RF h) (r_v1 : 0 ≤ v1 ∧ v1 ≤ 13)
    (k : (w0 = 0 →
        Rn xs xl e mm_Quarter_ways 111 [some (.inr (.inr q)), some (.inl v1), some (.inl v2), some (.inl v3), some (.inl v4), some (.inl v5), some (.inr (.inr (q + 7 + v1))), some (.inl v7), some (.inl v8)] [] h Q) ∧
      (w0 ≠ 0 →
        Rn xs xl e mm_Quarter_ways 111 [some (.inr (.inr q)), some (.inl v1), some (.inl v2), some (.inl v3), some (.inl v4), some (.inl v5), some (.inr (.inr (q + 7 + v1))), some (.inl v7), some (.inl (zor v8 2))] [] h Q)) :
    Rn xs xl e mm_Quarter_ways 102 [some (.inr (.inr q)), some (.inl v1), some (.inl v2), some (.inl v3), some (.inl v4), some (.inl v5), some (.inr (.inr (q + 7 + v1))), some (.inl v7), some (.inl v8)] [.inl w0] h Q := by
  refine R_if dd_Quarter_ways_102 rfl rfl (fun (c1 : w0 = 0) => ?_) (fun (c1 : w0 ≠ 0) => ?_)
  · replace k := k.1 c1
    exact k
  · replace k := k.2 c1
    refine R_ld (v := .inl v8) dd_Quarter_ways_105 rfl rfl rfl rfl ?_
    refine R_ic dd_Quarter_ways_107 (by decide) rfl ?_
    refine R_A dd_Quarter_ways_108 rfl rfl rfl rfl ?_
    refine R_st (ls' := [some (.inr (.inr q)), some (.inl v1), some (.inl v2), some (.inl v3), some (.inl v4), some (.inl v5), some (.inr (.inr (q + 7 + v1))), some (.inl v7), some (.inl (zor v8 2))]) dd_Quarter_ways_109 rfl rfl rfl (Nat.le_of_ble_eq_true rfl) rfl rfl ?_
    exact k
theorem B_Quarter_ways_111 {xs : Nat → Int} {xl e : Nat} {h : LH} {Q : Option LV → LH → Prop} {v1 v2 v3 v4 v5 v7 v8 : Int} {q : Int} (hq : q = 5 ∨ q = 32) (hF : RF h) (r_v1 : 0 ≤ v1 ∧ v1 ≤ 13)
    (k : Q (some (.inl v8)) h) :
    Rn xs xl e mm_Quarter_ways 111 [some (.inr (.inr q)), some (.inl v1), some (.inl v2), some (.inl v3), some (.inl v4), some (.inl v5), some (.inr (.inr (q + 7 + v1))), some (.inl v7), some (.inl v8)] [] h Q := by
  refine R_ld (v := .inl v8) dd_Quarter_ways_111 rfl rfl rfl rfl ?_
  exact R_iret dd_Quarter_ways_113 rfl k
theorem B_Quarter_settleHour_0 {xs : Nat → Int} {xl e : Nat} {h : LH} {Q : Option LV → LH → Prop} {v1 v2 : Int} {q : Int} (hq : q = 5 ∨ q = 32) (hF : RF h)
    (k : Rn xs xl e mm_Quarter_settleHour 8 [some (.inr (.inr q)), some (.inl v1), some (.inl v2), some (.inl 0), some (.inl 0), some (.inl 0), none] [] h Q) :
    Rn xs xl e mm_Quarter_settleHour 0 [some (.inr (.inr q)), some (.inl v1), some (.inl v2), none, none, none, none] [] h Q := by
  refine R_ic dd_Quarter_settleHour_0 (by decide) rfl ?_
  refine R_st (ls' := [some (.inr (.inr q)), some (.inl v1), some (.inl v2), some (.inl 0), none, none, none]) dd_Quarter_settleHour_1 rfl rfl rfl (Nat.le_of_ble_eq_true rfl) rfl rfl ?_
  refine R_ic dd_Quarter_settleHour_2 (by decide) rfl ?_
  refine R_st (ls' := [some (.inr (.inr q)), some (.inl v1), some (.inl v2), some (.inl 0), some (.inl 0), none, none]) dd_Quarter_settleHour_3 rfl rfl rfl (Nat.le_of_ble_eq_true rfl) rfl rfl ?_
  refine R_ic dd_Quarter_settleHour_5 (by decide) rfl ?_
  refine R_st (ls' := [some (.inr (.inr q)), some (.inl v1), some (.inl v2), some (.inl 0), some (.inl 0), some (.inl 0), none]) dd_Quarter_settleHour_6 rfl rfl rfl (Nat.le_of_ble_eq_true rfl) rfl rfl ?_
  exact k
theorem B_Quarter_settleHour_8 {xs : Nat → Int} {xl e : Nat} {h : LH} {Q : Option LV → LH → Prop} {v1 v2 v3 v4 v5 : Int} {q : Int} (hq : q = 5 ∨ q = 32) {o6 : Option LV} (hF : RF h) (hP : PT h) (r_v5 : 0 ≤ v5 ∧ v5 ≤ 14)
    (k : ((rd h q 2) ≤ v5 →
        Rn xs xl e mm_Quarter_settleHour 82 [some (.inr (.inr q)), some (.inl v1), some (.inl v2), some (.inl v3), some (.inl v4), some (.inl v5), o6] [] h Q) ∧
      (v5 < (rd h q 2) →
        (0 ≤ v5 ∧ v5 < 14) ∧
        (∃ c, c < e ∧ Rn xs xl c mm_Quarter_ways 0 [some (.inr (.inr q)), some (.inl v5), some (.inl v1), some (.inl v2), some (.inl (rd h (q + 7 + v5) 8)), some (.inl 0), none, none, none] [] h (fun r h' => Rn xs xl e mm_Quarter_settleHour 36 [some (.inr (.inr q)), some (.inl v1), some (.inl v2), some (.inl v3), some (.inl v4), some (.inl v5), o6] (r.toList ++ []) h' Q)))) :
    Rn xs xl e mm_Quarter_settleHour 8 [some (.inr (.inr q)), some (.inl v1), some (.inl v2), some (.inl v3), some (.inl v4), some (.inl v5), o6] [] h Q := by
  refine R_ld (v := .inl v5) dd_Quarter_settleHour_8 rfl rfl rfl rfl ?_
  refine R_ld (v := .inr (.inr q)) dd_Quarter_settleHour_10 rfl rfl rfl rfl ?_
  refine R_gf (v := .inl (rd h q 2)) dd_Quarter_settleHour_11 fd_6_42 (io_q hq) (congrArg (fun z : Int => (Sum.inl z : LV)) (rfl)) rfl ?_
  refine R_icmp dd_Quarter_settleHour_14 rfl rfl (fun (c3 : (rd h q 2) ≤ v5) => ?_) (fun (c3 : v5 < (rd h q 2)) => ?_)
  · replace k := k.1 c3
    exact k
  · replace k := k.2 c3
    refine R_ld (v := .inr (.inr q)) dd_Quarter_settleHour_17 rfl rfl rfl rfl ?_
    refine R_ld (v := .inl v5) dd_Quarter_settleHour_18 rfl rfl rfl rfl ?_
    refine R_ld (v := .inl v1) dd_Quarter_settleHour_20 rfl rfl rfl rfl ?_
    refine R_ld (v := .inl v2) dd_Quarter_settleHour_21 rfl rfl rfl rfl ?_
    refine R_ld (v := .inr (.inr q)) dd_Quarter_settleHour_22 rfl rfl rfl rfl ?_
    refine R_gf (v := .inr (.inr (q + 1))) dd_Quarter_settleHour_23 fd_6_17 (io_q hq) (congrArg (fun z : Int => (Sum.inr (Sum.inr z) : LV)) (rq_arr hF hq)) rfl ?_
    refine R_ld (v := .inl v5) dd_Quarter_settleHour_26 rfl rfl rfl rfl ?_
    obtain ⟨s1, k⟩ := k
    refine R_aald (v := (q + 7 + v5)) (n := 14) dd_Quarter_settleHour_28 (ia_dq hq) (la_dq hq) s1 (rq_d hP hq s1) rfl ?_
    refine R_gf (v := .inl (rd h (q + 7 + v5) 8)) dd_Quarter_settleHour_29 fd_6_60 (io_d hq (by omega)) (congrArg (fun z : Int => (Sum.inl z : LV)) (rfl)) rfl ?_
    refine R_ic dd_Quarter_settleHour_32 (by decide) rfl ?_
    obtain ⟨c, hc, k⟩ := k
    exact R_call (as := [.inr (.inr q), .inl v5, .inl v1, .inl v2, .inl (rd h (q + 7 + v5) 8), .inl 0]) (rest := []) (M' := mm_Quarter_ways) (ls0 := [some (.inr (.inr q)), some (.inl v5), some (.inl v1), some (.inl v2), some (.inl (rd h (q + 7 + v5) 8)), some (.inl 0), none, none, none]) dd_Quarter_settleHour_33 rfl rfl (cw_v cw_6_63 (io_q hq) rfl rfl (Nat.le_of_ble_eq_true rfl) (Nat.le_of_ble_eq_true rfl)) mt_Quarter_ways rfl hc rfl k
theorem B_Quarter_settleHour_36 {xs : Nat → Int} {xl e : Nat} {h : LH} {Q : Option LV → LH → Prop} {v1 v2 v3 v4 v5 w0 : Int} {q : Int} (hq : q = 5 ∨ q = 32) {o6 : Option LV} (hF : RF h) (r_v5 : 0 ≤ v5 ∧ v5 ≤ 13)
    (k : ((zand w0 1) = 0 →
        ((zand w0 2) = 0 →
          Rn xs xl e mm_Quarter_settleHour 8 [some (.inr (.inr q)), some (.inl v1), some (.inl v2), some (.inl (zor v3 0)), some (.inl (zor v4 0)), some (.inl (v5 + 1)), some (.inl w0)] [] h Q) ∧
        ((zand w0 2) ≠ 0 →
          Rn xs xl e mm_Quarter_settleHour 8 [some (.inr (.inr q)), some (.inl v1), some (.inl v2), some (.inl (zor v3 0)), some (.inl (zor v4 (zshl 1 v5))), some (.inl (v5 + 1)), some (.inl w0)] [] h Q)) ∧
      ((zand w0 1) ≠ 0 →
        ((zand w0 2) = 0 →
          Rn xs xl e mm_Quarter_settleHour 8 [some (.inr (.inr q)), some (.inl v1), some (.inl v2), some (.inl (zor v3 (zshl 1 v5))), some (.inl (zor v4 0)), some (.inl (v5 + 1)), some (.inl w0)] [] h Q) ∧
        ((zand w0 2) ≠ 0 →
          Rn xs xl e mm_Quarter_settleHour 8 [some (.inr (.inr q)), some (.inl v1), some (.inl v2), some (.inl (zor v3 (zshl 1 v5))), some (.inl (zor v4 (zshl 1 v5))), some (.inl (v5 + 1)), some (.inl w0)] [] h Q))) :
    Rn xs xl e mm_Quarter_settleHour 36 [some (.inr (.inr q)), some (.inl v1), some (.inl v2), some (.inl v3), some (.inl v4), some (.inl v5), o6] [.inl w0] h Q := by
  refine R_st (ls' := [some (.inr (.inr q)), some (.inl v1), some (.inl v2), some (.inl v3), some (.inl v4), some (.inl v5), some (.inl w0)]) dd_Quarter_settleHour_36 rfl rfl rfl (Nat.le_of_ble_eq_true rfl) rfl rfl ?_
  refine R_ld (v := .inl v3) dd_Quarter_settleHour_38 rfl rfl rfl rfl ?_
  refine R_ld (v := .inl w0) dd_Quarter_settleHour_39 rfl rfl rfl rfl ?_
  refine R_ic dd_Quarter_settleHour_41 (by decide) rfl ?_
  refine R_A dd_Quarter_settleHour_42 rfl rfl rfl rfl ?_
  refine R_if dd_Quarter_settleHour_43 rfl rfl (fun (c1 : (zand w0 1) = 0) => ?_) (fun (c1 : (zand w0 1) ≠ 0) => ?_)
  · replace k := k.1 c1
    refine R_ic dd_Quarter_settleHour_53 (by decide) rfl ?_
    refine R_A dd_Quarter_settleHour_54 rfl rfl rfl rfl ?_
    refine R_st (ls' := [some (.inr (.inr q)), some (.inl v1), some (.inl v2), some (.inl (zor v3 0)), some (.inl v4), some (.inl v5), some (.inl w0)]) dd_Quarter_settleHour_55 rfl rfl rfl (Nat.le_of_ble_eq_true rfl) rfl rfl ?_
    refine R_ld (v := .inl v4) dd_Quarter_settleHour_56 rfl rfl rfl rfl ?_
    refine R_ld (v := .inl w0) dd_Quarter_settleHour_58 rfl rfl rfl rfl ?_
    refine R_ic dd_Quarter_settleHour_60 (by decide) rfl ?_
    refine R_A dd_Quarter_settleHour_61 rfl rfl rfl rfl ?_
    refine R_if dd_Quarter_settleHour_62 rfl rfl (fun (c2 : (zand w0 2) = 0) => ?_) (fun (c2 : (zand w0 2) ≠ 0) => ?_)
    · replace k := k.1 c2
      refine R_ic dd_Quarter_settleHour_72 (by decide) rfl ?_
      refine R_A dd_Quarter_settleHour_73 rfl rfl rfl rfl ?_
      refine R_st (ls' := [some (.inr (.inr q)), some (.inl v1), some (.inl v2), some (.inl (zor v3 0)), some (.inl (zor v4 0)), some (.inl v5), some (.inl w0)]) dd_Quarter_settleHour_74 rfl rfl rfl (Nat.le_of_ble_eq_true rfl) rfl rfl ?_
      refine R_inc (y := v5 + 1) (ls' := [some (.inr (.inr q)), some (.inl v1), some (.inl v2), some (.inl (zor v3 0)), some (.inl (zor v4 0)), some (.inl (v5 + 1)), some (.inl w0)]) dd_Quarter_settleHour_76 rfl (by decide) (by omega) (by omega) rfl rfl ?_
      refine R_goto dd_Quarter_settleHour_79 rfl ?_
      exact k
    · replace k := k.2 c2
      refine R_ic dd_Quarter_settleHour_65 (by decide) rfl ?_
      refine R_ld (v := .inl v5) dd_Quarter_settleHour_66 rfl rfl rfl rfl ?_
      refine R_A dd_Quarter_settleHour_68 rfl rfl rfl rfl ?_
      refine R_goto dd_Quarter_settleHour_69 rfl ?_
      refine R_A dd_Quarter_settleHour_73 rfl rfl rfl rfl ?_
      refine R_st (ls' := [some (.inr (.inr q)), some (.inl v1), some (.inl v2), some (.inl (zor v3 0)), some (.inl (zor v4 (zshl 1 v5))), some (.inl v5), some (.inl w0)]) dd_Quarter_settleHour_74 rfl rfl rfl (Nat.le_of_ble_eq_true rfl) rfl rfl ?_
      refine R_inc (y := v5 + 1) (ls' := [some (.inr (.inr q)), some (.inl v1), some (.inl v2), some (.inl (zor v3 0)), some (.inl (zor v4 (zshl 1 v5))), some (.inl (v5 + 1)), some (.inl w0)]) dd_Quarter_settleHour_76 rfl (by decide) (by omega) (by omega) rfl rfl ?_
      refine R_goto dd_Quarter_settleHour_79 rfl ?_
      exact k
  · replace k := k.2 c1
    refine R_ic dd_Quarter_settleHour_46 (by decide) rfl ?_
    refine R_ld (v := .inl v5) dd_Quarter_settleHour_47 rfl rfl rfl rfl ?_
    refine R_A dd_Quarter_settleHour_49 rfl rfl rfl rfl ?_
    refine R_goto dd_Quarter_settleHour_50 rfl ?_
    refine R_A dd_Quarter_settleHour_54 rfl rfl rfl rfl ?_
    refine R_st (ls' := [some (.inr (.inr q)), some (.inl v1), some (.inl v2), some (.inl (zor v3 (zshl 1 v5))), some (.inl v4), some (.inl v5), some (.inl w0)]) dd_Quarter_settleHour_55 rfl rfl rfl (Nat.le_of_ble_eq_true rfl) rfl rfl ?_
    refine R_ld (v := .inl v4) dd_Quarter_settleHour_56 rfl rfl rfl rfl ?_
    refine R_ld (v := .inl w0) dd_Quarter_settleHour_58 rfl rfl rfl rfl ?_
    refine R_ic dd_Quarter_settleHour_60 (by decide) rfl ?_
    refine R_A dd_Quarter_settleHour_61 rfl rfl rfl rfl ?_
    refine R_if dd_Quarter_settleHour_62 rfl rfl (fun (c3 : (zand w0 2) = 0) => ?_) (fun (c3 : (zand w0 2) ≠ 0) => ?_)
    · replace k := k.1 c3
      refine R_ic dd_Quarter_settleHour_72 (by decide) rfl ?_
      refine R_A dd_Quarter_settleHour_73 rfl rfl rfl rfl ?_
      refine R_st (ls' := [some (.inr (.inr q)), some (.inl v1), some (.inl v2), some (.inl (zor v3 (zshl 1 v5))), some (.inl (zor v4 0)), some (.inl v5), some (.inl w0)]) dd_Quarter_settleHour_74 rfl rfl rfl (Nat.le_of_ble_eq_true rfl) rfl rfl ?_
      refine R_inc (y := v5 + 1) (ls' := [some (.inr (.inr q)), some (.inl v1), some (.inl v2), some (.inl (zor v3 (zshl 1 v5))), some (.inl (zor v4 0)), some (.inl (v5 + 1)), some (.inl w0)]) dd_Quarter_settleHour_76 rfl (by decide) (by omega) (by omega) rfl rfl ?_
      refine R_goto dd_Quarter_settleHour_79 rfl ?_
      exact k
    · replace k := k.2 c3
      refine R_ic dd_Quarter_settleHour_65 (by decide) rfl ?_
      refine R_ld (v := .inl v5) dd_Quarter_settleHour_66 rfl rfl rfl rfl ?_
      refine R_A dd_Quarter_settleHour_68 rfl rfl rfl rfl ?_
      refine R_goto dd_Quarter_settleHour_69 rfl ?_
      refine R_A dd_Quarter_settleHour_73 rfl rfl rfl rfl ?_
      refine R_st (ls' := [some (.inr (.inr q)), some (.inl v1), some (.inl v2), some (.inl (zor v3 (zshl 1 v5))), some (.inl (zor v4 (zshl 1 v5))), some (.inl v5), some (.inl w0)]) dd_Quarter_settleHour_74 rfl rfl rfl (Nat.le_of_ble_eq_true rfl) rfl rfl ?_
      refine R_inc (y := v5 + 1) (ls' := [some (.inr (.inr q)), some (.inl v1), some (.inl v2), some (.inl (zor v3 (zshl 1 v5))), some (.inl (zor v4 (zshl 1 v5))), some (.inl (v5 + 1)), some (.inl w0)]) dd_Quarter_settleHour_76 rfl (by decide) (by omega) (by omega) rfl rfl ?_
      refine R_goto dd_Quarter_settleHour_79 rfl ?_
      exact k
theorem B_Quarter_settleHour_82 {xs : Nat → Int} {xl e : Nat} {h : LH} {Q : Option LV → LH → Prop} {v1 v2 v3 v4 v5 : Int} {q : Int} (hq : q = 5 ∨ q = 32) {o6 : Option LV} (hF : RF h) (r_v1 : 0 ≤ v1 ∧ v1 ≤ 3) (r_v2 : 0 ≤ v2 ∧ v2 ≤ 23)
    (k : Q none (wr (wr h (q + 5) (24 * v1 + v2) v3) (q + 6) (24 * v1 + v2) v4)) :
    Rn xs xl e mm_Quarter_settleHour 82 [some (.inr (.inr q)), some (.inl v1), some (.inl v2), some (.inl v3), some (.inl v4), some (.inl v5), o6] [] h Q := by
  refine R_ld (v := .inr (.inr q)) dd_Quarter_settleHour_82 rfl rfl rfl rfl ?_
  refine R_gf (v := .inr (.inr (q + 5))) dd_Quarter_settleHour_83 fd_6_34 (io_q hq) (congrArg (fun z : Int => (Sum.inr (Sum.inr z) : LV)) (rq_ahd hF hq)) rfl ?_
  refine R_ld (v := .inl v1) dd_Quarter_settleHour_86 rfl rfl rfl rfl ?_
  refine R_bi dd_Quarter_settleHour_87 (by decide) rfl ?_
  refine R_imul (c := 24 * v1) dd_Quarter_settleHour_89 (by omega) (by omega) rfl ?_
  refine R_ld (v := .inl v2) dd_Quarter_settleHour_90 rfl rfl rfl rfl ?_
  refine R_iadd (c := 24 * v1 + v2) dd_Quarter_settleHour_91 (by omega) (by omega) rfl ?_
  refine R_ld (v := .inl v3) dd_Quarter_settleHour_92 rfl rfl rfl rfl ?_
  refine R_iast (n := 96) dd_Quarter_settleHour_93 (ia_aq hq) (la_aq hq) (by omega) rfl ?_
  refine R_ld (v := .inr (.inr q)) dd_Quarter_settleHour_94 rfl rfl rfl rfl ?_
  refine R_gf (v := .inr (.inr (q + 6))) dd_Quarter_settleHour_95 fd_6_37 (io_q hq) (congrArg (fun z : Int => (Sum.inr (Sum.inr z) : LV)) ((rdw_ne (by omega)).trans (rq_bck hF hq))) rfl ?_
  refine R_ld (v := .inl v1) dd_Quarter_settleHour_98 rfl rfl rfl rfl ?_
  refine R_bi dd_Quarter_settleHour_99 (by decide) rfl ?_
  refine R_imul (c := 24 * v1) dd_Quarter_settleHour_101 (by omega) (by omega) rfl ?_
  refine R_ld (v := .inl v2) dd_Quarter_settleHour_102 rfl rfl rfl rfl ?_
  refine R_iadd (c := 24 * v1 + v2) dd_Quarter_settleHour_103 (by omega) (by omega) rfl ?_
  refine R_ld (v := .inl v4) dd_Quarter_settleHour_104 rfl rfl rfl rfl ?_
  refine R_iast (n := 96) dd_Quarter_settleHour_106 (ia_bq hq) (la_bq hq) (by omega) rfl ?_
  exact R_vret dd_Quarter_settleHour_107 rfl k
theorem B_Quarter_settle_0 {xs : Nat → Int} {xl e : Nat} {h : LH} {Q : Option LV → LH → Prop} {q : Int} (hq : q = 5 ∨ q = 32) (hF : RF h)
    (k : Rn xs xl e mm_Quarter_settle 2 [some (.inr (.inr q)), some (.inl 0), none] [] h Q) :
    Rn xs xl e mm_Quarter_settle 0 [some (.inr (.inr q)), none, none] [] h Q := by
  refine R_ic dd_Quarter_settle_0 (by decide) rfl ?_
  refine R_st (ls' := [some (.inr (.inr q)), some (.inl 0), none]) dd_Quarter_settle_1 rfl rfl rfl (Nat.le_of_ble_eq_true rfl) rfl rfl ?_
  exact k
theorem B_Quarter_settle_2 {xs : Nat → Int} {xl e : Nat} {h : LH} {Q : Option LV → LH → Prop} {v1 : Int} {q : Int} (hq : q = 5 ∨ q = 32) {o2 : Option LV} (hF : RF h)
    (k : (4 ≤ v1 →
        Q none h) ∧
      (v1 < 4 →
        Rn xs xl e mm_Quarter_settle 9 [some (.inr (.inr q)), some (.inl v1), some (.inl 0)] [] h Q)) :
    Rn xs xl e mm_Quarter_settle 2 [some (.inr (.inr q)), some (.inl v1), o2] [] h Q := by
  refine R_ld (v := .inl v1) dd_Quarter_settle_2 rfl rfl rfl rfl ?_
  refine R_ic dd_Quarter_settle_3 (by decide) rfl ?_
  refine R_icmp dd_Quarter_settle_4 rfl rfl (fun (c1 : 4 ≤ v1) => ?_) (fun (c1 : v1 < 4) => ?_)
  · replace k := k.1 c1
    exact R_vret dd_Quarter_settle_33 rfl k
  · replace k := k.2 c1
    refine R_ic dd_Quarter_settle_7 (by decide) rfl ?_
    refine R_st (ls' := [some (.inr (.inr q)), some (.inl v1), some (.inl 0)]) dd_Quarter_settle_8 rfl rfl rfl (Nat.le_of_ble_eq_true rfl) rfl rfl ?_
    exact k
theorem B_Quarter_settle_9 {xs : Nat → Int} {xl e : Nat} {h : LH} {Q : Option LV → LH → Prop} {v1 v2 : Int} {q : Int} (hq : q = 5 ∨ q = 32) (hF : RF h)
    (k : (24 ≤ v2 →
        Rn xs xl e mm_Quarter_settle 27 [some (.inr (.inr q)), some (.inl v1), some (.inl v2)] [] h Q) ∧
      (v2 < 24 →
        (∃ c, c < e ∧ Rn xs xl c mm_Quarter_settleHour 0 [some (.inr (.inr q)), some (.inl v1), some (.inl v2), none, none, none, none] [] h (fun r h' => Rn xs xl e mm_Quarter_settle 21 [some (.inr (.inr q)), some (.inl v1), some (.inl v2)] (r.toList ++ []) h' Q)))) :
    Rn xs xl e mm_Quarter_settle 9 [some (.inr (.inr q)), some (.inl v1), some (.inl v2)] [] h Q := by
  refine R_ld (v := .inl v2) dd_Quarter_settle_9 rfl rfl rfl rfl ?_
  refine R_bi dd_Quarter_settle_10 (by decide) rfl ?_
  refine R_icmp dd_Quarter_settle_12 rfl rfl (fun (c2 : 24 ≤ v2) => ?_) (fun (c2 : v2 < 24) => ?_)
  · replace k := k.1 c2
    exact k
  · replace k := k.2 c2
    refine R_ld (v := .inr (.inr q)) dd_Quarter_settle_15 rfl rfl rfl rfl ?_
    refine R_ld (v := .inl v1) dd_Quarter_settle_16 rfl rfl rfl rfl ?_
    refine R_ld (v := .inl v2) dd_Quarter_settle_17 rfl rfl rfl rfl ?_
    obtain ⟨c, hc, k⟩ := k
    exact R_call (as := [.inr (.inr q), .inl v1, .inl v2]) (rest := []) (M' := mm_Quarter_settleHour) (ls0 := [some (.inr (.inr q)), some (.inl v1), some (.inl v2), none, none, none, none]) dd_Quarter_settle_18 rfl rfl (cw_v cw_6_56 (io_q hq) rfl rfl (Nat.le_of_ble_eq_true rfl) (Nat.le_of_ble_eq_true rfl)) mt_Quarter_settleHour rfl hc rfl k
theorem B_Quarter_settle_21 {xs : Nat → Int} {xl e : Nat} {h : LH} {Q : Option LV → LH → Prop} {v1 v2 : Int} {q : Int} (hq : q = 5 ∨ q = 32) (hF : RF h) (r_v2 : 0 ≤ v2 ∧ v2 ≤ 23)
    (k : Rn xs xl e mm_Quarter_settle 9 [some (.inr (.inr q)), some (.inl v1), some (.inl (v2 + 1))] [] h Q) :
    Rn xs xl e mm_Quarter_settle 21 [some (.inr (.inr q)), some (.inl v1), some (.inl v2)] [] h Q := by
  refine R_inc (y := v2 + 1) (ls' := [some (.inr (.inr q)), some (.inl v1), some (.inl (v2 + 1))]) dd_Quarter_settle_21 rfl (by decide) (by omega) (by omega) rfl rfl ?_
  refine R_goto dd_Quarter_settle_24 rfl ?_
  exact k
theorem B_Quarter_settle_27 {xs : Nat → Int} {xl e : Nat} {h : LH} {Q : Option LV → LH → Prop} {v1 v2 : Int} {q : Int} (hq : q = 5 ∨ q = 32) (hF : RF h) (r_v1 : 0 ≤ v1 ∧ v1 ≤ 3)
    (k : Rn xs xl e mm_Quarter_settle 2 [some (.inr (.inr q)), some (.inl (v1 + 1)), some (.inl v2)] [] h Q) :
    Rn xs xl e mm_Quarter_settle 27 [some (.inr (.inr q)), some (.inl v1), some (.inl v2)] [] h Q := by
  refine R_inc (y := v1 + 1) (ls' := [some (.inr (.inr q)), some (.inl (v1 + 1)), some (.inl v2)]) dd_Quarter_settle_27 rfl (by decide) (by omega) (by omega) rfl rfl ?_
  refine R_goto dd_Quarter_settle_30 rfl ?_
  exact k
theorem B_Quarter_aheadIn_0 {xs : Nat → Int} {xl e : Nat} {h : LH} {Q : Option LV → LH → Prop} {v1 v2 v3 : Int} {q : Int} (hq : q = 5 ∨ q = 32) (hF : RF h) (r_v1 : 0 ≤ v1 ∧ v1 ≤ 3) (r_v2 : 0 ≤ v2 ∧ v2 ≤ 25)
    (k : (24 ≤ v2 →
        Q (some (.inl 0)) h) ∧
      (v2 < 24 →
        (0 ≤ 24 * v1 + v2 ∧ 24 * v1 + v2 < 96) ∧
        Q (some (.inl (zand (rd h (q + 5) (24 * v1 + v2)) (zxor v3 (-1))))) h)) :
    Rn xs xl e mm_Quarter_aheadIn 0 [some (.inr (.inr q)), some (.inl v1), some (.inl v2), some (.inl v3)] [] h Q := by
  refine R_ld (v := .inl v2) dd_Quarter_aheadIn_0 rfl rfl rfl rfl ?_
  refine R_bi dd_Quarter_aheadIn_1 (by decide) rfl ?_
  refine R_icmp dd_Quarter_aheadIn_3 rfl rfl (fun (c2 : 24 ≤ v2) => ?_) (fun (c2 : v2 < 24) => ?_)
  · replace k := k.1 c2
    refine R_ic dd_Quarter_aheadIn_24 (by decide) rfl ?_
    exact R_iret dd_Quarter_aheadIn_25 rfl k
  · replace k := k.2 c2
    refine R_ld (v := .inr (.inr q)) dd_Quarter_aheadIn_6 rfl rfl rfl rfl ?_
    refine R_gf (v := .inr (.inr (q + 5))) dd_Quarter_aheadIn_7 fd_6_34 (io_q hq) (congrArg (fun z : Int => (Sum.inr (Sum.inr z) : LV)) (rq_ahd hF hq)) rfl ?_
    refine R_ld (v := .inl v1) dd_Quarter_aheadIn_10 rfl rfl rfl rfl ?_
    refine R_bi dd_Quarter_aheadIn_11 (by decide) rfl ?_
    refine R_imul (c := 24 * v1) dd_Quarter_aheadIn_13 (by omega) (by omega) rfl ?_
    refine R_ld (v := .inl v2) dd_Quarter_aheadIn_14 rfl rfl rfl rfl ?_
    refine R_iadd (c := 24 * v1 + v2) dd_Quarter_aheadIn_15 (by omega) (by omega) rfl ?_
    obtain ⟨s1, k⟩ := k
    refine R_iald (v := (rd h (q + 5) (24 * v1 + v2))) (n := 96) dd_Quarter_aheadIn_16 (ia_aq hq) (la_aq hq) s1 (rfl) rfl ?_
    refine R_ld (v := .inl v3) dd_Quarter_aheadIn_17 rfl rfl rfl rfl ?_
    refine R_ic dd_Quarter_aheadIn_18 (by decide) rfl ?_
    refine R_A dd_Quarter_aheadIn_19 rfl rfl rfl rfl ?_
    refine R_A dd_Quarter_aheadIn_20 rfl rfl rfl rfl ?_
    refine R_goto dd_Quarter_aheadIn_21 rfl ?_
    exact R_iret dd_Quarter_aheadIn_25 rfl k
theorem B_Quarter_backIn_0 {xs : Nat → Int} {xl e : Nat} {h : LH} {Q : Option LV → LH → Prop} {v1 v2 v3 : Int} {q : Int} (hq : q = 5 ∨ q = 32) (hF : RF h) (r_v1 : 0 ≤ v1 ∧ v1 ≤ 3) (r_v2 : 0 ≤ v2 ∧ v2 ≤ 25)
    (k : (24 ≤ v2 →
        Q (some (.inl 0)) h) ∧
      (v2 < 24 →
        (0 ≤ 24 * v1 + v2 ∧ 24 * v1 + v2 < 96) ∧
        Q (some (.inl (zand (rd h (q + 6) (24 * v1 + v2)) (zxor v3 (-1))))) h)) :
    Rn xs xl e mm_Quarter_backIn 0 [some (.inr (.inr q)), some (.inl v1), some (.inl v2), some (.inl v3)] [] h Q := by
  refine R_ld (v := .inl v2) dd_Quarter_backIn_0 rfl rfl rfl rfl ?_
  refine R_bi dd_Quarter_backIn_1 (by decide) rfl ?_
  refine R_icmp dd_Quarter_backIn_3 rfl rfl (fun (c2 : 24 ≤ v2) => ?_) (fun (c2 : v2 < 24) => ?_)
  · replace k := k.1 c2
    refine R_ic dd_Quarter_backIn_24 (by decide) rfl ?_
    exact R_iret dd_Quarter_backIn_25 rfl k
  · replace k := k.2 c2
    refine R_ld (v := .inr (.inr q)) dd_Quarter_backIn_6 rfl rfl rfl rfl ?_
    refine R_gf (v := .inr (.inr (q + 6))) dd_Quarter_backIn_7 fd_6_37 (io_q hq) (congrArg (fun z : Int => (Sum.inr (Sum.inr z) : LV)) (rq_bck hF hq)) rfl ?_
    refine R_ld (v := .inl v1) dd_Quarter_backIn_10 rfl rfl rfl rfl ?_
    refine R_bi dd_Quarter_backIn_11 (by decide) rfl ?_
    refine R_imul (c := 24 * v1) dd_Quarter_backIn_13 (by omega) (by omega) rfl ?_
    refine R_ld (v := .inl v2) dd_Quarter_backIn_14 rfl rfl rfl rfl ?_
    refine R_iadd (c := 24 * v1 + v2) dd_Quarter_backIn_15 (by omega) (by omega) rfl ?_
    obtain ⟨s1, k⟩ := k
    refine R_iald (v := (rd h (q + 6) (24 * v1 + v2))) (n := 96) dd_Quarter_backIn_16 (ia_bq hq) (la_bq hq) s1 (rfl) rfl ?_
    refine R_ld (v := .inl v3) dd_Quarter_backIn_17 rfl rfl rfl rfl ?_
    refine R_ic dd_Quarter_backIn_18 (by decide) rfl ?_
    refine R_A dd_Quarter_backIn_19 rfl rfl rfl rfl ?_
    refine R_A dd_Quarter_backIn_20 rfl rfl rfl rfl ?_
    refine R_goto dd_Quarter_backIn_21 rfl ?_
    exact R_iret dd_Quarter_backIn_25 rfl k
theorem B_Quarter_into_0 {xs : Nat → Int} {xl e : Nat} {h : LH} {Q : Option LV → LH → Prop} {v1 v2 v3 v4 v5 : Int} {q : Int} (hq : q = 5 ∨ q = 32) (hF : RF h) (hP : PT h) (r_v1 : 0 ≤ v1 ∧ v1 ≤ 13)
    (k : ((rd h (q + 7 + v1) 2) ≠ v3 →
        Rn xs xl e mm_Quarter_into 39 [some (.inr (.inr q)), some (.inl v1), some (.inl v2), some (.inl v3), some (.inl v4), some (.inl v5), some (.inr (.inr (q + 7 + v1)))] [] h Q) ∧
      ((rd h (q + 7 + v1) 2) = v3 →
        (∃ c, c < e ∧ Rn xs xl c mm_Quarter_aheadIn 0 [some (.inr (.inr q)), some (.inl v2), some (.inl v4), some (.inl v5)] [] h (fun r h' => Rn xs xl e mm_Quarter_into 26 [some (.inr (.inr q)), some (.inl v1), some (.inl v2), some (.inl v3), some (.inl v4), some (.inl v5), some (.inr (.inr (q + 7 + v1)))] (r.toList ++ []) h' Q)))) :
    Rn xs xl e mm_Quarter_into 0 [some (.inr (.inr q)), some (.inl v1), some (.inl v2), some (.inl v3), some (.inl v4), some (.inl v5), none] [] h Q := by
  refine R_ld (v := .inr (.inr q)) dd_Quarter_into_0 rfl rfl rfl rfl ?_
  refine R_gf (v := .inr (.inr (q + 1))) dd_Quarter_into_1 fd_6_17 (io_q hq) (congrArg (fun z : Int => (Sum.inr (Sum.inr z) : LV)) (rq_arr hF hq)) rfl ?_
  refine R_ld (v := .inl v1) dd_Quarter_into_4 rfl rfl rfl rfl ?_
  refine R_aald (v := (q + 7 + v1)) (n := 14) dd_Quarter_into_5 (ia_dq hq) (la_dq hq) (by omega) (rq_d hP hq (by omega)) rfl ?_
  refine R_st (ls' := [some (.inr (.inr q)), some (.inl v1), some (.inl v2), some (.inl v3), some (.inl v4), some (.inl v5), some (.inr (.inr (q + 7 + v1)))]) dd_Quarter_into_6 rfl rfl rfl (Nat.le_of_ble_eq_true rfl) rfl rfl ?_
  refine R_ld (v := .inr (.inr (q + 7 + v1))) dd_Quarter_into_8 rfl rfl rfl rfl ?_
  refine R_gf (v := .inl (rd h (q + 7 + v1) 2)) dd_Quarter_into_10 fd_6_77 (io_d hq (by omega)) (congrArg (fun z : Int => (Sum.inl z : LV)) (rfl)) rfl ?_
  refine R_ld (v := .inl v3) dd_Quarter_into_13 rfl rfl rfl rfl ?_
  refine R_icmp dd_Quarter_into_14 rfl rfl (fun (c2 : (rd h (q + 7 + v1) 2) ≠ v3) => ?_) (fun (c2 : (rd h (q + 7 + v1) 2) = v3) => ?_)
  · replace k := k.1 c2
    exact k
  · replace k := k.2 c2
    refine R_ld (v := .inr (.inr q)) dd_Quarter_into_17 rfl rfl rfl rfl ?_
    refine R_ld (v := .inl v2) dd_Quarter_into_18 rfl rfl rfl rfl ?_
    refine R_ld (v := .inl v4) dd_Quarter_into_19 rfl rfl rfl rfl ?_
    refine R_ld (v := .inl v5) dd_Quarter_into_21 rfl rfl rfl rfl ?_
    obtain ⟨c, hc, k⟩ := k
    exact R_call (as := [.inr (.inr q), .inl v2, .inl v4, .inl v5]) (rest := []) (M' := mm_Quarter_aheadIn) (ls0 := [some (.inr (.inr q)), some (.inl v2), some (.inl v4), some (.inl v5)]) dd_Quarter_into_23 rfl rfl (cw_v cw_6_101 (io_q hq) rfl rfl (Nat.le_of_ble_eq_true rfl) (Nat.le_of_ble_eq_true rfl)) mt_Quarter_aheadIn rfl hc rfl k
theorem B_Quarter_into_26 {xs : Nat → Int} {xl e : Nat} {h : LH} {Q : Option LV → LH → Prop} {v1 v2 v3 v4 v5 w0 : Int} {q : Int} (hq : q = 5 ∨ q = 32) (hF : RF h) (r_v1 : 0 ≤ v1 ∧ v1 ≤ 13)
    (k : ((zand (zshr w0 v1) 1) = 0 →
        Rn xs xl e mm_Quarter_into 39 [some (.inr (.inr q)), some (.inl v1), some (.inl v2), some (.inl v3), some (.inl v4), some (.inl v5), some (.inr (.inr (q + 7 + v1)))] [] h Q) ∧
      ((zand (zshr w0 v1) 1) ≠ 0 →
        Q (some (.inl (rd h (q + 7 + v1) 3))) h)) :
    Rn xs xl e mm_Quarter_into 26 [some (.inr (.inr q)), some (.inl v1), some (.inl v2), some (.inl v3), some (.inl v4), some (.inl v5), some (.inr (.inr (q + 7 + v1)))] [.inl w0] h Q := by
  refine R_ld (v := .inl v1) dd_Quarter_into_26 rfl rfl rfl rfl ?_
  refine R_A dd_Quarter_into_27 rfl rfl rfl rfl ?_
  refine R_ic dd_Quarter_into_28 (by decide) rfl ?_
  refine R_A dd_Quarter_into_29 rfl rfl rfl rfl ?_
  refine R_if dd_Quarter_into_30 rfl rfl (fun (c1 : (zand (zshr w0 v1) 1) = 0) => ?_) (fun (c1 : (zand (zshr w0 v1) 1) ≠ 0) => ?_)
  · replace k := k.1 c1
    exact k
  · replace k := k.2 c1
    refine R_ld (v := .inr (.inr (q + 7 + v1))) dd_Quarter_into_33 rfl rfl rfl rfl ?_
    refine R_gf (v := .inl (rd h (q + 7 + v1) 3)) dd_Quarter_into_35 fd_6_70 (io_d hq (by omega)) (congrArg (fun z : Int => (Sum.inl z : LV)) (rfl)) rfl ?_
    exact R_iret dd_Quarter_into_38 rfl k
theorem B_Quarter_into_39 {xs : Nat → Int} {xl e : Nat} {h : LH} {Q : Option LV → LH → Prop} {v1 v2 v3 v4 v5 : Int} {q : Int} (hq : q = 5 ∨ q = 32) (hF : RF h) (r_v1 : 0 ≤ v1 ∧ v1 ≤ 13)
    (k : ((rd h (q + 7 + v1) 3) ≠ v3 →
        Q (some (.inl (-1))) h) ∧
      ((rd h (q + 7 + v1) 3) = v3 →
        (∃ c, c < e ∧ Rn xs xl c mm_Quarter_backIn 0 [some (.inr (.inr q)), some (.inl v2), some (.inl v4), some (.inl v5)] [] h (fun r h' => Rn xs xl e mm_Quarter_into 57 [some (.inr (.inr q)), some (.inl v1), some (.inl v2), some (.inl v3), some (.inl v4), some (.inl v5), some (.inr (.inr (q + 7 + v1)))] (r.toList ++ []) h' Q)))) :
    Rn xs xl e mm_Quarter_into 39 [some (.inr (.inr q)), some (.inl v1), some (.inl v2), some (.inl v3), some (.inl v4), some (.inl v5), some (.inr (.inr (q + 7 + v1)))] [] h Q := by
  refine R_ld (v := .inr (.inr (q + 7 + v1))) dd_Quarter_into_39 rfl rfl rfl rfl ?_
  refine R_gf (v := .inl (rd h (q + 7 + v1) 3)) dd_Quarter_into_41 fd_6_70 (io_d hq (by omega)) (congrArg (fun z : Int => (Sum.inl z : LV)) (rfl)) rfl ?_
  refine R_ld (v := .inl v3) dd_Quarter_into_44 rfl rfl rfl rfl ?_
  refine R_icmp dd_Quarter_into_45 rfl rfl (fun (c2 : (rd h (q + 7 + v1) 3) ≠ v3) => ?_) (fun (c2 : (rd h (q + 7 + v1) 3) = v3) => ?_)
  · replace k := k.1 c2
    refine R_ic dd_Quarter_into_70 (by decide) rfl ?_
    exact R_iret dd_Quarter_into_71 rfl k
  · replace k := k.2 c2
    refine R_ld (v := .inr (.inr q)) dd_Quarter_into_48 rfl rfl rfl rfl ?_
    refine R_ld (v := .inl v2) dd_Quarter_into_49 rfl rfl rfl rfl ?_
    refine R_ld (v := .inl v4) dd_Quarter_into_50 rfl rfl rfl rfl ?_
    refine R_ld (v := .inl v5) dd_Quarter_into_52 rfl rfl rfl rfl ?_
    obtain ⟨c, hc, k⟩ := k
    exact R_call (as := [.inr (.inr q), .inl v2, .inl v4, .inl v5]) (rest := []) (M' := mm_Quarter_backIn) (ls0 := [some (.inr (.inr q)), some (.inl v2), some (.inl v4), some (.inl v5)]) dd_Quarter_into_54 rfl rfl (cw_v cw_6_104 (io_q hq) rfl rfl (Nat.le_of_ble_eq_true rfl) (Nat.le_of_ble_eq_true rfl)) mt_Quarter_backIn rfl hc rfl k
theorem B_Quarter_into_57 {xs : Nat → Int} {xl e : Nat} {h : LH} {Q : Option LV → LH → Prop} {v1 v2 v3 v4 v5 w0 : Int} {q : Int} (hq : q = 5 ∨ q = 32) (hF : RF h) (r_v1 : 0 ≤ v1 ∧ v1 ≤ 13)
    (k : ((zand (zshr w0 v1) 1) = 0 →
        Q (some (.inl (-1))) h) ∧
      ((zand (zshr w0 v1) 1) ≠ 0 →
        Q (some (.inl (rd h (q + 7 + v1) 2))) h)) :
    Rn xs xl e mm_Quarter_into 57 [some (.inr (.inr q)), some (.inl v1), some (.inl v2), some (.inl v3), some (.inl v4), some (.inl v5), some (.inr (.inr (q + 7 + v1)))] [.inl w0] h Q := by
  refine R_ld (v := .inl v1) dd_Quarter_into_57 rfl rfl rfl rfl ?_
  refine R_A dd_Quarter_into_58 rfl rfl rfl rfl ?_
  refine R_ic dd_Quarter_into_59 (by decide) rfl ?_
  refine R_A dd_Quarter_into_60 rfl rfl rfl rfl ?_
  refine R_if dd_Quarter_into_61 rfl rfl (fun (c1 : (zand (zshr w0 v1) 1) = 0) => ?_) (fun (c1 : (zand (zshr w0 v1) 1) ≠ 0) => ?_)
  · replace k := k.1 c1
    refine R_ic dd_Quarter_into_70 (by decide) rfl ?_
    exact R_iret dd_Quarter_into_71 rfl k
  · replace k := k.2 c1
    refine R_ld (v := .inr (.inr (q + 7 + v1))) dd_Quarter_into_64 rfl rfl rfl rfl ?_
    refine R_gf (v := .inl (rd h (q + 7 + v1) 2)) dd_Quarter_into_66 fd_6_77 (io_d hq (by omega)) (congrArg (fun z : Int => (Sum.inl z : LV)) (rfl)) rfl ?_
    exact R_iret dd_Quarter_into_69 rfl k
