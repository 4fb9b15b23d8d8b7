section
/-! LM, by program (wip/p2/hand.py): rows of the class: crowd -/
def mm_java_util_Arrays_fill : LM_M := (⟨"java/util/Arrays", "fill", "([II)V"⟩, prog_21_method_103_code, 4, none, 16, 2, 1, 733, 732, 0)
def mm_Crowd_visit : LM_M := (⟨"OneSided$Crowd", "visit", "(III)V"⟩, prog_2_method_4_code, 4, none, 0, 4, 0, 999, 998, 1000040)
def mm_Crowd_goForward : LM_M := (⟨"OneSided$Crowd", "goForward", "(LOneSided$Quarter;II)V"⟩, prog_2_method_5_code, 8, none, 0, 4, 0, 1003, 1002, 1000041)
def mm_Quarter_into : LM_M := (⟨"OneSided$Quarter", "into", "(IIIII)I"⟩, prog_8_method_15_code, 7, (some .int), 6, 6, 0, 792, 790, 791)
def mm_Crowd_goBack : LM_M := (⟨"OneSided$Crowd", "goBack", "(LOneSided$Quarter;II)V"⟩, prog_2_method_6_code, 9, none, 0, 4, 0, 1008, 1007, 1000042)
def mm_Crowd_findPath : LM_M := (⟨"OneSided$Crowd", "findPath", "(LOneSided$Quarter;III)Z"⟩, prog_2_method_3_code, 6, (some .boolean), 0, 5, 0, 995, 994, 1000039)
def mm_Crowd_narrowest : LM_M := (⟨"OneSided$Crowd", "narrowest", "(LOneSided$Quarter;II)I"⟩, prog_2_method_7_code, 11, (some .int), 0, 4, 0, 1012, 1011, 1000043)
def mm_Crowd_send : LM_M := (⟨"OneSided$Crowd", "send", "(III)V"⟩, prog_2_method_8_code, 10, none, 0, 4, 0, 1018, 1017, 1000044)
def mm_Crowd_most : LM_M := (⟨"OneSided$Crowd", "most", "(LOneSided$Quarter;LOneSided$Scene;III)I"⟩, prog_2_method_2_code, 10, (some .int), 0, 6, 0, 990, 988, 989)
theorem dd_java_util_Arrays_fill_0 : decode mm_java_util_Arrays_fill.2.1 0 = .ok (.iconst 0, 1) := by decide +kernel
theorem dd_java_util_Arrays_fill_1 : decode mm_java_util_Arrays_fill.2.1 1 = .ok (.istore_n 2, 1) := by decide +kernel
theorem dd_java_util_Arrays_fill_2 : decode mm_java_util_Arrays_fill.2.1 2 = .ok (.aload_n 0, 1) := by decide +kernel
theorem dd_java_util_Arrays_fill_3 : decode mm_java_util_Arrays_fill.2.1 3 = .ok (.arraylength, 1) := by decide +kernel
theorem ia_87 : isA NC 87 1 = true := by decide +kernel
theorem la_87 : (lay (87 : Int).toNat).2.2 = 250 := by decide +kernel
theorem dd_java_util_Arrays_fill_4 : decode mm_java_util_Arrays_fill.2.1 4 = .ok (.istore_n 3, 1) := by decide +kernel
theorem dd_java_util_Arrays_fill_5 : decode mm_java_util_Arrays_fill.2.1 5 = .ok (.iload_n 2, 1) := by decide +kernel
theorem dd_java_util_Arrays_fill_6 : decode mm_java_util_Arrays_fill.2.1 6 = .ok (.iload_n 3, 1) := by decide +kernel
theorem dd_java_util_Arrays_fill_7 : decode mm_java_util_Arrays_fill.2.1 7 = .ok (.if_icmp .ge (13), 3) := by decide +kernel
theorem dd_java_util_Arrays_fill_20 : decode mm_java_util_Arrays_fill.2.1 20 = .ok (.return_, 1) := by decide +kernel
theorem dd_java_util_Arrays_fill_10 : decode mm_java_util_Arrays_fill.2.1 10 = .ok (.aload_n 0, 1) := by decide +kernel
theorem dd_java_util_Arrays_fill_11 : decode mm_java_util_Arrays_fill.2.1 11 = .ok (.iload_n 2, 1) := by decide +kernel
theorem dd_java_util_Arrays_fill_12 : decode mm_java_util_Arrays_fill.2.1 12 = .ok (.iload_n 1, 1) := by decide +kernel
theorem dd_java_util_Arrays_fill_13 : decode mm_java_util_Arrays_fill.2.1 13 = .ok (.iastore, 1) := by decide +kernel
theorem dd_java_util_Arrays_fill_14 : decode mm_java_util_Arrays_fill.2.1 14 = .ok (.iinc 2 1, 3) := by decide +kernel
theorem dd_java_util_Arrays_fill_17 : decode mm_java_util_Arrays_fill.2.1 17 = .ok (.goto (-12), 3) := by decide +kernel
theorem dd_Crowd_visit_0 : decode mm_Crowd_visit.2.1 0 = .ok (.aload_n 0, 1) := by decide +kernel
theorem dd_Crowd_visit_1 : decode mm_Crowd_visit.2.1 1 = .ok (.getfield 18, 3) := by decide +kernel
theorem fd_0_18 : fld 0 18 = some (0, 2) := by decide +kernel
theorem rf_84_2 {h : LH} (hF : RF h) : rd h 84 2 = 87 := hF 84 2 87 (by decide +kernel) (by decide +kernel)
theorem io_84 : isO NC 84 0 = true := by decide +kernel
theorem dd_Crowd_visit_4 : decode mm_Crowd_visit.2.1 4 = .ok (.iload_n 1, 1) := by decide +kernel
theorem dd_Crowd_visit_5 : decode mm_Crowd_visit.2.1 5 = .ok (.iaload, 1) := by decide +kernel
theorem dd_Crowd_visit_6 : decode mm_Crowd_visit.2.1 6 = .ok (.iconst (-1), 1) := by decide +kernel
theorem dd_Crowd_visit_7 : decode mm_Crowd_visit.2.1 7 = .ok (.if_icmp .ne (47), 3) := by decide +kernel
theorem dd_Crowd_visit_54 : decode mm_Crowd_visit.2.1 54 = .ok (.return_, 1) := by decide +kernel
theorem dd_Crowd_visit_10 : decode mm_Crowd_visit.2.1 10 = .ok (.aload_n 0, 1) := by decide +kernel
theorem dd_Crowd_visit_11 : decode mm_Crowd_visit.2.1 11 = .ok (.getfield 60, 3) := by decide +kernel
theorem fd_0_60 : fld 0 60 = some (0, 5) := by decide +kernel
theorem dd_Crowd_visit_14 : decode mm_Crowd_visit.2.1 14 = .ok (.sipush 250, 3) := by decide +kernel
theorem dd_Crowd_visit_17 : decode mm_Crowd_visit.2.1 17 = .ok (.if_icmp .ge (37), 3) := by decide +kernel
theorem dd_Crowd_visit_20 : decode mm_Crowd_visit.2.1 20 = .ok (.aload_n 0, 1) := by decide +kernel
theorem dd_Crowd_visit_21 : decode mm_Crowd_visit.2.1 21 = .ok (.getfield 18, 3) := by decide +kernel
theorem dd_Crowd_visit_24 : decode mm_Crowd_visit.2.1 24 = .ok (.iload_n 1, 1) := by decide +kernel
theorem dd_Crowd_visit_25 : decode mm_Crowd_visit.2.1 25 = .ok (.iload_n 2, 1) := by decide +kernel
theorem dd_Crowd_visit_26 : decode mm_Crowd_visit.2.1 26 = .ok (.iastore, 1) := by decide +kernel
theorem dd_Crowd_visit_27 : decode mm_Crowd_visit.2.1 27 = .ok (.aload_n 0, 1) := by decide +kernel
theorem dd_Crowd_visit_28 : decode mm_Crowd_visit.2.1 28 = .ok (.getfield 21, 3) := by decide +kernel
theorem fd_0_21 : fld 0 21 = some (0, 3) := by decide +kernel
theorem rf_84_3 {h : LH} (hF : RF h) : rd h 84 3 = 88 := hF 84 3 88 (by decide +kernel) (by decide +kernel)
theorem dd_Crowd_visit_31 : decode mm_Crowd_visit.2.1 31 = .ok (.iload_n 1, 1) := by decide +kernel
theorem dd_Crowd_visit_32 : decode mm_Crowd_visit.2.1 32 = .ok (.iload_n 3, 1) := by decide +kernel
theorem dd_Crowd_visit_33 : decode mm_Crowd_visit.2.1 33 = .ok (.iastore, 1) := by decide +kernel
theorem ia_88 : isA NC 88 1 = true := by decide +kernel
theorem la_88 : (lay (88 : Int).toNat).2.2 = 250 := by decide +kernel
theorem dd_Crowd_visit_34 : decode mm_Crowd_visit.2.1 34 = .ok (.aload_n 0, 1) := by decide +kernel
theorem dd_Crowd_visit_35 : decode mm_Crowd_visit.2.1 35 = .ok (.getfield 24, 3) := by decide +kernel
theorem fd_0_24 : fld 0 24 = some (0, 4) := by decide +kernel
theorem rf_84_4 {h : LH} (hF : RF h) : rd h 84 4 = 89 := hF 84 4 89 (by decide +kernel) (by decide +kernel)
theorem dd_Crowd_visit_38 : decode mm_Crowd_visit.2.1 38 = .ok (.aload_n 0, 1) := by decide +kernel
theorem dd_Crowd_visit_39 : decode mm_Crowd_visit.2.1 39 = .ok (.getfield 60, 3) := by decide +kernel
theorem dd_Crowd_visit_42 : decode mm_Crowd_visit.2.1 42 = .ok (.iload_n 1, 1) := by decide +kernel
theorem dd_Crowd_visit_43 : decode mm_Crowd_visit.2.1 43 = .ok (.iastore, 1) := by decide +kernel
theorem ia_89 : isA NC 89 1 = true := by decide +kernel
theorem la_89 : (lay (89 : Int).toNat).2.2 = 250 := by decide +kernel
theorem dd_Crowd_visit_44 : decode mm_Crowd_visit.2.1 44 = .ok (.aload_n 0, 1) := by decide +kernel
theorem dd_Crowd_visit_45 : decode mm_Crowd_visit.2.1 45 = .ok (.dup, 1) := by decide +kernel
theorem dd_Crowd_visit_46 : decode mm_Crowd_visit.2.1 46 = .ok (.getfield 60, 3) := by decide +kernel
theorem dd_Crowd_visit_49 : decode mm_Crowd_visit.2.1 49 = .ok (.iconst 1, 1) := by decide +kernel
theorem dd_Crowd_visit_50 : decode mm_Crowd_visit.2.1 50 = .ok (.iadd, 1) := by decide +kernel
theorem dd_Crowd_visit_51 : decode mm_Crowd_visit.2.1 51 = .ok (.putfield 60, 3) := by decide +kernel
theorem fn_0_5 : fin 0 5 = false := by decide +kernel
theorem dd_Crowd_goForward_0 : decode mm_Crowd_goForward.2.1 0 = .ok (.iload_n 3, 1) := by decide +kernel
theorem dd_Crowd_goForward_1 : decode mm_Crowd_goForward.2.1 1 = .ok (.bipush 10, 2) := by decide +kernel
theorem dd_Crowd_goForward_3 : decode mm_Crowd_goForward.2.1 3 = .ok (.idiv, 1) := by decide +kernel
theorem dd_Crowd_goForward_4 : decode mm_Crowd_goForward.2.1 4 = .ok (.istore 4, 2) := by decide +kernel
theorem dd_Crowd_goForward_6 : decode mm_Crowd_goForward.2.1 6 = .ok (.iload_n 3, 1) := by decide +kernel
theorem dd_Crowd_goForward_7 : decode mm_Crowd_goForward.2.1 7 = .ok (.bipush 10, 2) := by decide +kernel
theorem dd_Crowd_goForward_9 : decode mm_Crowd_goForward.2.1 9 = .ok (.irem, 1) := by decide +kernel
theorem dd_Crowd_goForward_10 : decode mm_Crowd_goForward.2.1 10 = .ok (.istore 5, 2) := by decide +kernel
theorem dd_Crowd_goForward_12 : decode mm_Crowd_goForward.2.1 12 = .ok (.iload 4, 2) := by decide +kernel
theorem dd_Crowd_goForward_14 : decode mm_Crowd_goForward.2.1 14 = .ok (.aload_n 0, 1) := by decide +kernel
theorem dd_Crowd_goForward_15 : decode mm_Crowd_goForward.2.1 15 = .ok (.getfield 36, 3) := by decide +kernel
theorem fd_0_36 : fld 0 36 = some (0, 7) := by decide +kernel
theorem dd_Crowd_goForward_18 : decode mm_Crowd_goForward.2.1 18 = .ok (.if_icmp .lt (4), 3) := by decide +kernel
theorem dd_Crowd_goForward_22 : decode mm_Crowd_goForward.2.1 22 = .ok (.iconst 0, 1) := by decide +kernel
theorem dd_Crowd_goForward_23 : decode mm_Crowd_goForward.2.1 23 = .ok (.istore 6, 2) := by decide +kernel
theorem dd_Crowd_goForward_21 : decode mm_Crowd_goForward.2.1 21 = .ok (.return_, 1) := by decide +kernel
theorem dd_Crowd_goForward_25 : decode mm_Crowd_goForward.2.1 25 = .ok (.iload 6, 2) := by decide +kernel
theorem dd_Crowd_goForward_27 : decode mm_Crowd_goForward.2.1 27 = .ok (.aload_n 1, 1) := by decide +kernel
theorem dd_Crowd_goForward_28 : decode mm_Crowd_goForward.2.1 28 = .ok (.getfield 73, 3) := by decide +kernel
theorem fd_0_73 : fld 0 73 = some (6, 2) := by decide +kernel
theorem dd_Crowd_goForward_31 : decode mm_Crowd_goForward.2.1 31 = .ok (.if_icmp .ge (77), 3) := by decide +kernel
theorem dd_Crowd_goForward_108 : decode mm_Crowd_goForward.2.1 108 = .ok (.aload_n 0, 1) := by decide +kernel
theorem dd_Crowd_goForward_109 : decode mm_Crowd_goForward.2.1 109 = .ok (.iload_n 3, 1) := by decide +kernel
theorem dd_Crowd_goForward_110 : decode mm_Crowd_goForward.2.1 110 = .ok (.bipush 10, 2) := by decide +kernel
theorem dd_Crowd_goForward_112 : decode mm_Crowd_goForward.2.1 112 = .ok (.iadd, 1) := by decide +kernel
theorem dd_Crowd_goForward_113 : decode mm_Crowd_goForward.2.1 113 = .ok (.iload_n 3, 1) := by decide +kernel
theorem dd_Crowd_goForward_114 : decode mm_Crowd_goForward.2.1 114 = .ok (.iconst (-1), 1) := by decide +kernel
theorem dd_Crowd_goForward_115 : decode mm_Crowd_goForward.2.1 115 = .ok (.invokevirtual 63, 3) := by decide +kernel
theorem cw_0_63 : cwOk 0 63 0 113 4 4 0 = true := by decide +kernel
theorem mt_Crowd_visit : MTB 113 = some mm_Crowd_visit := rfl
theorem dd_Crowd_goForward_34 : decode mm_Crowd_goForward.2.1 34 = .ok (.aload_n 1, 1) := by decide +kernel
theorem dd_Crowd_goForward_35 : decode mm_Crowd_goForward.2.1 35 = .ok (.iload 6, 2) := by decide +kernel
theorem dd_Crowd_goForward_37 : decode mm_Crowd_goForward.2.1 37 = .ok (.iconst 0, 1) := by decide +kernel
theorem dd_Crowd_goForward_38 : decode mm_Crowd_goForward.2.1 38 = .ok (.iload 5, 2) := by decide +kernel
theorem dd_Crowd_goForward_40 : decode mm_Crowd_goForward.2.1 40 = .ok (.aload_n 0, 1) := by decide +kernel
theorem dd_Crowd_goForward_41 : decode mm_Crowd_goForward.2.1 41 = .ok (.getfield 33, 3) := by decide +kernel
theorem fd_0_33 : fld 0 33 = some (0, 6) := by decide +kernel
theorem dd_Crowd_goForward_44 : decode mm_Crowd_goForward.2.1 44 = .ok (.iload 4, 2) := by decide +kernel
theorem dd_Crowd_goForward_46 : decode mm_Crowd_goForward.2.1 46 = .ok (.iadd, 1) := by decide +kernel
theorem dd_Crowd_goForward_47 : decode mm_Crowd_goForward.2.1 47 = .ok (.iload_n 2, 1) := by decide +kernel
theorem dd_Crowd_goForward_48 : decode mm_Crowd_goForward.2.1 48 = .ok (.invokevirtual 78, 3) := by decide +kernel
theorem cw_0_78 : cwOk 0 78 0 67 6 7 6 = true := by decide +kernel
theorem mt_Quarter_into : MTB 67 = some mm_Quarter_into := rfl
theorem dd_Crowd_goForward_51 : decode mm_Crowd_goForward.2.1 51 = .ok (.istore 7, 2) := by decide +kernel
theorem dd_Crowd_goForward_53 : decode mm_Crowd_goForward.2.1 53 = .ok (.iload 7, 2) := by decide +kernel
theorem dd_Crowd_goForward_55 : decode mm_Crowd_goForward.2.1 55 = .ok (.iconst (-1), 1) := by decide +kernel
theorem dd_Crowd_goForward_56 : decode mm_Crowd_goForward.2.1 56 = .ok (.if_icmp .eq (46), 3) := by decide +kernel
theorem dd_Crowd_goForward_59 : decode mm_Crowd_goForward.2.1 59 = .ok (.aload_n 0, 1) := by decide +kernel
theorem dd_Crowd_goForward_60 : decode mm_Crowd_goForward.2.1 60 = .ok (.getfield 9, 3) := by decide +kernel
theorem fd_0_9 : fld 0 9 = some (0, 0) := by decide +kernel
theorem rf_84_0 {h : LH} (hF : RF h) : rd h 84 0 = 85 := hF 84 0 85 (by decide +kernel) (by decide +kernel)
theorem dd_Crowd_goForward_63 : decode mm_Crowd_goForward.2.1 63 = .ok (.iload 4, 2) := by decide +kernel
theorem dd_Crowd_goForward_65 : decode mm_Crowd_goForward.2.1 65 = .ok (.bipush 14, 2) := by decide +kernel
theorem dd_Crowd_goForward_67 : decode mm_Crowd_goForward.2.1 67 = .ok (.imul, 1) := by decide +kernel
theorem dd_Crowd_goForward_68 : decode mm_Crowd_goForward.2.1 68 = .ok (.iload 6, 2) := by decide +kernel
theorem dd_Crowd_goForward_70 : decode mm_Crowd_goForward.2.1 70 = .ok (.iadd, 1) := by decide +kernel
theorem dd_Crowd_goForward_71 : decode mm_Crowd_goForward.2.1 71 = .ok (.iaload, 1) := by decide +kernel
theorem ia_85 : isA NC 85 1 = true := by decide +kernel
theorem la_85 : (lay (85 : Int).toNat).2.2 = 336 := by decide +kernel
theorem dd_Crowd_goForward_72 : decode mm_Crowd_goForward.2.1 72 = .ok (.aload_n 1, 1) := by decide +kernel
theorem dd_Crowd_goForward_73 : decode mm_Crowd_goForward.2.1 73 = .ok (.getfield 82, 3) := by decide +kernel
theorem fd_0_82 : fld 0 82 = some (6, 1) := by decide +kernel
theorem dd_Crowd_goForward_76 : decode mm_Crowd_goForward.2.1 76 = .ok (.iload 6, 2) := by decide +kernel
theorem dd_Crowd_goForward_78 : decode mm_Crowd_goForward.2.1 78 = .ok (.aaload, 1) := by decide +kernel
theorem dd_Crowd_goForward_79 : decode mm_Crowd_goForward.2.1 79 = .ok (.getfield 86, 3) := by decide +kernel
theorem fd_0_86 : fld 0 86 = some (1, 7) := by decide +kernel
theorem dd_Crowd_goForward_82 : decode mm_Crowd_goForward.2.1 82 = .ok (.if_icmp .ge (20), 3) := by decide +kernel
theorem dd_Crowd_goForward_85 : decode mm_Crowd_goForward.2.1 85 = .ok (.aload_n 0, 1) := by decide +kernel
theorem dd_Crowd_goForward_86 : decode mm_Crowd_goForward.2.1 86 = .ok (.iload 4, 2) := by decide +kernel
theorem dd_Crowd_goForward_88 : decode mm_Crowd_goForward.2.1 88 = .ok (.iconst 1, 1) := by decide +kernel
theorem dd_Crowd_goForward_89 : decode mm_Crowd_goForward.2.1 89 = .ok (.iadd, 1) := by decide +kernel
theorem dd_Crowd_goForward_90 : decode mm_Crowd_goForward.2.1 90 = .ok (.bipush 10, 2) := by decide +kernel
theorem dd_Crowd_goForward_92 : decode mm_Crowd_goForward.2.1 92 = .ok (.imul, 1) := by decide +kernel
theorem dd_Crowd_goForward_93 : decode mm_Crowd_goForward.2.1 93 = .ok (.iload 7, 2) := by decide +kernel
theorem dd_Crowd_goForward_95 : decode mm_Crowd_goForward.2.1 95 = .ok (.iadd, 1) := by decide +kernel
theorem dd_Crowd_goForward_96 : decode mm_Crowd_goForward.2.1 96 = .ok (.iload_n 3, 1) := by decide +kernel
theorem dd_Crowd_goForward_97 : decode mm_Crowd_goForward.2.1 97 = .ok (.iload 6, 2) := by decide +kernel
theorem dd_Crowd_goForward_99 : decode mm_Crowd_goForward.2.1 99 = .ok (.invokevirtual 63, 3) := by decide +kernel
theorem dd_Crowd_goForward_102 : decode mm_Crowd_goForward.2.1 102 = .ok (.iinc 6 1, 3) := by decide +kernel
theorem dd_Crowd_goForward_105 : decode mm_Crowd_goForward.2.1 105 = .ok (.goto (-80), 3) := by decide +kernel
theorem dd_Crowd_goForward_118 : decode mm_Crowd_goForward.2.1 118 = .ok (.return_, 1) := by decide +kernel
theorem dd_Crowd_goBack_0 : decode mm_Crowd_goBack.2.1 0 = .ok (.iload_n 3, 1) := by decide +kernel
theorem dd_Crowd_goBack_1 : decode mm_Crowd_goBack.2.1 1 = .ok (.bipush 10, 2) := by decide +kernel
theorem dd_Crowd_goBack_3 : decode mm_Crowd_goBack.2.1 3 = .ok (.idiv, 1) := by decide +kernel
theorem dd_Crowd_goBack_4 : decode mm_Crowd_goBack.2.1 4 = .ok (.iconst 1, 1) := by decide +kernel
theorem dd_Crowd_goBack_5 : decode mm_Crowd_goBack.2.1 5 = .ok (.isub, 1) := by decide +kernel
theorem dd_Crowd_goBack_6 : decode mm_Crowd_goBack.2.1 6 = .ok (.istore 4, 2) := by decide +kernel
theorem dd_Crowd_goBack_8 : decode mm_Crowd_goBack.2.1 8 = .ok (.iload_n 3, 1) := by decide +kernel
theorem dd_Crowd_goBack_9 : decode mm_Crowd_goBack.2.1 9 = .ok (.bipush 10, 2) := by decide +kernel
theorem dd_Crowd_goBack_11 : decode mm_Crowd_goBack.2.1 11 = .ok (.irem, 1) := by decide +kernel
theorem dd_Crowd_goBack_12 : decode mm_Crowd_goBack.2.1 12 = .ok (.istore 5, 2) := by decide +kernel
theorem dd_Crowd_goBack_14 : decode mm_Crowd_goBack.2.1 14 = .ok (.iload 4, 2) := by decide +kernel
theorem dd_Crowd_goBack_16 : decode mm_Crowd_goBack.2.1 16 = .ok (.ifCond .ge (4), 3) := by decide +kernel
theorem dd_Crowd_goBack_20 : decode mm_Crowd_goBack.2.1 20 = .ok (.iconst 0, 1) := by decide +kernel
theorem dd_Crowd_goBack_21 : decode mm_Crowd_goBack.2.1 21 = .ok (.istore 6, 2) := by decide +kernel
theorem dd_Crowd_goBack_19 : decode mm_Crowd_goBack.2.1 19 = .ok (.return_, 1) := by decide +kernel
theorem dd_Crowd_goBack_23 : decode mm_Crowd_goBack.2.1 23 = .ok (.iload 6, 2) := by decide +kernel
theorem dd_Crowd_goBack_25 : decode mm_Crowd_goBack.2.1 25 = .ok (.aload_n 1, 1) := by decide +kernel
theorem dd_Crowd_goBack_26 : decode mm_Crowd_goBack.2.1 26 = .ok (.getfield 73, 3) := by decide +kernel
theorem dd_Crowd_goBack_29 : decode mm_Crowd_goBack.2.1 29 = .ok (.if_icmp .ge (99), 3) := by decide +kernel
theorem dd_Crowd_goBack_32 : decode mm_Crowd_goBack.2.1 32 = .ok (.aload_n 0, 1) := by decide +kernel
theorem dd_Crowd_goBack_33 : decode mm_Crowd_goBack.2.1 33 = .ok (.getfield 9, 3) := by decide +kernel
theorem dd_Crowd_goBack_36 : decode mm_Crowd_goBack.2.1 36 = .ok (.iload 4, 2) := by decide +kernel
theorem dd_Crowd_goBack_38 : decode mm_Crowd_goBack.2.1 38 = .ok (.bipush 14, 2) := by decide +kernel
theorem dd_Crowd_goBack_40 : decode mm_Crowd_goBack.2.1 40 = .ok (.imul, 1) := by decide +kernel
theorem dd_Crowd_goBack_41 : decode mm_Crowd_goBack.2.1 41 = .ok (.iload 6, 2) := by decide +kernel
theorem dd_Crowd_goBack_43 : decode mm_Crowd_goBack.2.1 43 = .ok (.iadd, 1) := by decide +kernel
theorem dd_Crowd_goBack_44 : decode mm_Crowd_goBack.2.1 44 = .ok (.iaload, 1) := by decide +kernel
theorem dd_Crowd_goBack_45 : decode mm_Crowd_goBack.2.1 45 = .ok (.ifCond .gt (6), 3) := by decide +kernel
theorem dd_Crowd_goBack_51 : decode mm_Crowd_goBack.2.1 51 = .ok (.aload_n 1, 1) := by decide +kernel
theorem dd_Crowd_goBack_52 : decode mm_Crowd_goBack.2.1 52 = .ok (.getfield 82, 3) := by decide +kernel
theorem dd_Crowd_goBack_55 : decode mm_Crowd_goBack.2.1 55 = .ok (.iload 6, 2) := by decide +kernel
theorem dd_Crowd_goBack_57 : decode mm_Crowd_goBack.2.1 57 = .ok (.aaload, 1) := by decide +kernel
theorem dd_Crowd_goBack_58 : decode mm_Crowd_goBack.2.1 58 = .ok (.astore 7, 2) := by decide +kernel
theorem dd_Crowd_goBack_60 : decode mm_Crowd_goBack.2.1 60 = .ok (.aload 7, 2) := by decide +kernel
theorem dd_Crowd_goBack_62 : decode mm_Crowd_goBack.2.1 62 = .ok (.getfield 91, 3) := by decide +kernel
theorem fd_0_91 : fld 0 91 = some (1, 2) := by decide +kernel
theorem dd_Crowd_goBack_65 : decode mm_Crowd_goBack.2.1 65 = .ok (.iload 5, 2) := by decide +kernel
theorem dd_Crowd_goBack_67 : decode mm_Crowd_goBack.2.1 67 = .ok (.if_icmp .ne (11), 3) := by decide +kernel
theorem dd_Crowd_goBack_78 : decode mm_Crowd_goBack.2.1 78 = .ok (.aload 7, 2) := by decide +kernel
theorem dd_Crowd_goBack_80 : decode mm_Crowd_goBack.2.1 80 = .ok (.getfield 91, 3) := by decide +kernel
theorem dd_Crowd_goBack_83 : decode mm_Crowd_goBack.2.1 83 = .ok (.istore 8, 2) := by decide +kernel
theorem dd_Crowd_goBack_70 : decode mm_Crowd_goBack.2.1 70 = .ok (.aload 7, 2) := by decide +kernel
theorem dd_Crowd_goBack_72 : decode mm_Crowd_goBack.2.1 72 = .ok (.getfield 94, 3) := by decide +kernel
theorem fd_0_94 : fld 0 94 = some (1, 3) := by decide +kernel
theorem dd_Crowd_goBack_75 : decode mm_Crowd_goBack.2.1 75 = .ok (.goto 8, 3) := by decide +kernel
theorem dd_Crowd_goBack_48 : decode mm_Crowd_goBack.2.1 48 = .ok (.goto 74, 3) := by decide +kernel
theorem dd_Crowd_goBack_85 : decode mm_Crowd_goBack.2.1 85 = .ok (.aload_n 1, 1) := by decide +kernel
theorem dd_Crowd_goBack_86 : decode mm_Crowd_goBack.2.1 86 = .ok (.iload 6, 2) := by decide +kernel
theorem dd_Crowd_goBack_88 : decode mm_Crowd_goBack.2.1 88 = .ok (.iconst 0, 1) := by decide +kernel
theorem dd_Crowd_goBack_89 : decode mm_Crowd_goBack.2.1 89 = .ok (.iload 8, 2) := by decide +kernel
theorem dd_Crowd_goBack_91 : decode mm_Crowd_goBack.2.1 91 = .ok (.aload_n 0, 1) := by decide +kernel
theorem dd_Crowd_goBack_92 : decode mm_Crowd_goBack.2.1 92 = .ok (.getfield 33, 3) := by decide +kernel
theorem dd_Crowd_goBack_95 : decode mm_Crowd_goBack.2.1 95 = .ok (.iload 4, 2) := by decide +kernel
theorem dd_Crowd_goBack_97 : decode mm_Crowd_goBack.2.1 97 = .ok (.iadd, 1) := by decide +kernel
theorem dd_Crowd_goBack_98 : decode mm_Crowd_goBack.2.1 98 = .ok (.iload_n 2, 1) := by decide +kernel
theorem dd_Crowd_goBack_99 : decode mm_Crowd_goBack.2.1 99 = .ok (.invokevirtual 78, 3) := by decide +kernel
theorem dd_Crowd_goBack_102 : decode mm_Crowd_goBack.2.1 102 = .ok (.iload 5, 2) := by decide +kernel
theorem dd_Crowd_goBack_104 : decode mm_Crowd_goBack.2.1 104 = .ok (.if_icmp .ne (18), 3) := by decide +kernel
theorem dd_Crowd_goBack_107 : decode mm_Crowd_goBack.2.1 107 = .ok (.aload_n 0, 1) := by decide +kernel
theorem dd_Crowd_goBack_108 : decode mm_Crowd_goBack.2.1 108 = .ok (.iload 4, 2) := by decide +kernel
theorem dd_Crowd_goBack_110 : decode mm_Crowd_goBack.2.1 110 = .ok (.bipush 10, 2) := by decide +kernel
theorem dd_Crowd_goBack_112 : decode mm_Crowd_goBack.2.1 112 = .ok (.imul, 1) := by decide +kernel
theorem dd_Crowd_goBack_113 : decode mm_Crowd_goBack.2.1 113 = .ok (.iload 8, 2) := by decide +kernel
theorem dd_Crowd_goBack_115 : decode mm_Crowd_goBack.2.1 115 = .ok (.iadd, 1) := by decide +kernel
theorem dd_Crowd_goBack_116 : decode mm_Crowd_goBack.2.1 116 = .ok (.iload_n 3, 1) := by decide +kernel
theorem dd_Crowd_goBack_117 : decode mm_Crowd_goBack.2.1 117 = .ok (.iload 6, 2) := by decide +kernel
theorem dd_Crowd_goBack_119 : decode mm_Crowd_goBack.2.1 119 = .ok (.invokevirtual 63, 3) := by decide +kernel
theorem dd_Crowd_goBack_122 : decode mm_Crowd_goBack.2.1 122 = .ok (.iinc 6 1, 3) := by decide +kernel
theorem dd_Crowd_goBack_125 : decode mm_Crowd_goBack.2.1 125 = .ok (.goto (-102), 3) := by decide +kernel
theorem dd_Crowd_goBack_128 : decode mm_Crowd_goBack.2.1 128 = .ok (.aload_n 0, 1) := by decide +kernel
theorem dd_Crowd_goBack_129 : decode mm_Crowd_goBack.2.1 129 = .ok (.getfield 15, 3) := by decide +kernel
theorem fd_0_15 : fld 0 15 = some (0, 1) := by decide +kernel
theorem rf_84_1 {h : LH} (hF : RF h) : rd h 84 1 = 86 := hF 84 1 86 (by decide +kernel) (by decide +kernel)
theorem dd_Crowd_goBack_132 : decode mm_Crowd_goBack.2.1 132 = .ok (.iload 4, 2) := by decide +kernel
theorem dd_Crowd_goBack_134 : decode mm_Crowd_goBack.2.1 134 = .ok (.bipush 10, 2) := by decide +kernel
theorem dd_Crowd_goBack_136 : decode mm_Crowd_goBack.2.1 136 = .ok (.imul, 1) := by decide +kernel
theorem dd_Crowd_goBack_137 : decode mm_Crowd_goBack.2.1 137 = .ok (.iload 5, 2) := by decide +kernel
theorem dd_Crowd_goBack_139 : decode mm_Crowd_goBack.2.1 139 = .ok (.iadd, 1) := by decide +kernel
theorem dd_Crowd_goBack_140 : decode mm_Crowd_goBack.2.1 140 = .ok (.iaload, 1) := by decide +kernel
theorem ia_86 : isA NC 86 1 = true := by decide +kernel
theorem la_86 : (lay (86 : Int).toNat).2.2 = 240 := by decide +kernel
theorem dd_Crowd_goBack_141 : decode mm_Crowd_goBack.2.1 141 = .ok (.ifCond .le (13), 3) := by decide +kernel
theorem dd_Crowd_goBack_154 : decode mm_Crowd_goBack.2.1 154 = .ok (.return_, 1) := by decide +kernel
theorem dd_Crowd_goBack_144 : decode mm_Crowd_goBack.2.1 144 = .ok (.aload_n 0, 1) := by decide +kernel
theorem dd_Crowd_goBack_145 : decode mm_Crowd_goBack.2.1 145 = .ok (.iload_n 3, 1) := by decide +kernel
theorem dd_Crowd_goBack_146 : decode mm_Crowd_goBack.2.1 146 = .ok (.bipush 10, 2) := by decide +kernel
theorem dd_Crowd_goBack_148 : decode mm_Crowd_goBack.2.1 148 = .ok (.isub, 1) := by decide +kernel
theorem dd_Crowd_goBack_149 : decode mm_Crowd_goBack.2.1 149 = .ok (.iload_n 3, 1) := by decide +kernel
theorem dd_Crowd_goBack_150 : decode mm_Crowd_goBack.2.1 150 = .ok (.iconst (-1), 1) := by decide +kernel
theorem dd_Crowd_goBack_151 : decode mm_Crowd_goBack.2.1 151 = .ok (.invokevirtual 63, 3) := by decide +kernel
theorem dd_Crowd_findPath_0 : decode mm_Crowd_findPath.2.1 0 = .ok (.aload_n 0, 1) := by decide +kernel
theorem dd_Crowd_findPath_1 : decode mm_Crowd_findPath.2.1 1 = .ok (.getfield 18, 3) := by decide +kernel
theorem dd_Crowd_findPath_4 : decode mm_Crowd_findPath.2.1 4 = .ok (.iconst (-1), 1) := by decide +kernel
theorem dd_Crowd_findPath_5 : decode mm_Crowd_findPath.2.1 5 = .ok (.invokestatic 39, 3) := by decide +kernel
theorem cw_0_39 : cwOk 0 39 1 53 2 4 16 = true := by decide +kernel
theorem mt_java_util_Arrays_fill : MTB 53 = some mm_java_util_Arrays_fill := rfl
theorem dd_Crowd_findPath_8 : decode mm_Crowd_findPath.2.1 8 = .ok (.aload_n 0, 1) := by decide +kernel
theorem dd_Crowd_findPath_9 : decode mm_Crowd_findPath.2.1 9 = .ok (.iconst 0, 1) := by decide +kernel
theorem dd_Crowd_findPath_10 : decode mm_Crowd_findPath.2.1 10 = .ok (.putfield 60, 3) := by decide +kernel
theorem dd_Crowd_findPath_13 : decode mm_Crowd_findPath.2.1 13 = .ok (.aload_n 0, 1) := by decide +kernel
theorem dd_Crowd_findPath_14 : decode mm_Crowd_findPath.2.1 14 = .ok (.iload_n 3, 1) := by decide +kernel
theorem dd_Crowd_findPath_15 : decode mm_Crowd_findPath.2.1 15 = .ok (.iload_n 3, 1) := by decide +kernel
theorem dd_Crowd_findPath_16 : decode mm_Crowd_findPath.2.1 16 = .ok (.iconst (-1), 1) := by decide +kernel
theorem dd_Crowd_findPath_17 : decode mm_Crowd_findPath.2.1 17 = .ok (.invokevirtual 63, 3) := by decide +kernel
theorem dd_Crowd_findPath_20 : decode mm_Crowd_findPath.2.1 20 = .ok (.iconst 0, 1) := by decide +kernel
theorem dd_Crowd_findPath_21 : decode mm_Crowd_findPath.2.1 21 = .ok (.istore 5, 2) := by decide +kernel
theorem dd_Crowd_findPath_23 : decode mm_Crowd_findPath.2.1 23 = .ok (.iload 5, 2) := by decide +kernel
theorem dd_Crowd_findPath_25 : decode mm_Crowd_findPath.2.1 25 = .ok (.aload_n 0, 1) := by decide +kernel
theorem dd_Crowd_findPath_26 : decode mm_Crowd_findPath.2.1 26 = .ok (.getfield 60, 3) := by decide +kernel
theorem dd_Crowd_findPath_29 : decode mm_Crowd_findPath.2.1 29 = .ok (.if_icmp .ge (46), 3) := by decide +kernel
theorem dd_Crowd_findPath_75 : decode mm_Crowd_findPath.2.1 75 = .ok (.aload_n 0, 1) := by decide +kernel
theorem dd_Crowd_findPath_76 : decode mm_Crowd_findPath.2.1 76 = .ok (.getfield 18, 3) := by decide +kernel
theorem dd_Crowd_findPath_79 : decode mm_Crowd_findPath.2.1 79 = .ok (.iload 4, 2) := by decide +kernel
theorem dd_Crowd_findPath_81 : decode mm_Crowd_findPath.2.1 81 = .ok (.iaload, 1) := by decide +kernel
theorem dd_Crowd_findPath_82 : decode mm_Crowd_findPath.2.1 82 = .ok (.iconst (-1), 1) := by decide +kernel
theorem dd_Crowd_findPath_83 : decode mm_Crowd_findPath.2.1 83 = .ok (.if_icmp .eq (7), 3) := by decide +kernel
theorem dd_Crowd_findPath_90 : decode mm_Crowd_findPath.2.1 90 = .ok (.iconst 0, 1) := by decide +kernel
theorem dd_Crowd_findPath_91 : decode mm_Crowd_findPath.2.1 91 = .ok (.ireturn, 1) := by decide +kernel
theorem dd_Crowd_findPath_86 : decode mm_Crowd_findPath.2.1 86 = .ok (.iconst 1, 1) := by decide +kernel
theorem dd_Crowd_findPath_87 : decode mm_Crowd_findPath.2.1 87 = .ok (.goto 4, 3) := by decide +kernel
theorem dd_Crowd_findPath_32 : decode mm_Crowd_findPath.2.1 32 = .ok (.aload_n 0, 1) := by decide +kernel
theorem dd_Crowd_findPath_33 : decode mm_Crowd_findPath.2.1 33 = .ok (.getfield 18, 3) := by decide +kernel
theorem dd_Crowd_findPath_36 : decode mm_Crowd_findPath.2.1 36 = .ok (.iload 4, 2) := by decide +kernel
theorem dd_Crowd_findPath_38 : decode mm_Crowd_findPath.2.1 38 = .ok (.iaload, 1) := by decide +kernel
theorem dd_Crowd_findPath_39 : decode mm_Crowd_findPath.2.1 39 = .ok (.iconst (-1), 1) := by decide +kernel
theorem dd_Crowd_findPath_40 : decode mm_Crowd_findPath.2.1 40 = .ok (.if_icmp .ne (35), 3) := by decide +kernel
theorem dd_Crowd_findPath_43 : decode mm_Crowd_findPath.2.1 43 = .ok (.aload_n 0, 1) := by decide +kernel
theorem dd_Crowd_findPath_44 : decode mm_Crowd_findPath.2.1 44 = .ok (.aload_n 1, 1) := by decide +kernel
theorem dd_Crowd_findPath_45 : decode mm_Crowd_findPath.2.1 45 = .ok (.iload_n 2, 1) := by decide +kernel
theorem dd_Crowd_findPath_46 : decode mm_Crowd_findPath.2.1 46 = .ok (.aload_n 0, 1) := by decide +kernel
theorem dd_Crowd_findPath_47 : decode mm_Crowd_findPath.2.1 47 = .ok (.getfield 24, 3) := by decide +kernel
theorem dd_Crowd_findPath_50 : decode mm_Crowd_findPath.2.1 50 = .ok (.iload 5, 2) := by decide +kernel
theorem dd_Crowd_findPath_52 : decode mm_Crowd_findPath.2.1 52 = .ok (.iaload, 1) := by decide +kernel
theorem dd_Crowd_findPath_53 : decode mm_Crowd_findPath.2.1 53 = .ok (.invokevirtual 66, 3) := by decide +kernel
theorem cw_0_66 : cwOk 0 66 0 114 4 8 0 = true := by decide +kernel
theorem mt_Crowd_goForward : MTB 114 = some mm_Crowd_goForward := rfl
theorem dd_Crowd_findPath_56 : decode mm_Crowd_findPath.2.1 56 = .ok (.aload_n 0, 1) := by decide +kernel
theorem dd_Crowd_findPath_57 : decode mm_Crowd_findPath.2.1 57 = .ok (.aload_n 1, 1) := by decide +kernel
theorem dd_Crowd_findPath_58 : decode mm_Crowd_findPath.2.1 58 = .ok (.iload_n 2, 1) := by decide +kernel
theorem dd_Crowd_findPath_59 : decode mm_Crowd_findPath.2.1 59 = .ok (.aload_n 0, 1) := by decide +kernel
theorem dd_Crowd_findPath_60 : decode mm_Crowd_findPath.2.1 60 = .ok (.getfield 24, 3) := by decide +kernel
theorem dd_Crowd_findPath_63 : decode mm_Crowd_findPath.2.1 63 = .ok (.iload 5, 2) := by decide +kernel
theorem dd_Crowd_findPath_65 : decode mm_Crowd_findPath.2.1 65 = .ok (.iaload, 1) := by decide +kernel
theorem dd_Crowd_findPath_66 : decode mm_Crowd_findPath.2.1 66 = .ok (.invokevirtual 70, 3) := by decide +kernel
theorem cw_0_70 : cwOk 0 70 0 115 4 9 0 = true := by decide +kernel
theorem mt_Crowd_goBack : MTB 115 = some mm_Crowd_goBack := rfl
theorem dd_Crowd_findPath_69 : decode mm_Crowd_findPath.2.1 69 = .ok (.iinc 5 1, 3) := by decide +kernel
theorem dd_Crowd_findPath_72 : decode mm_Crowd_findPath.2.1 72 = .ok (.goto (-49), 3) := by decide +kernel
theorem dd_Crowd_narrowest_0 : decode mm_Crowd_narrowest.2.1 0 = .ok (.ldc 97, 2) := by decide +kernel
theorem dd_Crowd_narrowest_2 : decode mm_Crowd_narrowest.2.1 2 = .ok (.istore 4, 2) := by decide +kernel
theorem dd_Crowd_narrowest_4 : decode mm_Crowd_narrowest.2.1 4 = .ok (.iload_n 3, 1) := by decide +kernel
theorem dd_Crowd_narrowest_5 : decode mm_Crowd_narrowest.2.1 5 = .ok (.istore 5, 2) := by decide +kernel
theorem dd_Crowd_narrowest_7 : decode mm_Crowd_narrowest.2.1 7 = .ok (.iconst 0, 1) := by decide +kernel
theorem dd_Crowd_narrowest_8 : decode mm_Crowd_narrowest.2.1 8 = .ok (.istore 6, 2) := by decide +kernel
theorem dd_Crowd_narrowest_10 : decode mm_Crowd_narrowest.2.1 10 = .ok (.iload 6, 2) := by decide +kernel
theorem dd_Crowd_narrowest_12 : decode mm_Crowd_narrowest.2.1 12 = .ok (.sipush 250, 3) := by decide +kernel
theorem dd_Crowd_narrowest_15 : decode mm_Crowd_narrowest.2.1 15 = .ok (.if_icmp .ge (126), 3) := by decide +kernel
theorem dd_Crowd_narrowest_141 : decode mm_Crowd_narrowest.2.1 141 = .ok (.iload 4, 2) := by decide +kernel
theorem dd_Crowd_narrowest_143 : decode mm_Crowd_narrowest.2.1 143 = .ok (.ireturn, 1) := by decide +kernel
theorem dd_Crowd_narrowest_18 : decode mm_Crowd_narrowest.2.1 18 = .ok (.iload 5, 2) := by decide +kernel
theorem dd_Crowd_narrowest_20 : decode mm_Crowd_narrowest.2.1 20 = .ok (.iload_n 2, 1) := by decide +kernel
theorem dd_Crowd_narrowest_21 : decode mm_Crowd_narrowest.2.1 21 = .ok (.if_icmp .eq (120), 3) := by decide +kernel
theorem dd_Crowd_narrowest_24 : decode mm_Crowd_narrowest.2.1 24 = .ok (.aload_n 0, 1) := by decide +kernel
theorem dd_Crowd_narrowest_25 : decode mm_Crowd_narrowest.2.1 25 = .ok (.getfield 18, 3) := by decide +kernel
theorem dd_Crowd_narrowest_28 : decode mm_Crowd_narrowest.2.1 28 = .ok (.iload 5, 2) := by decide +kernel
theorem dd_Crowd_narrowest_30 : decode mm_Crowd_narrowest.2.1 30 = .ok (.iaload, 1) := by decide +kernel
theorem dd_Crowd_narrowest_31 : decode mm_Crowd_narrowest.2.1 31 = .ok (.istore 7, 2) := by decide +kernel
theorem dd_Crowd_narrowest_33 : decode mm_Crowd_narrowest.2.1 33 = .ok (.aload_n 0, 1) := by decide +kernel
theorem dd_Crowd_narrowest_34 : decode mm_Crowd_narrowest.2.1 34 = .ok (.getfield 21, 3) := by decide +kernel
theorem dd_Crowd_narrowest_37 : decode mm_Crowd_narrowest.2.1 37 = .ok (.iload 5, 2) := by decide +kernel
theorem dd_Crowd_narrowest_39 : decode mm_Crowd_narrowest.2.1 39 = .ok (.iaload, 1) := by decide +kernel
theorem dd_Crowd_narrowest_40 : decode mm_Crowd_narrowest.2.1 40 = .ok (.istore 8, 2) := by decide +kernel
theorem dd_Crowd_narrowest_42 : decode mm_Crowd_narrowest.2.1 42 = .ok (.iload 7, 2) := by decide +kernel
theorem dd_Crowd_narrowest_44 : decode mm_Crowd_narrowest.2.1 44 = .ok (.iload 5, 2) := by decide +kernel
theorem dd_Crowd_narrowest_46 : decode mm_Crowd_narrowest.2.1 46 = .ok (.invokestatic 98, 3) := by decide +kernel
theorem dd_Crowd_narrowest_49 : decode mm_Crowd_narrowest.2.1 49 = .ok (.bipush 10, 2) := by decide +kernel
theorem dd_Crowd_narrowest_51 : decode mm_Crowd_narrowest.2.1 51 = .ok (.idiv, 1) := by decide +kernel
theorem dd_Crowd_narrowest_52 : decode mm_Crowd_narrowest.2.1 52 = .ok (.istore 9, 2) := by decide +kernel
theorem dd_Crowd_narrowest_54 : decode mm_Crowd_narrowest.2.1 54 = .ok (.iload 8, 2) := by decide +kernel
theorem dd_Crowd_narrowest_56 : decode mm_Crowd_narrowest.2.1 56 = .ok (.iconst (-1), 1) := by decide +kernel
theorem dd_Crowd_narrowest_57 : decode mm_Crowd_narrowest.2.1 57 = .ok (.if_icmp .eq (53), 3) := by decide +kernel
theorem dd_Crowd_narrowest_110 : decode mm_Crowd_narrowest.2.1 110 = .ok (.iload 7, 2) := by decide +kernel
theorem dd_Crowd_narrowest_112 : decode mm_Crowd_narrowest.2.1 112 = .ok (.iload 5, 2) := by decide +kernel
theorem dd_Crowd_narrowest_114 : decode mm_Crowd_narrowest.2.1 114 = .ok (.if_icmp .le (17), 3) := by decide +kernel
theorem dd_Crowd_narrowest_117 : decode mm_Crowd_narrowest.2.1 117 = .ok (.iload 4, 2) := by decide +kernel
theorem dd_Crowd_narrowest_119 : decode mm_Crowd_narrowest.2.1 119 = .ok (.aload_n 0, 1) := by decide +kernel
theorem dd_Crowd_narrowest_120 : decode mm_Crowd_narrowest.2.1 120 = .ok (.getfield 15, 3) := by decide +kernel
theorem dd_Crowd_narrowest_123 : decode mm_Crowd_narrowest.2.1 123 = .ok (.iload 5, 2) := by decide +kernel
theorem dd_Crowd_narrowest_125 : decode mm_Crowd_narrowest.2.1 125 = .ok (.iaload, 1) := by decide +kernel
theorem dd_Crowd_narrowest_126 : decode mm_Crowd_narrowest.2.1 126 = .ok (.invokestatic 98, 3) := by decide +kernel
theorem dd_Crowd_narrowest_129 : decode mm_Crowd_narrowest.2.1 129 = .ok (.istore 4, 2) := by decide +kernel
theorem dd_Crowd_narrowest_60 : decode mm_Crowd_narrowest.2.1 60 = .ok (.aload_n 0, 1) := by decide +kernel
theorem dd_Crowd_narrowest_61 : decode mm_Crowd_narrowest.2.1 61 = .ok (.getfield 9, 3) := by decide +kernel
theorem dd_Crowd_narrowest_64 : decode mm_Crowd_narrowest.2.1 64 = .ok (.iload 9, 2) := by decide +kernel
theorem dd_Crowd_narrowest_66 : decode mm_Crowd_narrowest.2.1 66 = .ok (.bipush 14, 2) := by decide +kernel
theorem dd_Crowd_narrowest_68 : decode mm_Crowd_narrowest.2.1 68 = .ok (.imul, 1) := by decide +kernel
theorem dd_Crowd_narrowest_69 : decode mm_Crowd_narrowest.2.1 69 = .ok (.iload 8, 2) := by decide +kernel
theorem dd_Crowd_narrowest_71 : decode mm_Crowd_narrowest.2.1 71 = .ok (.iadd, 1) := by decide +kernel
theorem dd_Crowd_narrowest_72 : decode mm_Crowd_narrowest.2.1 72 = .ok (.iaload, 1) := by decide +kernel
theorem dd_Crowd_narrowest_73 : decode mm_Crowd_narrowest.2.1 73 = .ok (.istore 10, 2) := by decide +kernel
theorem dd_Crowd_narrowest_75 : decode mm_Crowd_narrowest.2.1 75 = .ok (.iload 4, 2) := by decide +kernel
theorem dd_Crowd_narrowest_77 : decode mm_Crowd_narrowest.2.1 77 = .ok (.iload 7, 2) := by decide +kernel
theorem dd_Crowd_narrowest_79 : decode mm_Crowd_narrowest.2.1 79 = .ok (.iload 5, 2) := by decide +kernel
theorem dd_Crowd_narrowest_81 : decode mm_Crowd_narrowest.2.1 81 = .ok (.if_icmp .ge (19), 3) := by decide +kernel
theorem dd_Crowd_narrowest_100 : decode mm_Crowd_narrowest.2.1 100 = .ok (.iload 10, 2) := by decide +kernel
theorem dd_Crowd_narrowest_102 : decode mm_Crowd_narrowest.2.1 102 = .ok (.invokestatic 98, 3) := by decide +kernel
theorem dd_Crowd_narrowest_105 : decode mm_Crowd_narrowest.2.1 105 = .ok (.istore 4, 2) := by decide +kernel
theorem dd_Crowd_narrowest_107 : decode mm_Crowd_narrowest.2.1 107 = .ok (.goto 24, 3) := by decide +kernel
theorem dd_Crowd_narrowest_84 : decode mm_Crowd_narrowest.2.1 84 = .ok (.aload_n 1, 1) := by decide +kernel
theorem dd_Crowd_narrowest_85 : decode mm_Crowd_narrowest.2.1 85 = .ok (.getfield 82, 3) := by decide +kernel
theorem dd_Crowd_narrowest_88 : decode mm_Crowd_narrowest.2.1 88 = .ok (.iload 8, 2) := by decide +kernel
theorem dd_Crowd_narrowest_90 : decode mm_Crowd_narrowest.2.1 90 = .ok (.aaload, 1) := by decide +kernel
theorem dd_Crowd_narrowest_91 : decode mm_Crowd_narrowest.2.1 91 = .ok (.getfield 86, 3) := by decide +kernel
theorem dd_Crowd_narrowest_94 : decode mm_Crowd_narrowest.2.1 94 = .ok (.iload 10, 2) := by decide +kernel
theorem dd_Crowd_narrowest_96 : decode mm_Crowd_narrowest.2.1 96 = .ok (.isub, 1) := by decide +kernel
theorem dd_Crowd_narrowest_97 : decode mm_Crowd_narrowest.2.1 97 = .ok (.goto 5, 3) := by decide +kernel
theorem dd_Crowd_narrowest_131 : decode mm_Crowd_narrowest.2.1 131 = .ok (.iload 7, 2) := by decide +kernel
theorem dd_Crowd_narrowest_133 : decode mm_Crowd_narrowest.2.1 133 = .ok (.istore 5, 2) := by decide +kernel
theorem dd_Crowd_narrowest_135 : decode mm_Crowd_narrowest.2.1 135 = .ok (.iinc 6 1, 3) := by decide +kernel
theorem dd_Crowd_narrowest_138 : decode mm_Crowd_narrowest.2.1 138 = .ok (.goto (-128), 3) := by decide +kernel
theorem dd_Crowd_send_0 : decode mm_Crowd_send.2.1 0 = .ok (.iload_n 2, 1) := by decide +kernel
theorem dd_Crowd_send_1 : decode mm_Crowd_send.2.1 1 = .ok (.istore 4, 2) := by decide +kernel
theorem dd_Crowd_send_3 : decode mm_Crowd_send.2.1 3 = .ok (.iconst 0, 1) := by decide +kernel
theorem dd_Crowd_send_4 : decode mm_Crowd_send.2.1 4 = .ok (.istore 5, 2) := by decide +kernel
theorem dd_Crowd_send_6 : decode mm_Crowd_send.2.1 6 = .ok (.iload 5, 2) := by decide +kernel
theorem dd_Crowd_send_8 : decode mm_Crowd_send.2.1 8 = .ok (.sipush 250, 3) := by decide +kernel
theorem dd_Crowd_send_11 : decode mm_Crowd_send.2.1 11 = .ok (.if_icmp .ge (103), 3) := by decide +kernel
theorem dd_Crowd_send_114 : decode mm_Crowd_send.2.1 114 = .ok (.return_, 1) := by decide +kernel
theorem dd_Crowd_send_14 : decode mm_Crowd_send.2.1 14 = .ok (.iload 4, 2) := by decide +kernel
theorem dd_Crowd_send_16 : decode mm_Crowd_send.2.1 16 = .ok (.iload_n 1, 1) := by decide +kernel
theorem dd_Crowd_send_17 : decode mm_Crowd_send.2.1 17 = .ok (.if_icmp .eq (97), 3) := by decide +kernel
theorem dd_Crowd_send_20 : decode mm_Crowd_send.2.1 20 = .ok (.aload_n 0, 1) := by decide +kernel
theorem dd_Crowd_send_21 : decode mm_Crowd_send.2.1 21 = .ok (.getfield 18, 3) := by decide +kernel
theorem dd_Crowd_send_24 : decode mm_Crowd_send.2.1 24 = .ok (.iload 4, 2) := by decide +kernel
theorem dd_Crowd_send_26 : decode mm_Crowd_send.2.1 26 = .ok (.iaload, 1) := by decide +kernel
theorem dd_Crowd_send_27 : decode mm_Crowd_send.2.1 27 = .ok (.istore 6, 2) := by decide +kernel
theorem dd_Crowd_send_29 : decode mm_Crowd_send.2.1 29 = .ok (.aload_n 0, 1) := by decide +kernel
theorem dd_Crowd_send_30 : decode mm_Crowd_send.2.1 30 = .ok (.getfield 21, 3) := by decide +kernel
theorem dd_Crowd_send_33 : decode mm_Crowd_send.2.1 33 = .ok (.iload 4, 2) := by decide +kernel
theorem dd_Crowd_send_35 : decode mm_Crowd_send.2.1 35 = .ok (.iaload, 1) := by decide +kernel
theorem dd_Crowd_send_36 : decode mm_Crowd_send.2.1 36 = .ok (.istore 7, 2) := by decide +kernel
theorem dd_Crowd_send_38 : decode mm_Crowd_send.2.1 38 = .ok (.iload 6, 2) := by decide +kernel
theorem dd_Crowd_send_40 : decode mm_Crowd_send.2.1 40 = .ok (.iload 4, 2) := by decide +kernel
theorem dd_Crowd_send_42 : decode mm_Crowd_send.2.1 42 = .ok (.invokestatic 98, 3) := by decide +kernel
theorem dd_Crowd_send_45 : decode mm_Crowd_send.2.1 45 = .ok (.istore 8, 2) := by decide +kernel
theorem dd_Crowd_send_47 : decode mm_Crowd_send.2.1 47 = .ok (.iload 6, 2) := by decide +kernel
theorem dd_Crowd_send_49 : decode mm_Crowd_send.2.1 49 = .ok (.iload 4, 2) := by decide +kernel
theorem dd_Crowd_send_51 : decode mm_Crowd_send.2.1 51 = .ok (.if_icmp .ge (7), 3) := by decide +kernel
theorem dd_Crowd_send_58 : decode mm_Crowd_send.2.1 58 = .ok (.iload_n 3, 1) := by decide +kernel
theorem dd_Crowd_send_59 : decode mm_Crowd_send.2.1 59 = .ok (.ineg, 1) := by decide +kernel
theorem dd_Crowd_send_60 : decode mm_Crowd_send.2.1 60 = .ok (.istore 9, 2) := by decide +kernel
theorem dd_Crowd_send_62 : decode mm_Crowd_send.2.1 62 = .ok (.iload 7, 2) := by decide +kernel
theorem dd_Crowd_send_64 : decode mm_Crowd_send.2.1 64 = .ok (.iconst (-1), 1) := by decide +kernel
theorem dd_Crowd_send_65 : decode mm_Crowd_send.2.1 65 = .ok (.if_icmp .ne (18), 3) := by decide +kernel
theorem dd_Crowd_send_83 : decode mm_Crowd_send.2.1 83 = .ok (.aload_n 0, 1) := by decide +kernel
theorem dd_Crowd_send_84 : decode mm_Crowd_send.2.1 84 = .ok (.getfield 9, 3) := by decide +kernel
theorem dd_Crowd_send_87 : decode mm_Crowd_send.2.1 87 = .ok (.iload 8, 2) := by decide +kernel
theorem dd_Crowd_send_89 : decode mm_Crowd_send.2.1 89 = .ok (.bipush 10, 2) := by decide +kernel
theorem dd_Crowd_send_91 : decode mm_Crowd_send.2.1 91 = .ok (.idiv, 1) := by decide +kernel
theorem dd_Crowd_send_92 : decode mm_Crowd_send.2.1 92 = .ok (.bipush 14, 2) := by decide +kernel
theorem dd_Crowd_send_94 : decode mm_Crowd_send.2.1 94 = .ok (.imul, 1) := by decide +kernel
theorem dd_Crowd_send_95 : decode mm_Crowd_send.2.1 95 = .ok (.iload 7, 2) := by decide +kernel
theorem dd_Crowd_send_97 : decode mm_Crowd_send.2.1 97 = .ok (.iadd, 1) := by decide +kernel
theorem dd_Crowd_send_98 : decode mm_Crowd_send.2.1 98 = .ok (.dup2, 1) := by decide +kernel
theorem dd_Crowd_send_99 : decode mm_Crowd_send.2.1 99 = .ok (.iaload, 1) := by decide +kernel
theorem dd_Crowd_send_100 : decode mm_Crowd_send.2.1 100 = .ok (.iload 9, 2) := by decide +kernel
theorem dd_Crowd_send_102 : decode mm_Crowd_send.2.1 102 = .ok (.iadd, 1) := by decide +kernel
theorem dd_Crowd_send_103 : decode mm_Crowd_send.2.1 103 = .ok (.iastore, 1) := by decide +kernel
theorem dd_Crowd_send_68 : decode mm_Crowd_send.2.1 68 = .ok (.aload_n 0, 1) := by decide +kernel
theorem dd_Crowd_send_69 : decode mm_Crowd_send.2.1 69 = .ok (.getfield 15, 3) := by decide +kernel
theorem dd_Crowd_send_72 : decode mm_Crowd_send.2.1 72 = .ok (.iload 8, 2) := by decide +kernel
theorem dd_Crowd_send_74 : decode mm_Crowd_send.2.1 74 = .ok (.dup2, 1) := by decide +kernel
theorem dd_Crowd_send_75 : decode mm_Crowd_send.2.1 75 = .ok (.iaload, 1) := by decide +kernel
theorem dd_Crowd_send_76 : decode mm_Crowd_send.2.1 76 = .ok (.iload 9, 2) := by decide +kernel
theorem dd_Crowd_send_78 : decode mm_Crowd_send.2.1 78 = .ok (.iadd, 1) := by decide +kernel
theorem dd_Crowd_send_79 : decode mm_Crowd_send.2.1 79 = .ok (.iastore, 1) := by decide +kernel
theorem dd_Crowd_send_80 : decode mm_Crowd_send.2.1 80 = .ok (.goto 24, 3) := by decide +kernel
theorem dd_Crowd_send_54 : decode mm_Crowd_send.2.1 54 = .ok (.iload_n 3, 1) := by decide +kernel
theorem dd_Crowd_send_55 : decode mm_Crowd_send.2.1 55 = .ok (.goto 5, 3) := by decide +kernel
theorem dd_Crowd_send_104 : decode mm_Crowd_send.2.1 104 = .ok (.iload 6, 2) := by decide +kernel
theorem dd_Crowd_send_106 : decode mm_Crowd_send.2.1 106 = .ok (.istore 4, 2) := by decide +kernel
theorem dd_Crowd_send_108 : decode mm_Crowd_send.2.1 108 = .ok (.iinc 5 1, 3) := by decide +kernel
theorem dd_Crowd_send_111 : decode mm_Crowd_send.2.1 111 = .ok (.goto (-105), 3) := by decide +kernel
theorem dd_Crowd_most_0 : decode mm_Crowd_most.2.1 0 = .ok (.aload_n 0, 1) := by decide +kernel
theorem dd_Crowd_most_1 : decode mm_Crowd_most.2.1 1 = .ok (.aload_n 2, 1) := by decide +kernel
theorem dd_Crowd_most_2 : decode mm_Crowd_most.2.1 2 = .ok (.getfield 27, 3) := by decide +kernel
theorem fd_0_27 : fld 0 27 = some (9, 0) := by decide +kernel
theorem io_60 : isO NC 60 9 = true := by decide +kernel
theorem dd_Crowd_most_5 : decode mm_Crowd_most.2.1 5 = .ok (.putfield 33, 3) := by decide +kernel
theorem fn_0_6 : fin 0 6 = false := by decide +kernel
theorem dd_Crowd_most_8 : decode mm_Crowd_most.2.1 8 = .ok (.aload_n 0, 1) := by decide +kernel
theorem dd_Crowd_most_9 : decode mm_Crowd_most.2.1 9 = .ok (.iload 5, 2) := by decide +kernel
theorem dd_Crowd_most_11 : decode mm_Crowd_most.2.1 11 = .ok (.aload_n 2, 1) := by decide +kernel
theorem dd_Crowd_most_12 : decode mm_Crowd_most.2.1 12 = .ok (.getfield 27, 3) := by decide +kernel
theorem dd_Crowd_most_15 : decode mm_Crowd_most.2.1 15 = .ok (.isub, 1) := by decide +kernel
theorem dd_Crowd_most_16 : decode mm_Crowd_most.2.1 16 = .ok (.iconst 1, 1) := by decide +kernel
theorem dd_Crowd_most_17 : decode mm_Crowd_most.2.1 17 = .ok (.iadd, 1) := by decide +kernel
theorem dd_Crowd_most_18 : decode mm_Crowd_most.2.1 18 = .ok (.putfield 36, 3) := by decide +kernel
theorem fn_0_7 : fin 0 7 = false := by decide +kernel
theorem dd_Crowd_most_21 : decode mm_Crowd_most.2.1 21 = .ok (.aload_n 0, 1) := by decide +kernel
theorem dd_Crowd_most_22 : decode mm_Crowd_most.2.1 22 = .ok (.getfield 9, 3) := by decide +kernel
theorem dd_Crowd_most_25 : decode mm_Crowd_most.2.1 25 = .ok (.iconst 0, 1) := by decide +kernel
theorem dd_Crowd_most_26 : decode mm_Crowd_most.2.1 26 = .ok (.invokestatic 39, 3) := by decide +kernel
theorem dd_Crowd_most_29 : decode mm_Crowd_most.2.1 29 = .ok (.aload_n 0, 1) := by decide +kernel
theorem dd_Crowd_most_30 : decode mm_Crowd_most.2.1 30 = .ok (.getfield 15, 3) := by decide +kernel
theorem dd_Crowd_most_33 : decode mm_Crowd_most.2.1 33 = .ok (.iconst 0, 1) := by decide +kernel
theorem dd_Crowd_most_34 : decode mm_Crowd_most.2.1 34 = .ok (.invokestatic 39, 3) := by decide +kernel
theorem dd_Crowd_most_37 : decode mm_Crowd_most.2.1 37 = .ok (.aload_n 0, 1) := by decide +kernel
theorem dd_Crowd_most_38 : decode mm_Crowd_most.2.1 38 = .ok (.getfield 36, 3) := by decide +kernel
theorem dd_Crowd_most_41 : decode mm_Crowd_most.2.1 41 = .ok (.bipush 10, 2) := by decide +kernel
theorem dd_Crowd_most_43 : decode mm_Crowd_most.2.1 43 = .ok (.imul, 1) := by decide +kernel
theorem dd_Crowd_most_44 : decode mm_Crowd_most.2.1 44 = .ok (.iload 4, 2) := by decide +kernel
theorem dd_Crowd_most_46 : decode mm_Crowd_most.2.1 46 = .ok (.iadd, 1) := by decide +kernel
theorem dd_Crowd_most_47 : decode mm_Crowd_most.2.1 47 = .ok (.istore 6, 2) := by decide +kernel
theorem dd_Crowd_most_49 : decode mm_Crowd_most.2.1 49 = .ok (.iconst 0, 1) := by decide +kernel
theorem dd_Crowd_most_50 : decode mm_Crowd_most.2.1 50 = .ok (.istore 7, 2) := by decide +kernel
theorem dd_Crowd_most_52 : decode mm_Crowd_most.2.1 52 = .ok (.iconst 0, 1) := by decide +kernel
theorem dd_Crowd_most_53 : decode mm_Crowd_most.2.1 53 = .ok (.istore 8, 2) := by decide +kernel
theorem dd_Crowd_most_55 : decode mm_Crowd_most.2.1 55 = .ok (.iload 8, 2) := by decide +kernel
theorem dd_Crowd_most_57 : decode mm_Crowd_most.2.1 57 = .ok (.sipush 4000, 3) := by decide +kernel
theorem dd_Crowd_most_60 : decode mm_Crowd_most.2.1 60 = .ok (.if_icmp .ge (50), 3) := by decide +kernel
theorem dd_Crowd_most_110 : decode mm_Crowd_most.2.1 110 = .ok (.iload 7, 2) := by decide +kernel
theorem dd_Crowd_most_112 : decode mm_Crowd_most.2.1 112 = .ok (.ireturn, 1) := by decide +kernel
theorem dd_Crowd_most_63 : decode mm_Crowd_most.2.1 63 = .ok (.aload_n 0, 1) := by decide +kernel
theorem dd_Crowd_most_64 : decode mm_Crowd_most.2.1 64 = .ok (.aload_n 1, 1) := by decide +kernel
theorem dd_Crowd_most_65 : decode mm_Crowd_most.2.1 65 = .ok (.aload_n 2, 1) := by decide +kernel
theorem dd_Crowd_most_66 : decode mm_Crowd_most.2.1 66 = .ok (.getfield 45, 3) := by decide +kernel
theorem fd_0_45 : fld 0 45 = some (9, 1) := by decide +kernel
theorem dd_Crowd_most_69 : decode mm_Crowd_most.2.1 69 = .ok (.iload_n 3, 1) := by decide +kernel
theorem dd_Crowd_most_70 : decode mm_Crowd_most.2.1 70 = .ok (.iload 6, 2) := by decide +kernel
theorem dd_Crowd_most_72 : decode mm_Crowd_most.2.1 72 = .ok (.invokevirtual 48, 3) := by decide +kernel
theorem cw_0_48 : cwOk 0 48 0 112 5 6 0 = true := by decide +kernel
theorem mt_Crowd_findPath : MTB 112 = some mm_Crowd_findPath := rfl
theorem dd_Crowd_most_75 : decode mm_Crowd_most.2.1 75 = .ok (.ifCond .eq (35), 3) := by decide +kernel
theorem dd_Crowd_most_78 : decode mm_Crowd_most.2.1 78 = .ok (.aload_n 0, 1) := by decide +kernel
theorem dd_Crowd_most_79 : decode mm_Crowd_most.2.1 79 = .ok (.aload_n 1, 1) := by decide +kernel
theorem dd_Crowd_most_80 : decode mm_Crowd_most.2.1 80 = .ok (.iload_n 3, 1) := by decide +kernel
theorem dd_Crowd_most_81 : decode mm_Crowd_most.2.1 81 = .ok (.iload 6, 2) := by decide +kernel
theorem dd_Crowd_most_83 : decode mm_Crowd_most.2.1 83 = .ok (.invokevirtual 52, 3) := by decide +kernel
theorem cw_0_52 : cwOk 0 52 0 116 4 11 0 = true := by decide +kernel
theorem mt_Crowd_narrowest : MTB 116 = some mm_Crowd_narrowest := rfl
theorem dd_Crowd_most_86 : decode mm_Crowd_most.2.1 86 = .ok (.istore 9, 2) := by decide +kernel
theorem dd_Crowd_most_88 : decode mm_Crowd_most.2.1 88 = .ok (.aload_n 0, 1) := by decide +kernel
theorem dd_Crowd_most_89 : decode mm_Crowd_most.2.1 89 = .ok (.iload_n 3, 1) := by decide +kernel
theorem dd_Crowd_most_90 : decode mm_Crowd_most.2.1 90 = .ok (.iload 6, 2) := by decide +kernel
theorem dd_Crowd_most_92 : decode mm_Crowd_most.2.1 92 = .ok (.iload 9, 2) := by decide +kernel
theorem dd_Crowd_most_94 : decode mm_Crowd_most.2.1 94 = .ok (.invokevirtual 56, 3) := by decide +kernel
theorem cw_0_56 : cwOk 0 56 0 117 4 10 0 = true := by decide +kernel
theorem mt_Crowd_send : MTB 117 = some mm_Crowd_send := rfl
theorem dd_Crowd_most_97 : decode mm_Crowd_most.2.1 97 = .ok (.iload 7, 2) := by decide +kernel
theorem dd_Crowd_most_99 : decode mm_Crowd_most.2.1 99 = .ok (.iload 9, 2) := by decide +kernel
theorem dd_Crowd_most_101 : decode mm_Crowd_most.2.1 101 = .ok (.iadd, 1) := by decide +kernel
theorem dd_Crowd_most_102 : decode mm_Crowd_most.2.1 102 = .ok (.istore 7, 2) := by decide +kernel
theorem dd_Crowd_most_104 : decode mm_Crowd_most.2.1 104 = .ok (.iinc 8 1, 3) := by decide +kernel
theorem dd_Crowd_most_107 : decode mm_Crowd_most.2.1 107 = .ok (.goto (-52), 3) := by decide +kernel
theorem B_fill87_0 {xs : Nat → Int} {xl e : Nat} {h : LH} {Q : Option LV → LH → Prop} {v1 : Int} (hF : RF h)
    (k : Rn xs xl e mm_java_util_Arrays_fill 5 [some (.inr (.inr 87)), some (.inl v1), some (.inl 0), some (.inl 250)] [] h Q) :
    Rn xs xl e mm_java_util_Arrays_fill 0 [some (.inr (.inr 87)), some (.inl v1), none, none] [] h Q := by
  refine R_ic dd_java_util_Arrays_fill_0 (by decide) rfl ?_
  refine R_st (ls' := [some (.inr (.inr 87)), some (.inl v1), some (.inl 0), none]) dd_java_util_Arrays_fill_1 rfl rfl rfl (Nat.le_of_ble_eq_true rfl) rfl rfl ?_
  refine R_ld (v := .inr (.inr 87)) dd_java_util_Arrays_fill_2 rfl rfl rfl rfl ?_
  refine R_alen (n := 250) dd_java_util_Arrays_fill_3 ia_87 la_87 rfl ?_
  refine R_st (ls' := [some (.inr (.inr 87)), some (.inl v1), some (.inl 0), some (.inl 250)]) dd_java_util_Arrays_fill_4 rfl rfl rfl (Nat.le_of_ble_eq_true rfl) rfl rfl ?_
  exact k
theorem B_fill87_5 {xs : Nat → Int} {xl e : Nat} {h : LH} {Q : Option LV → LH → Prop} {v1 v2 : Int} (hF : RF h) (r_v2 : 0 ≤ v2 ∧ v2 ≤ 250)
    (k : (250 ≤ v2 →
        Q none h) ∧
      (v2 < 250 →
        (0 ≤ v2 ∧ v2 < 250) ∧
        Rn xs xl e mm_java_util_Arrays_fill 5 [some (.inr (.inr 87)), some (.inl v1), some (.inl (v2 + 1)), some (.inl 250)] [] (wr h 87 v2 v1) Q)) :
    Rn xs xl e mm_java_util_Arrays_fill 5 [some (.inr (.inr 87)), some (.inl v1), some (.inl v2), some (.inl 250)] [] h Q := by
  refine R_ld (v := .inl v2) dd_java_util_Arrays_fill_5 rfl rfl rfl rfl ?_
  refine R_ld (v := .inl 250) dd_java_util_Arrays_fill_6 rfl rfl rfl rfl ?_
  refine R_icmp dd_java_util_Arrays_fill_7 rfl rfl (fun (c2 : 250 ≤ v2) => ?_) (fun (c2 : v2 < 250) => ?_)
  · replace k := k.1 c2
    exact R_vret dd_java_util_Arrays_fill_20 rfl k
  · replace k := k.2 c2
    refine R_ld (v := .inr (.inr 87)) dd_java_util_Arrays_fill_10 rfl rfl rfl rfl ?_
    refine R_ld (v := .inl v2) dd_java_util_Arrays_fill_11 rfl rfl rfl rfl ?_
    refine R_ld (v := .inl v1) dd_java_util_Arrays_fill_12 rfl rfl rfl rfl ?_
    obtain ⟨s1, k⟩ := k
    refine R_iast (n := 250) dd_java_util_Arrays_fill_13 ia_87 la_87 s1 rfl ?_
    refine R_inc (y := v2 + 1) (ls' := [some (.inr (.inr 87)), some (.inl v1), some (.inl (v2 + 1)), some (.inl 250)]) dd_java_util_Arrays_fill_14 rfl (by decide) (by omega) (by omega) rfl rfl ?_
    refine R_goto dd_java_util_Arrays_fill_17 rfl ?_
    exact k
theorem B_Crowd_visit_0 {xs : Nat → Int} {xl e : Nat} {h : LH} {Q : Option LV → LH → Prop} {v1 v2 v3 : Int} (hF : RF h) (r_v1 : 0 ≤ v1 ∧ v1 ≤ 249)
    (k : ((rd h 87 v1) ≠ (-1) →
        Q none h) ∧
      ((rd h 87 v1) = (-1) →
        (250 ≤ (rd h 84 5) →
          Q none h) ∧
        ((rd h 84 5) < 250 →
          (0 ≤ (rd h 84 5) ∧ (rd h 84 5) < 250) ∧
          (-2147483648 ≤ (rd h 84 5) + 1 ∧ (rd h 84 5) + 1 ≤ 2147483647) ∧
          Q none (wr (wr (wr (wr h 87 v1 v2) 88 v1 v3) 89 (rd h 84 5) v1) 84 5 ((rd h 84 5) + 1))))) :
    Rn xs xl e mm_Crowd_visit 0 [some (.inr (.inr 84)), some (.inl v1), some (.inl v2), some (.inl v3)] [] h Q := by
  refine R_ld (v := .inr (.inr 84)) dd_Crowd_visit_0 rfl rfl rfl rfl ?_
  refine R_gf (v := .inr (.inr 87)) dd_Crowd_visit_1 fd_0_18 io_84 (congrArg (fun z : Int => (Sum.inr (Sum.inr z) : LV)) (rf_84_2 hF)) rfl ?_
  refine R_ld (v := .inl v1) dd_Crowd_visit_4 rfl rfl rfl rfl ?_
  refine R_iald (v := (rd h 87 v1)) (n := 250) dd_Crowd_visit_5 ia_87 la_87 (by omega) (rfl) rfl ?_
  refine R_ic dd_Crowd_visit_6 (by decide) rfl ?_
  refine R_icmp dd_Crowd_visit_7 rfl rfl (fun (c3 : (rd h 87 v1) ≠ (-1)) => ?_) (fun (c3 : (rd h 87 v1) = (-1)) => ?_)
  · replace k := k.1 c3
    exact R_vret dd_Crowd_visit_54 rfl k
  · replace k := k.2 c3
    refine R_ld (v := .inr (.inr 84)) dd_Crowd_visit_10 rfl rfl rfl rfl ?_
    refine R_gf (v := .inl (rd h 84 5)) dd_Crowd_visit_11 fd_0_60 io_84 (congrArg (fun z : Int => (Sum.inl z : LV)) (rfl)) rfl ?_
    refine R_si dd_Crowd_visit_14 (by decide) rfl ?_
    refine R_icmp dd_Crowd_visit_17 rfl rfl (fun (c4 : 250 ≤ (rd h 84 5)) => ?_) (fun (c4 : (rd h 84 5) < 250) => ?_)
    · replace k := k.1 c4
      exact R_vret dd_Crowd_visit_54 rfl k
    · replace k := k.2 c4
      refine R_ld (v := .inr (.inr 84)) dd_Crowd_visit_20 rfl rfl rfl rfl ?_
      refine R_gf (v := .inr (.inr 87)) dd_Crowd_visit_21 fd_0_18 io_84 (congrArg (fun z : Int => (Sum.inr (Sum.inr z) : LV)) (rf_84_2 hF)) rfl ?_
      refine R_ld (v := .inl v1) dd_Crowd_visit_24 rfl rfl rfl rfl ?_
      refine R_ld (v := .inl v2) dd_Crowd_visit_25 rfl rfl rfl rfl ?_
      refine R_iast (n := 250) dd_Crowd_visit_26 ia_87 la_87 (by omega) rfl ?_
      refine R_ld (v := .inr (.inr 84)) dd_Crowd_visit_27 rfl rfl rfl rfl ?_
      refine R_gf (v := .inr (.inr 88)) dd_Crowd_visit_28 fd_0_21 io_84 (congrArg (fun z : Int => (Sum.inr (Sum.inr z) : LV)) ((rdw_ne (by decide)).trans (rf_84_3 hF))) rfl ?_
      refine R_ld (v := .inl v1) dd_Crowd_visit_31 rfl rfl rfl rfl ?_
      refine R_ld (v := .inl v3) dd_Crowd_visit_32 rfl rfl rfl rfl ?_
      refine R_iast (n := 250) dd_Crowd_visit_33 ia_88 la_88 (by omega) rfl ?_
      refine R_ld (v := .inr (.inr 84)) dd_Crowd_visit_34 rfl rfl rfl rfl ?_
      refine R_gf (v := .inr (.inr 89)) dd_Crowd_visit_35 fd_0_24 io_84 (congrArg (fun z : Int => (Sum.inr (Sum.inr z) : LV)) ((rdw_ne (by decide)).trans ((rdw_ne (by decide)).trans (rf_84_4 hF)))) rfl ?_
      refine R_ld (v := .inr (.inr 84)) dd_Crowd_visit_38 rfl rfl rfl rfl ?_
      refine R_gf (v := .inl (rd h 84 5)) dd_Crowd_visit_39 fd_0_60 io_84 (congrArg (fun z : Int => (Sum.inl z : LV)) ((rdw_ne (by decide)).trans (rdw_ne (by decide)))) rfl ?_
      refine R_ld (v := .inl v1) dd_Crowd_visit_42 rfl rfl rfl rfl ?_
      obtain ⟨s1, k⟩ := k
      refine R_iast (n := 250) dd_Crowd_visit_43 ia_89 la_89 s1 rfl ?_
      refine R_ld (v := .inr (.inr 84)) dd_Crowd_visit_44 rfl rfl rfl rfl ?_
      refine R_A dd_Crowd_visit_45 rfl rfl rfl rfl ?_
      refine R_gf (v := .inl (rd h 84 5)) dd_Crowd_visit_46 fd_0_60 io_84 (congrArg (fun z : Int => (Sum.inl z : LV)) ((rdw_ne (by decide)).trans ((rdw_ne (by decide)).trans (rdw_ne (by decide))))) rfl ?_
      refine R_ic dd_Crowd_visit_49 (by decide) rfl ?_
      obtain ⟨s2, k⟩ := k
      refine R_iadd (c := (rd h 84 5) + 1) dd_Crowd_visit_50 (by omega) s2 rfl ?_
      refine R_pf (z := ((rd h 84 5) + 1)) dd_Crowd_visit_51 fd_0_60 io_84 fn_0_5 rfl rfl ?_
      exact R_vret dd_Crowd_visit_54 rfl k
theorem B_Crowd_goForward_0 {xs : Nat → Int} {xl e : Nat} {h : LH} {Q : Option LV → LH → Prop} {v2 v3 : Int} {q : Int} (hq : q = 5 ∨ q = 32) (hF : RF h) (r_v3 : 0 ≤ v3 ∧ v3 ≤ 249)
    (k : ((v3 / 10) < (rd h 84 7) →
        Rn xs xl e mm_Crowd_goForward 25 [some (.inr (.inr 84)), some (.inr (.inr q)), some (.inl v2), some (.inl v3), some (.inl (v3 / 10)), some (.inl (v3 % 10)), some (.inl 0), none] [] h Q) ∧
      ((rd h 84 7) ≤ (v3 / 10) →
        Q none h)) :
    Rn xs xl e mm_Crowd_goForward 0 [some (.inr (.inr 84)), some (.inr (.inr q)), some (.inl v2), some (.inl v3), none, none, none, none] [] h Q := by
  refine R_ld (v := .inl v3) dd_Crowd_goForward_0 rfl rfl rfl rfl ?_
  refine R_bi dd_Crowd_goForward_1 (by decide) rfl ?_
  refine R_idiv dd_Crowd_goForward_3 (by omega) (by decide) rfl ?_
  refine R_st (ls' := [some (.inr (.inr 84)), some (.inr (.inr q)), some (.inl v2), some (.inl v3), some (.inl (v3 / 10)), none, none, none]) dd_Crowd_goForward_4 rfl rfl rfl (Nat.le_of_ble_eq_true rfl) rfl rfl ?_
  refine R_ld (v := .inl v3) dd_Crowd_goForward_6 rfl rfl rfl rfl ?_
  refine R_bi dd_Crowd_goForward_7 (by decide) rfl ?_
  refine R_irem dd_Crowd_goForward_9 (by omega) (by decide) rfl ?_
  refine R_st (ls' := [some (.inr (.inr 84)), some (.inr (.inr q)), some (.inl v2), some (.inl v3), some (.inl (v3 / 10)), some (.inl (v3 % 10)), none, none]) dd_Crowd_goForward_10 rfl rfl rfl (Nat.le_of_ble_eq_true rfl) rfl rfl ?_
  refine R_ld (v := .inl (v3 / 10)) dd_Crowd_goForward_12 rfl rfl rfl rfl ?_
  refine R_ld (v := .inr (.inr 84)) dd_Crowd_goForward_14 rfl rfl rfl rfl ?_
  refine R_gf (v := .inl (rd h 84 7)) dd_Crowd_goForward_15 fd_0_36 io_84 (congrArg (fun z : Int => (Sum.inl z : LV)) (rfl)) rfl ?_
  refine R_icmp dd_Crowd_goForward_18 rfl rfl (fun (c1 : (v3 / 10) < (rd h 84 7)) => ?_) (fun (c1 : (rd h 84 7) ≤ (v3 / 10)) => ?_)
  · replace k := k.1 c1
    refine R_ic dd_Crowd_goForward_22 (by decide) rfl ?_
    refine R_st (ls' := [some (.inr (.inr 84)), some (.inr (.inr q)), some (.inl v2), some (.inl v3), some (.inl (v3 / 10)), some (.inl (v3 % 10)), some (.inl 0), none]) dd_Crowd_goForward_23 rfl rfl rfl (Nat.le_of_ble_eq_true rfl) rfl rfl ?_
    exact k
  · replace k := k.2 c1
    exact R_vret dd_Crowd_goForward_21 rfl k
theorem B_Crowd_goForward_25 {xs : Nat → Int} {xl e : Nat} {h : LH} {Q : Option LV → LH → Prop} {v2 v3 v4 v5 v6 : Int} {q : Int} (hq : q = 5 ∨ q = 32) {o7 : Option LV} (hR : RNG h) (r_v3 : 0 ≤ v3 ∧ v3 ≤ 249) (r_v4 : 0 ≤ v4 ∧ v4 ≤ 23) (r_v5 : 0 ≤ v5 ∧ v5 ≤ 9) (r_v6 : 0 ≤ v6 ∧ v6 ≤ 14)
    (k : ((rd h q 2) ≤ v6 →
        (∃ c, c < e ∧ Rn xs xl c mm_Crowd_visit 0 [some (.inr (.inr 84)), some (.inl (v3 + 10)), some (.inl v3), some (.inl (-1))] [] h (fun r h' => Rn xs xl e mm_Crowd_goForward 118 [some (.inr (.inr 84)), some (.inr (.inr q)), some (.inl v2), some (.inl v3), some (.inl v4), some (.inl v5), some (.inl v6), o7] (r.toList ++ []) h' Q))) ∧
      (v6 < (rd h q 2) →
        (-2147483648 ≤ (rd h 84 6) + v4 ∧ (rd h 84 6) + v4 ≤ 2147483647) ∧
        (∃ c, c < e ∧ Rn xs xl c mm_Quarter_into 0 [some (.inr (.inr q)), some (.inl v6), some (.inl 0), some (.inl v5), some (.inl ((rd h 84 6) + v4)), some (.inl v2), none] [] h (fun r h' => Rn xs xl e mm_Crowd_goForward 51 [some (.inr (.inr 84)), some (.inr (.inr q)), some (.inl v2), some (.inl v3), some (.inl v4), some (.inl v5), some (.inl v6), o7] (r.toList ++ []) h' Q)))) :
    Rn xs xl e mm_Crowd_goForward 25 [some (.inr (.inr 84)), some (.inr (.inr q)), some (.inl v2), some (.inl v3), some (.inl v4), some (.inl v5), some (.inl v6), o7] [] h Q := by
  have hF := RF_of hR
  refine R_ld (v := .inl v6) dd_Crowd_goForward_25 rfl rfl rfl rfl ?_
  refine R_ld (v := .inr (.inr q)) dd_Crowd_goForward_27 rfl rfl rfl rfl ?_
  refine R_gf (v := .inl (rd h q 2)) dd_Crowd_goForward_28 fd_0_73 (io_q hq) rfl rfl ?_
  refine R_icmp dd_Crowd_goForward_31 rfl rfl (fun (c4 : (rd h q 2) ≤ v6) => ?_) (fun (c4 : v6 < (rd h q 2)) => ?_)
  · replace k := k.1 c4
    refine R_ld (v := .inr (.inr 84)) dd_Crowd_goForward_108 rfl rfl rfl rfl ?_
    refine R_ld (v := .inl v3) dd_Crowd_goForward_109 rfl rfl rfl rfl ?_
    refine R_bi dd_Crowd_goForward_110 (by decide) rfl ?_
    refine R_iadd (c := v3 + 10) dd_Crowd_goForward_112 (by omega) (by omega) rfl ?_
    refine R_ld (v := .inl v3) dd_Crowd_goForward_113 rfl rfl rfl rfl ?_
    refine R_ic dd_Crowd_goForward_114 (by decide) rfl ?_
    obtain ⟨c, hc, k⟩ := k
    exact R_call (as := [.inr (.inr 84), .inl (v3 + 10), .inl v3, .inl (-1)]) (rest := []) (M' := mm_Crowd_visit) (ls0 := [some (.inr (.inr 84)), some (.inl (v3 + 10)), some (.inl v3), some (.inl (-1))]) dd_Crowd_goForward_115 rfl rfl (cw_v cw_0_63 io_84 rfl rfl (Nat.le_of_ble_eq_true rfl) (Nat.le_of_ble_eq_true rfl)) mt_Crowd_visit rfl hc rfl k
  · replace k := k.2 c4
    refine R_ld (v := .inr (.inr q)) dd_Crowd_goForward_34 rfl rfl rfl rfl ?_
    refine R_ld (v := .inl v6) dd_Crowd_goForward_35 rfl rfl rfl rfl ?_
    refine R_ic dd_Crowd_goForward_37 (by decide) rfl ?_
    refine R_ld (v := .inl v5) dd_Crowd_goForward_38 rfl rfl rfl rfl ?_
    refine R_ld (v := .inr (.inr 84)) dd_Crowd_goForward_40 rfl rfl rfl rfl ?_
    refine R_gf (v := .inl (rd h 84 6)) dd_Crowd_goForward_41 fd_0_33 io_84 (congrArg (fun z : Int => (Sum.inl z : LV)) (rfl)) rfl ?_
    refine R_ld (v := .inl v4) dd_Crowd_goForward_44 rfl rfl rfl rfl ?_
    obtain ⟨s2, k⟩ := k
    refine R_iadd (c := (rd h 84 6) + v4) dd_Crowd_goForward_46 (by omega) s2 rfl ?_
    refine R_ld (v := .inl v2) dd_Crowd_goForward_47 rfl rfl rfl rfl ?_
    obtain ⟨c, hc, k⟩ := k
    exact R_call (as := [.inr (.inr q), .inl v6, .inl 0, .inl v5, .inl ((rd h 84 6) + v4), .inl v2]) (rest := []) (M' := mm_Quarter_into) (ls0 := [some (.inr (.inr q)), some (.inl v6), some (.inl 0), some (.inl v5), some (.inl ((rd h 84 6) + v4)), some (.inl v2), none]) dd_Crowd_goForward_48 rfl rfl (cw_v cw_0_78 (io_q hq) rfl rfl (Nat.le_of_ble_eq_true rfl) (Nat.le_of_ble_eq_true rfl)) mt_Quarter_into rfl hc rfl k
theorem B_Crowd_goForward_51 {xs : Nat → Int} {xl e : Nat} {h : LH} {Q : Option LV → LH → Prop} {v2 v3 v4 v5 v6 w0 : Int} {q : Int} (hq : q = 5 ∨ q = 32) {o7 : Option LV} (hR : RNG h) (r_v3 : 0 ≤ v3 ∧ v3 ≤ 249) (r_v4 : 0 ≤ v4 ∧ v4 ≤ 23) (r_v5 : 0 ≤ v5 ∧ v5 ≤ 9) (r_v6 : 0 ≤ v6 ∧ v6 ≤ 13) (r_w0 : -1 ≤ w0 ∧ w0 ≤ 9)
    (k : (w0 = (-1) →
        Rn xs xl e mm_Crowd_goForward 102 [some (.inr (.inr 84)), some (.inr (.inr q)), some (.inl v2), some (.inl v3), some (.inl v4), some (.inl v5), some (.inl v6), some (.inl w0)] [] h Q) ∧
      (w0 ≠ (-1) →
        ((rd h (rd h (q + 1) v6) 7) ≤ (rd h 85 (14 * v4 + v6)) →
          Rn xs xl e mm_Crowd_goForward 102 [some (.inr (.inr 84)), some (.inr (.inr q)), some (.inl v2), some (.inl v3), some (.inl v4), some (.inl v5), some (.inl v6), some (.inl w0)] [] h Q) ∧
        ((rd h 85 (14 * v4 + v6)) < (rd h (rd h (q + 1) v6) 7) →
          (∃ c, c < e ∧ Rn xs xl c mm_Crowd_visit 0 [some (.inr (.inr 84)), some (.inl (10 * v4 + w0 + 10)), some (.inl v3), some (.inl v6)] [] h (fun r h' => Rn xs xl e mm_Crowd_goForward 102 [some (.inr (.inr 84)), some (.inr (.inr q)), some (.inl v2), some (.inl v3), some (.inl v4), some (.inl v5), some (.inl v6), some (.inl w0)] (r.toList ++ []) h' Q))))) :
    Rn xs xl e mm_Crowd_goForward 51 [some (.inr (.inr 84)), some (.inr (.inr q)), some (.inl v2), some (.inl v3), some (.inl v4), some (.inl v5), some (.inl v6), o7] [.inl w0] h Q := by
  have hF := RF_of hR
  refine R_st (ls' := [some (.inr (.inr 84)), some (.inr (.inr q)), some (.inl v2), some (.inl v3), some (.inl v4), some (.inl v5), some (.inl v6), some (.inl w0)]) dd_Crowd_goForward_51 rfl rfl rfl (Nat.le_of_ble_eq_true rfl) rfl rfl ?_
  refine R_ld (v := .inl w0) dd_Crowd_goForward_53 rfl rfl rfl rfl ?_
  refine R_ic dd_Crowd_goForward_55 (by decide) rfl ?_
  refine R_icmp dd_Crowd_goForward_56 rfl rfl (fun (c2 : w0 = (-1)) => ?_) (fun (c2 : w0 ≠ (-1)) => ?_)
  · replace k := k.1 c2
    exact k
  · replace k := k.2 c2
    refine R_ld (v := .inr (.inr 84)) dd_Crowd_goForward_59 rfl rfl rfl rfl ?_
    refine R_gf (v := .inr (.inr 85)) dd_Crowd_goForward_60 fd_0_9 io_84 (congrArg (fun z : Int => (Sum.inr (Sum.inr z) : LV)) (rf_84_0 hF)) rfl ?_
    refine R_ld (v := .inl v4) dd_Crowd_goForward_63 rfl rfl rfl rfl ?_
    refine R_bi dd_Crowd_goForward_65 (by decide) rfl ?_
    refine R_imul (c := 14 * v4) dd_Crowd_goForward_67 (by omega) (by omega) rfl ?_
    refine R_ld (v := .inl v6) dd_Crowd_goForward_68 rfl rfl rfl rfl ?_
    refine R_iadd (c := 14 * v4 + v6) dd_Crowd_goForward_70 (by omega) (by omega) rfl ?_
    refine R_iald (v := (rd h 85 (14 * v4 + v6))) (n := 336) dd_Crowd_goForward_71 ia_85 la_85 (by omega) (rfl) rfl ?_
    refine R_ld (v := .inr (.inr q)) dd_Crowd_goForward_72 rfl rfl rfl rfl ?_
    refine R_gf (v := .inr (.inr (q + 1))) dd_Crowd_goForward_73 fd_0_82 (io_q hq) (congrArg (fun z : Int => (Sum.inr (Sum.inr z) : LV)) (rq_arr hF hq)) rfl ?_
    refine R_ld (v := .inl v6) dd_Crowd_goForward_76 rfl rfl rfl rfl ?_
    refine R_aald (v := (rd h (q + 1) v6)) (n := 14) dd_Crowd_goForward_78 (ia_dq hq) (la_dq hq) (by omega) rfl rfl ?_
    refine R_gf (v := .inl (rd h (rd h (q + 1) v6) 7)) dd_Crowd_goForward_79 fd_0_86 (io_dr hR hq (by omega)) rfl rfl ?_
    refine R_icmp dd_Crowd_goForward_82 rfl rfl (fun (c3 : (rd h (rd h (q + 1) v6) 7) ≤ (rd h 85 (14 * v4 + v6))) => ?_) (fun (c3 : (rd h 85 (14 * v4 + v6)) < (rd h (rd h (q + 1) v6) 7)) => ?_)
    · replace k := k.1 c3
      exact k
    · replace k := k.2 c3
      refine R_ld (v := .inr (.inr 84)) dd_Crowd_goForward_85 rfl rfl rfl rfl ?_
      refine R_ld (v := .inl v4) dd_Crowd_goForward_86 rfl rfl rfl rfl ?_
      refine R_ic dd_Crowd_goForward_88 (by decide) rfl ?_
      refine R_iadd (c := v4 + 1) dd_Crowd_goForward_89 (by omega) (by omega) rfl ?_
      refine R_bi dd_Crowd_goForward_90 (by decide) rfl ?_
      refine R_imul (c := 10 * v4 + 10) dd_Crowd_goForward_92 (by omega) (by omega) rfl ?_
      refine R_ld (v := .inl w0) dd_Crowd_goForward_93 rfl rfl rfl rfl ?_
      refine R_iadd (c := 10 * v4 + w0 + 10) dd_Crowd_goForward_95 (by omega) (by omega) rfl ?_
      refine R_ld (v := .inl v3) dd_Crowd_goForward_96 rfl rfl rfl rfl ?_
      refine R_ld (v := .inl v6) dd_Crowd_goForward_97 rfl rfl rfl rfl ?_
      obtain ⟨c, hc, k⟩ := k
      exact R_call (as := [.inr (.inr 84), .inl (10 * v4 + w0 + 10), .inl v3, .inl v6]) (rest := []) (M' := mm_Crowd_visit) (ls0 := [some (.inr (.inr 84)), some (.inl (10 * v4 + w0 + 10)), some (.inl v3), some (.inl v6)]) dd_Crowd_goForward_99 rfl rfl (cw_v cw_0_63 io_84 rfl rfl (Nat.le_of_ble_eq_true rfl) (Nat.le_of_ble_eq_true rfl)) mt_Crowd_visit rfl hc rfl k
theorem B_Crowd_goForward_102 {xs : Nat → Int} {xl e : Nat} {h : LH} {Q : Option LV → LH → Prop} {v2 v3 v4 v5 v6 : Int} {q : Int} (hq : q = 5 ∨ q = 32) {o7 : Option LV} (hF : RF h) (r_v6 : 0 ≤ v6 ∧ v6 ≤ 13)
    (k : Rn xs xl e mm_Crowd_goForward 25 [some (.inr (.inr 84)), some (.inr (.inr q)), some (.inl v2), some (.inl v3), some (.inl v4), some (.inl v5), some (.inl (v6 + 1)), o7] [] h Q) :
    Rn xs xl e mm_Crowd_goForward 102 [some (.inr (.inr 84)), some (.inr (.inr q)), some (.inl v2), some (.inl v3), some (.inl v4), some (.inl v5), some (.inl v6), o7] [] h Q := by
  refine R_inc (y := v6 + 1) (ls' := [some (.inr (.inr 84)), some (.inr (.inr q)), some (.inl v2), some (.inl v3), some (.inl v4), some (.inl v5), some (.inl (v6 + 1)), o7]) dd_Crowd_goForward_102 rfl (by decide) (by omega) (by omega) rfl rfl ?_
  refine R_goto dd_Crowd_goForward_105 rfl ?_
  exact k
theorem B_Crowd_goForward_118 {xs : Nat → Int} {xl e : Nat} {h : LH} {Q : Option LV → LH → Prop} {v2 v3 v4 v5 v6 : Int} {q : Int} (hq : q = 5 ∨ q = 32) {o7 : Option LV} (hF : RF h)
    (k : Q none h) :
    Rn xs xl e mm_Crowd_goForward 118 [some (.inr (.inr 84)), some (.inr (.inr q)), some (.inl v2), some (.inl v3), some (.inl v4), some (.inl v5), some (.inl v6), o7] [] h Q := by
  exact R_vret dd_Crowd_goForward_118 rfl k
theorem B_Crowd_goBack_0 {xs : Nat → Int} {xl e : Nat} {h : LH} {Q : Option LV → LH → Prop} {v2 v3 : Int} {q : Int} (hq : q = 5 ∨ q = 32) (hF : RF h) (r_v3 : 0 ≤ v3 ∧ v3 ≤ 249)
    (k : (-2147483648 ≤ (v3 / 10) - 1 ∧ (v3 / 10) - 1 ≤ 2147483647) ∧
      (0 ≤ ((v3 / 10) - 1) →
        Rn xs xl e mm_Crowd_goBack 23 [some (.inr (.inr 84)), some (.inr (.inr q)), some (.inl v2), some (.inl v3), some (.inl ((v3 / 10) - 1)), some (.inl (v3 % 10)), some (.inl 0), none, none] [] h Q) ∧
      (((v3 / 10) - 1) < 0 →
        Q none h)) :
    Rn xs xl e mm_Crowd_goBack 0 [some (.inr (.inr 84)), some (.inr (.inr q)), some (.inl v2), some (.inl v3), none, none, none, none, none] [] h Q := by
  refine R_ld (v := .inl v3) dd_Crowd_goBack_0 rfl rfl rfl rfl ?_
  refine R_bi dd_Crowd_goBack_1 (by decide) rfl ?_
  refine R_idiv dd_Crowd_goBack_3 (by omega) (by decide) rfl ?_
  refine R_ic dd_Crowd_goBack_4 (by decide) rfl ?_
  obtain ⟨s1, k⟩ := k
  refine R_isub (c := (v3 / 10) - 1) dd_Crowd_goBack_5 (by omega) s1 rfl ?_
  refine R_st (ls' := [some (.inr (.inr 84)), some (.inr (.inr q)), some (.inl v2), some (.inl v3), some (.inl ((v3 / 10) - 1)), none, none, none, none]) dd_Crowd_goBack_6 rfl rfl rfl (Nat.le_of_ble_eq_true rfl) rfl rfl ?_
  refine R_ld (v := .inl v3) dd_Crowd_goBack_8 rfl rfl rfl rfl ?_
  refine R_bi dd_Crowd_goBack_9 (by decide) rfl ?_
  refine R_irem dd_Crowd_goBack_11 (by omega) (by decide) rfl ?_
  refine R_st (ls' := [some (.inr (.inr 84)), some (.inr (.inr q)), some (.inl v2), some (.inl v3), some (.inl ((v3 / 10) - 1)), some (.inl (v3 % 10)), none, none, none]) dd_Crowd_goBack_12 rfl rfl rfl (Nat.le_of_ble_eq_true rfl) rfl rfl ?_
  refine R_ld (v := .inl ((v3 / 10) - 1)) dd_Crowd_goBack_14 rfl rfl rfl rfl ?_
  refine R_if dd_Crowd_goBack_16 rfl rfl (fun (c2 : 0 ≤ ((v3 / 10) - 1)) => ?_) (fun (c2 : ((v3 / 10) - 1) < 0) => ?_)
  · replace k := k.1 c2
    refine R_ic dd_Crowd_goBack_20 (by decide) rfl ?_
    refine R_st (ls' := [some (.inr (.inr 84)), some (.inr (.inr q)), some (.inl v2), some (.inl v3), some (.inl ((v3 / 10) - 1)), some (.inl (v3 % 10)), some (.inl 0), none, none]) dd_Crowd_goBack_21 rfl rfl rfl (Nat.le_of_ble_eq_true rfl) rfl rfl ?_
    exact k
  · replace k := k.2 c2
    exact R_vret dd_Crowd_goBack_19 rfl k
theorem B_Crowd_goBack_23 {xs : Nat → Int} {xl e : Nat} {h : LH} {Q : Option LV → LH → Prop} {v2 v3 v4 v5 v6 : Int} {q : Int} (hq : q = 5 ∨ q = 32) {o7 : Option LV} {o8 : Option LV} (hR : RNG h) (r_v3 : 0 ≤ v3 ∧ v3 ≤ 249) (r_v4 : 0 ≤ v4 ∧ v4 ≤ 23) (r_v5 : 0 ≤ v5 ∧ v5 ≤ 9) (r_v6 : 0 ≤ v6 ∧ v6 ≤ 14)
    (k : ((rd h q 2) ≤ v6 →
        Rn xs xl e mm_Crowd_goBack 128 [some (.inr (.inr 84)), some (.inr (.inr q)), some (.inl v2), some (.inl v3), some (.inl v4), some (.inl v5), some (.inl v6), o7, o8] [] h Q) ∧
      (v6 < (rd h q 2) →
        (0 ≤ 14 * v4 + v6 ∧ 14 * v4 + v6 < 336) ∧
        (0 < (rd h 85 (14 * v4 + v6)) →
          (0 ≤ v6 ∧ v6 < 14) ∧
          ((rd h (rd h (q + 1) v6) 2) ≠ v5 →
            Rn xs xl e mm_Crowd_goBack 85 [some (.inr (.inr 84)), some (.inr (.inr q)), some (.inl v2), some (.inl v3), some (.inl v4), some (.inl v5), some (.inl v6), some (.inr (.inr (rd h (q + 1) v6))), some (.inl (rd h (rd h (q + 1) v6) 2))] [] h Q) ∧
          ((rd h (rd h (q + 1) v6) 2) = v5 →
            Rn xs xl e mm_Crowd_goBack 85 [some (.inr (.inr 84)), some (.inr (.inr q)), some (.inl v2), some (.inl v3), some (.inl v4), some (.inl v5), some (.inl v6), some (.inr (.inr (rd h (q + 1) v6))), some (.inl (rd h (rd h (q + 1) v6) 3))] [] h Q)) ∧
        ((rd h 85 (14 * v4 + v6)) ≤ 0 →
          Rn xs xl e mm_Crowd_goBack 122 [some (.inr (.inr 84)), some (.inr (.inr q)), some (.inl v2), some (.inl v3), some (.inl v4), some (.inl v5), some (.inl v6), o7, o8] [] h Q))) :
    Rn xs xl e mm_Crowd_goBack 23 [some (.inr (.inr 84)), some (.inr (.inr q)), some (.inl v2), some (.inl v3), some (.inl v4), some (.inl v5), some (.inl v6), o7, o8] [] h Q := by
  have hF := RF_of hR
  refine R_ld (v := .inl v6) dd_Crowd_goBack_23 rfl rfl rfl rfl ?_
  refine R_ld (v := .inr (.inr q)) dd_Crowd_goBack_25 rfl rfl rfl rfl ?_
  refine R_gf (v := .inl (rd h q 2)) dd_Crowd_goBack_26 fd_0_73 (io_q hq) rfl rfl ?_
  refine R_icmp dd_Crowd_goBack_29 rfl rfl (fun (c3 : (rd h q 2) ≤ v6) => ?_) (fun (c3 : v6 < (rd h q 2)) => ?_)
  · replace k := k.1 c3
    exact k
  · replace k := k.2 c3
    refine R_ld (v := .inr (.inr 84)) dd_Crowd_goBack_32 rfl rfl rfl rfl ?_
    refine R_gf (v := .inr (.inr 85)) dd_Crowd_goBack_33 fd_0_9 io_84 (congrArg (fun z : Int => (Sum.inr (Sum.inr z) : LV)) (rf_84_0 hF)) rfl ?_
    refine R_ld (v := .inl v4) dd_Crowd_goBack_36 rfl rfl rfl rfl ?_
    refine R_bi dd_Crowd_goBack_38 (by decide) rfl ?_
    refine R_imul (c := 14 * v4) dd_Crowd_goBack_40 (by omega) (by omega) rfl ?_
    refine R_ld (v := .inl v6) dd_Crowd_goBack_41 rfl rfl rfl rfl ?_
    refine R_iadd (c := 14 * v4 + v6) dd_Crowd_goBack_43 (by omega) (by omega) rfl ?_
    obtain ⟨s1, k⟩ := k
    refine R_iald (v := (rd h 85 (14 * v4 + v6))) (n := 336) dd_Crowd_goBack_44 ia_85 la_85 s1 (rfl) rfl ?_
    refine R_if dd_Crowd_goBack_45 rfl rfl (fun (c4 : 0 < (rd h 85 (14 * v4 + v6))) => ?_) (fun (c4 : (rd h 85 (14 * v4 + v6)) ≤ 0) => ?_)
    · replace k := k.1 c4
      refine R_ld (v := .inr (.inr q)) dd_Crowd_goBack_51 rfl rfl rfl rfl ?_
      refine R_gf (v := .inr (.inr (q + 1))) dd_Crowd_goBack_52 fd_0_82 (io_q hq) (congrArg (fun z : Int => (Sum.inr (Sum.inr z) : LV)) (rq_arr hF hq)) rfl ?_
      refine R_ld (v := .inl v6) dd_Crowd_goBack_55 rfl rfl rfl rfl ?_
      obtain ⟨s2, k⟩ := k
      refine R_aald (v := (rd h (q + 1) v6)) (n := 14) dd_Crowd_goBack_57 (ia_dq hq) (la_dq hq) s2 rfl rfl ?_
      refine R_st (ls' := [some (.inr (.inr 84)), some (.inr (.inr q)), some (.inl v2), some (.inl v3), some (.inl v4), some (.inl v5), some (.inl v6), some (.inr (.inr (rd h (q + 1) v6))), o8]) dd_Crowd_goBack_58 rfl rfl rfl (Nat.le_of_ble_eq_true rfl) rfl rfl ?_
      refine R_ld (v := .inr (.inr (rd h (q + 1) v6))) dd_Crowd_goBack_60 rfl rfl rfl rfl ?_
      refine R_gf (v := .inl (rd h (rd h (q + 1) v6) 2)) dd_Crowd_goBack_62 fd_0_91 (io_dr hR hq (by omega)) rfl rfl ?_
      refine R_ld (v := .inl v5) dd_Crowd_goBack_65 rfl rfl rfl rfl ?_
      refine R_icmp dd_Crowd_goBack_67 rfl rfl (fun (c5 : (rd h (rd h (q + 1) v6) 2) ≠ v5) => ?_) (fun (c5 : (rd h (rd h (q + 1) v6) 2) = v5) => ?_)
      · replace k := k.1 c5
        refine R_ld (v := .inr (.inr (rd h (q + 1) v6))) dd_Crowd_goBack_78 rfl rfl rfl rfl ?_
        refine R_gf (v := .inl (rd h (rd h (q + 1) v6) 2)) dd_Crowd_goBack_80 fd_0_91 (io_dr hR hq (by omega)) rfl rfl ?_
        refine R_st (ls' := [some (.inr (.inr 84)), some (.inr (.inr q)), some (.inl v2), some (.inl v3), some (.inl v4), some (.inl v5), some (.inl v6), some (.inr (.inr (rd h (q + 1) v6))), some (.inl (rd h (rd h (q + 1) v6) 2))]) dd_Crowd_goBack_83 rfl rfl rfl (Nat.le_of_ble_eq_true rfl) rfl rfl ?_
        exact k
      · replace k := k.2 c5
        refine R_ld (v := .inr (.inr (rd h (q + 1) v6))) dd_Crowd_goBack_70 rfl rfl rfl rfl ?_
        refine R_gf (v := .inl (rd h (rd h (q + 1) v6) 3)) dd_Crowd_goBack_72 fd_0_94 (io_dr hR hq (by omega)) rfl rfl ?_
        refine R_goto dd_Crowd_goBack_75 rfl ?_
        refine R_st (ls' := [some (.inr (.inr 84)), some (.inr (.inr q)), some (.inl v2), some (.inl v3), some (.inl v4), some (.inl v5), some (.inl v6), some (.inr (.inr (rd h (q + 1) v6))), some (.inl (rd h (rd h (q + 1) v6) 3))]) dd_Crowd_goBack_83 rfl rfl rfl (Nat.le_of_ble_eq_true rfl) rfl rfl ?_
        exact k
    · replace k := k.2 c4
      refine R_goto dd_Crowd_goBack_48 rfl ?_
      exact k
theorem B_Crowd_goBack_85 {xs : Nat → Int} {xl e : Nat} {h : LH} {Q : Option LV → LH → Prop} {v2 v3 v4 v5 v6 v8 : Int} {q : Int} (hq : q = 5 ∨ q = 32) {o7 : Option LV} (hR : RNG h) (r_v3 : 0 ≤ v3 ∧ v3 ≤ 249) (r_v4 : 0 ≤ v4 ∧ v4 ≤ 23) (r_v5 : 0 ≤ v5 ∧ v5 ≤ 9) (r_v6 : 0 ≤ v6 ∧ v6 ≤ 13) (r_v8 : 0 ≤ v8 ∧ v8 ≤ 9)
    (k : (-2147483648 ≤ (rd h 84 6) + v4 ∧ (rd h 84 6) + v4 ≤ 2147483647) ∧
      (∃ c, c < e ∧ Rn xs xl c mm_Quarter_into 0 [some (.inr (.inr q)), some (.inl v6), some (.inl 0), some (.inl v8), some (.inl ((rd h 84 6) + v4)), some (.inl v2), none] [] h (fun r h' => Rn xs xl e mm_Crowd_goBack 102 [some (.inr (.inr 84)), some (.inr (.inr q)), some (.inl v2), some (.inl v3), some (.inl v4), some (.inl v5), some (.inl v6), o7, some (.inl v8)] (r.toList ++ []) h' Q))) :
    Rn xs xl e mm_Crowd_goBack 85 [some (.inr (.inr 84)), some (.inr (.inr q)), some (.inl v2), some (.inl v3), some (.inl v4), some (.inl v5), some (.inl v6), o7, some (.inl v8)] [] h Q := by
  have hF := RF_of hR
  refine R_ld (v := .inr (.inr q)) dd_Crowd_goBack_85 rfl rfl rfl rfl ?_
  refine R_ld (v := .inl v6) dd_Crowd_goBack_86 rfl rfl rfl rfl ?_
  refine R_ic dd_Crowd_goBack_88 (by decide) rfl ?_
  refine R_ld (v := .inl v8) dd_Crowd_goBack_89 rfl rfl rfl rfl ?_
  refine R_ld (v := .inr (.inr 84)) dd_Crowd_goBack_91 rfl rfl rfl rfl ?_
  refine R_gf (v := .inl (rd h 84 6)) dd_Crowd_goBack_92 fd_0_33 io_84 (congrArg (fun z : Int => (Sum.inl z : LV)) (rfl)) rfl ?_
  refine R_ld (v := .inl v4) dd_Crowd_goBack_95 rfl rfl rfl rfl ?_
  obtain ⟨s1, k⟩ := k
  refine R_iadd (c := (rd h 84 6) + v4) dd_Crowd_goBack_97 (by omega) s1 rfl ?_
  refine R_ld (v := .inl v2) dd_Crowd_goBack_98 rfl rfl rfl rfl ?_
  obtain ⟨c, hc, k⟩ := k
  exact R_call (as := [.inr (.inr q), .inl v6, .inl 0, .inl v8, .inl ((rd h 84 6) + v4), .inl v2]) (rest := []) (M' := mm_Quarter_into) (ls0 := [some (.inr (.inr q)), some (.inl v6), some (.inl 0), some (.inl v8), some (.inl ((rd h 84 6) + v4)), some (.inl v2), none]) dd_Crowd_goBack_99 rfl rfl (cw_v cw_0_78 (io_q hq) rfl rfl (Nat.le_of_ble_eq_true rfl) (Nat.le_of_ble_eq_true rfl)) mt_Quarter_into rfl hc rfl k
theorem B_Crowd_goBack_102 {xs : Nat → Int} {xl e : Nat} {h : LH} {Q : Option LV → LH → Prop} {v2 v3 v4 v5 v6 v8 w0 : Int} {q : Int} (hq : q = 5 ∨ q = 32) {o7 : Option LV} (hR : RNG h) (r_v3 : 0 ≤ v3 ∧ v3 ≤ 249) (r_v4 : 0 ≤ v4 ∧ v4 ≤ 23) (r_v5 : 0 ≤ v5 ∧ v5 ≤ 9) (r_v6 : 0 ≤ v6 ∧ v6 ≤ 13) (r_v8 : 0 ≤ v8 ∧ v8 ≤ 9)
    (k : (w0 ≠ v5 →
        Rn xs xl e mm_Crowd_goBack 122 [some (.inr (.inr 84)), some (.inr (.inr q)), some (.inl v2), some (.inl v3), some (.inl v4), some (.inl v5), some (.inl v6), o7, some (.inl v8)] [] h Q) ∧
      (w0 = v5 →
        (∃ c, c < e ∧ Rn xs xl c mm_Crowd_visit 0 [some (.inr (.inr 84)), some (.inl (10 * v4 + v8)), some (.inl v3), some (.inl v6)] [] h (fun r h' => Rn xs xl e mm_Crowd_goBack 122 [some (.inr (.inr 84)), some (.inr (.inr q)), some (.inl v2), some (.inl v3), some (.inl v4), some (.inl v5), some (.inl v6), o7, some (.inl v8)] (r.toList ++ []) h' Q)))) :
    Rn xs xl e mm_Crowd_goBack 102 [some (.inr (.inr 84)), some (.inr (.inr q)), some (.inl v2), some (.inl v3), some (.inl v4), some (.inl v5), some (.inl v6), o7, some (.inl v8)] [.inl w0] h Q := by
  have hF := RF_of hR
  refine R_ld (v := .inl v5) dd_Crowd_goBack_102 rfl rfl rfl rfl ?_
  refine R_icmp dd_Crowd_goBack_104 rfl rfl (fun (c2 : w0 ≠ v5) => ?_) (fun (c2 : w0 = v5) => ?_)
  · replace k := k.1 c2
    exact k
  · replace k := k.2 c2
    refine R_ld (v := .inr (.inr 84)) dd_Crowd_goBack_107 rfl rfl rfl rfl ?_
    refine R_ld (v := .inl v4) dd_Crowd_goBack_108 rfl rfl rfl rfl ?_
    refine R_bi dd_Crowd_goBack_110 (by decide) rfl ?_
    refine R_imul (c := 10 * v4) dd_Crowd_goBack_112 (by omega) (by omega) rfl ?_
    refine R_ld (v := .inl v8) dd_Crowd_goBack_113 rfl rfl rfl rfl ?_
    refine R_iadd (c := 10 * v4 + v8) dd_Crowd_goBack_115 (by omega) (by omega) rfl ?_
    refine R_ld (v := .inl v3) dd_Crowd_goBack_116 rfl rfl rfl rfl ?_
    refine R_ld (v := .inl v6) dd_Crowd_goBack_117 rfl rfl rfl rfl ?_
    obtain ⟨c, hc, k⟩ := k
    exact R_call (as := [.inr (.inr 84), .inl (10 * v4 + v8), .inl v3, .inl v6]) (rest := []) (M' := mm_Crowd_visit) (ls0 := [some (.inr (.inr 84)), some (.inl (10 * v4 + v8)), some (.inl v3), some (.inl v6)]) dd_Crowd_goBack_119 rfl rfl (cw_v cw_0_63 io_84 rfl rfl (Nat.le_of_ble_eq_true rfl) (Nat.le_of_ble_eq_true rfl)) mt_Crowd_visit rfl hc rfl k
theorem B_Crowd_goBack_122 {xs : Nat → Int} {xl e : Nat} {h : LH} {Q : Option LV → LH → Prop} {v2 v3 v4 v5 v6 : Int} {q : Int} (hq : q = 5 ∨ q = 32) {o7 : Option LV} {o8 : Option LV} (hF : RF h) (r_v6 : 0 ≤ v6 ∧ v6 ≤ 13)
    (k : Rn xs xl e mm_Crowd_goBack 23 [some (.inr (.inr 84)), some (.inr (.inr q)), some (.inl v2), some (.inl v3), some (.inl v4), some (.inl v5), some (.inl (v6 + 1)), o7, o8] [] h Q) :
    Rn xs xl e mm_Crowd_goBack 122 [some (.inr (.inr 84)), some (.inr (.inr q)), some (.inl v2), some (.inl v3), some (.inl v4), some (.inl v5), some (.inl v6), o7, o8] [] h Q := by
  refine R_inc (y := v6 + 1) (ls' := [some (.inr (.inr 84)), some (.inr (.inr q)), some (.inl v2), some (.inl v3), some (.inl v4), some (.inl v5), some (.inl (v6 + 1)), o7, o8]) dd_Crowd_goBack_122 rfl (by decide) (by omega) (by omega) rfl rfl ?_
  refine R_goto dd_Crowd_goBack_125 rfl ?_
  exact k
theorem B_Crowd_goBack_128 {xs : Nat → Int} {xl e : Nat} {h : LH} {Q : Option LV → LH → Prop} {v2 v3 v4 v5 v6 : Int} {q : Int} (hq : q = 5 ∨ q = 32) {o7 : Option LV} {o8 : Option LV} (hF : RF h) (r_v3 : 0 ≤ v3 ∧ v3 ≤ 249) (r_v4 : 0 ≤ v4 ∧ v4 ≤ 23) (r_v5 : 0 ≤ v5 ∧ v5 ≤ 9)
    (k : ((rd h 86 (10 * v4 + v5)) ≤ 0 →
        Q none h) ∧
      (0 < (rd h 86 (10 * v4 + v5)) →
        (∃ c, c < e ∧ Rn xs xl c mm_Crowd_visit 0 [some (.inr (.inr 84)), some (.inl (v3 - 10)), some (.inl v3), some (.inl (-1))] [] h (fun r h' => Rn xs xl e mm_Crowd_goBack 154 [some (.inr (.inr 84)), some (.inr (.inr q)), some (.inl v2), some (.inl v3), some (.inl v4), some (.inl v5), some (.inl v6), o7, o8] (r.toList ++ []) h' Q)))) :
    Rn xs xl e mm_Crowd_goBack 128 [some (.inr (.inr 84)), some (.inr (.inr q)), some (.inl v2), some (.inl v3), some (.inl v4), some (.inl v5), some (.inl v6), o7, o8] [] h Q := by
  refine R_ld (v := .inr (.inr 84)) dd_Crowd_goBack_128 rfl rfl rfl rfl ?_
  refine R_gf (v := .inr (.inr 86)) dd_Crowd_goBack_129 fd_0_15 io_84 (congrArg (fun z : Int => (Sum.inr (Sum.inr z) : LV)) (rf_84_1 hF)) rfl ?_
  refine R_ld (v := .inl v4) dd_Crowd_goBack_132 rfl rfl rfl rfl ?_
  refine R_bi dd_Crowd_goBack_134 (by decide) rfl ?_
  refine R_imul (c := 10 * v4) dd_Crowd_goBack_136 (by omega) (by omega) rfl ?_
  refine R_ld (v := .inl v5) dd_Crowd_goBack_137 rfl rfl rfl rfl ?_
  refine R_iadd (c := 10 * v4 + v5) dd_Crowd_goBack_139 (by omega) (by omega) rfl ?_
  refine R_iald (v := (rd h 86 (10 * v4 + v5))) (n := 240) dd_Crowd_goBack_140 ia_86 la_86 (by omega) (rfl) rfl ?_
  refine R_if dd_Crowd_goBack_141 rfl rfl (fun (c2 : (rd h 86 (10 * v4 + v5)) ≤ 0) => ?_) (fun (c2 : 0 < (rd h 86 (10 * v4 + v5))) => ?_)
  · replace k := k.1 c2
    exact R_vret dd_Crowd_goBack_154 rfl k
  · replace k := k.2 c2
    refine R_ld (v := .inr (.inr 84)) dd_Crowd_goBack_144 rfl rfl rfl rfl ?_
    refine R_ld (v := .inl v3) dd_Crowd_goBack_145 rfl rfl rfl rfl ?_
    refine R_bi dd_Crowd_goBack_146 (by decide) rfl ?_
    refine R_isub (c := v3 - 10) dd_Crowd_goBack_148 (by omega) (by omega) rfl ?_
    refine R_ld (v := .inl v3) dd_Crowd_goBack_149 rfl rfl rfl rfl ?_
    refine R_ic dd_Crowd_goBack_150 (by decide) rfl ?_
    obtain ⟨c, hc, k⟩ := k
    exact R_call (as := [.inr (.inr 84), .inl (v3 - 10), .inl v3, .inl (-1)]) (rest := []) (M' := mm_Crowd_visit) (ls0 := [some (.inr (.inr 84)), some (.inl (v3 - 10)), some (.inl v3), some (.inl (-1))]) dd_Crowd_goBack_151 rfl rfl (cw_v cw_0_63 io_84 rfl rfl (Nat.le_of_ble_eq_true rfl) (Nat.le_of_ble_eq_true rfl)) mt_Crowd_visit rfl hc rfl k
theorem B_Crowd_goBack_154 {xs : Nat → Int} {xl e : Nat} {h : LH} {Q : Option LV → LH → Prop} {v2 v3 v4 v5 v6 : Int} {q : Int} (hq : q = 5 ∨ q = 32) {o7 : Option LV} {o8 : Option LV} (hF : RF h)
    (k : Q none h) :
    Rn xs xl e mm_Crowd_goBack 154 [some (.inr (.inr 84)), some (.inr (.inr q)), some (.inl v2), some (.inl v3), some (.inl v4), some (.inl v5), some (.inl v6), o7, o8] [] h Q := by
  exact R_vret dd_Crowd_goBack_154 rfl k
theorem B_Crowd_findPath_0 {xs : Nat → Int} {xl e : Nat} {h : LH} {Q : Option LV → LH → Prop} {v2 v3 v4 : Int} {q : Int} (hq : q = 5 ∨ q = 32) (hF : RF h)
    (k : (∃ c, c < e ∧ Rn xs xl c mm_java_util_Arrays_fill 0 [some (.inr (.inr 87)), some (.inl (-1)), none, none] [] h (fun r h' => Rn xs xl e mm_Crowd_findPath 8 [some (.inr (.inr 84)), some (.inr (.inr q)), some (.inl v2), some (.inl v3), some (.inl v4), none] (r.toList ++ []) h' Q))) :
    Rn xs xl e mm_Crowd_findPath 0 [some (.inr (.inr 84)), some (.inr (.inr q)), some (.inl v2), some (.inl v3), some (.inl v4), none] [] h Q := by
  refine R_ld (v := .inr (.inr 84)) dd_Crowd_findPath_0 rfl rfl rfl rfl ?_
  refine R_gf (v := .inr (.inr 87)) dd_Crowd_findPath_1 fd_0_18 io_84 (congrArg (fun z : Int => (Sum.inr (Sum.inr z) : LV)) (rf_84_2 hF)) rfl ?_
  refine R_ic dd_Crowd_findPath_4 (by decide) rfl ?_
  obtain ⟨c, hc, k⟩ := k
  exact R_call (as := [.inr (.inr 87), .inl (-1)]) (rest := []) (M' := mm_java_util_Arrays_fill) (ls0 := [some (.inr (.inr 87)), some (.inl (-1)), none, none]) dd_Crowd_findPath_5 rfl rfl (cw_s cw_0_39 rfl rfl (Nat.le_of_ble_eq_true rfl) (Nat.le_of_ble_eq_true rfl)) mt_java_util_Arrays_fill rfl hc rfl k
theorem B_Crowd_findPath_8 {xs : Nat → Int} {xl e : Nat} {h : LH} {Q : Option LV → LH → Prop} {v2 v3 v4 : Int} {q : Int} (hq : q = 5 ∨ q = 32) (hF : RF h)
    (k : (∃ c, c < e ∧ Rn xs xl c mm_Crowd_visit 0 [some (.inr (.inr 84)), some (.inl v3), some (.inl v3), some (.inl (-1))] [] (wr h 84 5 0) (fun r h' => Rn xs xl e mm_Crowd_findPath 20 [some (.inr (.inr 84)), some (.inr (.inr q)), some (.inl v2), some (.inl v3), some (.inl v4), none] (r.toList ++ []) h' Q))) :
    Rn xs xl e mm_Crowd_findPath 8 [some (.inr (.inr 84)), some (.inr (.inr q)), some (.inl v2), some (.inl v3), some (.inl v4), none] [] h Q := by
  refine R_ld (v := .inr (.inr 84)) dd_Crowd_findPath_8 rfl rfl rfl rfl ?_
  refine R_ic dd_Crowd_findPath_9 (by decide) rfl ?_
  refine R_pf (z := 0) dd_Crowd_findPath_10 fd_0_60 io_84 fn_0_5 rfl rfl ?_
  refine R_ld (v := .inr (.inr 84)) dd_Crowd_findPath_13 rfl rfl rfl rfl ?_
  refine R_ld (v := .inl v3) dd_Crowd_findPath_14 rfl rfl rfl rfl ?_
  refine R_ld (v := .inl v3) dd_Crowd_findPath_15 rfl rfl rfl rfl ?_
  refine R_ic dd_Crowd_findPath_16 (by decide) rfl ?_
  obtain ⟨c, hc, k⟩ := k
  exact R_call (as := [.inr (.inr 84), .inl v3, .inl v3, .inl (-1)]) (rest := []) (M' := mm_Crowd_visit) (ls0 := [some (.inr (.inr 84)), some (.inl v3), some (.inl v3), some (.inl (-1))]) dd_Crowd_findPath_17 rfl rfl (cw_v cw_0_63 io_84 rfl rfl (Nat.le_of_ble_eq_true rfl) (Nat.le_of_ble_eq_true rfl)) mt_Crowd_visit rfl hc rfl k
theorem B_Crowd_findPath_20 {xs : Nat → Int} {xl e : Nat} {h : LH} {Q : Option LV → LH → Prop} {v2 v3 v4 : Int} {q : Int} (hq : q = 5 ∨ q = 32) (hF : RF h)
    (k : Rn xs xl e mm_Crowd_findPath 23 [some (.inr (.inr 84)), some (.inr (.inr q)), some (.inl v2), some (.inl v3), some (.inl v4), some (.inl 0)] [] h Q) :
    Rn xs xl e mm_Crowd_findPath 20 [some (.inr (.inr 84)), some (.inr (.inr q)), some (.inl v2), some (.inl v3), some (.inl v4), none] [] h Q := by
  refine R_ic dd_Crowd_findPath_20 (by decide) rfl ?_
  refine R_st (ls' := [some (.inr (.inr 84)), some (.inr (.inr q)), some (.inl v2), some (.inl v3), some (.inl v4), some (.inl 0)]) dd_Crowd_findPath_21 rfl rfl rfl (Nat.le_of_ble_eq_true rfl) rfl rfl ?_
  exact k
theorem B_Crowd_findPath_23 {xs : Nat → Int} {xl e : Nat} {h : LH} {Q : Option LV → LH → Prop} {v2 v3 v4 v5 : Int} {q : Int} (hq : q = 5 ∨ q = 32) (hF : RF h) (r_v4 : 0 ≤ v4 ∧ v4 ≤ 249) (r_v5 : 0 ≤ v5 ∧ v5 ≤ 250)
    (k : ((rd h 84 5) ≤ v5 →
        ((rd h 87 v4) = (-1) →
          Q (some (.inl 0)) h) ∧
        ((rd h 87 v4) ≠ (-1) →
          Q (some (.inl 1)) h)) ∧
      (v5 < (rd h 84 5) →
        ((rd h 87 v4) ≠ (-1) →
          Q (some (.inl 1)) h) ∧
        ((rd h 87 v4) = (-1) →
          (0 ≤ v5 ∧ v5 < 250) ∧
          (∃ c, c < e ∧ Rn xs xl c mm_Crowd_goForward 0 [some (.inr (.inr 84)), some (.inr (.inr q)), some (.inl v2), some (.inl (rd h 89 v5)), none, none, none, none] [] h (fun r h' => Rn xs xl e mm_Crowd_findPath 56 [some (.inr (.inr 84)), some (.inr (.inr q)), some (.inl v2), some (.inl v3), some (.inl v4), some (.inl v5)] (r.toList ++ []) h' Q))))) :
    Rn xs xl e mm_Crowd_findPath 23 [some (.inr (.inr 84)), some (.inr (.inr q)), some (.inl v2), some (.inl v3), some (.inl v4), some (.inl v5)] [] h Q := by
  refine R_ld (v := .inl v5) dd_Crowd_findPath_23 rfl rfl rfl rfl ?_
  refine R_ld (v := .inr (.inr 84)) dd_Crowd_findPath_25 rfl rfl rfl rfl ?_
  refine R_gf (v := .inl (rd h 84 5)) dd_Crowd_findPath_26 fd_0_60 io_84 (congrArg (fun z : Int => (Sum.inl z : LV)) (rfl)) rfl ?_
  refine R_icmp dd_Crowd_findPath_29 rfl rfl (fun (c3 : (rd h 84 5) ≤ v5) => ?_) (fun (c3 : v5 < (rd h 84 5)) => ?_)
  · replace k := k.1 c3
    refine R_ld (v := .inr (.inr 84)) dd_Crowd_findPath_75 rfl rfl rfl rfl ?_
    refine R_gf (v := .inr (.inr 87)) dd_Crowd_findPath_76 fd_0_18 io_84 (congrArg (fun z : Int => (Sum.inr (Sum.inr z) : LV)) (rf_84_2 hF)) rfl ?_
    refine R_ld (v := .inl v4) dd_Crowd_findPath_79 rfl rfl rfl rfl ?_
    refine R_iald (v := (rd h 87 v4)) (n := 250) dd_Crowd_findPath_81 ia_87 la_87 (by omega) (rfl) rfl ?_
    refine R_ic dd_Crowd_findPath_82 (by decide) rfl ?_
    refine R_icmp dd_Crowd_findPath_83 rfl rfl (fun (c4 : (rd h 87 v4) = (-1)) => ?_) (fun (c4 : (rd h 87 v4) ≠ (-1)) => ?_)
    · replace k := k.1 c4
      refine R_ic dd_Crowd_findPath_90 (by decide) rfl ?_
      exact R_zret dd_Crowd_findPath_91 rfl (by decide) k
    · replace k := k.2 c4
      refine R_ic dd_Crowd_findPath_86 (by decide) rfl ?_
      refine R_goto dd_Crowd_findPath_87 rfl ?_
      exact R_zret dd_Crowd_findPath_91 rfl (by decide) k
  · replace k := k.2 c3
    refine R_ld (v := .inr (.inr 84)) dd_Crowd_findPath_32 rfl rfl rfl rfl ?_
    refine R_gf (v := .inr (.inr 87)) dd_Crowd_findPath_33 fd_0_18 io_84 (congrArg (fun z : Int => (Sum.inr (Sum.inr z) : LV)) (rf_84_2 hF)) rfl ?_
    refine R_ld (v := .inl v4) dd_Crowd_findPath_36 rfl rfl rfl rfl ?_
    refine R_iald (v := (rd h 87 v4)) (n := 250) dd_Crowd_findPath_38 ia_87 la_87 (by omega) (rfl) rfl ?_
    refine R_ic dd_Crowd_findPath_39 (by decide) rfl ?_
    refine R_icmp dd_Crowd_findPath_40 rfl rfl (fun (c5 : (rd h 87 v4) ≠ (-1)) => ?_) (fun (c5 : (rd h 87 v4) = (-1)) => ?_)
    · replace k := k.1 c5
      refine R_ld (v := .inr (.inr 84)) dd_Crowd_findPath_75 rfl rfl rfl rfl ?_
      refine R_gf (v := .inr (.inr 87)) dd_Crowd_findPath_76 fd_0_18 io_84 (congrArg (fun z : Int => (Sum.inr (Sum.inr z) : LV)) (rf_84_2 hF)) rfl ?_
      refine R_ld (v := .inl v4) dd_Crowd_findPath_79 rfl rfl rfl rfl ?_
      refine R_iald (v := (rd h 87 v4)) (n := 250) dd_Crowd_findPath_81 ia_87 la_87 (by omega) (rfl) rfl ?_
      refine R_ic dd_Crowd_findPath_82 (by decide) rfl ?_
      refine R_icmp dd_Crowd_findPath_83 rfl rfl (fun (c6 : (rd h 87 v4) = (-1)) => ?_) (fun (c6 : (rd h 87 v4) ≠ (-1)) => ?_)
      · exact absurd c6 (by omega)
      · skip
        refine R_ic dd_Crowd_findPath_86 (by decide) rfl ?_
        refine R_goto dd_Crowd_findPath_87 rfl ?_
        exact R_zret dd_Crowd_findPath_91 rfl (by decide) k
    · replace k := k.2 c5
      refine R_ld (v := .inr (.inr 84)) dd_Crowd_findPath_43 rfl rfl rfl rfl ?_
      refine R_ld (v := .inr (.inr q)) dd_Crowd_findPath_44 rfl rfl rfl rfl ?_
      refine R_ld (v := .inl v2) dd_Crowd_findPath_45 rfl rfl rfl rfl ?_
      refine R_ld (v := .inr (.inr 84)) dd_Crowd_findPath_46 rfl rfl rfl rfl ?_
      refine R_gf (v := .inr (.inr 89)) dd_Crowd_findPath_47 fd_0_24 io_84 (congrArg (fun z : Int => (Sum.inr (Sum.inr z) : LV)) (rf_84_4 hF)) rfl ?_
      refine R_ld (v := .inl v5) dd_Crowd_findPath_50 rfl rfl rfl rfl ?_
      obtain ⟨s1, k⟩ := k
      refine R_iald (v := (rd h 89 v5)) (n := 250) dd_Crowd_findPath_52 ia_89 la_89 s1 (rfl) rfl ?_
      obtain ⟨c, hc, k⟩ := k
      exact R_call (as := [.inr (.inr 84), .inr (.inr q), .inl v2, .inl (rd h 89 v5)]) (rest := []) (M' := mm_Crowd_goForward) (ls0 := [some (.inr (.inr 84)), some (.inr (.inr q)), some (.inl v2), some (.inl (rd h 89 v5)), none, none, none, none]) dd_Crowd_findPath_53 rfl rfl (cw_v cw_0_66 io_84 rfl rfl (Nat.le_of_ble_eq_true rfl) (Nat.le_of_ble_eq_true rfl)) mt_Crowd_goForward rfl hc rfl k
theorem B_Crowd_findPath_56 {xs : Nat → Int} {xl e : Nat} {h : LH} {Q : Option LV → LH → Prop} {v2 v3 v4 v5 : Int} {q : Int} (hq : q = 5 ∨ q = 32) (hF : RF h) (r_v5 : 0 ≤ v5 ∧ v5 ≤ 249)
    (k : (∃ c, c < e ∧ Rn xs xl c mm_Crowd_goBack 0 [some (.inr (.inr 84)), some (.inr (.inr q)), some (.inl v2), some (.inl (rd h 89 v5)), none, none, none, none, none] [] h (fun r h' => Rn xs xl e mm_Crowd_findPath 69 [some (.inr (.inr 84)), some (.inr (.inr q)), some (.inl v2), some (.inl v3), some (.inl v4), some (.inl v5)] (r.toList ++ []) h' Q))) :
    Rn xs xl e mm_Crowd_findPath 56 [some (.inr (.inr 84)), some (.inr (.inr q)), some (.inl v2), some (.inl v3), some (.inl v4), some (.inl v5)] [] h Q := by
  refine R_ld (v := .inr (.inr 84)) dd_Crowd_findPath_56 rfl rfl rfl rfl ?_
  refine R_ld (v := .inr (.inr q)) dd_Crowd_findPath_57 rfl rfl rfl rfl ?_
  refine R_ld (v := .inl v2) dd_Crowd_findPath_58 rfl rfl rfl rfl ?_
  refine R_ld (v := .inr (.inr 84)) dd_Crowd_findPath_59 rfl rfl rfl rfl ?_
  refine R_gf (v := .inr (.inr 89)) dd_Crowd_findPath_60 fd_0_24 io_84 (congrArg (fun z : Int => (Sum.inr (Sum.inr z) : LV)) (rf_84_4 hF)) rfl ?_
  refine R_ld (v := .inl v5) dd_Crowd_findPath_63 rfl rfl rfl rfl ?_
  refine R_iald (v := (rd h 89 v5)) (n := 250) dd_Crowd_findPath_65 ia_89 la_89 (by omega) (rfl) rfl ?_
  obtain ⟨c, hc, k⟩ := k
  exact R_call (as := [.inr (.inr 84), .inr (.inr q), .inl v2, .inl (rd h 89 v5)]) (rest := []) (M' := mm_Crowd_goBack) (ls0 := [some (.inr (.inr 84)), some (.inr (.inr q)), some (.inl v2), some (.inl (rd h 89 v5)), none, none, none, none, none]) dd_Crowd_findPath_66 rfl rfl (cw_v cw_0_70 io_84 rfl rfl (Nat.le_of_ble_eq_true rfl) (Nat.le_of_ble_eq_true rfl)) mt_Crowd_goBack rfl hc rfl k
theorem B_Crowd_findPath_69 {xs : Nat → Int} {xl e : Nat} {h : LH} {Q : Option LV → LH → Prop} {v2 v3 v4 v5 : Int} {q : Int} (hq : q = 5 ∨ q = 32) (hF : RF h) (r_v5 : 0 ≤ v5 ∧ v5 ≤ 249)
    (k : Rn xs xl e mm_Crowd_findPath 23 [some (.inr (.inr 84)), some (.inr (.inr q)), some (.inl v2), some (.inl v3), some (.inl v4), some (.inl (v5 + 1))] [] h Q) :
    Rn xs xl e mm_Crowd_findPath 69 [some (.inr (.inr 84)), some (.inr (.inr q)), some (.inl v2), some (.inl v3), some (.inl v4), some (.inl v5)] [] h Q := by
  refine R_inc (y := v5 + 1) (ls' := [some (.inr (.inr 84)), some (.inr (.inr q)), some (.inl v2), some (.inl v3), some (.inl v4), some (.inl (v5 + 1))]) dd_Crowd_findPath_69 rfl (by decide) (by omega) (by omega) rfl rfl ?_
  refine R_goto dd_Crowd_findPath_72 rfl ?_
  exact k
theorem B_Crowd_narrowest_0 {xs : Nat → Int} {xl e : Nat} {h : LH} {Q : Option LV → LH → Prop} {v2 v3 : Int} {q : Int} (hq : q = 5 ∨ q = 32) (hF : RF h)
    (k : Rn xs xl e mm_Crowd_narrowest 10 [some (.inr (.inr 84)), some (.inr (.inr q)), some (.inl v2), some (.inl v3), some (.inl 1000000), some (.inl v3), some (.inl 0), none, none, none, none] [] h Q) :
    Rn xs xl e mm_Crowd_narrowest 0 [some (.inr (.inr 84)), some (.inr (.inr q)), some (.inl v2), some (.inl v3), none, none, none, none, none, none, none] [] h Q := by
  refine R_C (v := .inl (1000000)) dd_Crowd_narrowest_0 rfl rfl (by decide +kernel) rfl ?_
  refine R_st (ls' := [some (.inr (.inr 84)), some (.inr (.inr q)), some (.inl v2), some (.inl v3), some (.inl 1000000), none, none, none, none, none, none]) dd_Crowd_narrowest_2 rfl rfl rfl (Nat.le_of_ble_eq_true rfl) rfl rfl ?_
  refine R_ld (v := .inl v3) dd_Crowd_narrowest_4 rfl rfl rfl rfl ?_
  refine R_st (ls' := [some (.inr (.inr 84)), some (.inr (.inr q)), some (.inl v2), some (.inl v3), some (.inl 1000000), some (.inl v3), none, none, none, none, none]) dd_Crowd_narrowest_5 rfl rfl rfl (Nat.le_of_ble_eq_true rfl) rfl rfl ?_
  refine R_ic dd_Crowd_narrowest_7 (by decide) rfl ?_
  refine R_st (ls' := [some (.inr (.inr 84)), some (.inr (.inr q)), some (.inl v2), some (.inl v3), some (.inl 1000000), some (.inl v3), some (.inl 0), none, none, none, none]) dd_Crowd_narrowest_8 rfl rfl rfl (Nat.le_of_ble_eq_true rfl) rfl rfl ?_
  exact k
theorem B_Crowd_narrowest_10 {xs : Nat → Int} {xl e : Nat} {h : LH} {Q : Option LV → LH → Prop} {v2 v3 v4 v5 v6 : Int} {q : Int} (hq : q = 5 ∨ q = 32) {o7 : Option LV} {o8 : Option LV} {o9 : Option LV} {o10 : Option LV} (hR : RNG h) (r_v2 : 0 ≤ v2 ∧ v2 ≤ 9) (r_v5 : 0 ≤ v5 ∧ v5 ≤ 249) (r_v6 : 0 ≤ v6 ∧ v6 ≤ 250)
    (k : (250 ≤ v6 →
        Q (some (.inl v4)) h) ∧
      (v6 < 250 →
        (v5 = v2 →
          Q (some (.inl v4)) h) ∧
        (v5 ≠ v2 →
          (∀ m1, m1 ≤ (rd h 87 v5) ∧ m1 ≤ v5 ∧ (m1 = (rd h 87 v5) ∨ m1 = v5) →
          (0 ≤ m1 ∧ m1 ≤ 2147483647) ∧
            ((rd h 88 v5) = (-1) →
              ((rd h 87 v5) ≤ v5 →
                Rn xs xl e mm_Crowd_narrowest 131 [some (.inr (.inr 84)), some (.inr (.inr q)), some (.inl v2), some (.inl v3), some (.inl v4), some (.inl v5), some (.inl v6), some (.inl (rd h 87 v5)), some (.inl (rd h 88 v5)), some (.inl (m1 / 10)), o10] [] h Q) ∧
              (v5 < (rd h 87 v5) →
                (0 ≤ v5 ∧ v5 < 240) ∧
                (∀ m4, m4 ≤ v4 ∧ m4 ≤ (rd h 86 v5) ∧ (m4 = v4 ∨ m4 = (rd h 86 v5)) →
                Rn xs xl e mm_Crowd_narrowest 131 [some (.inr (.inr 84)), some (.inr (.inr q)), some (.inl v2), some (.inl v3), some (.inl m4), some (.inl v5), some (.inl v6), some (.inl (rd h 87 v5)), some (.inl (rd h 88 v5)), some (.inl (m1 / 10)), o10] [] h Q))) ∧
            ((rd h 88 v5) ≠ (-1) →
              (-2147483648 ≤ 14 * (m1 / 10) ∧ 14 * (m1 / 10) ≤ 2147483647) ∧
              (-2147483648 ≤ 14 * (m1 / 10) + (rd h 88 v5) ∧ 14 * (m1 / 10) + (rd h 88 v5) ≤ 2147483647) ∧
              (0 ≤ 14 * (m1 / 10) + (rd h 88 v5) ∧ 14 * (m1 / 10) + (rd h 88 v5) < 336) ∧
              (v5 ≤ (rd h 87 v5) →
                (∀ m8, m8 ≤ v4 ∧ m8 ≤ (rd h 85 (14 * (m1 / 10) + (rd h 88 v5))) ∧ (m8 = v4 ∨ m8 = (rd h 85 (14 * (m1 / 10) + (rd h 88 v5)))) →
                Rn xs xl e mm_Crowd_narrowest 131 [some (.inr (.inr 84)), some (.inr (.inr q)), some (.inl v2), some (.inl v3), some (.inl m8), some (.inl v5), some (.inl v6), some (.inl (rd h 87 v5)), some (.inl (rd h 88 v5)), some (.inl (m1 / 10)), some (.inl (rd h 85 (14 * (m1 / 10) + (rd h 88 v5))))] [] h Q)) ∧
              ((rd h 87 v5) < v5 →
                (0 ≤ (rd h 88 v5) ∧ (rd h 88 v5) < 14) ∧
                (∀ m10, m10 ≤ v4 ∧ m10 ≤ (w32 ((rd h (rd h (q + 1) (rd h 88 v5)) 7) - (rd h 85 (14 * (m1 / 10) + (rd h 88 v5))))) ∧ (m10 = v4 ∨ m10 = (w32 ((rd h (rd h (q + 1) (rd h 88 v5)) 7) - (rd h 85 (14 * (m1 / 10) + (rd h 88 v5)))))) →
                Rn xs xl e mm_Crowd_narrowest 131 [some (.inr (.inr 84)), some (.inr (.inr q)), some (.inl v2), some (.inl v3), some (.inl m10), some (.inl v5), some (.inl v6), some (.inl (rd h 87 v5)), some (.inl (rd h 88 v5)), some (.inl (m1 / 10)), some (.inl (rd h 85 (14 * (m1 / 10) + (rd h 88 v5))))] [] h Q))))))) :
    Rn xs xl e mm_Crowd_narrowest 10 [some (.inr (.inr 84)), some (.inr (.inr q)), some (.inl v2), some (.inl v3), some (.inl v4), some (.inl v5), some (.inl v6), o7, o8, o9, o10] [] h Q := by
  have hF := RF_of hR
  refine R_ld (v := .inl v6) dd_Crowd_narrowest_10 rfl rfl rfl rfl ?_
  refine R_si dd_Crowd_narrowest_12 (by decide) rfl ?_
  refine R_icmp dd_Crowd_narrowest_15 rfl rfl (fun (c11 : 250 ≤ v6) => ?_) (fun (c11 : v6 < 250) => ?_)
  · replace k := k.1 c11
    refine R_ld (v := .inl v4) dd_Crowd_narrowest_141 rfl rfl rfl rfl ?_
    exact R_iret dd_Crowd_narrowest_143 rfl k
  · replace k := k.2 c11
    refine R_ld (v := .inl v5) dd_Crowd_narrowest_18 rfl rfl rfl rfl ?_
    refine R_ld (v := .inl v2) dd_Crowd_narrowest_20 rfl rfl rfl rfl ?_
    refine R_icmp dd_Crowd_narrowest_21 rfl rfl (fun (c12 : v5 = v2) => ?_) (fun (c12 : v5 ≠ v2) => ?_)
    · replace k := k.1 c12
      refine R_ld (v := .inl v4) dd_Crowd_narrowest_141 rfl rfl rfl rfl ?_
      exact R_iret dd_Crowd_narrowest_143 rfl k
    · replace k := k.2 c12
      refine R_ld (v := .inr (.inr 84)) dd_Crowd_narrowest_24 rfl rfl rfl rfl ?_
      refine R_gf (v := .inr (.inr 87)) dd_Crowd_narrowest_25 fd_0_18 io_84 (congrArg (fun z : Int => (Sum.inr (Sum.inr z) : LV)) (rf_84_2 hF)) rfl ?_
      refine R_ld (v := .inl v5) dd_Crowd_narrowest_28 rfl rfl rfl rfl ?_
      refine R_iald (v := (rd h 87 v5)) (n := 250) dd_Crowd_narrowest_30 ia_87 la_87 (by omega) (rfl) rfl ?_
      refine R_st (ls' := [some (.inr (.inr 84)), some (.inr (.inr q)), some (.inl v2), some (.inl v3), some (.inl v4), some (.inl v5), some (.inl v6), some (.inl (rd h 87 v5)), o8, o9, o10]) dd_Crowd_narrowest_31 rfl rfl rfl (Nat.le_of_ble_eq_true rfl) rfl rfl ?_
      refine R_ld (v := .inr (.inr 84)) dd_Crowd_narrowest_33 rfl rfl rfl rfl ?_
      refine R_gf (v := .inr (.inr 88)) dd_Crowd_narrowest_34 fd_0_21 io_84 (congrArg (fun z : Int => (Sum.inr (Sum.inr z) : LV)) (rf_84_3 hF)) rfl ?_
      refine R_ld (v := .inl v5) dd_Crowd_narrowest_37 rfl rfl rfl rfl ?_
      refine R_iald (v := (rd h 88 v5)) (n := 250) dd_Crowd_narrowest_39 ia_88 la_88 (by omega) (rfl) rfl ?_
      refine R_st (ls' := [some (.inr (.inr 84)), some (.inr (.inr q)), some (.inl v2), some (.inl v3), some (.inl v4), some (.inl v5), some (.inl v6), some (.inl (rd h 87 v5)), some (.inl (rd h 88 v5)), o9, o10]) dd_Crowd_narrowest_40 rfl rfl rfl (Nat.le_of_ble_eq_true rfl) rfl rfl ?_
      refine R_ld (v := .inl (rd h 87 v5)) dd_Crowd_narrowest_42 rfl rfl rfl rfl ?_
      refine R_ld (v := .inl v5) dd_Crowd_narrowest_44 rfl rfl rfl rfl ?_
      refine R_minv dd_Crowd_narrowest_46 (by decide +kernel) (by decide +kernel) (Nat.le_of_ble_eq_true rfl) rfl (fun m1 hm1 => ?_)
      replace k := k m1 hm1
      refine R_bi dd_Crowd_narrowest_49 (by decide) rfl ?_
      obtain ⟨s2, k⟩ := k
      refine R_idiv dd_Crowd_narrowest_51 s2 (by decide) rfl ?_
      refine R_st (ls' := [some (.inr (.inr 84)), some (.inr (.inr q)), some (.inl v2), some (.inl v3), some (.inl v4), some (.inl v5), some (.inl v6), some (.inl (rd h 87 v5)), some (.inl (rd h 88 v5)), some (.inl (m1 / 10)), o10]) dd_Crowd_narrowest_52 rfl rfl rfl (Nat.le_of_ble_eq_true rfl) rfl rfl ?_
      refine R_ld (v := .inl (rd h 88 v5)) dd_Crowd_narrowest_54 rfl rfl rfl rfl ?_
      refine R_ic dd_Crowd_narrowest_56 (by decide) rfl ?_
      refine R_icmp dd_Crowd_narrowest_57 rfl rfl (fun (c13 : (rd h 88 v5) = (-1)) => ?_) (fun (c13 : (rd h 88 v5) ≠ (-1)) => ?_)
      · replace k := k.1 c13
        refine R_ld (v := .inl (rd h 87 v5)) dd_Crowd_narrowest_110 rfl rfl rfl rfl ?_
        refine R_ld (v := .inl v5) dd_Crowd_narrowest_112 rfl rfl rfl rfl ?_
        refine R_icmp dd_Crowd_narrowest_114 rfl rfl (fun (c14 : (rd h 87 v5) ≤ v5) => ?_) (fun (c14 : v5 < (rd h 87 v5)) => ?_)
        · replace k := k.1 c14
          exact k
        · replace k := k.2 c14
          refine R_ld (v := .inl v4) dd_Crowd_narrowest_117 rfl rfl rfl rfl ?_
          refine R_ld (v := .inr (.inr 84)) dd_Crowd_narrowest_119 rfl rfl rfl rfl ?_
          refine R_gf (v := .inr (.inr 86)) dd_Crowd_narrowest_120 fd_0_15 io_84 (congrArg (fun z : Int => (Sum.inr (Sum.inr z) : LV)) (rf_84_1 hF)) rfl ?_
          refine R_ld (v := .inl v5) dd_Crowd_narrowest_123 rfl rfl rfl rfl ?_
          obtain ⟨s3, k⟩ := k
          refine R_iald (v := (rd h 86 v5)) (n := 240) dd_Crowd_narrowest_125 ia_86 la_86 s3 (rfl) rfl ?_
          refine R_minv dd_Crowd_narrowest_126 (by decide +kernel) (by decide +kernel) (Nat.le_of_ble_eq_true rfl) rfl (fun m4 hm4 => ?_)
          replace k := k m4 hm4
          refine R_st (ls' := [some (.inr (.inr 84)), some (.inr (.inr q)), some (.inl v2), some (.inl v3), some (.inl m4), some (.inl v5), some (.inl v6), some (.inl (rd h 87 v5)), some (.inl (rd h 88 v5)), some (.inl (m1 / 10)), o10]) dd_Crowd_narrowest_129 rfl rfl rfl (Nat.le_of_ble_eq_true rfl) rfl rfl ?_
          exact k
      · replace k := k.2 c13
        refine R_ld (v := .inr (.inr 84)) dd_Crowd_narrowest_60 rfl rfl rfl rfl ?_
        refine R_gf (v := .inr (.inr 85)) dd_Crowd_narrowest_61 fd_0_9 io_84 (congrArg (fun z : Int => (Sum.inr (Sum.inr z) : LV)) (rf_84_0 hF)) rfl ?_
        refine R_ld (v := .inl (m1 / 10)) dd_Crowd_narrowest_64 rfl rfl rfl rfl ?_
        refine R_bi dd_Crowd_narrowest_66 (by decide) rfl ?_
        obtain ⟨s5, k⟩ := k
        refine R_imul (c := 14 * (m1 / 10)) dd_Crowd_narrowest_68 (by omega) s5 rfl ?_
        refine R_ld (v := .inl (rd h 88 v5)) dd_Crowd_narrowest_69 rfl rfl rfl rfl ?_
        obtain ⟨s6, k⟩ := k
        refine R_iadd (c := 14 * (m1 / 10) + (rd h 88 v5)) dd_Crowd_narrowest_71 (by omega) s6 rfl ?_
        obtain ⟨s7, k⟩ := k
        refine R_iald (v := (rd h 85 (14 * (m1 / 10) + (rd h 88 v5)))) (n := 336) dd_Crowd_narrowest_72 ia_85 la_85 s7 (rfl) rfl ?_
        refine R_st (ls' := [some (.inr (.inr 84)), some (.inr (.inr q)), some (.inl v2), some (.inl v3), some (.inl v4), some (.inl v5), some (.inl v6), some (.inl (rd h 87 v5)), some (.inl (rd h 88 v5)), some (.inl (m1 / 10)), some (.inl (rd h 85 (14 * (m1 / 10) + (rd h 88 v5))))]) dd_Crowd_narrowest_73 rfl rfl rfl (Nat.le_of_ble_eq_true rfl) rfl rfl ?_
        refine R_ld (v := .inl v4) dd_Crowd_narrowest_75 rfl rfl rfl rfl ?_
        refine R_ld (v := .inl (rd h 87 v5)) dd_Crowd_narrowest_77 rfl rfl rfl rfl ?_
        refine R_ld (v := .inl v5) dd_Crowd_narrowest_79 rfl rfl rfl rfl ?_
        refine R_icmp dd_Crowd_narrowest_81 rfl rfl (fun (c15 : v5 ≤ (rd h 87 v5)) => ?_) (fun (c15 : (rd h 87 v5) < v5) => ?_)
        · replace k := k.1 c15
          refine R_ld (v := .inl (rd h 85 (14 * (m1 / 10) + (rd h 88 v5)))) dd_Crowd_narrowest_100 rfl rfl rfl rfl ?_
          refine R_minv dd_Crowd_narrowest_102 (by decide +kernel) (by decide +kernel) (Nat.le_of_ble_eq_true rfl) rfl (fun m8 hm8 => ?_)
          replace k := k m8 hm8
          refine R_st (ls' := [some (.inr (.inr 84)), some (.inr (.inr q)), some (.inl v2), some (.inl v3), some (.inl m8), some (.inl v5), some (.inl v6), some (.inl (rd h 87 v5)), some (.inl (rd h 88 v5)), some (.inl (m1 / 10)), some (.inl (rd h 85 (14 * (m1 / 10) + (rd h 88 v5))))]) dd_Crowd_narrowest_105 rfl rfl rfl (Nat.le_of_ble_eq_true rfl) rfl rfl ?_
          refine R_goto dd_Crowd_narrowest_107 rfl ?_
          exact k
        · replace k := k.2 c15
          refine R_ld (v := .inr (.inr q)) dd_Crowd_narrowest_84 rfl rfl rfl rfl ?_
          refine R_gf (v := .inr (.inr (q + 1))) dd_Crowd_narrowest_85 fd_0_82 (io_q hq) (congrArg (fun z : Int => (Sum.inr (Sum.inr z) : LV)) (rq_arr hF hq)) rfl ?_
          refine R_ld (v := .inl (rd h 88 v5)) dd_Crowd_narrowest_88 rfl rfl rfl rfl ?_
          obtain ⟨s9, k⟩ := k
          refine R_aald (v := (rd h (q + 1) (rd h 88 v5))) (n := 14) dd_Crowd_narrowest_90 (ia_dq hq) (la_dq hq) s9 rfl rfl ?_
          refine R_gf (v := .inl (rd h (rd h (q + 1) (rd h 88 v5)) 7)) dd_Crowd_narrowest_91 fd_0_86 (io_dr hR hq (by omega)) rfl rfl ?_
          refine R_ld (v := .inl (rd h 85 (14 * (m1 / 10) + (rd h 88 v5)))) dd_Crowd_narrowest_94 rfl rfl rfl rfl ?_
          refine R_isubw dd_Crowd_narrowest_96 rfl ?_
          refine R_goto dd_Crowd_narrowest_97 rfl ?_
          refine R_minv dd_Crowd_narrowest_102 (by decide +kernel) (by decide +kernel) (Nat.le_of_ble_eq_true rfl) rfl (fun m10 hm10 => ?_)
          replace k := k m10 hm10
          refine R_st (ls' := [some (.inr (.inr 84)), some (.inr (.inr q)), some (.inl v2), some (.inl v3), some (.inl m10), some (.inl v5), some (.inl v6), some (.inl (rd h 87 v5)), some (.inl (rd h 88 v5)), some (.inl (m1 / 10)), some (.inl (rd h 85 (14 * (m1 / 10) + (rd h 88 v5))))]) dd_Crowd_narrowest_105 rfl rfl rfl (Nat.le_of_ble_eq_true rfl) rfl rfl ?_
          refine R_goto dd_Crowd_narrowest_107 rfl ?_
          exact k
theorem B_Crowd_narrowest_131 {xs : Nat → Int} {xl e : Nat} {h : LH} {Q : Option LV → LH → Prop} {v2 v3 v4 v5 v6 v7 : Int} {q : Int} (hq : q = 5 ∨ q = 32) {o8 : Option LV} {o9 : Option LV} {o10 : Option LV} (hF : RF h) (r_v6 : 0 ≤ v6 ∧ v6 ≤ 249)
    (k : Rn xs xl e mm_Crowd_narrowest 10 [some (.inr (.inr 84)), some (.inr (.inr q)), some (.inl v2), some (.inl v3), some (.inl v4), some (.inl v7), some (.inl (v6 + 1)), some (.inl v7), o8, o9, o10] [] h Q) :
    Rn xs xl e mm_Crowd_narrowest 131 [some (.inr (.inr 84)), some (.inr (.inr q)), some (.inl v2), some (.inl v3), some (.inl v4), some (.inl v5), some (.inl v6), some (.inl v7), o8, o9, o10] [] h Q := by
  refine R_ld (v := .inl v7) dd_Crowd_narrowest_131 rfl rfl rfl rfl ?_
  refine R_st (ls' := [some (.inr (.inr 84)), some (.inr (.inr q)), some (.inl v2), some (.inl v3), some (.inl v4), some (.inl v7), some (.inl v6), some (.inl v7), o8, o9, o10]) dd_Crowd_narrowest_133 rfl rfl rfl (Nat.le_of_ble_eq_true rfl) rfl rfl ?_
  refine R_inc (y := v6 + 1) (ls' := [some (.inr (.inr 84)), some (.inr (.inr q)), some (.inl v2), some (.inl v3), some (.inl v4), some (.inl v7), some (.inl (v6 + 1)), some (.inl v7), o8, o9, o10]) dd_Crowd_narrowest_135 rfl (by decide) (by omega) (by omega) rfl rfl ?_
  refine R_goto dd_Crowd_narrowest_138 rfl ?_
  exact k
theorem B_Crowd_send_0 {xs : Nat → Int} {xl e : Nat} {h : LH} {Q : Option LV → LH → Prop} {v1 v2 v3 : Int} (hF : RF h)
    (k : Rn xs xl e mm_Crowd_send 6 [some (.inr (.inr 84)), some (.inl v1), some (.inl v2), some (.inl v3), some (.inl v2), some (.inl 0), none, none, none, none] [] h Q) :
    Rn xs xl e mm_Crowd_send 0 [some (.inr (.inr 84)), some (.inl v1), some (.inl v2), some (.inl v3), none, none, none, none, none, none] [] h Q := by
  refine R_ld (v := .inl v2) dd_Crowd_send_0 rfl rfl rfl rfl ?_
  refine R_st (ls' := [some (.inr (.inr 84)), some (.inl v1), some (.inl v2), some (.inl v3), some (.inl v2), none, none, none, none, none]) dd_Crowd_send_1 rfl rfl rfl (Nat.le_of_ble_eq_true rfl) rfl rfl ?_
  refine R_ic dd_Crowd_send_3 (by decide) rfl ?_
  refine R_st (ls' := [some (.inr (.inr 84)), some (.inl v1), some (.inl v2), some (.inl v3), some (.inl v2), some (.inl 0), none, none, none, none]) dd_Crowd_send_4 rfl rfl rfl (Nat.le_of_ble_eq_true rfl) rfl rfl ?_
  exact k
theorem B_Crowd_send_6 {xs : Nat → Int} {xl e : Nat} {h : LH} {Q : Option LV → LH → Prop} {v1 v2 v3 v4 v5 : Int} {o6 : Option LV} {o7 : Option LV} {o8 : Option LV} {o9 : Option LV} (hF : RF h) (r_v1 : 0 ≤ v1 ∧ v1 ≤ 9) (r_v4 : 0 ≤ v4 ∧ v4 ≤ 249) (r_v5 : 0 ≤ v5 ∧ v5 ≤ 250)
    (k : (250 ≤ v5 →
        Q none h) ∧
      (v5 < 250 →
        (v4 = v1 →
          Q none h) ∧
        (v4 ≠ v1 →
          (∀ m1, m1 ≤ (rd h 87 v4) ∧ m1 ≤ v4 ∧ (m1 = (rd h 87 v4) ∨ m1 = v4) →
          (v4 ≤ (rd h 87 v4) →
              ((rd h 88 v4) ≠ (-1) →
                (0 ≤ m1 ∧ m1 ≤ 2147483647) ∧
                (-2147483648 ≤ 14 * (m1 / 10) ∧ 14 * (m1 / 10) ≤ 2147483647) ∧
                (-2147483648 ≤ 14 * (m1 / 10) + (rd h 88 v4) ∧ 14 * (m1 / 10) + (rd h 88 v4) ≤ 2147483647) ∧
                (0 ≤ 14 * (m1 / 10) + (rd h 88 v4) ∧ 14 * (m1 / 10) + (rd h 88 v4) < 336) ∧
                (0 ≤ 14 * (m1 / 10) + (rd h 88 v4) ∧ 14 * (m1 / 10) + (rd h 88 v4) < 336) ∧
                Rn xs xl e mm_Crowd_send 104 [some (.inr (.inr 84)), some (.inl v1), some (.inl v2), some (.inl v3), some (.inl v4), some (.inl v5), some (.inl (rd h 87 v4)), some (.inl (rd h 88 v4)), some (.inl m1), some (.inl (w32 (-v3)))] [] (wr h 85 (14 * (m1 / 10) + (rd h 88 v4)) (w32 ((rd h 85 (14 * (m1 / 10) + (rd h 88 v4))) + (w32 (-v3))))) Q) ∧
              ((rd h 88 v4) = (-1) →
                (0 ≤ m1 ∧ m1 < 240) ∧
                (0 ≤ m1 ∧ m1 < 240) ∧
                Rn xs xl e mm_Crowd_send 104 [some (.inr (.inr 84)), some (.inl v1), some (.inl v2), some (.inl v3), some (.inl v4), some (.inl v5), some (.inl (rd h 87 v4)), some (.inl (rd h 88 v4)), some (.inl m1), some (.inl (w32 (-v3)))] [] (wr h 86 m1 (w32 ((rd h 86 m1) + (w32 (-v3))))) Q)) ∧
            ((rd h 87 v4) < v4 →
              ((rd h 88 v4) ≠ (-1) →
                (0 ≤ m1 ∧ m1 ≤ 2147483647) ∧
                (-2147483648 ≤ 14 * (m1 / 10) ∧ 14 * (m1 / 10) ≤ 2147483647) ∧
                (-2147483648 ≤ 14 * (m1 / 10) + (rd h 88 v4) ∧ 14 * (m1 / 10) + (rd h 88 v4) ≤ 2147483647) ∧
                (0 ≤ 14 * (m1 / 10) + (rd h 88 v4) ∧ 14 * (m1 / 10) + (rd h 88 v4) < 336) ∧
                (0 ≤ 14 * (m1 / 10) + (rd h 88 v4) ∧ 14 * (m1 / 10) + (rd h 88 v4) < 336) ∧
                Rn xs xl e mm_Crowd_send 104 [some (.inr (.inr 84)), some (.inl v1), some (.inl v2), some (.inl v3), some (.inl v4), some (.inl v5), some (.inl (rd h 87 v4)), some (.inl (rd h 88 v4)), some (.inl m1), some (.inl v3)] [] (wr h 85 (14 * (m1 / 10) + (rd h 88 v4)) (w32 ((rd h 85 (14 * (m1 / 10) + (rd h 88 v4))) + v3))) Q) ∧
              ((rd h 88 v4) = (-1) →
                (0 ≤ m1 ∧ m1 < 240) ∧
                (0 ≤ m1 ∧ m1 < 240) ∧
                Rn xs xl e mm_Crowd_send 104 [some (.inr (.inr 84)), some (.inl v1), some (.inl v2), some (.inl v3), some (.inl v4), some (.inl v5), some (.inl (rd h 87 v4)), some (.inl (rd h 88 v4)), some (.inl m1), some (.inl v3)] [] (wr h 86 m1 (w32 ((rd h 86 m1) + v3))) Q)))))) :
    Rn xs xl e mm_Crowd_send 6 [some (.inr (.inr 84)), some (.inl v1), some (.inl v2), some (.inl v3), some (.inl v4), some (.inl v5), o6, o7, o8, o9] [] h Q := by
  refine R_ld (v := .inl v5) dd_Crowd_send_6 rfl rfl rfl rfl ?_
  refine R_si dd_Crowd_send_8 (by decide) rfl ?_
  refine R_icmp dd_Crowd_send_11 rfl rfl (fun (c16 : 250 ≤ v5) => ?_) (fun (c16 : v5 < 250) => ?_)
  · replace k := k.1 c16
    exact R_vret dd_Crowd_send_114 rfl k
  · replace k := k.2 c16
    refine R_ld (v := .inl v4) dd_Crowd_send_14 rfl rfl rfl rfl ?_
    refine R_ld (v := .inl v1) dd_Crowd_send_16 rfl rfl rfl rfl ?_
    refine R_icmp dd_Crowd_send_17 rfl rfl (fun (c17 : v4 = v1) => ?_) (fun (c17 : v4 ≠ v1) => ?_)
    · replace k := k.1 c17
      exact R_vret dd_Crowd_send_114 rfl k
    · replace k := k.2 c17
      refine R_ld (v := .inr (.inr 84)) dd_Crowd_send_20 rfl rfl rfl rfl ?_
      refine R_gf (v := .inr (.inr 87)) dd_Crowd_send_21 fd_0_18 io_84 (congrArg (fun z : Int => (Sum.inr (Sum.inr z) : LV)) (rf_84_2 hF)) rfl ?_
      refine R_ld (v := .inl v4) dd_Crowd_send_24 rfl rfl rfl rfl ?_
      refine R_iald (v := (rd h 87 v4)) (n := 250) dd_Crowd_send_26 ia_87 la_87 (by omega) (rfl) rfl ?_
      refine R_st (ls' := [some (.inr (.inr 84)), some (.inl v1), some (.inl v2), some (.inl v3), some (.inl v4), some (.inl v5), some (.inl (rd h 87 v4)), o7, o8, o9]) dd_Crowd_send_27 rfl rfl rfl (Nat.le_of_ble_eq_true rfl) rfl rfl ?_
      refine R_ld (v := .inr (.inr 84)) dd_Crowd_send_29 rfl rfl rfl rfl ?_
      refine R_gf (v := .inr (.inr 88)) dd_Crowd_send_30 fd_0_21 io_84 (congrArg (fun z : Int => (Sum.inr (Sum.inr z) : LV)) (rf_84_3 hF)) rfl ?_
      refine R_ld (v := .inl v4) dd_Crowd_send_33 rfl rfl rfl rfl ?_
      refine R_iald (v := (rd h 88 v4)) (n := 250) dd_Crowd_send_35 ia_88 la_88 (by omega) (rfl) rfl ?_
      refine R_st (ls' := [some (.inr (.inr 84)), some (.inl v1), some (.inl v2), some (.inl v3), some (.inl v4), some (.inl v5), some (.inl (rd h 87 v4)), some (.inl (rd h 88 v4)), o8, o9]) dd_Crowd_send_36 rfl rfl rfl (Nat.le_of_ble_eq_true rfl) rfl rfl ?_
      refine R_ld (v := .inl (rd h 87 v4)) dd_Crowd_send_38 rfl rfl rfl rfl ?_
      refine R_ld (v := .inl v4) dd_Crowd_send_40 rfl rfl rfl rfl ?_
      refine R_minv dd_Crowd_send_42 (by decide +kernel) (by decide +kernel) (Nat.le_of_ble_eq_true rfl) rfl (fun m1 hm1 => ?_)
      replace k := k m1 hm1
      refine R_st (ls' := [some (.inr (.inr 84)), some (.inl v1), some (.inl v2), some (.inl v3), some (.inl v4), some (.inl v5), some (.inl (rd h 87 v4)), some (.inl (rd h 88 v4)), some (.inl m1), o9]) dd_Crowd_send_45 rfl rfl rfl (Nat.le_of_ble_eq_true rfl) rfl rfl ?_
      refine R_ld (v := .inl (rd h 87 v4)) dd_Crowd_send_47 rfl rfl rfl rfl ?_
      refine R_ld (v := .inl v4) dd_Crowd_send_49 rfl rfl rfl rfl ?_
      refine R_icmp dd_Crowd_send_51 rfl rfl (fun (c18 : v4 ≤ (rd h 87 v4)) => ?_) (fun (c18 : (rd h 87 v4) < v4) => ?_)
      · replace k := k.1 c18
        refine R_ld (v := .inl v3) dd_Crowd_send_58 rfl rfl rfl rfl ?_
        refine R_A dd_Crowd_send_59 rfl rfl rfl rfl ?_
        refine R_st (ls' := [some (.inr (.inr 84)), some (.inl v1), some (.inl v2), some (.inl v3), some (.inl v4), some (.inl v5), some (.inl (rd h 87 v4)), some (.inl (rd h 88 v4)), some (.inl m1), some (.inl (w32 (-v3)))]) dd_Crowd_send_60 rfl rfl rfl (Nat.le_of_ble_eq_true rfl) rfl rfl ?_
        refine R_ld (v := .inl (rd h 88 v4)) dd_Crowd_send_62 rfl rfl rfl rfl ?_
        refine R_ic dd_Crowd_send_64 (by decide) rfl ?_
        refine R_icmp dd_Crowd_send_65 rfl rfl (fun (c19 : (rd h 88 v4) ≠ (-1)) => ?_) (fun (c19 : (rd h 88 v4) = (-1)) => ?_)
        · replace k := k.1 c19
          refine R_ld (v := .inr (.inr 84)) dd_Crowd_send_83 rfl rfl rfl rfl ?_
          refine R_gf (v := .inr (.inr 85)) dd_Crowd_send_84 fd_0_9 io_84 (congrArg (fun z : Int => (Sum.inr (Sum.inr z) : LV)) (rf_84_0 hF)) rfl ?_
          refine R_ld (v := .inl m1) dd_Crowd_send_87 rfl rfl rfl rfl ?_
          refine R_bi dd_Crowd_send_89 (by decide) rfl ?_
          obtain ⟨s2, k⟩ := k
          refine R_idiv dd_Crowd_send_91 s2 (by decide) rfl ?_
          refine R_bi dd_Crowd_send_92 (by decide) rfl ?_
          obtain ⟨s3, k⟩ := k
          refine R_imul (c := 14 * (m1 / 10)) dd_Crowd_send_94 (by omega) s3 rfl ?_
          refine R_ld (v := .inl (rd h 88 v4)) dd_Crowd_send_95 rfl rfl rfl rfl ?_
          obtain ⟨s4, k⟩ := k
          refine R_iadd (c := 14 * (m1 / 10) + (rd h 88 v4)) dd_Crowd_send_97 (by omega) s4 rfl ?_
          refine R_A dd_Crowd_send_98 rfl rfl rfl rfl ?_
          obtain ⟨s5, k⟩ := k
          refine R_iald (v := (rd h 85 (14 * (m1 / 10) + (rd h 88 v4)))) (n := 336) dd_Crowd_send_99 ia_85 la_85 s5 (rfl) rfl ?_
          refine R_ld (v := .inl (w32 (-v3))) dd_Crowd_send_100 rfl rfl rfl rfl ?_
          refine R_iaddw dd_Crowd_send_102 rfl ?_
          obtain ⟨s6, k⟩ := k
          refine R_iast (n := 336) dd_Crowd_send_103 ia_85 la_85 s6 rfl ?_
          exact k
        · replace k := k.2 c19
          refine R_ld (v := .inr (.inr 84)) dd_Crowd_send_68 rfl rfl rfl rfl ?_
          refine R_gf (v := .inr (.inr 86)) dd_Crowd_send_69 fd_0_15 io_84 (congrArg (fun z : Int => (Sum.inr (Sum.inr z) : LV)) (rf_84_1 hF)) rfl ?_
          refine R_ld (v := .inl m1) dd_Crowd_send_72 rfl rfl rfl rfl ?_
          refine R_A dd_Crowd_send_74 rfl rfl rfl rfl ?_
          obtain ⟨s7, k⟩ := k
          refine R_iald (v := (rd h 86 m1)) (n := 240) dd_Crowd_send_75 ia_86 la_86 s7 (rfl) rfl ?_
          refine R_ld (v := .inl (w32 (-v3))) dd_Crowd_send_76 rfl rfl rfl rfl ?_
          refine R_iaddw dd_Crowd_send_78 rfl ?_
          obtain ⟨s8, k⟩ := k
          refine R_iast (n := 240) dd_Crowd_send_79 ia_86 la_86 s8 rfl ?_
          refine R_goto dd_Crowd_send_80 rfl ?_
          exact k
      · replace k := k.2 c18
        refine R_ld (v := .inl v3) dd_Crowd_send_54 rfl rfl rfl rfl ?_
        refine R_goto dd_Crowd_send_55 rfl ?_
        refine R_st (ls' := [some (.inr (.inr 84)), some (.inl v1), some (.inl v2), some (.inl v3), some (.inl v4), some (.inl v5), some (.inl (rd h 87 v4)), some (.inl (rd h 88 v4)), some (.inl m1), some (.inl v3)]) dd_Crowd_send_60 rfl rfl rfl (Nat.le_of_ble_eq_true rfl) rfl rfl ?_
        refine R_ld (v := .inl (rd h 88 v4)) dd_Crowd_send_62 rfl rfl rfl rfl ?_
        refine R_ic dd_Crowd_send_64 (by decide) rfl ?_
        refine R_icmp dd_Crowd_send_65 rfl rfl (fun (c20 : (rd h 88 v4) ≠ (-1)) => ?_) (fun (c20 : (rd h 88 v4) = (-1)) => ?_)
        · replace k := k.1 c20
          refine R_ld (v := .inr (.inr 84)) dd_Crowd_send_83 rfl rfl rfl rfl ?_
          refine R_gf (v := .inr (.inr 85)) dd_Crowd_send_84 fd_0_9 io_84 (congrArg (fun z : Int => (Sum.inr (Sum.inr z) : LV)) (rf_84_0 hF)) rfl ?_
          refine R_ld (v := .inl m1) dd_Crowd_send_87 rfl rfl rfl rfl ?_
          refine R_bi dd_Crowd_send_89 (by decide) rfl ?_
          obtain ⟨s9, k⟩ := k
          refine R_idiv dd_Crowd_send_91 s9 (by decide) rfl ?_
          refine R_bi dd_Crowd_send_92 (by decide) rfl ?_
          obtain ⟨s10, k⟩ := k
          refine R_imul (c := 14 * (m1 / 10)) dd_Crowd_send_94 (by omega) s10 rfl ?_
          refine R_ld (v := .inl (rd h 88 v4)) dd_Crowd_send_95 rfl rfl rfl rfl ?_
          obtain ⟨s11, k⟩ := k
          refine R_iadd (c := 14 * (m1 / 10) + (rd h 88 v4)) dd_Crowd_send_97 (by omega) s11 rfl ?_
          refine R_A dd_Crowd_send_98 rfl rfl rfl rfl ?_
          obtain ⟨s12, k⟩ := k
          refine R_iald (v := (rd h 85 (14 * (m1 / 10) + (rd h 88 v4)))) (n := 336) dd_Crowd_send_99 ia_85 la_85 s12 (rfl) rfl ?_
          refine R_ld (v := .inl v3) dd_Crowd_send_100 rfl rfl rfl rfl ?_
          refine R_iaddw dd_Crowd_send_102 rfl ?_
          obtain ⟨s13, k⟩ := k
          refine R_iast (n := 336) dd_Crowd_send_103 ia_85 la_85 s13 rfl ?_
          exact k
        · replace k := k.2 c20
          refine R_ld (v := .inr (.inr 84)) dd_Crowd_send_68 rfl rfl rfl rfl ?_
          refine R_gf (v := .inr (.inr 86)) dd_Crowd_send_69 fd_0_15 io_84 (congrArg (fun z : Int => (Sum.inr (Sum.inr z) : LV)) (rf_84_1 hF)) rfl ?_
          refine R_ld (v := .inl m1) dd_Crowd_send_72 rfl rfl rfl rfl ?_
          refine R_A dd_Crowd_send_74 rfl rfl rfl rfl ?_
          obtain ⟨s14, k⟩ := k
          refine R_iald (v := (rd h 86 m1)) (n := 240) dd_Crowd_send_75 ia_86 la_86 s14 (rfl) rfl ?_
          refine R_ld (v := .inl v3) dd_Crowd_send_76 rfl rfl rfl rfl ?_
          refine R_iaddw dd_Crowd_send_78 rfl ?_
          obtain ⟨s15, k⟩ := k
          refine R_iast (n := 240) dd_Crowd_send_79 ia_86 la_86 s15 rfl ?_
          refine R_goto dd_Crowd_send_80 rfl ?_
          exact k
theorem B_Crowd_send_104 {xs : Nat → Int} {xl e : Nat} {h : LH} {Q : Option LV → LH → Prop} {v1 v2 v3 v4 v5 v6 : Int} {o7 : Option LV} {o8 : Option LV} {o9 : Option LV} (hF : RF h) (r_v5 : 0 ≤ v5 ∧ v5 ≤ 249)
    (k : Rn xs xl e mm_Crowd_send 6 [some (.inr (.inr 84)), some (.inl v1), some (.inl v2), some (.inl v3), some (.inl v6), some (.inl (v5 + 1)), some (.inl v6), o7, o8, o9] [] h Q) :
    Rn xs xl e mm_Crowd_send 104 [some (.inr (.inr 84)), some (.inl v1), some (.inl v2), some (.inl v3), some (.inl v4), some (.inl v5), some (.inl v6), o7, o8, o9] [] h Q := by
  refine R_ld (v := .inl v6) dd_Crowd_send_104 rfl rfl rfl rfl ?_
  refine R_st (ls' := [some (.inr (.inr 84)), some (.inl v1), some (.inl v2), some (.inl v3), some (.inl v6), some (.inl v5), some (.inl v6), o7, o8, o9]) dd_Crowd_send_106 rfl rfl rfl (Nat.le_of_ble_eq_true rfl) rfl rfl ?_
  refine R_inc (y := v5 + 1) (ls' := [some (.inr (.inr 84)), some (.inl v1), some (.inl v2), some (.inl v3), some (.inl v6), some (.inl (v5 + 1)), some (.inl v6), o7, o8, o9]) dd_Crowd_send_108 rfl (by decide) (by omega) (by omega) rfl rfl ?_
  refine R_goto dd_Crowd_send_111 rfl ?_
  exact k
theorem B_Crowd_most_0 {xs : Nat → Int} {xl e : Nat} {h : LH} {Q : Option LV → LH → Prop} {v3 v4 v5 : Int} {q : Int} (hq : q = 5 ∨ q = 32) (hF : RF h)
    (k : (-2147483648 ≤ v5 - (rd h 60 0) ∧ v5 - (rd h 60 0) ≤ 2147483647) ∧
      (-2147483648 ≤ v5 - (rd h 60 0) + 1 ∧ v5 - (rd h 60 0) + 1 ≤ 2147483647) ∧
      (∃ c, c < e ∧ Rn xs xl c mm_java_util_Arrays_fill 0 [some (.inr (.inr 85)), some (.inl 0), none, none] [] (wr (wr h 84 6 (rd h 60 0)) 84 7 (v5 - (rd h 60 0) + 1)) (fun r h' => Rn xs xl e mm_Crowd_most 29 [some (.inr (.inr 84)), some (.inr (.inr q)), some (.inr (.inr 60)), some (.inl v3), some (.inl v4), some (.inl v5), none, none, none, none] (r.toList ++ []) h' Q))) :
    Rn xs xl e mm_Crowd_most 0 [some (.inr (.inr 84)), some (.inr (.inr q)), some (.inr (.inr 60)), some (.inl v3), some (.inl v4), some (.inl v5), none, none, none, none] [] h Q := by
  refine R_ld (v := .inr (.inr 84)) dd_Crowd_most_0 rfl rfl rfl rfl ?_
  refine R_ld (v := .inr (.inr 60)) dd_Crowd_most_1 rfl rfl rfl rfl ?_
  refine R_gf (v := .inl (rd h 60 0)) dd_Crowd_most_2 fd_0_27 io_60 (congrArg (fun z : Int => (Sum.inl z : LV)) (rfl)) rfl ?_
  refine R_pf (z := (rd h 60 0)) dd_Crowd_most_5 fd_0_33 io_84 fn_0_6 rfl rfl ?_
  refine R_ld (v := .inr (.inr 84)) dd_Crowd_most_8 rfl rfl rfl rfl ?_
  refine R_ld (v := .inl v5) dd_Crowd_most_9 rfl rfl rfl rfl ?_
  refine R_ld (v := .inr (.inr 60)) dd_Crowd_most_11 rfl rfl rfl rfl ?_
  refine R_gf (v := .inl (rd h 60 0)) dd_Crowd_most_12 fd_0_27 io_60 (congrArg (fun z : Int => (Sum.inl z : LV)) (rdw_ne (by decide))) rfl ?_
  obtain ⟨s1, k⟩ := k
  refine R_isub (c := v5 - (rd h 60 0)) dd_Crowd_most_15 (by omega) s1 rfl ?_
  refine R_ic dd_Crowd_most_16 (by decide) rfl ?_
  obtain ⟨s2, k⟩ := k
  refine R_iadd (c := v5 - (rd h 60 0) + 1) dd_Crowd_most_17 (by omega) s2 rfl ?_
  refine R_pf (z := (v5 - (rd h 60 0) + 1)) dd_Crowd_most_18 fd_0_36 io_84 fn_0_7 rfl rfl ?_
  refine R_ld (v := .inr (.inr 84)) dd_Crowd_most_21 rfl rfl rfl rfl ?_
  refine R_gf (v := .inr (.inr 85)) dd_Crowd_most_22 fd_0_9 io_84 (congrArg (fun z : Int => (Sum.inr (Sum.inr z) : LV)) ((rdw_nei (by omega)).trans ((rdw_nei (by omega)).trans (rf_84_0 hF)))) rfl ?_
  refine R_ic dd_Crowd_most_25 (by decide) rfl ?_
  obtain ⟨c, hc, k⟩ := k
  exact R_call (as := [.inr (.inr 85), .inl 0]) (rest := []) (M' := mm_java_util_Arrays_fill) (ls0 := [some (.inr (.inr 85)), some (.inl 0), none, none]) dd_Crowd_most_26 rfl rfl (cw_s cw_0_39 rfl rfl (Nat.le_of_ble_eq_true rfl) (Nat.le_of_ble_eq_true rfl)) mt_java_util_Arrays_fill rfl hc rfl k
theorem B_Crowd_most_29 {xs : Nat → Int} {xl e : Nat} {h : LH} {Q : Option LV → LH → Prop} {v3 v4 v5 : Int} {q : Int} (hq : q = 5 ∨ q = 32) (hF : RF h)
    (k : (∃ c, c < e ∧ Rn xs xl c mm_java_util_Arrays_fill 0 [some (.inr (.inr 86)), some (.inl 0), none, none] [] h (fun r h' => Rn xs xl e mm_Crowd_most 37 [some (.inr (.inr 84)), some (.inr (.inr q)), some (.inr (.inr 60)), some (.inl v3), some (.inl v4), some (.inl v5), none, none, none, none] (r.toList ++ []) h' Q))) :
    Rn xs xl e mm_Crowd_most 29 [some (.inr (.inr 84)), some (.inr (.inr q)), some (.inr (.inr 60)), some (.inl v3), some (.inl v4), some (.inl v5), none, none, none, none] [] h Q := by
  refine R_ld (v := .inr (.inr 84)) dd_Crowd_most_29 rfl rfl rfl rfl ?_
  refine R_gf (v := .inr (.inr 86)) dd_Crowd_most_30 fd_0_15 io_84 (congrArg (fun z : Int => (Sum.inr (Sum.inr z) : LV)) (rf_84_1 hF)) rfl ?_
  refine R_ic dd_Crowd_most_33 (by decide) rfl ?_
  obtain ⟨c, hc, k⟩ := k
  exact R_call (as := [.inr (.inr 86), .inl 0]) (rest := []) (M' := mm_java_util_Arrays_fill) (ls0 := [some (.inr (.inr 86)), some (.inl 0), none, none]) dd_Crowd_most_34 rfl rfl (cw_s cw_0_39 rfl rfl (Nat.le_of_ble_eq_true rfl) (Nat.le_of_ble_eq_true rfl)) mt_java_util_Arrays_fill rfl hc rfl k
theorem B_Crowd_most_37 {xs : Nat → Int} {xl e : Nat} {h : LH} {Q : Option LV → LH → Prop} {v3 v4 v5 : Int} {q : Int} (hq : q = 5 ∨ q = 32) (hF : RF h)
    (k : (-2147483648 ≤ 10 * (rd h 84 7) ∧ 10 * (rd h 84 7) ≤ 2147483647) ∧
      (-2147483648 ≤ 10 * (rd h 84 7) + v4 ∧ 10 * (rd h 84 7) + v4 ≤ 2147483647) ∧
      Rn xs xl e mm_Crowd_most 55 [some (.inr (.inr 84)), some (.inr (.inr q)), some (.inr (.inr 60)), some (.inl v3), some (.inl v4), some (.inl v5), some (.inl (10 * (rd h 84 7) + v4)), some (.inl 0), some (.inl 0), none] [] h Q) :
    Rn xs xl e mm_Crowd_most 37 [some (.inr (.inr 84)), some (.inr (.inr q)), some (.inr (.inr 60)), some (.inl v3), some (.inl v4), some (.inl v5), none, none, none, none] [] h Q := by
  refine R_ld (v := .inr (.inr 84)) dd_Crowd_most_37 rfl rfl rfl rfl ?_
  refine R_gf (v := .inl (rd h 84 7)) dd_Crowd_most_38 fd_0_36 io_84 (congrArg (fun z : Int => (Sum.inl z : LV)) (rfl)) rfl ?_
  refine R_bi dd_Crowd_most_41 (by decide) rfl ?_
  obtain ⟨s1, k⟩ := k
  refine R_imul (c := 10 * (rd h 84 7)) dd_Crowd_most_43 (by omega) s1 rfl ?_
  refine R_ld (v := .inl v4) dd_Crowd_most_44 rfl rfl rfl rfl ?_
  obtain ⟨s2, k⟩ := k
  refine R_iadd (c := 10 * (rd h 84 7) + v4) dd_Crowd_most_46 (by omega) s2 rfl ?_
  refine R_st (ls' := [some (.inr (.inr 84)), some (.inr (.inr q)), some (.inr (.inr 60)), some (.inl v3), some (.inl v4), some (.inl v5), some (.inl (10 * (rd h 84 7) + v4)), none, none, none]) dd_Crowd_most_47 rfl rfl rfl (Nat.le_of_ble_eq_true rfl) rfl rfl ?_
  refine R_ic dd_Crowd_most_49 (by decide) rfl ?_
  refine R_st (ls' := [some (.inr (.inr 84)), some (.inr (.inr q)), some (.inr (.inr 60)), some (.inl v3), some (.inl v4), some (.inl v5), some (.inl (10 * (rd h 84 7) + v4)), some (.inl 0), none, none]) dd_Crowd_most_50 rfl rfl rfl (Nat.le_of_ble_eq_true rfl) rfl rfl ?_
  refine R_ic dd_Crowd_most_52 (by decide) rfl ?_
  refine R_st (ls' := [some (.inr (.inr 84)), some (.inr (.inr q)), some (.inr (.inr 60)), some (.inl v3), some (.inl v4), some (.inl v5), some (.inl (10 * (rd h 84 7) + v4)), some (.inl 0), some (.inl 0), none]) dd_Crowd_most_53 rfl rfl rfl (Nat.le_of_ble_eq_true rfl) rfl rfl ?_
  exact k
theorem B_Crowd_most_55 {xs : Nat → Int} {xl e : Nat} {h : LH} {Q : Option LV → LH → Prop} {v3 v4 v5 v6 v7 v8 : Int} {q : Int} (hq : q = 5 ∨ q = 32) {o9 : Option LV} (hF : RF h) (r_v8 : 0 ≤ v8 ∧ v8 ≤ 4000)
    (k : (4000 ≤ v8 →
        Q (some (.inl v7)) h) ∧
      (v8 < 4000 →
        (∃ c, c < e ∧ Rn xs xl c mm_Crowd_findPath 0 [some (.inr (.inr 84)), some (.inr (.inr q)), some (.inl (rd h 60 1)), some (.inl v3), some (.inl v6), none] [] h (fun r h' => Rn xs xl e mm_Crowd_most 75 [some (.inr (.inr 84)), some (.inr (.inr q)), some (.inr (.inr 60)), some (.inl v3), some (.inl v4), some (.inl v5), some (.inl v6), some (.inl v7), some (.inl v8), o9] (r.toList ++ []) h' Q)))) :
    Rn xs xl e mm_Crowd_most 55 [some (.inr (.inr 84)), some (.inr (.inr q)), some (.inr (.inr 60)), some (.inl v3), some (.inl v4), some (.inl v5), some (.inl v6), some (.inl v7), some (.inl v8), o9] [] h Q := by
  refine R_ld (v := .inl v8) dd_Crowd_most_55 rfl rfl rfl rfl ?_
  refine R_si dd_Crowd_most_57 (by decide) rfl ?_
  refine R_icmp dd_Crowd_most_60 rfl rfl (fun (c2 : 4000 ≤ v8) => ?_) (fun (c2 : v8 < 4000) => ?_)
  · replace k := k.1 c2
    refine R_ld (v := .inl v7) dd_Crowd_most_110 rfl rfl rfl rfl ?_
    exact R_iret dd_Crowd_most_112 rfl k
  · replace k := k.2 c2
    refine R_ld (v := .inr (.inr 84)) dd_Crowd_most_63 rfl rfl rfl rfl ?_
    refine R_ld (v := .inr (.inr q)) dd_Crowd_most_64 rfl rfl rfl rfl ?_
    refine R_ld (v := .inr (.inr 60)) dd_Crowd_most_65 rfl rfl rfl rfl ?_
    refine R_gf (v := .inl (rd h 60 1)) dd_Crowd_most_66 fd_0_45 io_60 (congrArg (fun z : Int => (Sum.inl z : LV)) (rfl)) rfl ?_
    refine R_ld (v := .inl v3) dd_Crowd_most_69 rfl rfl rfl rfl ?_
    refine R_ld (v := .inl v6) dd_Crowd_most_70 rfl rfl rfl rfl ?_
    obtain ⟨c, hc, k⟩ := k
    exact R_call (as := [.inr (.inr 84), .inr (.inr q), .inl (rd h 60 1), .inl v3, .inl v6]) (rest := []) (M' := mm_Crowd_findPath) (ls0 := [some (.inr (.inr 84)), some (.inr (.inr q)), some (.inl (rd h 60 1)), some (.inl v3), some (.inl v6), none]) dd_Crowd_most_72 rfl rfl (cw_v cw_0_48 io_84 rfl rfl (Nat.le_of_ble_eq_true rfl) (Nat.le_of_ble_eq_true rfl)) mt_Crowd_findPath rfl hc rfl k
theorem B_Crowd_most_75 {xs : Nat → Int} {xl e : Nat} {h : LH} {Q : Option LV → LH → Prop} {v3 v4 v5 v6 v7 v8 w0 : Int} {q : Int} (hq : q = 5 ∨ q = 32) {o9 : Option LV} (hF : RF h)
    (k : (w0 = 0 →
        Q (some (.inl v7)) h) ∧
      (w0 ≠ 0 →
        (∃ c, c < e ∧ Rn xs xl c mm_Crowd_narrowest 0 [some (.inr (.inr 84)), some (.inr (.inr q)), some (.inl v3), some (.inl v6), none, none, none, none, none, none, none] [] h (fun r h' => Rn xs xl e mm_Crowd_most 86 [some (.inr (.inr 84)), some (.inr (.inr q)), some (.inr (.inr 60)), some (.inl v3), some (.inl v4), some (.inl v5), some (.inl v6), some (.inl v7), some (.inl v8), o9] (r.toList ++ []) h' Q)))) :
    Rn xs xl e mm_Crowd_most 75 [some (.inr (.inr 84)), some (.inr (.inr q)), some (.inr (.inr 60)), some (.inl v3), some (.inl v4), some (.inl v5), some (.inl v6), some (.inl v7), some (.inl v8), o9] [.inl w0] h Q := by
  refine R_if dd_Crowd_most_75 rfl rfl (fun (c2 : w0 = 0) => ?_) (fun (c2 : w0 ≠ 0) => ?_)
  · replace k := k.1 c2
    refine R_ld (v := .inl v7) dd_Crowd_most_110 rfl rfl rfl rfl ?_
    exact R_iret dd_Crowd_most_112 rfl k
  · replace k := k.2 c2
    refine R_ld (v := .inr (.inr 84)) dd_Crowd_most_78 rfl rfl rfl rfl ?_
    refine R_ld (v := .inr (.inr q)) dd_Crowd_most_79 rfl rfl rfl rfl ?_
    refine R_ld (v := .inl v3) dd_Crowd_most_80 rfl rfl rfl rfl ?_
    refine R_ld (v := .inl v6) dd_Crowd_most_81 rfl rfl rfl rfl ?_
    obtain ⟨c, hc, k⟩ := k
    exact R_call (as := [.inr (.inr 84), .inr (.inr q), .inl v3, .inl v6]) (rest := []) (M' := mm_Crowd_narrowest) (ls0 := [some (.inr (.inr 84)), some (.inr (.inr q)), some (.inl v3), some (.inl v6), none, none, none, none, none, none, none]) dd_Crowd_most_83 rfl rfl (cw_v cw_0_52 io_84 rfl rfl (Nat.le_of_ble_eq_true rfl) (Nat.le_of_ble_eq_true rfl)) mt_Crowd_narrowest rfl hc rfl k
theorem B_Crowd_most_86 {xs : Nat → Int} {xl e : Nat} {h : LH} {Q : Option LV → LH → Prop} {v3 v4 v5 v6 v7 v8 w0 : Int} {q : Int} (hq : q = 5 ∨ q = 32) {o9 : Option LV} (hF : RF h)
    (k : (∃ c, c < e ∧ Rn xs xl c mm_Crowd_send 0 [some (.inr (.inr 84)), some (.inl v3), some (.inl v6), some (.inl w0), none, none, none, none, none, none] [] h (fun r h' => Rn xs xl e mm_Crowd_most 97 [some (.inr (.inr 84)), some (.inr (.inr q)), some (.inr (.inr 60)), some (.inl v3), some (.inl v4), some (.inl v5), some (.inl v6), some (.inl v7), some (.inl v8), some (.inl w0)] (r.toList ++ []) h' Q))) :
    Rn xs xl e mm_Crowd_most 86 [some (.inr (.inr 84)), some (.inr (.inr q)), some (.inr (.inr 60)), some (.inl v3), some (.inl v4), some (.inl v5), some (.inl v6), some (.inl v7), some (.inl v8), o9] [.inl w0] h Q := by
  refine R_st (ls' := [some (.inr (.inr 84)), some (.inr (.inr q)), some (.inr (.inr 60)), some (.inl v3), some (.inl v4), some (.inl v5), some (.inl v6), some (.inl v7), some (.inl v8), some (.inl w0)]) dd_Crowd_most_86 rfl rfl rfl (Nat.le_of_ble_eq_true rfl) rfl rfl ?_
  refine R_ld (v := .inr (.inr 84)) dd_Crowd_most_88 rfl rfl rfl rfl ?_
  refine R_ld (v := .inl v3) dd_Crowd_most_89 rfl rfl rfl rfl ?_
  refine R_ld (v := .inl v6) dd_Crowd_most_90 rfl rfl rfl rfl ?_
  refine R_ld (v := .inl w0) dd_Crowd_most_92 rfl rfl rfl rfl ?_
  obtain ⟨c, hc, k⟩ := k
  exact R_call (as := [.inr (.inr 84), .inl v3, .inl v6, .inl w0]) (rest := []) (M' := mm_Crowd_send) (ls0 := [some (.inr (.inr 84)), some (.inl v3), some (.inl v6), some (.inl w0), none, none, none, none, none, none]) dd_Crowd_most_94 rfl rfl (cw_v cw_0_56 io_84 rfl rfl (Nat.le_of_ble_eq_true rfl) (Nat.le_of_ble_eq_true rfl)) mt_Crowd_send rfl hc rfl k
theorem B_Crowd_most_97 {xs : Nat → Int} {xl e : Nat} {h : LH} {Q : Option LV → LH → Prop} {v3 v4 v5 v6 v7 v8 v9 : Int} {q : Int} (hq : q = 5 ∨ q = 32) (hF : RF h) (r_v8 : 0 ≤ v8 ∧ v8 ≤ 3999)
    (k : Rn xs xl e mm_Crowd_most 55 [some (.inr (.inr 84)), some (.inr (.inr q)), some (.inr (.inr 60)), some (.inl v3), some (.inl v4), some (.inl v5), some (.inl v6), some (.inl (w32 (v7 + v9))), some (.inl (v8 + 1)), some (.inl v9)] [] h Q) :
    Rn xs xl e mm_Crowd_most 97 [some (.inr (.inr 84)), some (.inr (.inr q)), some (.inr (.inr 60)), some (.inl v3), some (.inl v4), some (.inl v5), some (.inl v6), some (.inl v7), some (.inl v8), some (.inl v9)] [] h Q := by
  refine R_ld (v := .inl v7) dd_Crowd_most_97 rfl rfl rfl rfl ?_
  refine R_ld (v := .inl v9) dd_Crowd_most_99 rfl rfl rfl rfl ?_
  refine R_iaddw dd_Crowd_most_101 rfl ?_
  refine R_st (ls' := [some (.inr (.inr 84)), some (.inr (.inr q)), some (.inr (.inr 60)), some (.inl v3), some (.inl v4), some (.inl v5), some (.inl v6), some (.inl (w32 (v7 + v9))), some (.inl v8), some (.inl v9)]) dd_Crowd_most_102 rfl rfl rfl (Nat.le_of_ble_eq_true rfl) rfl rfl ?_
  refine R_inc (y := v8 + 1) (ls' := [some (.inr (.inr 84)), some (.inr (.inr q)), some (.inr (.inr 60)), some (.inl v3), some (.inl v4), some (.inl v5), some (.inl v6), some (.inl (w32 (v7 + v9))), some (.inl (v8 + 1)), some (.inl v9)]) dd_Crowd_most_104 rfl (by decide) (by omega) (by omega) rfl rfl ?_
  refine R_goto dd_Crowd_most_107 rfl ?_
  exact k
end
section
/-! LM, by program (wip/p2/hand.py): rows of the class: the root of crowd -/
def mm_OneSided_crowd : LM_M := (⟨"OneSided", "crowd", "(III)I"⟩, prog_1_method_22_code, 4, (some .int), 11, 4, 0, 986, 984, 985)
def mm_OneSided_isRoom : LM_M := (⟨"OneSided", "isRoom", "(I)Z"⟩, prog_1_method_34_code, 2, (some .boolean), 11, 2, 0, 784, 783, 1000029)
theorem dd_OneSided_crowd_0 : decode mm_OneSided_crowd.2.1 0 = .ok (.aload_n 0, 1) := by decide +kernel
theorem dd_OneSided_crowd_1 : decode mm_OneSided_crowd.2.1 1 = .ok (.iload_n 1, 1) := by decide +kernel
theorem dd_OneSided_crowd_2 : decode mm_OneSided_crowd.2.1 2 = .ok (.invokevirtual 190, 3) := by decide +kernel
theorem cw_11_190 : cwOk 11 190 0 65 2 2 11 = true := by decide +kernel
theorem io_1 : isO NC 1 11 = true := by decide +kernel
theorem mt_OneSided_isRoom : MTB 65 = some mm_OneSided_isRoom := rfl
theorem dd_OneSided_isRoom_0 : decode mm_OneSided_isRoom.2.1 0 = .ok (.iload_n 1, 1) := by decide +kernel
theorem dd_OneSided_isRoom_1 : decode mm_OneSided_isRoom.2.1 1 = .ok (.ifCond .lt (18), 3) := by decide +kernel
theorem dd_OneSided_isRoom_19 : decode mm_OneSided_isRoom.2.1 19 = .ok (.iconst 0, 1) := by decide +kernel
theorem dd_OneSided_isRoom_20 : decode mm_OneSided_isRoom.2.1 20 = .ok (.ireturn, 1) := by decide +kernel
theorem dd_OneSided_crowd_5 : decode mm_OneSided_crowd.2.1 5 = .ok (.ifCond .eq (16), 3) := by decide +kernel
theorem dd_OneSided_crowd_21 : decode mm_OneSided_crowd.2.1 21 = .ok (.iconst (-1), 1) := by decide +kernel
theorem dd_OneSided_crowd_22 : decode mm_OneSided_crowd.2.1 22 = .ok (.ireturn, 1) := by decide +kernel
theorem dd_OneSided_isRoom_4 : decode mm_OneSided_isRoom.2.1 4 = .ok (.iload_n 1, 1) := by decide +kernel
theorem dd_OneSided_isRoom_5 : decode mm_OneSided_isRoom.2.1 5 = .ok (.aload_n 0, 1) := by decide +kernel
theorem dd_OneSided_isRoom_6 : decode mm_OneSided_isRoom.2.1 6 = .ok (.getfield 19, 3) := by decide +kernel
theorem fd_11_19 : fld 11 19 = some (11, 1) := by decide +kernel
theorem dd_OneSided_isRoom_9 : decode mm_OneSided_isRoom.2.1 9 = .ok (.getfield 267, 3) := by decide +kernel
theorem fd_11_267 : fld 11 267 = some (6, 0) := by decide +kernel
theorem dd_OneSided_isRoom_12 : decode mm_OneSided_isRoom.2.1 12 = .ok (.if_icmp .ge (7), 3) := by decide +kernel
theorem dd_OneSided_isRoom_15 : decode mm_OneSided_isRoom.2.1 15 = .ok (.iconst 1, 1) := by decide +kernel
theorem dd_OneSided_isRoom_16 : decode mm_OneSided_isRoom.2.1 16 = .ok (.goto 4, 3) := by decide +kernel
theorem dd_OneSided_crowd_8 : decode mm_OneSided_crowd.2.1 8 = .ok (.aload_n 0, 1) := by decide +kernel
theorem dd_OneSided_crowd_9 : decode mm_OneSided_crowd.2.1 9 = .ok (.iload_n 2, 1) := by decide +kernel
theorem dd_OneSided_crowd_10 : decode mm_OneSided_crowd.2.1 10 = .ok (.invokevirtual 190, 3) := by decide +kernel
theorem dd_OneSided_crowd_13 : decode mm_OneSided_crowd.2.1 13 = .ok (.ifCond .eq (8), 3) := by decide +kernel
theorem dd_OneSided_crowd_16 : decode mm_OneSided_crowd.2.1 16 = .ok (.iload_n 1, 1) := by decide +kernel
theorem dd_OneSided_crowd_17 : decode mm_OneSided_crowd.2.1 17 = .ok (.iload_n 2, 1) := by decide +kernel
theorem dd_OneSided_crowd_18 : decode mm_OneSided_crowd.2.1 18 = .ok (.if_icmp .ne (5), 3) := by decide +kernel
theorem dd_OneSided_crowd_23 : decode mm_OneSided_crowd.2.1 23 = .ok (.iload_n 3, 1) := by decide +kernel
theorem dd_OneSided_crowd_24 : decode mm_OneSided_crowd.2.1 24 = .ok (.aload_n 0, 1) := by decide +kernel
theorem dd_OneSided_crowd_25 : decode mm_OneSided_crowd.2.1 25 = .ok (.getfield 29, 3) := by decide +kernel
theorem fd_11_29 : fld 11 29 = some (11, 3) := by decide +kernel
theorem rf_1_3 {h : LH} (hF : RF h) : rd h 1 3 = 59 := hF 1 3 59 (by decide +kernel) (by decide +kernel)
theorem dd_OneSided_crowd_28 : decode mm_OneSided_crowd.2.1 28 = .ok (.getfield 149, 3) := by decide +kernel
theorem fd_11_149 : fld 11 149 = some (3, 0) := by decide +kernel
theorem rf_59_0 {h : LH} (hF : RF h) : rd h 59 0 = 60 := hF 59 0 60 (by decide +kernel) (by decide +kernel)
theorem io_59 : isO NC 59 3 = true := by decide +kernel
theorem dd_OneSided_crowd_31 : decode mm_OneSided_crowd.2.1 31 = .ok (.getfield 216, 3) := by decide +kernel
theorem fd_11_216 : fld 11 216 = some (9, 0) := by decide +kernel
theorem dd_OneSided_crowd_34 : decode mm_OneSided_crowd.2.1 34 = .ok (.if_icmp .lt (9), 3) := by decide +kernel
theorem dd_OneSided_crowd_43 : decode mm_OneSided_crowd.2.1 43 = .ok (.iconst (-1), 1) := by decide +kernel
theorem dd_OneSided_crowd_44 : decode mm_OneSided_crowd.2.1 44 = .ok (.ireturn, 1) := by decide +kernel
theorem dd_OneSided_crowd_37 : decode mm_OneSided_crowd.2.1 37 = .ok (.iload_n 3, 1) := by decide +kernel
theorem dd_OneSided_crowd_38 : decode mm_OneSided_crowd.2.1 38 = .ok (.bipush 24, 2) := by decide +kernel
theorem dd_OneSided_crowd_40 : decode mm_OneSided_crowd.2.1 40 = .ok (.if_icmp .lt (5), 3) := by decide +kernel
theorem dd_OneSided_crowd_45 : decode mm_OneSided_crowd.2.1 45 = .ok (.aload_n 0, 1) := by decide +kernel
theorem dd_OneSided_crowd_46 : decode mm_OneSided_crowd.2.1 46 = .ok (.getfield 63, 3) := by decide +kernel
theorem fd_11_63 : fld 11 63 = some (11, 12) := by decide +kernel
theorem rf_1_12 {h : LH} (hF : RF h) : rd h 1 12 = 84 := hF 1 12 84 (by decide +kernel) (by decide +kernel)
theorem dd_OneSided_crowd_49 : decode mm_OneSided_crowd.2.1 49 = .ok (.aload_n 0, 1) := by decide +kernel
theorem dd_OneSided_crowd_50 : decode mm_OneSided_crowd.2.1 50 = .ok (.getfield 19, 3) := by decide +kernel
theorem dd_OneSided_crowd_53 : decode mm_OneSided_crowd.2.1 53 = .ok (.aload_n 0, 1) := by decide +kernel
theorem dd_OneSided_crowd_54 : decode mm_OneSided_crowd.2.1 54 = .ok (.getfield 29, 3) := by decide +kernel
theorem dd_OneSided_crowd_57 : decode mm_OneSided_crowd.2.1 57 = .ok (.getfield 149, 3) := by decide +kernel
theorem dd_OneSided_crowd_60 : decode mm_OneSided_crowd.2.1 60 = .ok (.iload_n 1, 1) := by decide +kernel
theorem dd_OneSided_crowd_61 : decode mm_OneSided_crowd.2.1 61 = .ok (.iload_n 2, 1) := by decide +kernel
theorem dd_OneSided_crowd_62 : decode mm_OneSided_crowd.2.1 62 = .ok (.iload_n 3, 1) := by decide +kernel
theorem dd_OneSided_crowd_63 : decode mm_OneSided_crowd.2.1 63 = .ok (.invokevirtual 284, 3) := by decide +kernel
theorem cw_11_284 : cwOk 11 284 0 111 6 10 0 = true := by decide +kernel
theorem mt_Crowd_most : MTB 111 = some mm_Crowd_most := rfl
theorem dd_OneSided_crowd_66 : decode mm_OneSided_crowd.2.1 66 = .ok (.ireturn, 1) := by decide +kernel
theorem B_OneSided_crowd_0 {xs : Nat → Int} {xl e : Nat} {h : LH} {Q : Option LV → LH → Prop} {v1 v2 v3 : Int} {q : Int} (hq : q = 5 ∨ q = 32) (hQ : rd h 1 ((1 : Nat) : Int) = q) (hF : RF h) (he : 1 ≤ e)
    (k : (v1 < 0 →
        Q (some (.inl (-1))) h) ∧
      (0 ≤ v1 →
        ((rd h q 0) ≤ v1 →
          Q (some (.inl (-1))) h) ∧
        (v1 < (rd h q 0) →
          (v2 < 0 →
            Q (some (.inl (-1))) h) ∧
          (0 ≤ v2 →
            ((rd h q 0) ≤ v2 →
              Q (some (.inl (-1))) h) ∧
            (v2 < (rd h q 0) →
              (v1 ≠ v2 →
                (v3 < (rd h 60 0) →
                  Q (some (.inl (-1))) h) ∧
                ((rd h 60 0) ≤ v3 →
                  (v3 < 24 →
                    (∃ c, c < e ∧ Rn xs xl c mm_Crowd_most 0 [some (.inr (.inr 84)), some (.inr (.inr q)), some (.inr (.inr 60)), some (.inl v1), some (.inl v2), some (.inl v3), none, none, none, none] [] h (fun r h' => Rn xs xl e mm_OneSided_crowd 66 [some (.inr (.inr 1)), some (.inl v1), some (.inl v2), some (.inl v3)] (r.toList ++ []) h' Q))) ∧
                  (24 ≤ v3 →
                    Q (some (.inl (-1))) h))) ∧
              (v1 = v2 →
                Q (some (.inl (-1))) h)))))) :
    Rn xs xl e mm_OneSided_crowd 0 [some (.inr (.inr 1)), some (.inl v1), some (.inl v2), some (.inl v3)] [] h Q := by
  refine R_ld (v := .inr (.inr 1)) dd_OneSided_crowd_0 rfl rfl rfl rfl ?_
  refine R_ld (v := .inl v1) dd_OneSided_crowd_1 rfl rfl rfl rfl ?_
  refine R_call (as := [.inr (.inr 1), .inl v1]) (rest := []) (M' := mm_OneSided_isRoom) (ls0 := [some (.inr (.inr 1)), some (.inl v1)]) dd_OneSided_crowd_2 rfl rfl (cw_v cw_11_190 io_1 rfl rfl (Nat.le_of_ble_eq_true rfl) (Nat.le_of_ble_eq_true rfl)) mt_OneSided_isRoom rfl (c := e - 1) (by omega) rfl ?_
  refine R_ld (v := .inl v1) dd_OneSided_isRoom_0 rfl rfl rfl rfl ?_
  refine R_if dd_OneSided_isRoom_1 rfl rfl (fun (c2 : v1 < 0) => ?_) (fun (c2 : 0 ≤ v1) => ?_)
  · replace k := k.1 c2
    refine R_ic dd_OneSided_isRoom_19 (by decide) rfl ?_
    refine R_zret dd_OneSided_isRoom_20 rfl (by decide) ?_
    change Rn xs xl e mm_OneSided_crowd 5 [some (.inr (.inr 1)), some (.inl v1), some (.inl v2), some (.inl v3)] [.inl 0] h _
    refine R_if dd_OneSided_crowd_5 rfl rfl (fun (c3 : 0 = 0) => ?_) (fun (c3 : 0 ≠ 0) => ?_)
    · skip
      refine R_ic dd_OneSided_crowd_21 (by decide) rfl ?_
      exact R_iret dd_OneSided_crowd_22 rfl k
    · exact absurd c3 (by omega)
  · replace k := k.2 c2
    refine R_ld (v := .inl v1) dd_OneSided_isRoom_4 rfl rfl rfl rfl ?_
    refine R_ld (v := .inr (.inr 1)) dd_OneSided_isRoom_5 rfl rfl rfl rfl ?_
    refine R_gf (v := .inr (.inr q)) dd_OneSided_isRoom_6 fd_11_19 io_1 (congrArg (fun z : Int => (Sum.inr (Sum.inr z) : LV)) hQ) rfl ?_
    refine R_gf (v := .inl (rd h q 0)) dd_OneSided_isRoom_9 fd_11_267 (io_q hq) rfl rfl ?_
    refine R_icmp dd_OneSided_isRoom_12 rfl rfl (fun (c4 : (rd h q 0) ≤ v1) => ?_) (fun (c4 : v1 < (rd h q 0)) => ?_)
    · replace k := k.1 c4
      refine R_ic dd_OneSided_isRoom_19 (by decide) rfl ?_
      refine R_zret dd_OneSided_isRoom_20 rfl (by decide) ?_
      change Rn xs xl e mm_OneSided_crowd 5 [some (.inr (.inr 1)), some (.inl v1), some (.inl v2), some (.inl v3)] [.inl 0] h _
      refine R_if dd_OneSided_crowd_5 rfl rfl (fun (c5 : 0 = 0) => ?_) (fun (c5 : 0 ≠ 0) => ?_)
      · skip
        refine R_ic dd_OneSided_crowd_21 (by decide) rfl ?_
        exact R_iret dd_OneSided_crowd_22 rfl k
      · exact absurd c5 (by omega)
    · replace k := k.2 c4
      refine R_ic dd_OneSided_isRoom_15 (by decide) rfl ?_
      refine R_goto dd_OneSided_isRoom_16 rfl ?_
      refine R_zret dd_OneSided_isRoom_20 rfl (by decide) ?_
      change Rn xs xl e mm_OneSided_crowd 5 [some (.inr (.inr 1)), some (.inl v1), some (.inl v2), some (.inl v3)] [.inl 1] h _
      refine R_if dd_OneSided_crowd_5 rfl rfl (fun (c6 : 1 = 0) => ?_) (fun (c6 : 1 ≠ 0) => ?_)
      · exact absurd c6 (by omega)
      · skip
        refine R_ld (v := .inr (.inr 1)) dd_OneSided_crowd_8 rfl rfl rfl rfl ?_
        refine R_ld (v := .inl v2) dd_OneSided_crowd_9 rfl rfl rfl rfl ?_
        refine R_call (as := [.inr (.inr 1), .inl v2]) (rest := []) (M' := mm_OneSided_isRoom) (ls0 := [some (.inr (.inr 1)), some (.inl v2)]) dd_OneSided_crowd_10 rfl rfl (cw_v cw_11_190 io_1 rfl rfl (Nat.le_of_ble_eq_true rfl) (Nat.le_of_ble_eq_true rfl)) mt_OneSided_isRoom rfl (c := e - 1) (by omega) rfl ?_
        refine R_ld (v := .inl v2) dd_OneSided_isRoom_0 rfl rfl rfl rfl ?_
        refine R_if dd_OneSided_isRoom_1 rfl rfl (fun (c7 : v2 < 0) => ?_) (fun (c7 : 0 ≤ v2) => ?_)
        · replace k := k.1 c7
          refine R_ic dd_OneSided_isRoom_19 (by decide) rfl ?_
          refine R_zret dd_OneSided_isRoom_20 rfl (by decide) ?_
          change Rn xs xl e mm_OneSided_crowd 13 [some (.inr (.inr 1)), some (.inl v1), some (.inl v2), some (.inl v3)] [.inl 0] h _
          refine R_if dd_OneSided_crowd_13 rfl rfl (fun (c8 : 0 = 0) => ?_) (fun (c8 : 0 ≠ 0) => ?_)
          · skip
            refine R_ic dd_OneSided_crowd_21 (by decide) rfl ?_
            exact R_iret dd_OneSided_crowd_22 rfl k
          · exact absurd c8 (by omega)
        · replace k := k.2 c7
          refine R_ld (v := .inl v2) dd_OneSided_isRoom_4 rfl rfl rfl rfl ?_
          refine R_ld (v := .inr (.inr 1)) dd_OneSided_isRoom_5 rfl rfl rfl rfl ?_
          refine R_gf (v := .inr (.inr q)) dd_OneSided_isRoom_6 fd_11_19 io_1 (congrArg (fun z : Int => (Sum.inr (Sum.inr z) : LV)) hQ) rfl ?_
          refine R_gf (v := .inl (rd h q 0)) dd_OneSided_isRoom_9 fd_11_267 (io_q hq) rfl rfl ?_
          refine R_icmp dd_OneSided_isRoom_12 rfl rfl (fun (c9 : (rd h q 0) ≤ v2) => ?_) (fun (c9 : v2 < (rd h q 0)) => ?_)
          · replace k := k.1 c9
            refine R_ic dd_OneSided_isRoom_19 (by decide) rfl ?_
            refine R_zret dd_OneSided_isRoom_20 rfl (by decide) ?_
            change Rn xs xl e mm_OneSided_crowd 13 [some (.inr (.inr 1)), some (.inl v1), some (.inl v2), some (.inl v3)] [.inl 0] h _
            refine R_if dd_OneSided_crowd_13 rfl rfl (fun (c10 : 0 = 0) => ?_) (fun (c10 : 0 ≠ 0) => ?_)
            · skip
              refine R_ic dd_OneSided_crowd_21 (by decide) rfl ?_
              exact R_iret dd_OneSided_crowd_22 rfl k
            · exact absurd c10 (by omega)
          · replace k := k.2 c9
            refine R_ic dd_OneSided_isRoom_15 (by decide) rfl ?_
            refine R_goto dd_OneSided_isRoom_16 rfl ?_
            refine R_zret dd_OneSided_isRoom_20 rfl (by decide) ?_
            change Rn xs xl e mm_OneSided_crowd 13 [some (.inr (.inr 1)), some (.inl v1), some (.inl v2), some (.inl v3)] [.inl 1] h _
            refine R_if dd_OneSided_crowd_13 rfl rfl (fun (c11 : 1 = 0) => ?_) (fun (c11 : 1 ≠ 0) => ?_)
            · exact absurd c11 (by omega)
            · skip
              refine R_ld (v := .inl v1) dd_OneSided_crowd_16 rfl rfl rfl rfl ?_
              refine R_ld (v := .inl v2) dd_OneSided_crowd_17 rfl rfl rfl rfl ?_
              refine R_icmp dd_OneSided_crowd_18 rfl rfl (fun (c12 : v1 ≠ v2) => ?_) (fun (c12 : v1 = v2) => ?_)
              · replace k := k.1 c12
                refine R_ld (v := .inl v3) dd_OneSided_crowd_23 rfl rfl rfl rfl ?_
                refine R_ld (v := .inr (.inr 1)) dd_OneSided_crowd_24 rfl rfl rfl rfl ?_
                refine R_gf (v := .inr (.inr 59)) dd_OneSided_crowd_25 fd_11_29 io_1 (congrArg (fun z : Int => (Sum.inr (Sum.inr z) : LV)) (rf_1_3 hF)) rfl ?_
                refine R_gf (v := .inr (.inr 60)) dd_OneSided_crowd_28 fd_11_149 io_59 (congrArg (fun z : Int => (Sum.inr (Sum.inr z) : LV)) (rf_59_0 hF)) rfl ?_
                refine R_gf (v := .inl (rd h 60 0)) dd_OneSided_crowd_31 fd_11_216 io_60 (congrArg (fun z : Int => (Sum.inl z : LV)) (rfl)) rfl ?_
                refine R_icmp dd_OneSided_crowd_34 rfl rfl (fun (c13 : v3 < (rd h 60 0)) => ?_) (fun (c13 : (rd h 60 0) ≤ v3) => ?_)
                · replace k := k.1 c13
                  refine R_ic dd_OneSided_crowd_43 (by decide) rfl ?_
                  exact R_iret dd_OneSided_crowd_44 rfl k
                · replace k := k.2 c13
                  refine R_ld (v := .inl v3) dd_OneSided_crowd_37 rfl rfl rfl rfl ?_
                  refine R_bi dd_OneSided_crowd_38 (by decide) rfl ?_
                  refine R_icmp dd_OneSided_crowd_40 rfl rfl (fun (c14 : v3 < 24) => ?_) (fun (c14 : 24 ≤ v3) => ?_)
                  · replace k := k.1 c14
                    refine R_ld (v := .inr (.inr 1)) dd_OneSided_crowd_45 rfl rfl rfl rfl ?_
                    refine R_gf (v := .inr (.inr 84)) dd_OneSided_crowd_46 fd_11_63 io_1 (congrArg (fun z : Int => (Sum.inr (Sum.inr z) : LV)) (rf_1_12 hF)) rfl ?_
                    refine R_ld (v := .inr (.inr 1)) dd_OneSided_crowd_49 rfl rfl rfl rfl ?_
                    refine R_gf (v := .inr (.inr q)) dd_OneSided_crowd_50 fd_11_19 io_1 (congrArg (fun z : Int => (Sum.inr (Sum.inr z) : LV)) hQ) rfl ?_
                    refine R_ld (v := .inr (.inr 1)) dd_OneSided_crowd_53 rfl rfl rfl rfl ?_
                    refine R_gf (v := .inr (.inr 59)) dd_OneSided_crowd_54 fd_11_29 io_1 (congrArg (fun z : Int => (Sum.inr (Sum.inr z) : LV)) (rf_1_3 hF)) rfl ?_
                    refine R_gf (v := .inr (.inr 60)) dd_OneSided_crowd_57 fd_11_149 io_59 (congrArg (fun z : Int => (Sum.inr (Sum.inr z) : LV)) (rf_59_0 hF)) rfl ?_
                    refine R_ld (v := .inl v1) dd_OneSided_crowd_60 rfl rfl rfl rfl ?_
                    refine R_ld (v := .inl v2) dd_OneSided_crowd_61 rfl rfl rfl rfl ?_
                    refine R_ld (v := .inl v3) dd_OneSided_crowd_62 rfl rfl rfl rfl ?_
                    obtain ⟨c, hc, k⟩ := k
                    exact R_call (as := [.inr (.inr 84), .inr (.inr q), .inr (.inr 60), .inl v1, .inl v2, .inl v3]) (rest := []) (M' := mm_Crowd_most) (ls0 := [some (.inr (.inr 84)), some (.inr (.inr q)), some (.inr (.inr 60)), some (.inl v1), some (.inl v2), some (.inl v3), none, none, none, none]) dd_OneSided_crowd_63 rfl rfl (cw_v cw_11_284 io_84 rfl rfl (Nat.le_of_ble_eq_true rfl) (Nat.le_of_ble_eq_true rfl)) mt_Crowd_most rfl hc rfl k
                  · replace k := k.2 c14
                    refine R_ic dd_OneSided_crowd_43 (by decide) rfl ?_
                    exact R_iret dd_OneSided_crowd_44 rfl k
              · replace k := k.2 c12
                refine R_ic dd_OneSided_crowd_21 (by decide) rfl ?_
                exact R_iret dd_OneSided_crowd_22 rfl k
theorem B_OneSided_crowd_66 {xs : Nat → Int} {xl e : Nat} {h : LH} {Q : Option LV → LH → Prop} {v1 v2 v3 w0 : Int} (hF : RF h)
    (k : Q (some (.inl w0)) h) :
    Rn xs xl e mm_OneSided_crowd 66 [some (.inr (.inr 1)), some (.inl v1), some (.inl v2), some (.inl v3)] [.inl w0] h Q := by
  exact R_iret dd_OneSided_crowd_66 rfl k
end
