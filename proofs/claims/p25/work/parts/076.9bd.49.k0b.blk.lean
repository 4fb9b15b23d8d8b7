/-! LM, by program (wip/p2/hand.py): rows of rests -/
def mm_Rents_settle : LM_M := (⟨"OneSided$Rents", "settle", "(LOneSided$Quarter;LOneSided$Scene;II)V"⟩, prog_10_method_2_code, 6, none, 8, 5, 0, 1072, 1070, 1071)
def mm_Rents_tryPrices : LM_M := (⟨"OneSided$Rents", "tryPrices", "(LOneSided$Quarter;LOneSided$Scene;II)V"⟩, prog_10_method_3_code, 9, none, 8, 5, 0, 1076, 1075, 1000050)
def mm_Rents_takeRents : LM_M := (⟨"OneSided$Rents", "takeRents", "(LOneSided$Quarter;LOneSided$Scene;I)V"⟩, prog_10_method_4_code, 8, none, 8, 4, 0, 1081, 1080, 1000051)
def mm_Rents_doorsOf : LM_M := (⟨"OneSided$Rents", "doorsOf", "(LOneSided$Quarter;LOneSided$Scene;II)I"⟩, prog_10_method_5_code, 8, (some .int), 8, 5, 0, 1085, 1084, 1000052)
def mm_Rents_withHinges : LM_M := (⟨"OneSided$Rents", "withHinges", "(IIII)I"⟩, prog_10_method_6_code, 8, (some .int), 8, 5, 0, 1091, 1090, 1000053)
def mm_Rents_fillBest : LM_M := (⟨"OneSided$Rents", "fillBest", "(LOneSided$Quarter;III)V"⟩, prog_10_method_7_code, 11, none, 8, 5, 0, 1095, 1094, 1000054)
def mm_Rents_cheapest : LM_M := (⟨"OneSided$Rents", "cheapest", "(LOneSided$Quarter;IIII)I"⟩, prog_10_method_8_code, 14, (some .int), 8, 6, 0, 1101, 1100, 1000055)
def mm_Rents_isRest : LM_M := (⟨"OneSided$Rents", "isRest", "(I)Z"⟩, prog_10_method_11_code, 3, (some .boolean), 8, 2, 0, 1109, 1108, 1000056)
def mm_Rents_restCount : LM_M := (⟨"OneSided$Rents", "restCount", "()I"⟩, prog_10_method_9_code, 3, (some .int), 8, 1, 0, 1105, 1103, 1104)
def mm_Rents_restAt : LM_M := (⟨"OneSided$Rents", "restAt", "(I)I"⟩, prog_10_method_10_code, 4, (some .int), 8, 2, 0, 1113, 1111, 1112)
def mm_OneSided_isHinge : LM_M := (⟨"OneSided", "isHinge", "(I)Z"⟩, prog_1_method_32_code, 2, (some .boolean), 11, 2, 0, 1068, 1067, 1000049)
theorem ia_97 : isA NC 97 1 = true := by decide +kernel
theorem la_97 : (lay (97 : Int).toNat).2.2 = 10 := by decide +kernel
theorem dd_Rents_settle_0 : decode mm_Rents_settle.2.1 0 = .ok (.aload_n 0, 1) := by decide +kernel
theorem dd_Rents_settle_1 : decode mm_Rents_settle.2.1 1 = .ok (.iload_n 3, 1) := by decide +kernel
theorem dd_Rents_settle_2 : decode mm_Rents_settle.2.1 2 = .ok (.putfield 27, 3) := by decide +kernel
theorem fd_8_27 : fld 8 27 = some (8, 0) := by decide +kernel
theorem fn_8_0 : fin 8 0 = false := by decide +kernel
theorem io_96 : isO NC 96 8 = true := by decide +kernel
theorem dd_Rents_settle_5 : decode mm_Rents_settle.2.1 5 = .ok (.aload_n 0, 1) := by decide +kernel
theorem dd_Rents_settle_6 : decode mm_Rents_settle.2.1 6 = .ok (.iload 4, 2) := by decide +kernel
theorem dd_Rents_settle_8 : decode mm_Rents_settle.2.1 8 = .ok (.putfield 31, 3) := by decide +kernel
theorem fd_8_31 : fld 8 31 = some (8, 1) := by decide +kernel
theorem fn_8_1 : fin 8 1 = false := by decide +kernel
theorem dd_Rents_settle_11 : decode mm_Rents_settle.2.1 11 = .ok (.aload_n 0, 1) := by decide +kernel
theorem dd_Rents_settle_12 : decode mm_Rents_settle.2.1 12 = .ok (.aload_n 1, 1) := by decide +kernel
theorem dd_Rents_settle_13 : decode mm_Rents_settle.2.1 13 = .ok (.aload_n 2, 1) := by decide +kernel
theorem dd_Rents_settle_14 : decode mm_Rents_settle.2.1 14 = .ok (.iconst 0, 1) := by decide +kernel
theorem dd_Rents_settle_15 : decode mm_Rents_settle.2.1 15 = .ok (.aload_n 0, 1) := by decide +kernel
theorem dd_Rents_settle_16 : decode mm_Rents_settle.2.1 16 = .ok (.getfield 27, 3) := by decide +kernel
theorem dd_Rents_settle_19 : decode mm_Rents_settle.2.1 19 = .ok (.invokevirtual 34, 3) := by decide +kernel
theorem cw_8_34 : cwOk 8 34 0 130 5 9 8 = true := by decide +kernel
theorem mt_Rents_tryPrices : MTB 130 = some mm_Rents_tryPrices := rfl
theorem dd_Rents_settle_22 : decode mm_Rents_settle.2.1 22 = .ok (.aload_n 0, 1) := by decide +kernel
theorem dd_Rents_settle_23 : decode mm_Rents_settle.2.1 23 = .ok (.aload_n 1, 1) := by decide +kernel
theorem dd_Rents_settle_24 : decode mm_Rents_settle.2.1 24 = .ok (.aload_n 2, 1) := by decide +kernel
theorem dd_Rents_settle_25 : decode mm_Rents_settle.2.1 25 = .ok (.iconst 1, 1) := by decide +kernel
theorem dd_Rents_settle_26 : decode mm_Rents_settle.2.1 26 = .ok (.aload_n 0, 1) := by decide +kernel
theorem dd_Rents_settle_27 : decode mm_Rents_settle.2.1 27 = .ok (.getfield 31, 3) := by decide +kernel
theorem dd_Rents_settle_30 : decode mm_Rents_settle.2.1 30 = .ok (.invokevirtual 34, 3) := by decide +kernel
theorem dd_Rents_settle_33 : decode mm_Rents_settle.2.1 33 = .ok (.iconst 0, 1) := by decide +kernel
theorem dd_Rents_settle_34 : decode mm_Rents_settle.2.1 34 = .ok (.istore 5, 2) := by decide +kernel
theorem dd_Rents_settle_36 : decode mm_Rents_settle.2.1 36 = .ok (.iload 5, 2) := by decide +kernel
theorem dd_Rents_settle_38 : decode mm_Rents_settle.2.1 38 = .ok (.aload_n 1, 1) := by decide +kernel
theorem dd_Rents_settle_39 : decode mm_Rents_settle.2.1 39 = .ok (.getfield 38, 3) := by decide +kernel
theorem fd_8_38 : fld 8 38 = some (6, 2) := by decide +kernel
theorem dd_Rents_settle_42 : decode mm_Rents_settle.2.1 42 = .ok (.if_icmp .ge (31), 3) := by decide +kernel
theorem dd_Rents_settle_73 : decode mm_Rents_settle.2.1 73 = .ok (.iconst 0, 1) := by decide +kernel
theorem dd_Rents_settle_74 : decode mm_Rents_settle.2.1 74 = .ok (.istore 5, 2) := by decide +kernel
theorem dd_Rents_settle_45 : decode mm_Rents_settle.2.1 45 = .ok (.aload_n 0, 1) := by decide +kernel
theorem dd_Rents_settle_46 : decode mm_Rents_settle.2.1 46 = .ok (.getfield 15, 3) := by decide +kernel
theorem fd_8_15 : fld 8 15 = some (8, 3) := by decide +kernel
theorem rf_96_3 {h : LH} (hF : RF h) : rd h 96 3 = 98 := hF 96 3 98 (by decide +kernel) (by decide +kernel)
theorem dd_Rents_settle_49 : decode mm_Rents_settle.2.1 49 = .ok (.iload 5, 2) := by decide +kernel
theorem dd_Rents_settle_51 : decode mm_Rents_settle.2.1 51 = .ok (.aload_n 1, 1) := by decide +kernel
theorem dd_Rents_settle_52 : decode mm_Rents_settle.2.1 52 = .ok (.getfield 43, 3) := by decide +kernel
theorem fd_8_43 : fld 8 43 = some (6, 1) := by decide +kernel
theorem dd_Rents_settle_55 : decode mm_Rents_settle.2.1 55 = .ok (.iload 5, 2) := by decide +kernel
theorem dd_Rents_settle_57 : decode mm_Rents_settle.2.1 57 = .ok (.aaload, 1) := by decide +kernel
theorem dd_Rents_settle_58 : decode mm_Rents_settle.2.1 58 = .ok (.getfield 47, 3) := by decide +kernel
theorem fd_8_47 : fld 8 47 = some (1, 8) := by decide +kernel
theorem dd_Rents_settle_61 : decode mm_Rents_settle.2.1 61 = .ok (.bipush 64, 2) := by decide +kernel
theorem dd_Rents_settle_63 : decode mm_Rents_settle.2.1 63 = .ok (.imul, 1) := by decide +kernel
theorem dd_Rents_settle_64 : decode mm_Rents_settle.2.1 64 = .ok (.iconst 1, 1) := by decide +kernel
theorem dd_Rents_settle_65 : decode mm_Rents_settle.2.1 65 = .ok (.iadd, 1) := by decide +kernel
theorem dd_Rents_settle_66 : decode mm_Rents_settle.2.1 66 = .ok (.iastore, 1) := by decide +kernel
theorem ia_98 : isA NC 98 1 = true := by decide +kernel
theorem la_98 : (lay (98 : Int).toNat).2.2 = 14 := by decide +kernel
theorem dd_Rents_settle_67 : decode mm_Rents_settle.2.1 67 = .ok (.iinc 5 1, 3) := by decide +kernel
theorem dd_Rents_settle_70 : decode mm_Rents_settle.2.1 70 = .ok (.goto (-34), 3) := by decide +kernel
theorem dd_Rents_settle_76 : decode mm_Rents_settle.2.1 76 = .ok (.iload 5, 2) := by decide +kernel
theorem dd_Rents_settle_78 : decode mm_Rents_settle.2.1 78 = .ok (.bipush 100, 2) := by decide +kernel
theorem dd_Rents_settle_80 : decode mm_Rents_settle.2.1 80 = .ok (.if_icmp .ge (17), 3) := by decide +kernel
theorem dd_Rents_settle_97 : decode mm_Rents_settle.2.1 97 = .ok (.return_, 1) := by decide +kernel
theorem dd_Rents_settle_83 : decode mm_Rents_settle.2.1 83 = .ok (.aload_n 0, 1) := by decide +kernel
theorem dd_Rents_settle_84 : decode mm_Rents_settle.2.1 84 = .ok (.aload_n 1, 1) := by decide +kernel
theorem dd_Rents_settle_85 : decode mm_Rents_settle.2.1 85 = .ok (.aload_n 2, 1) := by decide +kernel
theorem dd_Rents_settle_86 : decode mm_Rents_settle.2.1 86 = .ok (.iload 5, 2) := by decide +kernel
theorem dd_Rents_settle_88 : decode mm_Rents_settle.2.1 88 = .ok (.invokevirtual 52, 3) := by decide +kernel
theorem cw_8_52 : cwOk 8 52 0 131 4 8 8 = true := by decide +kernel
theorem mt_Rents_takeRents : MTB 131 = some mm_Rents_takeRents := rfl
theorem dd_Rents_settle_91 : decode mm_Rents_settle.2.1 91 = .ok (.iinc 5 1, 3) := by decide +kernel
theorem dd_Rents_settle_94 : decode mm_Rents_settle.2.1 94 = .ok (.goto (-18), 3) := by decide +kernel
theorem dd_Rents_tryPrices_0 : decode mm_Rents_tryPrices.2.1 0 = .ok (.aload_n 2, 1) := by decide +kernel
theorem dd_Rents_tryPrices_1 : decode mm_Rents_tryPrices.2.1 1 = .ok (.getfield 56, 3) := by decide +kernel
theorem fd_8_56 : fld 8 56 = some (9, 0) := by decide +kernel
theorem dd_Rents_tryPrices_4 : decode mm_Rents_tryPrices.2.1 4 = .ok (.bipush 24, 2) := by decide +kernel
theorem dd_Rents_tryPrices_6 : decode mm_Rents_tryPrices.2.1 6 = .ok (.if_icmp .ge (19), 3) := by decide +kernel
theorem dd_Rents_tryPrices_25 : decode mm_Rents_tryPrices.2.1 25 = .ok (.iconst 0, 1) := by decide +kernel
theorem dd_Rents_tryPrices_26 : decode mm_Rents_tryPrices.2.1 26 = .ok (.istore 5, 2) := by decide +kernel
theorem dd_Rents_tryPrices_28 : decode mm_Rents_tryPrices.2.1 28 = .ok (.iconst 0, 1) := by decide +kernel
theorem dd_Rents_tryPrices_29 : decode mm_Rents_tryPrices.2.1 29 = .ok (.istore 6, 2) := by decide +kernel
theorem dd_Rents_tryPrices_9 : decode mm_Rents_tryPrices.2.1 9 = .ok (.aload_n 2, 1) := by decide +kernel
theorem dd_Rents_tryPrices_10 : decode mm_Rents_tryPrices.2.1 10 = .ok (.getfield 61, 3) := by decide +kernel
theorem fd_8_61 : fld 8 61 = some (9, 1) := by decide +kernel
theorem dd_Rents_tryPrices_13 : decode mm_Rents_tryPrices.2.1 13 = .ok (.iload 4, 2) := by decide +kernel
theorem dd_Rents_tryPrices_15 : decode mm_Rents_tryPrices.2.1 15 = .ok (.ishr, 1) := by decide +kernel
theorem dd_Rents_tryPrices_16 : decode mm_Rents_tryPrices.2.1 16 = .ok (.iconst 1, 1) := by decide +kernel
theorem dd_Rents_tryPrices_17 : decode mm_Rents_tryPrices.2.1 17 = .ok (.iand, 1) := by decide +kernel
theorem dd_Rents_tryPrices_18 : decode mm_Rents_tryPrices.2.1 18 = .ok (.ifCond .ne (7), 3) := by decide +kernel
theorem dd_Rents_tryPrices_21 : decode mm_Rents_tryPrices.2.1 21 = .ok (.iconst 1, 1) := by decide +kernel
theorem dd_Rents_tryPrices_22 : decode mm_Rents_tryPrices.2.1 22 = .ok (.goto 4, 3) := by decide +kernel
theorem dd_Rents_tryPrices_31 : decode mm_Rents_tryPrices.2.1 31 = .ok (.iload 6, 2) := by decide +kernel
theorem dd_Rents_tryPrices_33 : decode mm_Rents_tryPrices.2.1 33 = .ok (.bipush 10, 2) := by decide +kernel
theorem dd_Rents_tryPrices_35 : decode mm_Rents_tryPrices.2.1 35 = .ok (.if_icmp .ge (69), 3) := by decide +kernel
theorem dd_Rents_tryPrices_104 : decode mm_Rents_tryPrices.2.1 104 = .ok (.return_, 1) := by decide +kernel
theorem dd_Rents_tryPrices_38 : decode mm_Rents_tryPrices.2.1 38 = .ok (.iconst 0, 1) := by decide +kernel
theorem dd_Rents_tryPrices_39 : decode mm_Rents_tryPrices.2.1 39 = .ok (.istore 7, 2) := by decide +kernel
theorem dd_Rents_tryPrices_41 : decode mm_Rents_tryPrices.2.1 41 = .ok (.iload 7, 2) := by decide +kernel
theorem dd_Rents_tryPrices_43 : decode mm_Rents_tryPrices.2.1 43 = .ok (.iconst 4, 1) := by decide +kernel
theorem dd_Rents_tryPrices_44 : decode mm_Rents_tryPrices.2.1 44 = .ok (.if_icmp .ge (54), 3) := by decide +kernel
theorem dd_Rents_tryPrices_98 : decode mm_Rents_tryPrices.2.1 98 = .ok (.iinc 6 1, 3) := by decide +kernel
theorem dd_Rents_tryPrices_101 : decode mm_Rents_tryPrices.2.1 101 = .ok (.goto (-70), 3) := by decide +kernel
theorem dd_Rents_tryPrices_47 : decode mm_Rents_tryPrices.2.1 47 = .ok (.iload 5, 2) := by decide +kernel
theorem dd_Rents_tryPrices_49 : decode mm_Rents_tryPrices.2.1 49 = .ok (.ifCond .eq (21), 3) := by decide +kernel
theorem dd_Rents_tryPrices_70 : decode mm_Rents_tryPrices.2.1 70 = .ok (.iconst 0, 1) := by decide +kernel
theorem dd_Rents_tryPrices_71 : decode mm_Rents_tryPrices.2.1 71 = .ok (.istore 8, 2) := by decide +kernel
theorem dd_Rents_tryPrices_52 : decode mm_Rents_tryPrices.2.1 52 = .ok (.aload_n 1, 1) := by decide +kernel
theorem dd_Rents_tryPrices_53 : decode mm_Rents_tryPrices.2.1 53 = .ok (.iload 4, 2) := by decide +kernel
theorem dd_Rents_tryPrices_55 : decode mm_Rents_tryPrices.2.1 55 = .ok (.iload 7, 2) := by decide +kernel
theorem dd_Rents_tryPrices_57 : decode mm_Rents_tryPrices.2.1 57 = .ok (.aload_n 2, 1) := by decide +kernel
theorem dd_Rents_tryPrices_58 : decode mm_Rents_tryPrices.2.1 58 = .ok (.getfield 56, 3) := by decide +kernel
theorem dd_Rents_tryPrices_61 : decode mm_Rents_tryPrices.2.1 61 = .ok (.iload 6, 2) := by decide +kernel
theorem dd_Rents_tryPrices_63 : decode mm_Rents_tryPrices.2.1 63 = .ok (.iconst 0, 1) := by decide +kernel
theorem dd_Rents_tryPrices_64 : decode mm_Rents_tryPrices.2.1 64 = .ok (.invokevirtual 64, 3) := by decide +kernel
theorem cw_8_64 : cwOk 8 64 0 46 6 9 6 = true := by decide +kernel
theorem dd_Rents_tryPrices_67 : decode mm_Rents_tryPrices.2.1 67 = .ok (.goto 4, 3) := by decide +kernel
theorem dd_Rents_tryPrices_73 : decode mm_Rents_tryPrices.2.1 73 = .ok (.aload_n 0, 1) := by decide +kernel
theorem dd_Rents_tryPrices_74 : decode mm_Rents_tryPrices.2.1 74 = .ok (.getfield 18, 3) := by decide +kernel
theorem fd_8_18 : fld 8 18 = some (8, 4) := by decide +kernel
theorem rf_96_4 {h : LH} (hF : RF h) : rd h 96 4 = 99 := hF 96 4 99 (by decide +kernel) (by decide +kernel)
theorem dd_Rents_tryPrices_77 : decode mm_Rents_tryPrices.2.1 77 = .ok (.iload_n 3, 1) := by decide +kernel
theorem dd_Rents_tryPrices_78 : decode mm_Rents_tryPrices.2.1 78 = .ok (.bipush 10, 2) := by decide +kernel
theorem dd_Rents_tryPrices_80 : decode mm_Rents_tryPrices.2.1 80 = .ok (.imul, 1) := by decide +kernel
theorem dd_Rents_tryPrices_81 : decode mm_Rents_tryPrices.2.1 81 = .ok (.iload 6, 2) := by decide +kernel
theorem dd_Rents_tryPrices_83 : decode mm_Rents_tryPrices.2.1 83 = .ok (.iadd, 1) := by decide +kernel
theorem dd_Rents_tryPrices_84 : decode mm_Rents_tryPrices.2.1 84 = .ok (.iconst 4, 1) := by decide +kernel
theorem dd_Rents_tryPrices_85 : decode mm_Rents_tryPrices.2.1 85 = .ok (.imul, 1) := by decide +kernel
theorem dd_Rents_tryPrices_86 : decode mm_Rents_tryPrices.2.1 86 = .ok (.iload 7, 2) := by decide +kernel
theorem dd_Rents_tryPrices_88 : decode mm_Rents_tryPrices.2.1 88 = .ok (.iadd, 1) := by decide +kernel
theorem dd_Rents_tryPrices_89 : decode mm_Rents_tryPrices.2.1 89 = .ok (.iload 8, 2) := by decide +kernel
theorem dd_Rents_tryPrices_91 : decode mm_Rents_tryPrices.2.1 91 = .ok (.iastore, 1) := by decide +kernel
theorem ia_99 : isA NC 99 1 = true := by decide +kernel
theorem la_99 : (lay (99 : Int).toNat).2.2 = 80 := by decide +kernel
theorem dd_Rents_tryPrices_92 : decode mm_Rents_tryPrices.2.1 92 = .ok (.iinc 7 1, 3) := by decide +kernel
theorem dd_Rents_tryPrices_95 : decode mm_Rents_tryPrices.2.1 95 = .ok (.goto (-54), 3) := by decide +kernel
theorem dd_Rents_takeRents_0 : decode mm_Rents_takeRents.2.1 0 = .ok (.iload_n 3, 1) := by decide +kernel
theorem dd_Rents_takeRents_1 : decode mm_Rents_takeRents.2.1 1 = .ok (.bipush 10, 2) := by decide +kernel
theorem dd_Rents_takeRents_3 : decode mm_Rents_takeRents.2.1 3 = .ok (.idiv, 1) := by decide +kernel
theorem dd_Rents_takeRents_4 : decode mm_Rents_takeRents.2.1 4 = .ok (.istore 4, 2) := by decide +kernel
theorem dd_Rents_takeRents_6 : decode mm_Rents_takeRents.2.1 6 = .ok (.iload_n 3, 1) := by decide +kernel
theorem dd_Rents_takeRents_7 : decode mm_Rents_takeRents.2.1 7 = .ok (.bipush 10, 2) := by decide +kernel
theorem dd_Rents_takeRents_9 : decode mm_Rents_takeRents.2.1 9 = .ok (.irem, 1) := by decide +kernel
theorem dd_Rents_takeRents_10 : decode mm_Rents_takeRents.2.1 10 = .ok (.istore 5, 2) := by decide +kernel
theorem dd_Rents_takeRents_12 : decode mm_Rents_takeRents.2.1 12 = .ok (.aload_n 0, 1) := by decide +kernel
theorem dd_Rents_takeRents_13 : decode mm_Rents_takeRents.2.1 13 = .ok (.getfield 15, 3) := by decide +kernel
theorem dd_Rents_takeRents_16 : decode mm_Rents_takeRents.2.1 16 = .ok (.aload_n 0, 1) := by decide +kernel
theorem dd_Rents_takeRents_17 : decode mm_Rents_takeRents.2.1 17 = .ok (.getfield 27, 3) := by decide +kernel
theorem dd_Rents_takeRents_20 : decode mm_Rents_takeRents.2.1 20 = .ok (.iload 4, 2) := by decide +kernel
theorem dd_Rents_takeRents_22 : decode mm_Rents_takeRents.2.1 22 = .ok (.bipush 64, 2) := by decide +kernel
theorem dd_Rents_takeRents_24 : decode mm_Rents_takeRents.2.1 24 = .ok (.imul, 1) := by decide +kernel
theorem dd_Rents_takeRents_25 : decode mm_Rents_takeRents.2.1 25 = .ok (.iconst 1, 1) := by decide +kernel
theorem dd_Rents_takeRents_26 : decode mm_Rents_takeRents.2.1 26 = .ok (.iadd, 1) := by decide +kernel
theorem dd_Rents_takeRents_27 : decode mm_Rents_takeRents.2.1 27 = .ok (.iastore, 1) := by decide +kernel
theorem dd_Rents_takeRents_28 : decode mm_Rents_takeRents.2.1 28 = .ok (.aload_n 0, 1) := by decide +kernel
theorem dd_Rents_takeRents_29 : decode mm_Rents_takeRents.2.1 29 = .ok (.getfield 15, 3) := by decide +kernel
theorem dd_Rents_takeRents_32 : decode mm_Rents_takeRents.2.1 32 = .ok (.aload_n 0, 1) := by decide +kernel
theorem dd_Rents_takeRents_33 : decode mm_Rents_takeRents.2.1 33 = .ok (.getfield 31, 3) := by decide +kernel
theorem dd_Rents_takeRents_36 : decode mm_Rents_takeRents.2.1 36 = .ok (.iload 5, 2) := by decide +kernel
theorem dd_Rents_takeRents_38 : decode mm_Rents_takeRents.2.1 38 = .ok (.bipush 64, 2) := by decide +kernel
theorem dd_Rents_takeRents_40 : decode mm_Rents_takeRents.2.1 40 = .ok (.imul, 1) := by decide +kernel
theorem dd_Rents_takeRents_41 : decode mm_Rents_takeRents.2.1 41 = .ok (.iconst 1, 1) := by decide +kernel
theorem dd_Rents_takeRents_42 : decode mm_Rents_takeRents.2.1 42 = .ok (.iadd, 1) := by decide +kernel
theorem dd_Rents_takeRents_43 : decode mm_Rents_takeRents.2.1 43 = .ok (.iastore, 1) := by decide +kernel
theorem dd_Rents_takeRents_44 : decode mm_Rents_takeRents.2.1 44 = .ok (.aload_n 0, 1) := by decide +kernel
theorem dd_Rents_takeRents_45 : decode mm_Rents_takeRents.2.1 45 = .ok (.getfield 21, 3) := by decide +kernel
theorem fd_8_21 : fld 8 21 = some (8, 5) := by decide +kernel
theorem rf_96_5 {h : LH} (hF : RF h) : rd h 96 5 = 100 := hF 96 5 100 (by decide +kernel) (by decide +kernel)
theorem dd_Rents_takeRents_48 : decode mm_Rents_takeRents.2.1 48 = .ok (.iload_n 3, 1) := by decide +kernel
theorem dd_Rents_takeRents_49 : decode mm_Rents_takeRents.2.1 49 = .ok (.iconst 0, 1) := by decide +kernel
theorem dd_Rents_takeRents_50 : decode mm_Rents_takeRents.2.1 50 = .ok (.iastore, 1) := by decide +kernel
theorem ia_100 : isA NC 100 1 = true := by decide +kernel
theorem la_100 : (lay (100 : Int).toNat).2.2 = 100 := by decide +kernel
theorem dd_Rents_takeRents_51 : decode mm_Rents_takeRents.2.1 51 = .ok (.aload_n 0, 1) := by decide +kernel
theorem dd_Rents_takeRents_52 : decode mm_Rents_takeRents.2.1 52 = .ok (.getfield 24, 3) := by decide +kernel
theorem fd_8_24 : fld 8 24 = some (8, 6) := by decide +kernel
theorem rf_96_6 {h : LH} (hF : RF h) : rd h 96 6 = 101 := hF 96 6 101 (by decide +kernel) (by decide +kernel)
theorem dd_Rents_takeRents_55 : decode mm_Rents_takeRents.2.1 55 = .ok (.iload_n 3, 1) := by decide +kernel
theorem dd_Rents_takeRents_56 : decode mm_Rents_takeRents.2.1 56 = .ok (.iconst 0, 1) := by decide +kernel
theorem dd_Rents_takeRents_57 : decode mm_Rents_takeRents.2.1 57 = .ok (.iastore, 1) := by decide +kernel
theorem ia_101 : isA NC 101 1 = true := by decide +kernel
theorem la_101 : (lay (101 : Int).toNat).2.2 = 100 := by decide +kernel
theorem dd_Rents_takeRents_58 : decode mm_Rents_takeRents.2.1 58 = .ok (.iconst 0, 1) := by decide +kernel
theorem dd_Rents_takeRents_59 : decode mm_Rents_takeRents.2.1 59 = .ok (.istore 6, 2) := by decide +kernel
theorem dd_Rents_takeRents_61 : decode mm_Rents_takeRents.2.1 61 = .ok (.iload 6, 2) := by decide +kernel
theorem dd_Rents_takeRents_63 : decode mm_Rents_takeRents.2.1 63 = .ok (.aload_n 1, 1) := by decide +kernel
theorem dd_Rents_takeRents_64 : decode mm_Rents_takeRents.2.1 64 = .ok (.getfield 68, 3) := by decide +kernel
theorem fd_8_68 : fld 8 68 = some (6, 4) := by decide +kernel
theorem dd_Rents_takeRents_67 : decode mm_Rents_takeRents.2.1 67 = .ok (.if_icmp .ge (62), 3) := by decide +kernel
theorem dd_Rents_takeRents_129 : decode mm_Rents_takeRents.2.1 129 = .ok (.return_, 1) := by decide +kernel
theorem dd_Rents_takeRents_70 : decode mm_Rents_takeRents.2.1 70 = .ok (.aload_n 0, 1) := by decide +kernel
theorem dd_Rents_takeRents_71 : decode mm_Rents_takeRents.2.1 71 = .ok (.aload_n 1, 1) := by decide +kernel
theorem dd_Rents_takeRents_72 : decode mm_Rents_takeRents.2.1 72 = .ok (.aload_n 2, 1) := by decide +kernel
theorem dd_Rents_takeRents_73 : decode mm_Rents_takeRents.2.1 73 = .ok (.iload 6, 2) := by decide +kernel
theorem dd_Rents_takeRents_75 : decode mm_Rents_takeRents.2.1 75 = .ok (.iload_n 3, 1) := by decide +kernel
theorem dd_Rents_takeRents_76 : decode mm_Rents_takeRents.2.1 76 = .ok (.invokevirtual 71, 3) := by decide +kernel
theorem cw_8_71 : cwOk 8 71 0 132 5 8 8 = true := by decide +kernel
theorem mt_Rents_doorsOf : MTB 132 = some mm_Rents_doorsOf := rfl
theorem dd_Rents_takeRents_79 : decode mm_Rents_takeRents.2.1 79 = .ok (.istore 7, 2) := by decide +kernel
theorem dd_Rents_takeRents_81 : decode mm_Rents_takeRents.2.1 81 = .ok (.aload_n 0, 1) := by decide +kernel
theorem dd_Rents_takeRents_82 : decode mm_Rents_takeRents.2.1 82 = .ok (.getfield 21, 3) := by decide +kernel
theorem dd_Rents_takeRents_85 : decode mm_Rents_takeRents.2.1 85 = .ok (.iload_n 3, 1) := by decide +kernel
theorem dd_Rents_takeRents_86 : decode mm_Rents_takeRents.2.1 86 = .ok (.dup2, 1) := by decide +kernel
theorem dd_Rents_takeRents_87 : decode mm_Rents_takeRents.2.1 87 = .ok (.iaload, 1) := by decide +kernel
theorem dd_Rents_takeRents_88 : decode mm_Rents_takeRents.2.1 88 = .ok (.iload 7, 2) := by decide +kernel
theorem dd_Rents_takeRents_90 : decode mm_Rents_takeRents.2.1 90 = .ok (.aload_n 0, 1) := by decide +kernel
theorem dd_Rents_takeRents_91 : decode mm_Rents_takeRents.2.1 91 = .ok (.getfield 27, 3) := by decide +kernel
theorem dd_Rents_takeRents_94 : decode mm_Rents_takeRents.2.1 94 = .ok (.ishr, 1) := by decide +kernel
theorem dd_Rents_takeRents_95 : decode mm_Rents_takeRents.2.1 95 = .ok (.iconst 1, 1) := by decide +kernel
theorem dd_Rents_takeRents_96 : decode mm_Rents_takeRents.2.1 96 = .ok (.iand, 1) := by decide +kernel
theorem dd_Rents_takeRents_97 : decode mm_Rents_takeRents.2.1 97 = .ok (.iload 4, 2) := by decide +kernel
theorem dd_Rents_takeRents_99 : decode mm_Rents_takeRents.2.1 99 = .ok (.imul, 1) := by decide +kernel
theorem dd_Rents_takeRents_100 : decode mm_Rents_takeRents.2.1 100 = .ok (.iadd, 1) := by decide +kernel
theorem dd_Rents_takeRents_101 : decode mm_Rents_takeRents.2.1 101 = .ok (.iastore, 1) := by decide +kernel
theorem dd_Rents_takeRents_102 : decode mm_Rents_takeRents.2.1 102 = .ok (.aload_n 0, 1) := by decide +kernel
theorem dd_Rents_takeRents_103 : decode mm_Rents_takeRents.2.1 103 = .ok (.getfield 24, 3) := by decide +kernel
theorem dd_Rents_takeRents_106 : decode mm_Rents_takeRents.2.1 106 = .ok (.iload_n 3, 1) := by decide +kernel
theorem dd_Rents_takeRents_107 : decode mm_Rents_takeRents.2.1 107 = .ok (.dup2, 1) := by decide +kernel
theorem dd_Rents_takeRents_108 : decode mm_Rents_takeRents.2.1 108 = .ok (.iaload, 1) := by decide +kernel
theorem dd_Rents_takeRents_109 : decode mm_Rents_takeRents.2.1 109 = .ok (.iload 7, 2) := by decide +kernel
theorem dd_Rents_takeRents_111 : decode mm_Rents_takeRents.2.1 111 = .ok (.aload_n 0, 1) := by decide +kernel
theorem dd_Rents_takeRents_112 : decode mm_Rents_takeRents.2.1 112 = .ok (.getfield 31, 3) := by decide +kernel
theorem dd_Rents_takeRents_115 : decode mm_Rents_takeRents.2.1 115 = .ok (.ishr, 1) := by decide +kernel
theorem dd_Rents_takeRents_116 : decode mm_Rents_takeRents.2.1 116 = .ok (.iconst 1, 1) := by decide +kernel
theorem dd_Rents_takeRents_117 : decode mm_Rents_takeRents.2.1 117 = .ok (.iand, 1) := by decide +kernel
theorem dd_Rents_takeRents_118 : decode mm_Rents_takeRents.2.1 118 = .ok (.iload 5, 2) := by decide +kernel
theorem dd_Rents_takeRents_120 : decode mm_Rents_takeRents.2.1 120 = .ok (.imul, 1) := by decide +kernel
theorem dd_Rents_takeRents_121 : decode mm_Rents_takeRents.2.1 121 = .ok (.iadd, 1) := by decide +kernel
theorem dd_Rents_takeRents_122 : decode mm_Rents_takeRents.2.1 122 = .ok (.iastore, 1) := by decide +kernel
theorem dd_Rents_takeRents_123 : decode mm_Rents_takeRents.2.1 123 = .ok (.iinc 6 1, 3) := by decide +kernel
theorem dd_Rents_takeRents_126 : decode mm_Rents_takeRents.2.1 126 = .ok (.goto (-65), 3) := by decide +kernel
theorem dd_Rents_doorsOf_0 : decode mm_Rents_doorsOf.2.1 0 = .ok (.aload_n 1, 1) := by decide +kernel
theorem dd_Rents_doorsOf_1 : decode mm_Rents_doorsOf.2.1 1 = .ok (.getfield 75, 3) := by decide +kernel
theorem fd_8_75 : fld 8 75 = some (6, 3) := by decide +kernel
theorem dd_Rents_doorsOf_4 : decode mm_Rents_doorsOf.2.1 4 = .ok (.iload_n 3, 1) := by decide +kernel
theorem dd_Rents_doorsOf_5 : decode mm_Rents_doorsOf.2.1 5 = .ok (.aaload, 1) := by decide +kernel
theorem dd_Rents_doorsOf_6 : decode mm_Rents_doorsOf.2.1 6 = .ok (.astore 5, 2) := by decide +kernel
theorem dd_Rents_doorsOf_8 : decode mm_Rents_doorsOf.2.1 8 = .ok (.aload_n 1, 1) := by decide +kernel
theorem dd_Rents_doorsOf_9 : decode mm_Rents_doorsOf.2.1 9 = .ok (.aload 5, 2) := by decide +kernel
theorem dd_Rents_doorsOf_11 : decode mm_Rents_doorsOf.2.1 11 = .ok (.getfield 79, 3) := by decide +kernel
theorem fd_8_79 : fld 8 79 = some (4, 1) := by decide +kernel
theorem dd_Rents_doorsOf_14 : decode mm_Rents_doorsOf.2.1 14 = .ok (.aload_n 2, 1) := by decide +kernel
theorem dd_Rents_doorsOf_15 : decode mm_Rents_doorsOf.2.1 15 = .ok (.getfield 56, 3) := by decide +kernel
theorem dd_Rents_doorsOf_18 : decode mm_Rents_doorsOf.2.1 18 = .ok (.aload_n 2, 1) := by decide +kernel
theorem dd_Rents_doorsOf_19 : decode mm_Rents_doorsOf.2.1 19 = .ok (.getfield 61, 3) := by decide +kernel
theorem dd_Rents_doorsOf_22 : decode mm_Rents_doorsOf.2.1 22 = .ok (.invokevirtual 84, 3) := by decide +kernel
theorem cw_8_84 : cwOk 8 84 0 68 4 4 6 = true := by decide +kernel
theorem dd_Rents_doorsOf_25 : decode mm_Rents_doorsOf.2.1 25 = .ok (.istore 6, 2) := by decide +kernel
theorem dd_Rents_doorsOf_27 : decode mm_Rents_doorsOf.2.1 27 = .ok (.aload_n 1, 1) := by decide +kernel
theorem dd_Rents_doorsOf_28 : decode mm_Rents_doorsOf.2.1 28 = .ok (.aload 5, 2) := by decide +kernel
theorem dd_Rents_doorsOf_30 : decode mm_Rents_doorsOf.2.1 30 = .ok (.getfield 79, 3) := by decide +kernel
theorem dd_Rents_doorsOf_33 : decode mm_Rents_doorsOf.2.1 33 = .ok (.aload_n 2, 1) := by decide +kernel
theorem dd_Rents_doorsOf_34 : decode mm_Rents_doorsOf.2.1 34 = .ok (.getfield 56, 3) := by decide +kernel
theorem dd_Rents_doorsOf_37 : decode mm_Rents_doorsOf.2.1 37 = .ok (.aload_n 2, 1) := by decide +kernel
theorem dd_Rents_doorsOf_38 : decode mm_Rents_doorsOf.2.1 38 = .ok (.getfield 61, 3) := by decide +kernel
theorem dd_Rents_doorsOf_41 : decode mm_Rents_doorsOf.2.1 41 = .ok (.invokevirtual 88, 3) := by decide +kernel
theorem cw_8_88 : cwOk 8 88 0 69 4 4 6 = true := by decide +kernel
theorem dd_Rents_doorsOf_44 : decode mm_Rents_doorsOf.2.1 44 = .ok (.istore 7, 2) := by decide +kernel
theorem dd_Rents_doorsOf_46 : decode mm_Rents_doorsOf.2.1 46 = .ok (.aload_n 0, 1) := by decide +kernel
theorem dd_Rents_doorsOf_47 : decode mm_Rents_doorsOf.2.1 47 = .ok (.iload 6, 2) := by decide +kernel
theorem dd_Rents_doorsOf_49 : decode mm_Rents_doorsOf.2.1 49 = .ok (.iload 4, 2) := by decide +kernel
theorem dd_Rents_doorsOf_51 : decode mm_Rents_doorsOf.2.1 51 = .ok (.aload 5, 2) := by decide +kernel
theorem dd_Rents_doorsOf_53 : decode mm_Rents_doorsOf.2.1 53 = .ok (.getfield 79, 3) := by decide +kernel
theorem dd_Rents_doorsOf_56 : decode mm_Rents_doorsOf.2.1 56 = .ok (.iconst 1, 1) := by decide +kernel
theorem dd_Rents_doorsOf_57 : decode mm_Rents_doorsOf.2.1 57 = .ok (.invokevirtual 91, 3) := by decide +kernel
theorem cw_8_91 : cwOk 8 91 0 133 5 8 8 = true := by decide +kernel
theorem mt_Rents_withHinges : MTB 133 = some mm_Rents_withHinges := rfl
theorem dd_Rents_doorsOf_60 : decode mm_Rents_doorsOf.2.1 60 = .ok (.istore 6, 2) := by decide +kernel
theorem dd_Rents_doorsOf_62 : decode mm_Rents_doorsOf.2.1 62 = .ok (.aload_n 0, 1) := by decide +kernel
theorem dd_Rents_doorsOf_63 : decode mm_Rents_doorsOf.2.1 63 = .ok (.iload 7, 2) := by decide +kernel
theorem dd_Rents_doorsOf_65 : decode mm_Rents_doorsOf.2.1 65 = .ok (.iload 4, 2) := by decide +kernel
theorem dd_Rents_doorsOf_67 : decode mm_Rents_doorsOf.2.1 67 = .ok (.aload 5, 2) := by decide +kernel
theorem dd_Rents_doorsOf_69 : decode mm_Rents_doorsOf.2.1 69 = .ok (.getfield 79, 3) := by decide +kernel
theorem dd_Rents_doorsOf_72 : decode mm_Rents_doorsOf.2.1 72 = .ok (.iconst 2, 1) := by decide +kernel
theorem dd_Rents_doorsOf_73 : decode mm_Rents_doorsOf.2.1 73 = .ok (.invokevirtual 91, 3) := by decide +kernel
theorem dd_Rents_doorsOf_76 : decode mm_Rents_doorsOf.2.1 76 = .ok (.istore 7, 2) := by decide +kernel
theorem dd_Rents_doorsOf_78 : decode mm_Rents_doorsOf.2.1 78 = .ok (.aload_n 0, 1) := by decide +kernel
theorem dd_Rents_doorsOf_79 : decode mm_Rents_doorsOf.2.1 79 = .ok (.aload_n 1, 1) := by decide +kernel
theorem dd_Rents_doorsOf_80 : decode mm_Rents_doorsOf.2.1 80 = .ok (.iload 6, 2) := by decide +kernel
theorem dd_Rents_doorsOf_82 : decode mm_Rents_doorsOf.2.1 82 = .ok (.iload 7, 2) := by decide +kernel
theorem dd_Rents_doorsOf_84 : decode mm_Rents_doorsOf.2.1 84 = .ok (.aload 5, 2) := by decide +kernel
theorem dd_Rents_doorsOf_86 : decode mm_Rents_doorsOf.2.1 86 = .ok (.getfield 95, 3) := by decide +kernel
theorem fd_8_95 : fld 8 95 = some (4, 3) := by decide +kernel
theorem dd_Rents_doorsOf_89 : decode mm_Rents_doorsOf.2.1 89 = .ok (.invokevirtual 98, 3) := by decide +kernel
theorem cw_8_98 : cwOk 8 98 0 134 5 11 8 = true := by decide +kernel
theorem mt_Rents_fillBest : MTB 134 = some mm_Rents_fillBest := rfl
theorem dd_Rents_doorsOf_92 : decode mm_Rents_doorsOf.2.1 92 = .ok (.aload_n 0, 1) := by decide +kernel
theorem dd_Rents_doorsOf_93 : decode mm_Rents_doorsOf.2.1 93 = .ok (.aload_n 1, 1) := by decide +kernel
theorem dd_Rents_doorsOf_94 : decode mm_Rents_doorsOf.2.1 94 = .ok (.iload 6, 2) := by decide +kernel
theorem dd_Rents_doorsOf_96 : decode mm_Rents_doorsOf.2.1 96 = .ok (.iload 7, 2) := by decide +kernel
theorem dd_Rents_doorsOf_98 : decode mm_Rents_doorsOf.2.1 98 = .ok (.aload_n 2, 1) := by decide +kernel
theorem dd_Rents_doorsOf_99 : decode mm_Rents_doorsOf.2.1 99 = .ok (.getfield 102, 3) := by decide +kernel
theorem fd_8_102 : fld 8 102 = some (9, 4) := by decide +kernel
theorem dd_Rents_doorsOf_102 : decode mm_Rents_doorsOf.2.1 102 = .ok (.iload_n 3, 1) := by decide +kernel
theorem dd_Rents_doorsOf_103 : decode mm_Rents_doorsOf.2.1 103 = .ok (.iaload, 1) := by decide +kernel
theorem dd_Rents_doorsOf_104 : decode mm_Rents_doorsOf.2.1 104 = .ok (.aload 5, 2) := by decide +kernel
theorem dd_Rents_doorsOf_106 : decode mm_Rents_doorsOf.2.1 106 = .ok (.getfield 95, 3) := by decide +kernel
theorem dd_Rents_doorsOf_109 : decode mm_Rents_doorsOf.2.1 109 = .ok (.invokevirtual 105, 3) := by decide +kernel
theorem cw_8_105 : cwOk 8 105 0 135 6 14 8 = true := by decide +kernel
theorem mt_Rents_cheapest : MTB 135 = some mm_Rents_cheapest := rfl
theorem dd_Rents_doorsOf_112 : decode mm_Rents_doorsOf.2.1 112 = .ok (.ireturn, 1) := by decide +kernel
theorem dd_Rents_withHinges_0 : decode mm_Rents_withHinges.2.1 0 = .ok (.aload_n 0, 1) := by decide +kernel
theorem dd_Rents_withHinges_1 : decode mm_Rents_withHinges.2.1 1 = .ok (.getfield 18, 3) := by decide +kernel
theorem dd_Rents_withHinges_4 : decode mm_Rents_withHinges.2.1 4 = .ok (.iload_n 2, 1) := by decide +kernel
theorem dd_Rents_withHinges_5 : decode mm_Rents_withHinges.2.1 5 = .ok (.bipush 10, 2) := by decide +kernel
theorem dd_Rents_withHinges_7 : decode mm_Rents_withHinges.2.1 7 = .ok (.idiv, 1) := by decide +kernel
theorem dd_Rents_withHinges_8 : decode mm_Rents_withHinges.2.1 8 = .ok (.iconst 4, 1) := by decide +kernel
theorem dd_Rents_withHinges_9 : decode mm_Rents_withHinges.2.1 9 = .ok (.imul, 1) := by decide +kernel
theorem dd_Rents_withHinges_10 : decode mm_Rents_withHinges.2.1 10 = .ok (.iload_n 3, 1) := by decide +kernel
theorem dd_Rents_withHinges_11 : decode mm_Rents_withHinges.2.1 11 = .ok (.iadd, 1) := by decide +kernel
theorem dd_Rents_withHinges_12 : decode mm_Rents_withHinges.2.1 12 = .ok (.iaload, 1) := by decide +kernel
theorem dd_Rents_withHinges_13 : decode mm_Rents_withHinges.2.1 13 = .ok (.istore 5, 2) := by decide +kernel
theorem dd_Rents_withHinges_15 : decode mm_Rents_withHinges.2.1 15 = .ok (.aload_n 0, 1) := by decide +kernel
theorem dd_Rents_withHinges_16 : decode mm_Rents_withHinges.2.1 16 = .ok (.getfield 18, 3) := by decide +kernel
theorem dd_Rents_withHinges_19 : decode mm_Rents_withHinges.2.1 19 = .ok (.bipush 10, 2) := by decide +kernel
theorem dd_Rents_withHinges_21 : decode mm_Rents_withHinges.2.1 21 = .ok (.iload_n 2, 1) := by decide +kernel
theorem dd_Rents_withHinges_22 : decode mm_Rents_withHinges.2.1 22 = .ok (.bipush 10, 2) := by decide +kernel
theorem dd_Rents_withHinges_24 : decode mm_Rents_withHinges.2.1 24 = .ok (.irem, 1) := by decide +kernel
theorem dd_Rents_withHinges_25 : decode mm_Rents_withHinges.2.1 25 = .ok (.iadd, 1) := by decide +kernel
theorem dd_Rents_withHinges_26 : decode mm_Rents_withHinges.2.1 26 = .ok (.iconst 4, 1) := by decide +kernel
theorem dd_Rents_withHinges_27 : decode mm_Rents_withHinges.2.1 27 = .ok (.imul, 1) := by decide +kernel
theorem dd_Rents_withHinges_28 : decode mm_Rents_withHinges.2.1 28 = .ok (.iload_n 3, 1) := by decide +kernel
theorem dd_Rents_withHinges_29 : decode mm_Rents_withHinges.2.1 29 = .ok (.iadd, 1) := by decide +kernel
theorem dd_Rents_withHinges_30 : decode mm_Rents_withHinges.2.1 30 = .ok (.iaload, 1) := by decide +kernel
theorem dd_Rents_withHinges_31 : decode mm_Rents_withHinges.2.1 31 = .ok (.istore 6, 2) := by decide +kernel
theorem dd_Rents_withHinges_33 : decode mm_Rents_withHinges.2.1 33 = .ok (.iload_n 1, 1) := by decide +kernel
theorem dd_Rents_withHinges_34 : decode mm_Rents_withHinges.2.1 34 = .ok (.iconst 1, 1) := by decide +kernel
theorem dd_Rents_withHinges_35 : decode mm_Rents_withHinges.2.1 35 = .ok (.aload_n 0, 1) := by decide +kernel
theorem dd_Rents_withHinges_36 : decode mm_Rents_withHinges.2.1 36 = .ok (.getfield 27, 3) := by decide +kernel
theorem dd_Rents_withHinges_39 : decode mm_Rents_withHinges.2.1 39 = .ok (.ishl, 1) := by decide +kernel
theorem dd_Rents_withHinges_40 : decode mm_Rents_withHinges.2.1 40 = .ok (.iconst 1, 1) := by decide +kernel
theorem dd_Rents_withHinges_41 : decode mm_Rents_withHinges.2.1 41 = .ok (.aload_n 0, 1) := by decide +kernel
theorem dd_Rents_withHinges_42 : decode mm_Rents_withHinges.2.1 42 = .ok (.getfield 31, 3) := by decide +kernel
theorem dd_Rents_withHinges_45 : decode mm_Rents_withHinges.2.1 45 = .ok (.ishl, 1) := by decide +kernel
theorem dd_Rents_withHinges_46 : decode mm_Rents_withHinges.2.1 46 = .ok (.ior, 1) := by decide +kernel
theorem dd_Rents_withHinges_47 : decode mm_Rents_withHinges.2.1 47 = .ok (.iconst (-1), 1) := by decide +kernel
theorem dd_Rents_withHinges_48 : decode mm_Rents_withHinges.2.1 48 = .ok (.ixor, 1) := by decide +kernel
theorem dd_Rents_withHinges_49 : decode mm_Rents_withHinges.2.1 49 = .ok (.iand, 1) := by decide +kernel
theorem dd_Rents_withHinges_50 : decode mm_Rents_withHinges.2.1 50 = .ok (.istore 7, 2) := by decide +kernel
theorem dd_Rents_withHinges_52 : decode mm_Rents_withHinges.2.1 52 = .ok (.iload 7, 2) := by decide +kernel
theorem dd_Rents_withHinges_54 : decode mm_Rents_withHinges.2.1 54 = .ok (.iload 5, 2) := by decide +kernel
theorem dd_Rents_withHinges_56 : decode mm_Rents_withHinges.2.1 56 = .ok (.iload 4, 2) := by decide +kernel
theorem dd_Rents_withHinges_58 : decode mm_Rents_withHinges.2.1 58 = .ok (.iand, 1) := by decide +kernel
theorem dd_Rents_withHinges_59 : decode mm_Rents_withHinges.2.1 59 = .ok (.ifCond .eq (12), 3) := by decide +kernel
theorem dd_Rents_withHinges_71 : decode mm_Rents_withHinges.2.1 71 = .ok (.iconst 0, 1) := by decide +kernel
theorem dd_Rents_withHinges_72 : decode mm_Rents_withHinges.2.1 72 = .ok (.ior, 1) := by decide +kernel
theorem dd_Rents_withHinges_73 : decode mm_Rents_withHinges.2.1 73 = .ok (.istore 7, 2) := by decide +kernel
theorem dd_Rents_withHinges_75 : decode mm_Rents_withHinges.2.1 75 = .ok (.iload 7, 2) := by decide +kernel
theorem dd_Rents_withHinges_77 : decode mm_Rents_withHinges.2.1 77 = .ok (.iload 6, 2) := by decide +kernel
theorem dd_Rents_withHinges_79 : decode mm_Rents_withHinges.2.1 79 = .ok (.iload 4, 2) := by decide +kernel
theorem dd_Rents_withHinges_81 : decode mm_Rents_withHinges.2.1 81 = .ok (.iand, 1) := by decide +kernel
theorem dd_Rents_withHinges_82 : decode mm_Rents_withHinges.2.1 82 = .ok (.ifCond .eq (12), 3) := by decide +kernel
theorem dd_Rents_withHinges_94 : decode mm_Rents_withHinges.2.1 94 = .ok (.iconst 0, 1) := by decide +kernel
theorem dd_Rents_withHinges_95 : decode mm_Rents_withHinges.2.1 95 = .ok (.ior, 1) := by decide +kernel
theorem dd_Rents_withHinges_96 : decode mm_Rents_withHinges.2.1 96 = .ok (.istore 7, 2) := by decide +kernel
theorem dd_Rents_withHinges_98 : decode mm_Rents_withHinges.2.1 98 = .ok (.iload 7, 2) := by decide +kernel
theorem dd_Rents_withHinges_100 : decode mm_Rents_withHinges.2.1 100 = .ok (.ireturn, 1) := by decide +kernel
theorem dd_Rents_withHinges_85 : decode mm_Rents_withHinges.2.1 85 = .ok (.iconst 1, 1) := by decide +kernel
theorem dd_Rents_withHinges_86 : decode mm_Rents_withHinges.2.1 86 = .ok (.aload_n 0, 1) := by decide +kernel
theorem dd_Rents_withHinges_87 : decode mm_Rents_withHinges.2.1 87 = .ok (.getfield 31, 3) := by decide +kernel
theorem dd_Rents_withHinges_90 : decode mm_Rents_withHinges.2.1 90 = .ok (.ishl, 1) := by decide +kernel
theorem dd_Rents_withHinges_91 : decode mm_Rents_withHinges.2.1 91 = .ok (.goto 4, 3) := by decide +kernel
theorem dd_Rents_withHinges_62 : decode mm_Rents_withHinges.2.1 62 = .ok (.iconst 1, 1) := by decide +kernel
theorem dd_Rents_withHinges_63 : decode mm_Rents_withHinges.2.1 63 = .ok (.aload_n 0, 1) := by decide +kernel
theorem dd_Rents_withHinges_64 : decode mm_Rents_withHinges.2.1 64 = .ok (.getfield 27, 3) := by decide +kernel
theorem dd_Rents_withHinges_67 : decode mm_Rents_withHinges.2.1 67 = .ok (.ishl, 1) := by decide +kernel
theorem dd_Rents_withHinges_68 : decode mm_Rents_withHinges.2.1 68 = .ok (.goto 4, 3) := by decide +kernel
theorem dd_Rents_fillBest_0 : decode mm_Rents_fillBest.2.1 0 = .ok (.aload_n 0, 1) := by decide +kernel
theorem dd_Rents_fillBest_1 : decode mm_Rents_fillBest.2.1 1 = .ok (.getfield 9, 3) := by decide +kernel
theorem fd_8_9 : fld 8 9 = some (8, 2) := by decide +kernel
theorem rf_96_2 {h : LH} (hF : RF h) : rd h 96 2 = 97 := hF 96 2 97 (by decide +kernel) (by decide +kernel)
theorem dd_Rents_fillBest_4 : decode mm_Rents_fillBest.2.1 4 = .ok (.ldc 109, 2) := by decide +kernel
theorem dd_Rents_fillBest_6 : decode mm_Rents_fillBest.2.1 6 = .ok (.invokestatic 110, 3) := by decide +kernel
theorem cw_8_110 : cwOk 8 110 1 53 2 4 16 = true := by decide +kernel
theorem dd_Rents_fillBest_9 : decode mm_Rents_fillBest.2.1 9 = .ok (.aload_n 0, 1) := by decide +kernel
theorem dd_Rents_fillBest_10 : decode mm_Rents_fillBest.2.1 10 = .ok (.getfield 9, 3) := by decide +kernel
theorem dd_Rents_fillBest_13 : decode mm_Rents_fillBest.2.1 13 = .ok (.iload 4, 2) := by decide +kernel
theorem dd_Rents_fillBest_15 : decode mm_Rents_fillBest.2.1 15 = .ok (.iconst 0, 1) := by decide +kernel
theorem dd_Rents_fillBest_16 : decode mm_Rents_fillBest.2.1 16 = .ok (.iastore, 1) := by decide +kernel
theorem dd_Rents_fillBest_17 : decode mm_Rents_fillBest.2.1 17 = .ok (.iconst 1, 1) := by decide +kernel
theorem dd_Rents_fillBest_18 : decode mm_Rents_fillBest.2.1 18 = .ok (.istore 5, 2) := by decide +kernel
theorem dd_Rents_fillBest_20 : decode mm_Rents_fillBest.2.1 20 = .ok (.iconst 0, 1) := by decide +kernel
theorem dd_Rents_fillBest_21 : decode mm_Rents_fillBest.2.1 21 = .ok (.istore 6, 2) := by decide +kernel
theorem dd_Rents_fillBest_23 : decode mm_Rents_fillBest.2.1 23 = .ok (.iload 6, 2) := by decide +kernel
theorem dd_Rents_fillBest_25 : decode mm_Rents_fillBest.2.1 25 = .ok (.bipush 10, 2) := by decide +kernel
theorem dd_Rents_fillBest_27 : decode mm_Rents_fillBest.2.1 27 = .ok (.if_icmp .ge (172), 3) := by decide +kernel
theorem dd_Rents_fillBest_199 : decode mm_Rents_fillBest.2.1 199 = .ok (.return_, 1) := by decide +kernel
theorem dd_Rents_fillBest_30 : decode mm_Rents_fillBest.2.1 30 = .ok (.iload 5, 2) := by decide +kernel
theorem dd_Rents_fillBest_32 : decode mm_Rents_fillBest.2.1 32 = .ok (.ifCond .eq (167), 3) := by decide +kernel
theorem dd_Rents_fillBest_35 : decode mm_Rents_fillBest.2.1 35 = .ok (.iconst 0, 1) := by decide +kernel
theorem dd_Rents_fillBest_36 : decode mm_Rents_fillBest.2.1 36 = .ok (.istore 5, 2) := by decide +kernel
theorem dd_Rents_fillBest_38 : decode mm_Rents_fillBest.2.1 38 = .ok (.iconst 0, 1) := by decide +kernel
theorem dd_Rents_fillBest_39 : decode mm_Rents_fillBest.2.1 39 = .ok (.istore 7, 2) := by decide +kernel
theorem dd_Rents_fillBest_41 : decode mm_Rents_fillBest.2.1 41 = .ok (.iload 7, 2) := by decide +kernel
theorem dd_Rents_fillBest_43 : decode mm_Rents_fillBest.2.1 43 = .ok (.aload_n 1, 1) := by decide +kernel
theorem dd_Rents_fillBest_44 : decode mm_Rents_fillBest.2.1 44 = .ok (.getfield 38, 3) := by decide +kernel
theorem dd_Rents_fillBest_47 : decode mm_Rents_fillBest.2.1 47 = .ok (.if_icmp .ge (146), 3) := by decide +kernel
theorem dd_Rents_fillBest_193 : decode mm_Rents_fillBest.2.1 193 = .ok (.iinc 6 1, 3) := by decide +kernel
theorem dd_Rents_fillBest_196 : decode mm_Rents_fillBest.2.1 196 = .ok (.goto (-173), 3) := by decide +kernel
theorem dd_Rents_fillBest_50 : decode mm_Rents_fillBest.2.1 50 = .ok (.aload_n 1, 1) := by decide +kernel
theorem dd_Rents_fillBest_51 : decode mm_Rents_fillBest.2.1 51 = .ok (.getfield 43, 3) := by decide +kernel
theorem dd_Rents_fillBest_54 : decode mm_Rents_fillBest.2.1 54 = .ok (.iload 7, 2) := by decide +kernel
theorem dd_Rents_fillBest_56 : decode mm_Rents_fillBest.2.1 56 = .ok (.aaload, 1) := by decide +kernel
theorem dd_Rents_fillBest_57 : decode mm_Rents_fillBest.2.1 57 = .ok (.astore 8, 2) := by decide +kernel
theorem dd_Rents_fillBest_59 : decode mm_Rents_fillBest.2.1 59 = .ok (.iload_n 2, 1) := by decide +kernel
theorem dd_Rents_fillBest_60 : decode mm_Rents_fillBest.2.1 60 = .ok (.iload 7, 2) := by decide +kernel
theorem dd_Rents_fillBest_62 : decode mm_Rents_fillBest.2.1 62 = .ok (.ishr, 1) := by decide +kernel
theorem dd_Rents_fillBest_63 : decode mm_Rents_fillBest.2.1 63 = .ok (.iconst 1, 1) := by decide +kernel
theorem dd_Rents_fillBest_64 : decode mm_Rents_fillBest.2.1 64 = .ok (.iand, 1) := by decide +kernel
theorem dd_Rents_fillBest_65 : decode mm_Rents_fillBest.2.1 65 = .ok (.ifCond .eq (24), 3) := by decide +kernel
theorem dd_Rents_fillBest_89 : decode mm_Rents_fillBest.2.1 89 = .ok (.ldc 109, 2) := by decide +kernel
theorem dd_Rents_fillBest_91 : decode mm_Rents_fillBest.2.1 91 = .ok (.istore 9, 2) := by decide +kernel
theorem dd_Rents_fillBest_93 : decode mm_Rents_fillBest.2.1 93 = .ok (.iload_n 3, 1) := by decide +kernel
theorem dd_Rents_fillBest_94 : decode mm_Rents_fillBest.2.1 94 = .ok (.iload 7, 2) := by decide +kernel
theorem dd_Rents_fillBest_96 : decode mm_Rents_fillBest.2.1 96 = .ok (.ishr, 1) := by decide +kernel
theorem dd_Rents_fillBest_97 : decode mm_Rents_fillBest.2.1 97 = .ok (.iconst 1, 1) := by decide +kernel
theorem dd_Rents_fillBest_98 : decode mm_Rents_fillBest.2.1 98 = .ok (.iand, 1) := by decide +kernel
theorem dd_Rents_fillBest_99 : decode mm_Rents_fillBest.2.1 99 = .ok (.ifCond .eq (24), 3) := by decide +kernel
theorem dd_Rents_fillBest_123 : decode mm_Rents_fillBest.2.1 123 = .ok (.ldc 109, 2) := by decide +kernel
theorem dd_Rents_fillBest_125 : decode mm_Rents_fillBest.2.1 125 = .ok (.istore 10, 2) := by decide +kernel
theorem dd_Rents_fillBest_102 : decode mm_Rents_fillBest.2.1 102 = .ok (.aload_n 0, 1) := by decide +kernel
theorem dd_Rents_fillBest_103 : decode mm_Rents_fillBest.2.1 103 = .ok (.getfield 9, 3) := by decide +kernel
theorem dd_Rents_fillBest_106 : decode mm_Rents_fillBest.2.1 106 = .ok (.aload 8, 2) := by decide +kernel
theorem dd_Rents_fillBest_108 : decode mm_Rents_fillBest.2.1 108 = .ok (.getfield 119, 3) := by decide +kernel
theorem fd_8_119 : fld 8 119 = some (1, 2) := by decide +kernel
theorem dd_Rents_fillBest_111 : decode mm_Rents_fillBest.2.1 111 = .ok (.iaload, 1) := by decide +kernel
theorem dd_Rents_fillBest_112 : decode mm_Rents_fillBest.2.1 112 = .ok (.aload_n 0, 1) := by decide +kernel
theorem dd_Rents_fillBest_113 : decode mm_Rents_fillBest.2.1 113 = .ok (.getfield 15, 3) := by decide +kernel
theorem dd_Rents_fillBest_116 : decode mm_Rents_fillBest.2.1 116 = .ok (.iload 7, 2) := by decide +kernel
theorem dd_Rents_fillBest_118 : decode mm_Rents_fillBest.2.1 118 = .ok (.iaload, 1) := by decide +kernel
theorem dd_Rents_fillBest_119 : decode mm_Rents_fillBest.2.1 119 = .ok (.iadd, 1) := by decide +kernel
theorem dd_Rents_fillBest_120 : decode mm_Rents_fillBest.2.1 120 = .ok (.goto 5, 3) := by decide +kernel
theorem dd_Rents_fillBest_68 : decode mm_Rents_fillBest.2.1 68 = .ok (.aload_n 0, 1) := by decide +kernel
theorem dd_Rents_fillBest_69 : decode mm_Rents_fillBest.2.1 69 = .ok (.getfield 9, 3) := by decide +kernel
theorem dd_Rents_fillBest_72 : decode mm_Rents_fillBest.2.1 72 = .ok (.aload 8, 2) := by decide +kernel
theorem dd_Rents_fillBest_74 : decode mm_Rents_fillBest.2.1 74 = .ok (.getfield 116, 3) := by decide +kernel
theorem fd_8_116 : fld 8 116 = some (1, 3) := by decide +kernel
theorem dd_Rents_fillBest_77 : decode mm_Rents_fillBest.2.1 77 = .ok (.iaload, 1) := by decide +kernel
theorem dd_Rents_fillBest_78 : decode mm_Rents_fillBest.2.1 78 = .ok (.aload_n 0, 1) := by decide +kernel
theorem dd_Rents_fillBest_79 : decode mm_Rents_fillBest.2.1 79 = .ok (.getfield 15, 3) := by decide +kernel
theorem dd_Rents_fillBest_82 : decode mm_Rents_fillBest.2.1 82 = .ok (.iload 7, 2) := by decide +kernel
theorem dd_Rents_fillBest_84 : decode mm_Rents_fillBest.2.1 84 = .ok (.iaload, 1) := by decide +kernel
theorem dd_Rents_fillBest_85 : decode mm_Rents_fillBest.2.1 85 = .ok (.iadd, 1) := by decide +kernel
theorem dd_Rents_fillBest_86 : decode mm_Rents_fillBest.2.1 86 = .ok (.goto 5, 3) := by decide +kernel
theorem dd_Rents_fillBest_127 : decode mm_Rents_fillBest.2.1 127 = .ok (.iload 9, 2) := by decide +kernel
theorem dd_Rents_fillBest_129 : decode mm_Rents_fillBest.2.1 129 = .ok (.aload_n 0, 1) := by decide +kernel
theorem dd_Rents_fillBest_130 : decode mm_Rents_fillBest.2.1 130 = .ok (.getfield 9, 3) := by decide +kernel
theorem dd_Rents_fillBest_133 : decode mm_Rents_fillBest.2.1 133 = .ok (.aload 8, 2) := by decide +kernel
theorem dd_Rents_fillBest_135 : decode mm_Rents_fillBest.2.1 135 = .ok (.getfield 119, 3) := by decide +kernel
theorem dd_Rents_fillBest_138 : decode mm_Rents_fillBest.2.1 138 = .ok (.iaload, 1) := by decide +kernel
theorem dd_Rents_fillBest_139 : decode mm_Rents_fillBest.2.1 139 = .ok (.if_icmp .ge (18), 3) := by decide +kernel
theorem dd_Rents_fillBest_157 : decode mm_Rents_fillBest.2.1 157 = .ok (.iload 10, 2) := by decide +kernel
theorem dd_Rents_fillBest_159 : decode mm_Rents_fillBest.2.1 159 = .ok (.aload_n 0, 1) := by decide +kernel
theorem dd_Rents_fillBest_160 : decode mm_Rents_fillBest.2.1 160 = .ok (.getfield 9, 3) := by decide +kernel
theorem dd_Rents_fillBest_163 : decode mm_Rents_fillBest.2.1 163 = .ok (.aload 8, 2) := by decide +kernel
theorem dd_Rents_fillBest_165 : decode mm_Rents_fillBest.2.1 165 = .ok (.getfield 116, 3) := by decide +kernel
theorem dd_Rents_fillBest_168 : decode mm_Rents_fillBest.2.1 168 = .ok (.iaload, 1) := by decide +kernel
theorem dd_Rents_fillBest_169 : decode mm_Rents_fillBest.2.1 169 = .ok (.if_icmp .ge (18), 3) := by decide +kernel
theorem dd_Rents_fillBest_187 : decode mm_Rents_fillBest.2.1 187 = .ok (.iinc 7 1, 3) := by decide +kernel
theorem dd_Rents_fillBest_190 : decode mm_Rents_fillBest.2.1 190 = .ok (.goto (-149), 3) := by decide +kernel
theorem dd_Rents_fillBest_172 : decode mm_Rents_fillBest.2.1 172 = .ok (.aload_n 0, 1) := by decide +kernel
theorem dd_Rents_fillBest_173 : decode mm_Rents_fillBest.2.1 173 = .ok (.getfield 9, 3) := by decide +kernel
theorem dd_Rents_fillBest_176 : decode mm_Rents_fillBest.2.1 176 = .ok (.aload 8, 2) := by decide +kernel
theorem dd_Rents_fillBest_178 : decode mm_Rents_fillBest.2.1 178 = .ok (.getfield 116, 3) := by decide +kernel
theorem dd_Rents_fillBest_181 : decode mm_Rents_fillBest.2.1 181 = .ok (.iload 10, 2) := by decide +kernel
theorem dd_Rents_fillBest_183 : decode mm_Rents_fillBest.2.1 183 = .ok (.iastore, 1) := by decide +kernel
theorem dd_Rents_fillBest_184 : decode mm_Rents_fillBest.2.1 184 = .ok (.iconst 1, 1) := by decide +kernel
theorem dd_Rents_fillBest_185 : decode mm_Rents_fillBest.2.1 185 = .ok (.istore 5, 2) := by decide +kernel
theorem dd_Rents_fillBest_142 : decode mm_Rents_fillBest.2.1 142 = .ok (.aload_n 0, 1) := by decide +kernel
theorem dd_Rents_fillBest_143 : decode mm_Rents_fillBest.2.1 143 = .ok (.getfield 9, 3) := by decide +kernel
theorem dd_Rents_fillBest_146 : decode mm_Rents_fillBest.2.1 146 = .ok (.aload 8, 2) := by decide +kernel
theorem dd_Rents_fillBest_148 : decode mm_Rents_fillBest.2.1 148 = .ok (.getfield 119, 3) := by decide +kernel
theorem dd_Rents_fillBest_151 : decode mm_Rents_fillBest.2.1 151 = .ok (.iload 9, 2) := by decide +kernel
theorem dd_Rents_fillBest_153 : decode mm_Rents_fillBest.2.1 153 = .ok (.iastore, 1) := by decide +kernel
theorem dd_Rents_fillBest_154 : decode mm_Rents_fillBest.2.1 154 = .ok (.iconst 1, 1) := by decide +kernel
theorem dd_Rents_fillBest_155 : decode mm_Rents_fillBest.2.1 155 = .ok (.istore 5, 2) := by decide +kernel
theorem dd_Rents_cheapest_0 : decode mm_Rents_cheapest.2.1 0 = .ok (.iload 4, 2) := by decide +kernel
theorem dd_Rents_cheapest_2 : decode mm_Rents_cheapest.2.1 2 = .ok (.istore 6, 2) := by decide +kernel
theorem dd_Rents_cheapest_4 : decode mm_Rents_cheapest.2.1 4 = .ok (.iconst 0, 1) := by decide +kernel
theorem dd_Rents_cheapest_5 : decode mm_Rents_cheapest.2.1 5 = .ok (.istore 7, 2) := by decide +kernel
theorem dd_Rents_cheapest_7 : decode mm_Rents_cheapest.2.1 7 = .ok (.iconst 0, 1) := by decide +kernel
theorem dd_Rents_cheapest_8 : decode mm_Rents_cheapest.2.1 8 = .ok (.istore 8, 2) := by decide +kernel
theorem dd_Rents_cheapest_10 : decode mm_Rents_cheapest.2.1 10 = .ok (.iload 8, 2) := by decide +kernel
theorem dd_Rents_cheapest_12 : decode mm_Rents_cheapest.2.1 12 = .ok (.bipush 10, 2) := by decide +kernel
theorem dd_Rents_cheapest_14 : decode mm_Rents_cheapest.2.1 14 = .ok (.if_icmp .ge (178), 3) := by decide +kernel
theorem dd_Rents_cheapest_192 : decode mm_Rents_cheapest.2.1 192 = .ok (.iload 7, 2) := by decide +kernel
theorem dd_Rents_cheapest_194 : decode mm_Rents_cheapest.2.1 194 = .ok (.ireturn, 1) := by decide +kernel
theorem dd_Rents_cheapest_17 : decode mm_Rents_cheapest.2.1 17 = .ok (.iload 6, 2) := by decide +kernel
theorem dd_Rents_cheapest_19 : decode mm_Rents_cheapest.2.1 19 = .ok (.iload 5, 2) := by decide +kernel
theorem dd_Rents_cheapest_21 : decode mm_Rents_cheapest.2.1 21 = .ok (.if_icmp .eq (171), 3) := by decide +kernel
theorem dd_Rents_cheapest_24 : decode mm_Rents_cheapest.2.1 24 = .ok (.aload_n 0, 1) := by decide +kernel
theorem dd_Rents_cheapest_25 : decode mm_Rents_cheapest.2.1 25 = .ok (.getfield 9, 3) := by decide +kernel
theorem dd_Rents_cheapest_28 : decode mm_Rents_cheapest.2.1 28 = .ok (.iload 6, 2) := by decide +kernel
theorem dd_Rents_cheapest_30 : decode mm_Rents_cheapest.2.1 30 = .ok (.iaload, 1) := by decide +kernel
theorem dd_Rents_cheapest_31 : decode mm_Rents_cheapest.2.1 31 = .ok (.ldc 109, 2) := by decide +kernel
theorem dd_Rents_cheapest_33 : decode mm_Rents_cheapest.2.1 33 = .ok (.if_icmp .ge (159), 3) := by decide +kernel
theorem dd_Rents_cheapest_36 : decode mm_Rents_cheapest.2.1 36 = .ok (.iconst 0, 1) := by decide +kernel
theorem dd_Rents_cheapest_37 : decode mm_Rents_cheapest.2.1 37 = .ok (.istore 9, 2) := by decide +kernel
theorem dd_Rents_cheapest_39 : decode mm_Rents_cheapest.2.1 39 = .ok (.iload 9, 2) := by decide +kernel
theorem dd_Rents_cheapest_41 : decode mm_Rents_cheapest.2.1 41 = .ok (.aload_n 1, 1) := by decide +kernel
theorem dd_Rents_cheapest_42 : decode mm_Rents_cheapest.2.1 42 = .ok (.getfield 38, 3) := by decide +kernel
theorem dd_Rents_cheapest_45 : decode mm_Rents_cheapest.2.1 45 = .ok (.if_icmp .ge (141), 3) := by decide +kernel
theorem dd_Rents_cheapest_48 : decode mm_Rents_cheapest.2.1 48 = .ok (.aload_n 1, 1) := by decide +kernel
theorem dd_Rents_cheapest_49 : decode mm_Rents_cheapest.2.1 49 = .ok (.getfield 43, 3) := by decide +kernel
theorem dd_Rents_cheapest_52 : decode mm_Rents_cheapest.2.1 52 = .ok (.iload 9, 2) := by decide +kernel
theorem dd_Rents_cheapest_54 : decode mm_Rents_cheapest.2.1 54 = .ok (.aaload, 1) := by decide +kernel
theorem dd_Rents_cheapest_55 : decode mm_Rents_cheapest.2.1 55 = .ok (.astore 10, 2) := by decide +kernel
theorem dd_Rents_cheapest_57 : decode mm_Rents_cheapest.2.1 57 = .ok (.aload 10, 2) := by decide +kernel
theorem dd_Rents_cheapest_59 : decode mm_Rents_cheapest.2.1 59 = .ok (.getfield 119, 3) := by decide +kernel
theorem dd_Rents_cheapest_62 : decode mm_Rents_cheapest.2.1 62 = .ok (.iload 6, 2) := by decide +kernel
theorem dd_Rents_cheapest_64 : decode mm_Rents_cheapest.2.1 64 = .ok (.if_icmp .ne (16), 3) := by decide +kernel
theorem dd_Rents_cheapest_80 : decode mm_Rents_cheapest.2.1 80 = .ok (.iconst 0, 1) := by decide +kernel
theorem dd_Rents_cheapest_81 : decode mm_Rents_cheapest.2.1 81 = .ok (.istore 11, 2) := by decide +kernel
theorem dd_Rents_cheapest_83 : decode mm_Rents_cheapest.2.1 83 = .ok (.aload 10, 2) := by decide +kernel
theorem dd_Rents_cheapest_85 : decode mm_Rents_cheapest.2.1 85 = .ok (.getfield 116, 3) := by decide +kernel
theorem dd_Rents_cheapest_88 : decode mm_Rents_cheapest.2.1 88 = .ok (.iload 6, 2) := by decide +kernel
theorem dd_Rents_cheapest_90 : decode mm_Rents_cheapest.2.1 90 = .ok (.if_icmp .ne (16), 3) := by decide +kernel
theorem dd_Rents_cheapest_106 : decode mm_Rents_cheapest.2.1 106 = .ok (.iconst 0, 1) := by decide +kernel
theorem dd_Rents_cheapest_107 : decode mm_Rents_cheapest.2.1 107 = .ok (.istore 12, 2) := by decide +kernel
theorem dd_Rents_cheapest_93 : decode mm_Rents_cheapest.2.1 93 = .ok (.iload_n 3, 1) := by decide +kernel
theorem dd_Rents_cheapest_94 : decode mm_Rents_cheapest.2.1 94 = .ok (.iload 9, 2) := by decide +kernel
theorem dd_Rents_cheapest_96 : decode mm_Rents_cheapest.2.1 96 = .ok (.ishr, 1) := by decide +kernel
theorem dd_Rents_cheapest_97 : decode mm_Rents_cheapest.2.1 97 = .ok (.iconst 1, 1) := by decide +kernel
theorem dd_Rents_cheapest_98 : decode mm_Rents_cheapest.2.1 98 = .ok (.iand, 1) := by decide +kernel
theorem dd_Rents_cheapest_99 : decode mm_Rents_cheapest.2.1 99 = .ok (.ifCond .eq (7), 3) := by decide +kernel
theorem dd_Rents_cheapest_102 : decode mm_Rents_cheapest.2.1 102 = .ok (.iconst 1, 1) := by decide +kernel
theorem dd_Rents_cheapest_103 : decode mm_Rents_cheapest.2.1 103 = .ok (.goto 4, 3) := by decide +kernel
theorem dd_Rents_cheapest_67 : decode mm_Rents_cheapest.2.1 67 = .ok (.iload_n 2, 1) := by decide +kernel
theorem dd_Rents_cheapest_68 : decode mm_Rents_cheapest.2.1 68 = .ok (.iload 9, 2) := by decide +kernel
theorem dd_Rents_cheapest_70 : decode mm_Rents_cheapest.2.1 70 = .ok (.ishr, 1) := by decide +kernel
theorem dd_Rents_cheapest_71 : decode mm_Rents_cheapest.2.1 71 = .ok (.iconst 1, 1) := by decide +kernel
theorem dd_Rents_cheapest_72 : decode mm_Rents_cheapest.2.1 72 = .ok (.iand, 1) := by decide +kernel
theorem dd_Rents_cheapest_73 : decode mm_Rents_cheapest.2.1 73 = .ok (.ifCond .eq (7), 3) := by decide +kernel
theorem dd_Rents_cheapest_76 : decode mm_Rents_cheapest.2.1 76 = .ok (.iconst 1, 1) := by decide +kernel
theorem dd_Rents_cheapest_77 : decode mm_Rents_cheapest.2.1 77 = .ok (.goto 4, 3) := by decide +kernel
theorem dd_Rents_cheapest_109 : decode mm_Rents_cheapest.2.1 109 = .ok (.iload 11, 2) := by decide +kernel
theorem dd_Rents_cheapest_111 : decode mm_Rents_cheapest.2.1 111 = .ok (.ifCond .eq (11), 3) := by decide +kernel
theorem dd_Rents_cheapest_122 : decode mm_Rents_cheapest.2.1 122 = .ok (.aload 10, 2) := by decide +kernel
theorem dd_Rents_cheapest_124 : decode mm_Rents_cheapest.2.1 124 = .ok (.getfield 119, 3) := by decide +kernel
theorem dd_Rents_cheapest_127 : decode mm_Rents_cheapest.2.1 127 = .ok (.istore 13, 2) := by decide +kernel
theorem dd_Rents_cheapest_114 : decode mm_Rents_cheapest.2.1 114 = .ok (.aload 10, 2) := by decide +kernel
theorem dd_Rents_cheapest_116 : decode mm_Rents_cheapest.2.1 116 = .ok (.getfield 116, 3) := by decide +kernel
theorem dd_Rents_cheapest_119 : decode mm_Rents_cheapest.2.1 119 = .ok (.goto 8, 3) := by decide +kernel
theorem dd_Rents_cheapest_129 : decode mm_Rents_cheapest.2.1 129 = .ok (.iload 11, 2) := by decide +kernel
theorem dd_Rents_cheapest_131 : decode mm_Rents_cheapest.2.1 131 = .ok (.ifCond .ne (8), 3) := by decide +kernel
theorem dd_Rents_cheapest_139 : decode mm_Rents_cheapest.2.1 139 = .ok (.aload_n 0, 1) := by decide +kernel
theorem dd_Rents_cheapest_140 : decode mm_Rents_cheapest.2.1 140 = .ok (.getfield 9, 3) := by decide +kernel
theorem dd_Rents_cheapest_143 : decode mm_Rents_cheapest.2.1 143 = .ok (.iload 13, 2) := by decide +kernel
theorem dd_Rents_cheapest_145 : decode mm_Rents_cheapest.2.1 145 = .ok (.iaload, 1) := by decide +kernel
theorem dd_Rents_cheapest_146 : decode mm_Rents_cheapest.2.1 146 = .ok (.aload_n 0, 1) := by decide +kernel
theorem dd_Rents_cheapest_147 : decode mm_Rents_cheapest.2.1 147 = .ok (.getfield 15, 3) := by decide +kernel
theorem dd_Rents_cheapest_150 : decode mm_Rents_cheapest.2.1 150 = .ok (.iload 9, 2) := by decide +kernel
theorem dd_Rents_cheapest_152 : decode mm_Rents_cheapest.2.1 152 = .ok (.iaload, 1) := by decide +kernel
theorem dd_Rents_cheapest_153 : decode mm_Rents_cheapest.2.1 153 = .ok (.iadd, 1) := by decide +kernel
theorem dd_Rents_cheapest_154 : decode mm_Rents_cheapest.2.1 154 = .ok (.aload_n 0, 1) := by decide +kernel
theorem dd_Rents_cheapest_155 : decode mm_Rents_cheapest.2.1 155 = .ok (.getfield 9, 3) := by decide +kernel
theorem dd_Rents_cheapest_158 : decode mm_Rents_cheapest.2.1 158 = .ok (.iload 6, 2) := by decide +kernel
theorem dd_Rents_cheapest_160 : decode mm_Rents_cheapest.2.1 160 = .ok (.iaload, 1) := by decide +kernel
theorem dd_Rents_cheapest_161 : decode mm_Rents_cheapest.2.1 161 = .ok (.if_icmp .ne (19), 3) := by decide +kernel
theorem dd_Rents_cheapest_180 : decode mm_Rents_cheapest.2.1 180 = .ok (.iinc 9 1, 3) := by decide +kernel
theorem dd_Rents_cheapest_183 : decode mm_Rents_cheapest.2.1 183 = .ok (.goto (-144), 3) := by decide +kernel
theorem dd_Rents_cheapest_164 : decode mm_Rents_cheapest.2.1 164 = .ok (.iload 7, 2) := by decide +kernel
theorem dd_Rents_cheapest_166 : decode mm_Rents_cheapest.2.1 166 = .ok (.iconst 1, 1) := by decide +kernel
theorem dd_Rents_cheapest_167 : decode mm_Rents_cheapest.2.1 167 = .ok (.iload 9, 2) := by decide +kernel
theorem dd_Rents_cheapest_169 : decode mm_Rents_cheapest.2.1 169 = .ok (.ishl, 1) := by decide +kernel
theorem dd_Rents_cheapest_170 : decode mm_Rents_cheapest.2.1 170 = .ok (.ior, 1) := by decide +kernel
theorem dd_Rents_cheapest_171 : decode mm_Rents_cheapest.2.1 171 = .ok (.istore 7, 2) := by decide +kernel
theorem dd_Rents_cheapest_173 : decode mm_Rents_cheapest.2.1 173 = .ok (.iload 13, 2) := by decide +kernel
theorem dd_Rents_cheapest_175 : decode mm_Rents_cheapest.2.1 175 = .ok (.istore 6, 2) := by decide +kernel
theorem dd_Rents_cheapest_177 : decode mm_Rents_cheapest.2.1 177 = .ok (.goto 9, 3) := by decide +kernel
theorem dd_Rents_cheapest_134 : decode mm_Rents_cheapest.2.1 134 = .ok (.iload 12, 2) := by decide +kernel
theorem dd_Rents_cheapest_136 : decode mm_Rents_cheapest.2.1 136 = .ok (.ifCond .eq (44), 3) := by decide +kernel
theorem dd_Rents_cheapest_186 : decode mm_Rents_cheapest.2.1 186 = .ok (.iinc 8 1, 3) := by decide +kernel
theorem dd_Rents_cheapest_189 : decode mm_Rents_cheapest.2.1 189 = .ok (.goto (-179), 3) := by decide +kernel
theorem dd_Rents_isRest_0 : decode mm_Rents_isRest.2.1 0 = .ok (.iconst 0, 1) := by decide +kernel
theorem dd_Rents_isRest_1 : decode mm_Rents_isRest.2.1 1 = .ok (.istore_n 2, 1) := by decide +kernel
theorem dd_Rents_isRest_2 : decode mm_Rents_isRest.2.1 2 = .ok (.iload_n 2, 1) := by decide +kernel
theorem dd_Rents_isRest_3 : decode mm_Rents_isRest.2.1 3 = .ok (.bipush 10, 2) := by decide +kernel
theorem dd_Rents_isRest_5 : decode mm_Rents_isRest.2.1 5 = .ok (.if_icmp .ge (59), 3) := by decide +kernel
theorem dd_Rents_isRest_64 : decode mm_Rents_isRest.2.1 64 = .ok (.iconst 1, 1) := by decide +kernel
theorem dd_Rents_isRest_65 : decode mm_Rents_isRest.2.1 65 = .ok (.ireturn, 1) := by decide +kernel
theorem dd_Rents_isRest_8 : decode mm_Rents_isRest.2.1 8 = .ok (.aload_n 0, 1) := by decide +kernel
theorem dd_Rents_isRest_9 : decode mm_Rents_isRest.2.1 9 = .ok (.getfield 21, 3) := by decide +kernel
theorem dd_Rents_isRest_12 : decode mm_Rents_isRest.2.1 12 = .ok (.iload_n 2, 1) := by decide +kernel
theorem dd_Rents_isRest_13 : decode mm_Rents_isRest.2.1 13 = .ok (.bipush 10, 2) := by decide +kernel
theorem dd_Rents_isRest_15 : decode mm_Rents_isRest.2.1 15 = .ok (.imul, 1) := by decide +kernel
theorem dd_Rents_isRest_16 : decode mm_Rents_isRest.2.1 16 = .ok (.iload_n 1, 1) := by decide +kernel
theorem dd_Rents_isRest_17 : decode mm_Rents_isRest.2.1 17 = .ok (.bipush 10, 2) := by decide +kernel
theorem dd_Rents_isRest_19 : decode mm_Rents_isRest.2.1 19 = .ok (.irem, 1) := by decide +kernel
theorem dd_Rents_isRest_20 : decode mm_Rents_isRest.2.1 20 = .ok (.iadd, 1) := by decide +kernel
theorem dd_Rents_isRest_21 : decode mm_Rents_isRest.2.1 21 = .ok (.iaload, 1) := by decide +kernel
theorem dd_Rents_isRest_22 : decode mm_Rents_isRest.2.1 22 = .ok (.aload_n 0, 1) := by decide +kernel
theorem dd_Rents_isRest_23 : decode mm_Rents_isRest.2.1 23 = .ok (.getfield 21, 3) := by decide +kernel
theorem dd_Rents_isRest_26 : decode mm_Rents_isRest.2.1 26 = .ok (.iload_n 1, 1) := by decide +kernel
theorem dd_Rents_isRest_27 : decode mm_Rents_isRest.2.1 27 = .ok (.iaload, 1) := by decide +kernel
theorem dd_Rents_isRest_28 : decode mm_Rents_isRest.2.1 28 = .ok (.if_icmp .le (5), 3) := by decide +kernel
theorem dd_Rents_isRest_33 : decode mm_Rents_isRest.2.1 33 = .ok (.aload_n 0, 1) := by decide +kernel
theorem dd_Rents_isRest_34 : decode mm_Rents_isRest.2.1 34 = .ok (.getfield 24, 3) := by decide +kernel
theorem dd_Rents_isRest_37 : decode mm_Rents_isRest.2.1 37 = .ok (.iload_n 1, 1) := by decide +kernel
theorem dd_Rents_isRest_38 : decode mm_Rents_isRest.2.1 38 = .ok (.bipush 10, 2) := by decide +kernel
theorem dd_Rents_isRest_40 : decode mm_Rents_isRest.2.1 40 = .ok (.idiv, 1) := by decide +kernel
theorem dd_Rents_isRest_41 : decode mm_Rents_isRest.2.1 41 = .ok (.bipush 10, 2) := by decide +kernel
theorem dd_Rents_isRest_43 : decode mm_Rents_isRest.2.1 43 = .ok (.imul, 1) := by decide +kernel
theorem dd_Rents_isRest_44 : decode mm_Rents_isRest.2.1 44 = .ok (.iload_n 2, 1) := by decide +kernel
theorem dd_Rents_isRest_45 : decode mm_Rents_isRest.2.1 45 = .ok (.iadd, 1) := by decide +kernel
theorem dd_Rents_isRest_46 : decode mm_Rents_isRest.2.1 46 = .ok (.iaload, 1) := by decide +kernel
theorem dd_Rents_isRest_47 : decode mm_Rents_isRest.2.1 47 = .ok (.aload_n 0, 1) := by decide +kernel
theorem dd_Rents_isRest_48 : decode mm_Rents_isRest.2.1 48 = .ok (.getfield 24, 3) := by decide +kernel
theorem dd_Rents_isRest_51 : decode mm_Rents_isRest.2.1 51 = .ok (.iload_n 1, 1) := by decide +kernel
theorem dd_Rents_isRest_52 : decode mm_Rents_isRest.2.1 52 = .ok (.iaload, 1) := by decide +kernel
theorem dd_Rents_isRest_53 : decode mm_Rents_isRest.2.1 53 = .ok (.if_icmp .le (5), 3) := by decide +kernel
theorem dd_Rents_isRest_58 : decode mm_Rents_isRest.2.1 58 = .ok (.iinc 2 1, 3) := by decide +kernel
theorem dd_Rents_isRest_61 : decode mm_Rents_isRest.2.1 61 = .ok (.goto (-59), 3) := by decide +kernel
theorem dd_Rents_isRest_56 : decode mm_Rents_isRest.2.1 56 = .ok (.iconst 0, 1) := by decide +kernel
theorem dd_Rents_isRest_57 : decode mm_Rents_isRest.2.1 57 = .ok (.ireturn, 1) := by decide +kernel
theorem dd_Rents_isRest_31 : decode mm_Rents_isRest.2.1 31 = .ok (.iconst 0, 1) := by decide +kernel
theorem dd_Rents_isRest_32 : decode mm_Rents_isRest.2.1 32 = .ok (.ireturn, 1) := by decide +kernel
theorem dd_Rents_restCount_0 : decode mm_Rents_restCount.2.1 0 = .ok (.iconst 0, 1) := by decide +kernel
theorem dd_Rents_restCount_1 : decode mm_Rents_restCount.2.1 1 = .ok (.istore_n 1, 1) := by decide +kernel
theorem dd_Rents_restCount_2 : decode mm_Rents_restCount.2.1 2 = .ok (.iconst 0, 1) := by decide +kernel
theorem dd_Rents_restCount_3 : decode mm_Rents_restCount.2.1 3 = .ok (.istore_n 2, 1) := by decide +kernel
theorem dd_Rents_restCount_4 : decode mm_Rents_restCount.2.1 4 = .ok (.iload_n 2, 1) := by decide +kernel
theorem dd_Rents_restCount_5 : decode mm_Rents_restCount.2.1 5 = .ok (.bipush 100, 2) := by decide +kernel
theorem dd_Rents_restCount_7 : decode mm_Rents_restCount.2.1 7 = .ok (.if_icmp .ge (25), 3) := by decide +kernel
theorem dd_Rents_restCount_32 : decode mm_Rents_restCount.2.1 32 = .ok (.iload_n 1, 1) := by decide +kernel
theorem dd_Rents_restCount_33 : decode mm_Rents_restCount.2.1 33 = .ok (.ireturn, 1) := by decide +kernel
theorem dd_Rents_restCount_10 : decode mm_Rents_restCount.2.1 10 = .ok (.iload_n 1, 1) := by decide +kernel
theorem dd_Rents_restCount_11 : decode mm_Rents_restCount.2.1 11 = .ok (.aload_n 0, 1) := by decide +kernel
theorem dd_Rents_restCount_12 : decode mm_Rents_restCount.2.1 12 = .ok (.iload_n 2, 1) := by decide +kernel
theorem dd_Rents_restCount_13 : decode mm_Rents_restCount.2.1 13 = .ok (.invokevirtual 122, 3) := by decide +kernel
theorem cw_8_122 : cwOk 8 122 0 137 2 3 8 = true := by decide +kernel
theorem mt_Rents_isRest : MTB 137 = some mm_Rents_isRest := rfl
theorem dd_Rents_restCount_16 : decode mm_Rents_restCount.2.1 16 = .ok (.ifCond .eq (7), 3) := by decide +kernel
theorem dd_Rents_restCount_23 : decode mm_Rents_restCount.2.1 23 = .ok (.iconst 0, 1) := by decide +kernel
theorem dd_Rents_restCount_24 : decode mm_Rents_restCount.2.1 24 = .ok (.iadd, 1) := by decide +kernel
theorem dd_Rents_restCount_25 : decode mm_Rents_restCount.2.1 25 = .ok (.istore_n 1, 1) := by decide +kernel
theorem dd_Rents_restCount_26 : decode mm_Rents_restCount.2.1 26 = .ok (.iinc 2 1, 3) := by decide +kernel
theorem dd_Rents_restCount_29 : decode mm_Rents_restCount.2.1 29 = .ok (.goto (-25), 3) := by decide +kernel
theorem dd_Rents_restCount_19 : decode mm_Rents_restCount.2.1 19 = .ok (.iconst 1, 1) := by decide +kernel
theorem dd_Rents_restCount_20 : decode mm_Rents_restCount.2.1 20 = .ok (.goto 4, 3) := by decide +kernel
theorem dd_Rents_restAt_0 : decode mm_Rents_restAt.2.1 0 = .ok (.iload_n 1, 1) := by decide +kernel
theorem dd_Rents_restAt_1 : decode mm_Rents_restAt.2.1 1 = .ok (.istore_n 2, 1) := by decide +kernel
theorem dd_Rents_restAt_2 : decode mm_Rents_restAt.2.1 2 = .ok (.iconst 0, 1) := by decide +kernel
theorem dd_Rents_restAt_3 : decode mm_Rents_restAt.2.1 3 = .ok (.istore_n 3, 1) := by decide +kernel
theorem dd_Rents_restAt_4 : decode mm_Rents_restAt.2.1 4 = .ok (.iload_n 3, 1) := by decide +kernel
theorem dd_Rents_restAt_5 : decode mm_Rents_restAt.2.1 5 = .ok (.bipush 100, 2) := by decide +kernel
theorem dd_Rents_restAt_7 : decode mm_Rents_restAt.2.1 7 = .ok (.if_icmp .ge (26), 3) := by decide +kernel
theorem dd_Rents_restAt_33 : decode mm_Rents_restAt.2.1 33 = .ok (.iconst (-1), 1) := by decide +kernel
theorem dd_Rents_restAt_34 : decode mm_Rents_restAt.2.1 34 = .ok (.ireturn, 1) := by decide +kernel
theorem dd_Rents_restAt_10 : decode mm_Rents_restAt.2.1 10 = .ok (.aload_n 0, 1) := by decide +kernel
theorem dd_Rents_restAt_11 : decode mm_Rents_restAt.2.1 11 = .ok (.iload_n 3, 1) := by decide +kernel
theorem dd_Rents_restAt_12 : decode mm_Rents_restAt.2.1 12 = .ok (.invokevirtual 122, 3) := by decide +kernel
theorem dd_Rents_restAt_15 : decode mm_Rents_restAt.2.1 15 = .ok (.ifCond .eq (12), 3) := by decide +kernel
theorem dd_Rents_restAt_27 : decode mm_Rents_restAt.2.1 27 = .ok (.iinc 3 1, 3) := by decide +kernel
theorem dd_Rents_restAt_30 : decode mm_Rents_restAt.2.1 30 = .ok (.goto (-26), 3) := by decide +kernel
theorem dd_Rents_restAt_18 : decode mm_Rents_restAt.2.1 18 = .ok (.iload_n 2, 1) := by decide +kernel
theorem dd_Rents_restAt_19 : decode mm_Rents_restAt.2.1 19 = .ok (.ifCond .ne (5), 3) := by decide +kernel
theorem dd_Rents_restAt_24 : decode mm_Rents_restAt.2.1 24 = .ok (.iinc 2 (-1), 3) := by decide +kernel
theorem dd_Rents_restAt_22 : decode mm_Rents_restAt.2.1 22 = .ok (.iload_n 3, 1) := by decide +kernel
theorem dd_Rents_restAt_23 : decode mm_Rents_restAt.2.1 23 = .ok (.ireturn, 1) := by decide +kernel
theorem dd_OneSided_rests_0 : decode mm_OneSided_rests.2.1 0 = .ok (.aload_n 0, 1) := by decide +kernel
theorem dd_OneSided_rests_1 : decode mm_OneSided_rests.2.1 1 = .ok (.iload_n 1, 1) := by decide +kernel
theorem dd_OneSided_rests_2 : decode mm_OneSided_rests.2.1 2 = .ok (.invokevirtual 318, 3) := by decide +kernel
theorem cw_11_318 : cwOk 11 318 0 128 2 2 11 = true := by decide +kernel
theorem mt_OneSided_isHinge : MTB 128 = some mm_OneSided_isHinge := rfl
theorem dd_OneSided_isHinge_0 : decode mm_OneSided_isHinge.2.1 0 = .ok (.aload_n 0, 1) := by decide +kernel
theorem dd_OneSided_isHinge_1 : decode mm_OneSided_isHinge.2.1 1 = .ok (.iload_n 1, 1) := by decide +kernel
theorem dd_OneSided_isHinge_2 : decode mm_OneSided_isHinge.2.1 2 = .ok (.invokevirtual 115, 3) := by decide +kernel
theorem dd_OneSided_isHinge_5 : decode mm_OneSided_isHinge.2.1 5 = .ok (.ifCond .eq (23), 3) := by decide +kernel
theorem dd_OneSided_isHinge_28 : decode mm_OneSided_isHinge.2.1 28 = .ok (.iconst 0, 1) := by decide +kernel
theorem dd_OneSided_isHinge_29 : decode mm_OneSided_isHinge.2.1 29 = .ok (.ireturn, 1) := by decide +kernel
theorem dd_OneSided_rests_5 : decode mm_OneSided_rests.2.1 5 = .ok (.ifCond .eq (21), 3) := by decide +kernel
theorem dd_OneSided_rests_26 : decode mm_OneSided_rests.2.1 26 = .ok (.iconst (-1), 1) := by decide +kernel
theorem dd_OneSided_rests_27 : decode mm_OneSided_rests.2.1 27 = .ok (.ireturn, 1) := by decide +kernel
theorem dd_OneSided_isHinge_8 : decode mm_OneSided_isHinge.2.1 8 = .ok (.aload_n 0, 1) := by decide +kernel
theorem dd_OneSided_isHinge_9 : decode mm_OneSided_isHinge.2.1 9 = .ok (.getfield 19, 3) := by decide +kernel
theorem dd_OneSided_isHinge_12 : decode mm_OneSided_isHinge.2.1 12 = .ok (.getfield 119, 3) := by decide +kernel
theorem dd_OneSided_isHinge_15 : decode mm_OneSided_isHinge.2.1 15 = .ok (.iload_n 1, 1) := by decide +kernel
theorem dd_OneSided_isHinge_16 : decode mm_OneSided_isHinge.2.1 16 = .ok (.aaload, 1) := by decide +kernel
theorem dd_OneSided_isHinge_17 : decode mm_OneSided_isHinge.2.1 17 = .ok (.getfield 123, 3) := by decide +kernel
theorem dd_OneSided_isHinge_20 : decode mm_OneSided_isHinge.2.1 20 = .ok (.iconst 2, 1) := by decide +kernel
theorem dd_OneSided_isHinge_21 : decode mm_OneSided_isHinge.2.1 21 = .ok (.if_icmp .ne (7), 3) := by decide +kernel
theorem dd_OneSided_isHinge_24 : decode mm_OneSided_isHinge.2.1 24 = .ok (.iconst 1, 1) := by decide +kernel
theorem dd_OneSided_isHinge_25 : decode mm_OneSided_isHinge.2.1 25 = .ok (.goto 4, 3) := by decide +kernel
theorem dd_OneSided_rests_8 : decode mm_OneSided_rests.2.1 8 = .ok (.aload_n 0, 1) := by decide +kernel
theorem dd_OneSided_rests_9 : decode mm_OneSided_rests.2.1 9 = .ok (.iload_n 2, 1) := by decide +kernel
theorem dd_OneSided_rests_10 : decode mm_OneSided_rests.2.1 10 = .ok (.invokevirtual 318, 3) := by decide +kernel
theorem dd_OneSided_rests_13 : decode mm_OneSided_rests.2.1 13 = .ok (.ifCond .eq (13), 3) := by decide +kernel
theorem dd_OneSided_rests_16 : decode mm_OneSided_rests.2.1 16 = .ok (.iload_n 1, 1) := by decide +kernel
theorem dd_OneSided_rests_17 : decode mm_OneSided_rests.2.1 17 = .ok (.iload_n 2, 1) := by decide +kernel
theorem dd_OneSided_rests_18 : decode mm_OneSided_rests.2.1 18 = .ok (.if_icmp .eq (8), 3) := by decide +kernel
theorem dd_OneSided_rests_21 : decode mm_OneSided_rests.2.1 21 = .ok (.iload_n 3, 1) := by decide +kernel
theorem dd_OneSided_rests_22 : decode mm_OneSided_rests.2.1 22 = .ok (.iconst (-1), 1) := by decide +kernel
theorem dd_OneSided_rests_23 : decode mm_OneSided_rests.2.1 23 = .ok (.if_icmp .ge (5), 3) := by decide +kernel
theorem dd_OneSided_rests_28 : decode mm_OneSided_rests.2.1 28 = .ok (.aload_n 0, 1) := by decide +kernel
theorem dd_OneSided_rests_29 : decode mm_OneSided_rests.2.1 29 = .ok (.getfield 77, 3) := by decide +kernel
theorem fd_11_77 : fld 11 77 = some (11, 14) := by decide +kernel
theorem rf_1_14 {h : LH} (hF : RF h) : rd h 1 14 = 96 := hF 1 14 96 (by decide +kernel) (by decide +kernel)
theorem dd_OneSided_rests_32 : decode mm_OneSided_rests.2.1 32 = .ok (.aload_n 0, 1) := by decide +kernel
theorem dd_OneSided_rests_33 : decode mm_OneSided_rests.2.1 33 = .ok (.getfield 19, 3) := by decide +kernel
theorem dd_OneSided_rests_36 : decode mm_OneSided_rests.2.1 36 = .ok (.aload_n 0, 1) := by decide +kernel
theorem dd_OneSided_rests_37 : decode mm_OneSided_rests.2.1 37 = .ok (.getfield 29, 3) := by decide +kernel
theorem dd_OneSided_rests_40 : decode mm_OneSided_rests.2.1 40 = .ok (.getfield 149, 3) := by decide +kernel
theorem dd_OneSided_rests_43 : decode mm_OneSided_rests.2.1 43 = .ok (.iload_n 1, 1) := by decide +kernel
theorem dd_OneSided_rests_44 : decode mm_OneSided_rests.2.1 44 = .ok (.iload_n 2, 1) := by decide +kernel
theorem dd_OneSided_rests_45 : decode mm_OneSided_rests.2.1 45 = .ok (.invokevirtual 321, 3) := by decide +kernel
theorem cw_11_321 : cwOk 11 321 0 129 5 6 8 = true := by decide +kernel
theorem mt_Rents_settle : MTB 129 = some mm_Rents_settle := rfl
theorem dd_OneSided_rests_48 : decode mm_OneSided_rests.2.1 48 = .ok (.iload_n 3, 1) := by decide +kernel
theorem dd_OneSided_rests_49 : decode mm_OneSided_rests.2.1 49 = .ok (.iconst (-1), 1) := by decide +kernel
theorem dd_OneSided_rests_50 : decode mm_OneSided_rests.2.1 50 = .ok (.if_icmp .ne (13), 3) := by decide +kernel
theorem dd_OneSided_rests_63 : decode mm_OneSided_rests.2.1 63 = .ok (.aload_n 0, 1) := by decide +kernel
theorem dd_OneSided_rests_64 : decode mm_OneSided_rests.2.1 64 = .ok (.getfield 77, 3) := by decide +kernel
theorem dd_OneSided_rests_67 : decode mm_OneSided_rests.2.1 67 = .ok (.iload_n 3, 1) := by decide +kernel
theorem dd_OneSided_rests_68 : decode mm_OneSided_rests.2.1 68 = .ok (.invokevirtual 328, 3) := by decide +kernel
theorem cw_11_328 : cwOk 11 328 0 138 2 4 8 = true := by decide +kernel
theorem mt_Rents_restAt : MTB 138 = some mm_Rents_restAt := rfl
theorem dd_OneSided_rests_53 : decode mm_OneSided_rests.2.1 53 = .ok (.aload_n 0, 1) := by decide +kernel
theorem dd_OneSided_rests_54 : decode mm_OneSided_rests.2.1 54 = .ok (.getfield 77, 3) := by decide +kernel
theorem dd_OneSided_rests_57 : decode mm_OneSided_rests.2.1 57 = .ok (.invokevirtual 324, 3) := by decide +kernel
theorem cw_11_324 : cwOk 11 324 0 136 1 3 8 = true := by decide +kernel
theorem mt_Rents_restCount : MTB 136 = some mm_Rents_restCount := rfl
theorem dd_OneSided_rests_60 : decode mm_OneSided_rests.2.1 60 = .ok (.goto 11, 3) := by decide +kernel
theorem dd_OneSided_rests_71 : decode mm_OneSided_rests.2.1 71 = .ok (.ireturn, 1) := by decide +kernel
theorem dd_rests_0 : decode mm_rests.2.1 0 = .ok (.aload_n 0, 1) := by decide +kernel
theorem dd_rests_1 : decode mm_rests.2.1 1 = .ok (.iconst 0, 1) := by decide +kernel
theorem dd_rests_2 : decode mm_rests.2.1 2 = .ok (.putfield 1, 3) := by decide +kernel
theorem dd_rests_5 : decode mm_rests.2.1 5 = .ok (.aload_n 0, 1) := by decide +kernel
theorem dd_rests_6 : decode mm_rests.2.1 6 = .ok (.iload_n 1, 1) := by decide +kernel
theorem dd_rests_7 : decode mm_rests.2.1 7 = .ok (.invokevirtual 364, 3) := by decide +kernel
theorem dd_rests_10 : decode mm_rests.2.1 10 = .ok (.ifCond .eq (41), 3) := by decide +kernel
theorem dd_rests_51 : decode mm_rests.2.1 51 = .ok (.iconst (-1), 1) := by decide +kernel
theorem dd_rests_52 : decode mm_rests.2.1 52 = .ok (.ireturn, 1) := by decide +kernel
theorem dd_rests_13 : decode mm_rests.2.1 13 = .ok (.aload_n 0, 1) := by decide +kernel
theorem dd_rests_14 : decode mm_rests.2.1 14 = .ok (.iload_n 2, 1) := by decide +kernel
theorem dd_rests_15 : decode mm_rests.2.1 15 = .ok (.invokevirtual 364, 3) := by decide +kernel
theorem dd_rests_18 : decode mm_rests.2.1 18 = .ok (.ifCond .eq (33), 3) := by decide +kernel
theorem dd_rests_21 : decode mm_rests.2.1 21 = .ok (.iload_n 1, 1) := by decide +kernel
theorem dd_rests_22 : decode mm_rests.2.1 22 = .ok (.iload_n 2, 1) := by decide +kernel
theorem dd_rests_23 : decode mm_rests.2.1 23 = .ok (.if_icmp .eq (28), 3) := by decide +kernel
theorem dd_rests_26 : decode mm_rests.2.1 26 = .ok (.aload_n 0, 1) := by decide +kernel
theorem dd_rests_27 : decode mm_rests.2.1 27 = .ok (.iload_n 1, 1) := by decide +kernel
theorem dd_rests_28 : decode mm_rests.2.1 28 = .ok (.iconst 0, 1) := by decide +kernel
theorem dd_rests_29 : decode mm_rests.2.1 29 = .ok (.invokevirtual 347, 3) := by decide +kernel
theorem dd_rests_32 : decode mm_rests.2.1 32 = .ok (.iconst 2, 1) := by decide +kernel
theorem dd_rests_33 : decode mm_rests.2.1 33 = .ok (.if_icmp .ne (18), 3) := by decide +kernel
theorem dd_rests_36 : decode mm_rests.2.1 36 = .ok (.aload_n 0, 1) := by decide +kernel
theorem dd_rests_37 : decode mm_rests.2.1 37 = .ok (.iload_n 2, 1) := by decide +kernel
theorem dd_rests_38 : decode mm_rests.2.1 38 = .ok (.iconst 0, 1) := by decide +kernel
theorem dd_rests_39 : decode mm_rests.2.1 39 = .ok (.invokevirtual 347, 3) := by decide +kernel
theorem dd_rests_42 : decode mm_rests.2.1 42 = .ok (.iconst 2, 1) := by decide +kernel
theorem dd_rests_43 : decode mm_rests.2.1 43 = .ok (.if_icmp .ne (8), 3) := by decide +kernel
theorem dd_rests_46 : decode mm_rests.2.1 46 = .ok (.iload_n 3, 1) := by decide +kernel
theorem dd_rests_47 : decode mm_rests.2.1 47 = .ok (.iconst (-1), 1) := by decide +kernel
theorem dd_rests_48 : decode mm_rests.2.1 48 = .ok (.if_icmp .ge (5), 3) := by decide +kernel
theorem dd_rests_53 : decode mm_rests.2.1 53 = .ok (.aload_n 0, 1) := by decide +kernel
theorem dd_rests_54 : decode mm_rests.2.1 54 = .ok (.iload_n 1, 1) := by decide +kernel
theorem dd_rests_55 : decode mm_rests.2.1 55 = .ok (.putfield 135, 3) := by decide +kernel
theorem fn_12_28 : fin 12 28 = false := by decide +kernel
theorem dd_rests_58 : decode mm_rests.2.1 58 = .ok (.aload_n 0, 1) := by decide +kernel
theorem dd_rests_59 : decode mm_rests.2.1 59 = .ok (.iload_n 2, 1) := by decide +kernel
theorem dd_rests_60 : decode mm_rests.2.1 60 = .ok (.putfield 138, 3) := by decide +kernel
theorem fn_12_29 : fin 12 29 = false := by decide +kernel
theorem dd_rests_63 : decode mm_rests.2.1 63 = .ok (.iconst 0, 1) := by decide +kernel
theorem dd_rests_64 : decode mm_rests.2.1 64 = .ok (.istore 4, 2) := by decide +kernel
theorem dd_rests_66 : decode mm_rests.2.1 66 = .ok (.iload 4, 2) := by decide +kernel
theorem dd_rests_68 : decode mm_rests.2.1 68 = .ok (.bipush 100, 2) := by decide +kernel
theorem dd_rests_70 : decode mm_rests.2.1 70 = .ok (.if_icmp .ge (135), 3) := by decide +kernel
theorem dd_rests_205 : decode mm_rests.2.1 205 = .ok (.aload_n 0, 1) := by decide +kernel
theorem dd_rests_206 : decode mm_rests.2.1 206 = .ok (.iconst (-1), 1) := by decide +kernel
theorem dd_rests_207 : decode mm_rests.2.1 207 = .ok (.putfield 135, 3) := by decide +kernel
theorem dd_rests_210 : decode mm_rests.2.1 210 = .ok (.aload_n 0, 1) := by decide +kernel
theorem dd_rests_211 : decode mm_rests.2.1 211 = .ok (.iconst (-1), 1) := by decide +kernel
theorem dd_rests_212 : decode mm_rests.2.1 212 = .ok (.putfield 138, 3) := by decide +kernel
theorem dd_rests_215 : decode mm_rests.2.1 215 = .ok (.iconst 0, 1) := by decide +kernel
theorem dd_rests_216 : decode mm_rests.2.1 216 = .ok (.istore 4, 2) := by decide +kernel
theorem dd_rests_218 : decode mm_rests.2.1 218 = .ok (.iconst 0, 1) := by decide +kernel
theorem dd_rests_219 : decode mm_rests.2.1 219 = .ok (.istore 5, 2) := by decide +kernel
theorem dd_rests_73 : decode mm_rests.2.1 73 = .ok (.aload_n 0, 1) := by decide +kernel
theorem dd_rests_74 : decode mm_rests.2.1 74 = .ok (.iload 4, 2) := by decide +kernel
theorem dd_rests_76 : decode mm_rests.2.1 76 = .ok (.bipush 10, 2) := by decide +kernel
theorem dd_rests_78 : decode mm_rests.2.1 78 = .ok (.idiv, 1) := by decide +kernel
theorem dd_rests_79 : decode mm_rests.2.1 79 = .ok (.putfield 341, 3) := by decide +kernel
theorem fn_12_30 : fin 12 30 = false := by decide +kernel
theorem dd_rests_82 : decode mm_rests.2.1 82 = .ok (.aload_n 0, 1) := by decide +kernel
theorem dd_rests_83 : decode mm_rests.2.1 83 = .ok (.iload 4, 2) := by decide +kernel
theorem dd_rests_85 : decode mm_rests.2.1 85 = .ok (.bipush 10, 2) := by decide +kernel
theorem dd_rests_87 : decode mm_rests.2.1 87 = .ok (.irem, 1) := by decide +kernel
theorem dd_rests_88 : decode mm_rests.2.1 88 = .ok (.putfield 344, 3) := by decide +kernel
theorem fn_12_31 : fin 12 31 = false := by decide +kernel
theorem dd_rests_91 : decode mm_rests.2.1 91 = .ok (.aload_n 0, 1) := by decide +kernel
theorem dd_rests_92 : decode mm_rests.2.1 92 = .ok (.getfield 171, 3) := by decide +kernel
theorem fd_12_171 : fld 12 171 = some (12, 50) := by decide +kernel
theorem rf_182_50 {h : LH} (hF : RF h) : rd h 182 50 = 211 := hF 182 50 211 (by decide +kernel) (by decide +kernel)
theorem dd_rests_95 : decode mm_rests.2.1 95 = .ok (.iconst 2, 1) := by decide +kernel
theorem dd_rests_96 : decode mm_rests.2.1 96 = .ok (.iload 4, 2) := by decide +kernel
theorem dd_rests_98 : decode mm_rests.2.1 98 = .ok (.imul, 1) := by decide +kernel
theorem dd_rests_99 : decode mm_rests.2.1 99 = .ok (.iconst 0, 1) := by decide +kernel
theorem dd_rests_100 : decode mm_rests.2.1 100 = .ok (.iastore, 1) := by decide +kernel
theorem ia_211 : isA NC 211 1 = true := by decide +kernel
theorem la_211 : (lay (211 : Int).toNat).2.2 = 200 := by decide +kernel
theorem dd_rests_101 : decode mm_rests.2.1 101 = .ok (.aload_n 0, 1) := by decide +kernel
theorem dd_rests_102 : decode mm_rests.2.1 102 = .ok (.getfield 171, 3) := by decide +kernel
theorem dd_rests_105 : decode mm_rests.2.1 105 = .ok (.iconst 2, 1) := by decide +kernel
theorem dd_rests_106 : decode mm_rests.2.1 106 = .ok (.iload 4, 2) := by decide +kernel
theorem dd_rests_108 : decode mm_rests.2.1 108 = .ok (.imul, 1) := by decide +kernel
theorem dd_rests_109 : decode mm_rests.2.1 109 = .ok (.iconst 1, 1) := by decide +kernel
theorem dd_rests_110 : decode mm_rests.2.1 110 = .ok (.iadd, 1) := by decide +kernel
theorem dd_rests_111 : decode mm_rests.2.1 111 = .ok (.iconst 0, 1) := by decide +kernel
theorem dd_rests_112 : decode mm_rests.2.1 112 = .ok (.iastore, 1) := by decide +kernel
theorem dd_rests_113 : decode mm_rests.2.1 113 = .ok (.iconst 0, 1) := by decide +kernel
theorem dd_rests_114 : decode mm_rests.2.1 114 = .ok (.istore 5, 2) := by decide +kernel
theorem dd_rests_116 : decode mm_rests.2.1 116 = .ok (.iload 5, 2) := by decide +kernel
theorem dd_rests_118 : decode mm_rests.2.1 118 = .ok (.aload_n 0, 1) := by decide +kernel
theorem dd_rests_119 : decode mm_rests.2.1 119 = .ok (.invokevirtual 338, 3) := by decide +kernel
theorem dd_rests_122 : decode mm_rests.2.1 122 = .ok (.if_icmp .ge (77), 3) := by decide +kernel
theorem dd_rests_199 : decode mm_rests.2.1 199 = .ok (.iinc 4 1, 3) := by decide +kernel
theorem dd_rests_202 : decode mm_rests.2.1 202 = .ok (.goto (-136), 3) := by decide +kernel
theorem dd_rests_125 : decode mm_rests.2.1 125 = .ok (.aload_n 0, 1) := by decide +kernel
theorem dd_rests_126 : decode mm_rests.2.1 126 = .ok (.iload 5, 2) := by decide +kernel
theorem dd_rests_128 : decode mm_rests.2.1 128 = .ok (.invokevirtual 477, 3) := by decide +kernel
theorem cw_12_477 : cwOk 12 477 0 255 2 8 12 = true := by decide +kernel
theorem mt_goesBy : MTB 255 = some mm_goesBy := rfl
theorem dd_rests_131 : decode mm_rests.2.1 131 = .ok (.istore 6, 2) := by decide +kernel
theorem dd_rests_133 : decode mm_rests.2.1 133 = .ok (.aload_n 0, 1) := by decide +kernel
theorem dd_rests_134 : decode mm_rests.2.1 134 = .ok (.getfield 171, 3) := by decide +kernel
theorem dd_rests_137 : decode mm_rests.2.1 137 = .ok (.iconst 2, 1) := by decide +kernel
theorem dd_rests_138 : decode mm_rests.2.1 138 = .ok (.iload 4, 2) := by decide +kernel
theorem dd_rests_140 : decode mm_rests.2.1 140 = .ok (.imul, 1) := by decide +kernel
theorem dd_rests_141 : decode mm_rests.2.1 141 = .ok (.dup2, 1) := by decide +kernel
theorem dd_rests_142 : decode mm_rests.2.1 142 = .ok (.iaload, 1) := by decide +kernel
theorem dd_rests_143 : decode mm_rests.2.1 143 = .ok (.iload 6, 2) := by decide +kernel
theorem dd_rests_145 : decode mm_rests.2.1 145 = .ok (.iload_n 1, 1) := by decide +kernel
theorem dd_rests_146 : decode mm_rests.2.1 146 = .ok (.invokestatic 350, 3) := by decide +kernel
theorem dd_rests_149 : decode mm_rests.2.1 149 = .ok (.ifCond .eq (10), 3) := by decide +kernel
theorem dd_rests_159 : decode mm_rests.2.1 159 = .ok (.iconst 0, 1) := by decide +kernel
theorem dd_rests_160 : decode mm_rests.2.1 160 = .ok (.iadd, 1) := by decide +kernel
theorem dd_rests_161 : decode mm_rests.2.1 161 = .ok (.iastore, 1) := by decide +kernel
theorem dd_rests_162 : decode mm_rests.2.1 162 = .ok (.aload_n 0, 1) := by decide +kernel
theorem dd_rests_163 : decode mm_rests.2.1 163 = .ok (.getfield 171, 3) := by decide +kernel
theorem dd_rests_166 : decode mm_rests.2.1 166 = .ok (.iconst 2, 1) := by decide +kernel
theorem dd_rests_167 : decode mm_rests.2.1 167 = .ok (.iload 4, 2) := by decide +kernel
theorem dd_rests_169 : decode mm_rests.2.1 169 = .ok (.imul, 1) := by decide +kernel
theorem dd_rests_170 : decode mm_rests.2.1 170 = .ok (.iconst 1, 1) := by decide +kernel
theorem dd_rests_171 : decode mm_rests.2.1 171 = .ok (.iadd, 1) := by decide +kernel
theorem dd_rests_172 : decode mm_rests.2.1 172 = .ok (.dup2, 1) := by decide +kernel
theorem dd_rests_173 : decode mm_rests.2.1 173 = .ok (.iaload, 1) := by decide +kernel
theorem dd_rests_174 : decode mm_rests.2.1 174 = .ok (.iload 6, 2) := by decide +kernel
theorem dd_rests_176 : decode mm_rests.2.1 176 = .ok (.iload_n 2, 1) := by decide +kernel
theorem dd_rests_177 : decode mm_rests.2.1 177 = .ok (.invokestatic 350, 3) := by decide +kernel
theorem dd_rests_180 : decode mm_rests.2.1 180 = .ok (.ifCond .eq (10), 3) := by decide +kernel
theorem dd_rests_190 : decode mm_rests.2.1 190 = .ok (.iconst 0, 1) := by decide +kernel
theorem dd_rests_191 : decode mm_rests.2.1 191 = .ok (.iadd, 1) := by decide +kernel
theorem dd_rests_192 : decode mm_rests.2.1 192 = .ok (.iastore, 1) := by decide +kernel
theorem dd_rests_193 : decode mm_rests.2.1 193 = .ok (.iinc 5 1, 3) := by decide +kernel
theorem dd_rests_196 : decode mm_rests.2.1 196 = .ok (.goto (-80), 3) := by decide +kernel
theorem dd_rests_183 : decode mm_rests.2.1 183 = .ok (.aload_n 0, 1) := by decide +kernel
theorem dd_rests_184 : decode mm_rests.2.1 184 = .ok (.getfield 344, 3) := by decide +kernel
theorem dd_rests_187 : decode mm_rests.2.1 187 = .ok (.goto 4, 3) := by decide +kernel
theorem dd_rests_152 : decode mm_rests.2.1 152 = .ok (.aload_n 0, 1) := by decide +kernel
theorem dd_rests_153 : decode mm_rests.2.1 153 = .ok (.getfield 341, 3) := by decide +kernel
theorem dd_rests_156 : decode mm_rests.2.1 156 = .ok (.goto 4, 3) := by decide +kernel
theorem dd_rests_221 : decode mm_rests.2.1 221 = .ok (.iload 5, 2) := by decide +kernel
theorem dd_rests_223 : decode mm_rests.2.1 223 = .ok (.bipush 100, 2) := by decide +kernel
theorem dd_rests_225 : decode mm_rests.2.1 225 = .ok (.if_icmp .ge (133), 3) := by decide +kernel
theorem dd_rests_358 : decode mm_rests.2.1 358 = .ok (.iload_n 3, 1) := by decide +kernel
theorem dd_rests_359 : decode mm_rests.2.1 359 = .ok (.ifCond .ge (8), 3) := by decide +kernel
theorem dd_rests_367 : decode mm_rests.2.1 367 = .ok (.iconst (-1), 1) := by decide +kernel
theorem dd_rests_368 : decode mm_rests.2.1 368 = .ok (.ireturn, 1) := by decide +kernel
theorem dd_rests_362 : decode mm_rests.2.1 362 = .ok (.iload 4, 2) := by decide +kernel
theorem dd_rests_364 : decode mm_rests.2.1 364 = .ok (.goto 4, 3) := by decide +kernel
theorem dd_rests_228 : decode mm_rests.2.1 228 = .ok (.iconst 1, 1) := by decide +kernel
theorem dd_rests_229 : decode mm_rests.2.1 229 = .ok (.istore 6, 2) := by decide +kernel
theorem dd_rests_231 : decode mm_rests.2.1 231 = .ok (.iconst 0, 1) := by decide +kernel
theorem dd_rests_232 : decode mm_rests.2.1 232 = .ok (.istore 7, 2) := by decide +kernel
theorem dd_rests_234 : decode mm_rests.2.1 234 = .ok (.iload 7, 2) := by decide +kernel
theorem dd_rests_236 : decode mm_rests.2.1 236 = .ok (.bipush 10, 2) := by decide +kernel
theorem dd_rests_238 : decode mm_rests.2.1 238 = .ok (.if_icmp .ge (85), 3) := by decide +kernel
theorem dd_rests_241 : decode mm_rests.2.1 241 = .ok (.iload 6, 2) := by decide +kernel
theorem dd_rests_243 : decode mm_rests.2.1 243 = .ok (.ifCond .eq (71), 3) := by decide +kernel
theorem dd_rests_314 : decode mm_rests.2.1 314 = .ok (.iconst 0, 1) := by decide +kernel
theorem dd_rests_315 : decode mm_rests.2.1 315 = .ok (.istore 6, 2) := by decide +kernel
theorem dd_rests_317 : decode mm_rests.2.1 317 = .ok (.iinc 7 1, 3) := by decide +kernel
theorem dd_rests_320 : decode mm_rests.2.1 320 = .ok (.goto (-86), 3) := by decide +kernel
theorem dd_rests_246 : decode mm_rests.2.1 246 = .ok (.aload_n 0, 1) := by decide +kernel
theorem dd_rests_247 : decode mm_rests.2.1 247 = .ok (.getfield 171, 3) := by decide +kernel
theorem dd_rests_250 : decode mm_rests.2.1 250 = .ok (.iconst 2, 1) := by decide +kernel
theorem dd_rests_251 : decode mm_rests.2.1 251 = .ok (.bipush 10, 2) := by decide +kernel
theorem dd_rests_253 : decode mm_rests.2.1 253 = .ok (.iload 7, 2) := by decide +kernel
theorem dd_rests_255 : decode mm_rests.2.1 255 = .ok (.imul, 1) := by decide +kernel
theorem dd_rests_256 : decode mm_rests.2.1 256 = .ok (.iload 5, 2) := by decide +kernel
theorem dd_rests_258 : decode mm_rests.2.1 258 = .ok (.bipush 10, 2) := by decide +kernel
theorem dd_rests_260 : decode mm_rests.2.1 260 = .ok (.irem, 1) := by decide +kernel
theorem dd_rests_261 : decode mm_rests.2.1 261 = .ok (.iadd, 1) := by decide +kernel
theorem dd_rests_262 : decode mm_rests.2.1 262 = .ok (.imul, 1) := by decide +kernel
theorem dd_rests_263 : decode mm_rests.2.1 263 = .ok (.iaload, 1) := by decide +kernel
theorem dd_rests_264 : decode mm_rests.2.1 264 = .ok (.aload_n 0, 1) := by decide +kernel
theorem dd_rests_265 : decode mm_rests.2.1 265 = .ok (.getfield 171, 3) := by decide +kernel
theorem dd_rests_268 : decode mm_rests.2.1 268 = .ok (.iconst 2, 1) := by decide +kernel
theorem dd_rests_269 : decode mm_rests.2.1 269 = .ok (.iload 5, 2) := by decide +kernel
theorem dd_rests_271 : decode mm_rests.2.1 271 = .ok (.imul, 1) := by decide +kernel
theorem dd_rests_272 : decode mm_rests.2.1 272 = .ok (.iaload, 1) := by decide +kernel
theorem dd_rests_273 : decode mm_rests.2.1 273 = .ok (.if_icmp .gt (41), 3) := by decide +kernel
theorem dd_rests_276 : decode mm_rests.2.1 276 = .ok (.aload_n 0, 1) := by decide +kernel
theorem dd_rests_277 : decode mm_rests.2.1 277 = .ok (.getfield 171, 3) := by decide +kernel
theorem dd_rests_280 : decode mm_rests.2.1 280 = .ok (.iconst 2, 1) := by decide +kernel
theorem dd_rests_281 : decode mm_rests.2.1 281 = .ok (.iload 5, 2) := by decide +kernel
theorem dd_rests_283 : decode mm_rests.2.1 283 = .ok (.bipush 10, 2) := by decide +kernel
theorem dd_rests_285 : decode mm_rests.2.1 285 = .ok (.idiv, 1) := by decide +kernel
theorem dd_rests_286 : decode mm_rests.2.1 286 = .ok (.bipush 10, 2) := by decide +kernel
theorem dd_rests_288 : decode mm_rests.2.1 288 = .ok (.imul, 1) := by decide +kernel
theorem dd_rests_289 : decode mm_rests.2.1 289 = .ok (.iload 7, 2) := by decide +kernel
theorem dd_rests_291 : decode mm_rests.2.1 291 = .ok (.iadd, 1) := by decide +kernel
theorem dd_rests_292 : decode mm_rests.2.1 292 = .ok (.imul, 1) := by decide +kernel
theorem dd_rests_293 : decode mm_rests.2.1 293 = .ok (.iconst 1, 1) := by decide +kernel
theorem dd_rests_294 : decode mm_rests.2.1 294 = .ok (.iadd, 1) := by decide +kernel
theorem dd_rests_295 : decode mm_rests.2.1 295 = .ok (.iaload, 1) := by decide +kernel
theorem dd_rests_296 : decode mm_rests.2.1 296 = .ok (.aload_n 0, 1) := by decide +kernel
theorem dd_rests_297 : decode mm_rests.2.1 297 = .ok (.getfield 171, 3) := by decide +kernel
theorem dd_rests_300 : decode mm_rests.2.1 300 = .ok (.iconst 2, 1) := by decide +kernel
theorem dd_rests_301 : decode mm_rests.2.1 301 = .ok (.iload 5, 2) := by decide +kernel
theorem dd_rests_303 : decode mm_rests.2.1 303 = .ok (.imul, 1) := by decide +kernel
theorem dd_rests_304 : decode mm_rests.2.1 304 = .ok (.iconst 1, 1) := by decide +kernel
theorem dd_rests_305 : decode mm_rests.2.1 305 = .ok (.iadd, 1) := by decide +kernel
theorem dd_rests_306 : decode mm_rests.2.1 306 = .ok (.iaload, 1) := by decide +kernel
theorem dd_rests_307 : decode mm_rests.2.1 307 = .ok (.if_icmp .gt (7), 3) := by decide +kernel
theorem dd_rests_310 : decode mm_rests.2.1 310 = .ok (.iconst 1, 1) := by decide +kernel
theorem dd_rests_311 : decode mm_rests.2.1 311 = .ok (.goto 4, 3) := by decide +kernel
theorem dd_rests_323 : decode mm_rests.2.1 323 = .ok (.iload 6, 2) := by decide +kernel
theorem dd_rests_325 : decode mm_rests.2.1 325 = .ok (.ifCond .eq (12), 3) := by decide +kernel
theorem dd_rests_337 : decode mm_rests.2.1 337 = .ok (.iload 4, 2) := by decide +kernel
theorem dd_rests_339 : decode mm_rests.2.1 339 = .ok (.iload 6, 2) := by decide +kernel
theorem dd_rests_341 : decode mm_rests.2.1 341 = .ok (.ifCond .eq (7), 3) := by decide +kernel
theorem dd_rests_348 : decode mm_rests.2.1 348 = .ok (.iconst 0, 1) := by decide +kernel
theorem dd_rests_349 : decode mm_rests.2.1 349 = .ok (.iadd, 1) := by decide +kernel
theorem dd_rests_350 : decode mm_rests.2.1 350 = .ok (.istore 4, 2) := by decide +kernel
theorem dd_rests_352 : decode mm_rests.2.1 352 = .ok (.iinc 5 1, 3) := by decide +kernel
theorem dd_rests_355 : decode mm_rests.2.1 355 = .ok (.goto (-134), 3) := by decide +kernel
theorem dd_rests_328 : decode mm_rests.2.1 328 = .ok (.iload 4, 2) := by decide +kernel
theorem dd_rests_330 : decode mm_rests.2.1 330 = .ok (.iload_n 3, 1) := by decide +kernel
theorem dd_rests_331 : decode mm_rests.2.1 331 = .ok (.if_icmp .ne (6), 3) := by decide +kernel
theorem dd_rests_344 : decode mm_rests.2.1 344 = .ok (.iconst 1, 1) := by decide +kernel
theorem dd_rests_345 : decode mm_rests.2.1 345 = .ok (.goto 4, 3) := by decide +kernel
theorem dd_rests_334 : decode mm_rests.2.1 334 = .ok (.iload 5, 2) := by decide +kernel
theorem dd_rests_336 : decode mm_rests.2.1 336 = .ok (.ireturn, 1) := by decide +kernel
theorem B_fill97_0 {xs : Nat → Int} {xl e : Nat} {h : LH} {Q : Option LV → LH → Prop} {v1 : Int} (hF : RF h)
    (k : Rn xs xl e mm_java_util_Arrays_fill 5 [some (.inr (.inr 97)), some (.inl v1), some (.inl 0), some (.inl 10)] [] h Q) :
    Rn xs xl e mm_java_util_Arrays_fill 0 [some (.inr (.inr 97)), some (.inl v1), none, none] [] h Q := by
  refine R_ic dd_java_util_Arrays_fill_0 (by decide) rfl ?_
  refine R_st (ls' := [some (.inr (.inr 97)), some (.inl v1), some (.inl 0), none]) dd_java_util_Arrays_fill_1 rfl rfl rfl (Nat.le_of_ble_eq_true rfl) rfl rfl ?_
  refine R_ld (v := .inr (.inr 97)) dd_java_util_Arrays_fill_2 rfl rfl rfl rfl ?_
  refine R_alen (n := 10) dd_java_util_Arrays_fill_3 ia_97 la_97 rfl ?_
  refine R_st (ls' := [some (.inr (.inr 97)), some (.inl v1), some (.inl 0), some (.inl 10)]) dd_java_util_Arrays_fill_4 rfl rfl rfl (Nat.le_of_ble_eq_true rfl) rfl rfl ?_
  exact k
theorem B_fill97_5 {xs : Nat → Int} {xl e : Nat} {h : LH} {Q : Option LV → LH → Prop} {v1 v2 : Int} (hF : RF h) (r_v2 : 0 ≤ v2 ∧ v2 ≤ 10)
    (k : (10 ≤ v2 →
        Q none h) ∧
      (v2 < 10 →
        (0 ≤ v2 ∧ v2 < 10) ∧
        Rn xs xl e mm_java_util_Arrays_fill 5 [some (.inr (.inr 97)), some (.inl v1), some (.inl (v2 + 1)), some (.inl 10)] [] (wr h 97 v2 v1) Q)) :
    Rn xs xl e mm_java_util_Arrays_fill 5 [some (.inr (.inr 97)), some (.inl v1), some (.inl v2), some (.inl 10)] [] h Q := by
  refine R_ld (v := .inl v2) dd_java_util_Arrays_fill_5 rfl rfl rfl rfl ?_
  refine R_ld (v := .inl 10) dd_java_util_Arrays_fill_6 rfl rfl rfl rfl ?_
  refine R_icmp dd_java_util_Arrays_fill_7 rfl rfl (fun (c2 : 10 ≤ v2) => ?_) (fun (c2 : v2 < 10) => ?_)
  · replace k := k.1 c2
    exact R_vret dd_java_util_Arrays_fill_20 rfl k
  · replace k := k.2 c2
    refine R_ld (v := .inr (.inr 97)) dd_java_util_Arrays_fill_10 rfl rfl rfl rfl ?_
    refine R_ld (v := .inl v2) dd_java_util_Arrays_fill_11 rfl rfl rfl rfl ?_
    refine R_ld (v := .inl v1) dd_java_util_Arrays_fill_12 rfl rfl rfl rfl ?_
    obtain ⟨s1, k⟩ := k
    refine R_iast (n := 10) dd_java_util_Arrays_fill_13 ia_97 la_97 s1 rfl ?_
    refine R_inc (y := v2 + 1) (ls' := [some (.inr (.inr 97)), some (.inl v1), some (.inl (v2 + 1)), some (.inl 10)]) dd_java_util_Arrays_fill_14 rfl (by decide) (by omega) (by omega) rfl rfl ?_
    refine R_goto dd_java_util_Arrays_fill_17 rfl ?_
    exact k
theorem B_Rents_settle_0 {xs : Nat → Int} {xl e : Nat} {h : LH} {Q : Option LV → LH → Prop} {v3 v4 : Int} {q : Int} (hq : q = 5 ∨ q = 32) (hF : RF h)
    (k : (∃ c, c < e ∧ Rn xs xl c mm_Rents_tryPrices 0 [some (.inr (.inr 96)), some (.inr (.inr q)), some (.inr (.inr 60)), some (.inl 0), some (.inl v3), none, none, none, none] [] (wr (wr h 96 0 v3) 96 1 v4) (fun r h' => Rn xs xl e mm_Rents_settle 22 [some (.inr (.inr 96)), some (.inr (.inr q)), some (.inr (.inr 60)), some (.inl v3), some (.inl v4), none] (r.toList ++ []) h' Q))) :
    Rn xs xl e mm_Rents_settle 0 [some (.inr (.inr 96)), some (.inr (.inr q)), some (.inr (.inr 60)), some (.inl v3), some (.inl v4), none] [] h Q := by
  refine R_ld (v := .inr (.inr 96)) dd_Rents_settle_0 rfl rfl rfl rfl ?_
  refine R_ld (v := .inl v3) dd_Rents_settle_1 rfl rfl rfl rfl ?_
  refine R_pf (z := v3) dd_Rents_settle_2 fd_8_27 io_96 fn_8_0 rfl rfl ?_
  refine R_ld (v := .inr (.inr 96)) dd_Rents_settle_5 rfl rfl rfl rfl ?_
  refine R_ld (v := .inl v4) dd_Rents_settle_6 rfl rfl rfl rfl ?_
  refine R_pf (z := v4) dd_Rents_settle_8 fd_8_31 io_96 fn_8_1 rfl rfl ?_
  refine R_ld (v := .inr (.inr 96)) dd_Rents_settle_11 rfl rfl rfl rfl ?_
  refine R_ld (v := .inr (.inr q)) dd_Rents_settle_12 rfl rfl rfl rfl ?_
  refine R_ld (v := .inr (.inr 60)) dd_Rents_settle_13 rfl rfl rfl rfl ?_
  refine R_ic dd_Rents_settle_14 (by decide) rfl ?_
  refine R_ld (v := .inr (.inr 96)) dd_Rents_settle_15 rfl rfl rfl rfl ?_
  refine R_gf (v := .inl v3) dd_Rents_settle_16 fd_8_27 io_96 (congrArg (fun z : Int => (Sum.inl z : LV)) ((rdw_nei (by omega)).trans (rdw_eq))) rfl ?_
  obtain ⟨c, hc, k⟩ := k
  exact R_call (as := [.inr (.inr 96), .inr (.inr q), .inr (.inr 60), .inl 0, .inl v3]) (rest := []) (M' := mm_Rents_tryPrices) (ls0 := [some (.inr (.inr 96)), some (.inr (.inr q)), some (.inr (.inr 60)), some (.inl 0), some (.inl v3), none, none, none, none]) dd_Rents_settle_19 rfl rfl (cw_v cw_8_34 io_96 rfl rfl (Nat.le_of_ble_eq_true rfl) (Nat.le_of_ble_eq_true rfl)) mt_Rents_tryPrices rfl hc rfl k
theorem B_Rents_settle_22 {xs : Nat → Int} {xl e : Nat} {h : LH} {Q : Option LV → LH → Prop} {v3 v4 : Int} {q : Int} (hq : q = 5 ∨ q = 32) (hF : RF h)
    (k : (∃ c, c < e ∧ Rn xs xl c mm_Rents_tryPrices 0 [some (.inr (.inr 96)), some (.inr (.inr q)), some (.inr (.inr 60)), some (.inl 1), some (.inl (rd h 96 1)), none, none, none, none] [] h (fun r h' => Rn xs xl e mm_Rents_settle 33 [some (.inr (.inr 96)), some (.inr (.inr q)), some (.inr (.inr 60)), some (.inl v3), some (.inl v4), none] (r.toList ++ []) h' Q))) :
    Rn xs xl e mm_Rents_settle 22 [some (.inr (.inr 96)), some (.inr (.inr q)), some (.inr (.inr 60)), some (.inl v3), some (.inl v4), none] [] h Q := by
  refine R_ld (v := .inr (.inr 96)) dd_Rents_settle_22 rfl rfl rfl rfl ?_
  refine R_ld (v := .inr (.inr q)) dd_Rents_settle_23 rfl rfl rfl rfl ?_
  refine R_ld (v := .inr (.inr 60)) dd_Rents_settle_24 rfl rfl rfl rfl ?_
  refine R_ic dd_Rents_settle_25 (by decide) rfl ?_
  refine R_ld (v := .inr (.inr 96)) dd_Rents_settle_26 rfl rfl rfl rfl ?_
  refine R_gf (v := .inl (rd h 96 1)) dd_Rents_settle_27 fd_8_31 io_96 (congrArg (fun z : Int => (Sum.inl z : LV)) (rfl)) rfl ?_
  obtain ⟨c, hc, k⟩ := k
  exact R_call (as := [.inr (.inr 96), .inr (.inr q), .inr (.inr 60), .inl 1, .inl (rd h 96 1)]) (rest := []) (M' := mm_Rents_tryPrices) (ls0 := [some (.inr (.inr 96)), some (.inr (.inr q)), some (.inr (.inr 60)), some (.inl 1), some (.inl (rd h 96 1)), none, none, none, none]) dd_Rents_settle_30 rfl rfl (cw_v cw_8_34 io_96 rfl rfl (Nat.le_of_ble_eq_true rfl) (Nat.le_of_ble_eq_true rfl)) mt_Rents_tryPrices rfl hc rfl k
theorem B_Rents_settle_33 {xs : Nat → Int} {xl e : Nat} {h : LH} {Q : Option LV → LH → Prop} {v3 v4 : Int} {q : Int} (hq : q = 5 ∨ q = 32) (hF : RF h)
    (k : Rn xs xl e mm_Rents_settle 36 [some (.inr (.inr 96)), some (.inr (.inr q)), some (.inr (.inr 60)), some (.inl v3), some (.inl v4), some (.inl 0)] [] h Q) :
    Rn xs xl e mm_Rents_settle 33 [some (.inr (.inr 96)), some (.inr (.inr q)), some (.inr (.inr 60)), some (.inl v3), some (.inl v4), none] [] h Q := by
  refine R_ic dd_Rents_settle_33 (by decide) rfl ?_
  refine R_st (ls' := [some (.inr (.inr 96)), some (.inr (.inr q)), some (.inr (.inr 60)), some (.inl v3), some (.inl v4), some (.inl 0)]) dd_Rents_settle_34 rfl rfl rfl (Nat.le_of_ble_eq_true rfl) rfl rfl ?_
  exact k
theorem B_Rents_settle_36 {xs : Nat → Int} {xl e : Nat} {h : LH} {Q : Option LV → LH → Prop} {v3 v4 v5 : Int} {q : Int} (hq : q = 5 ∨ q = 32) (hF : RF h) (hP : PT h) (r_v5 : 0 ≤ v5 ∧ v5 ≤ 14)
    (k : ((rd h q 2) ≤ v5 →
        Rn xs xl e mm_Rents_settle 76 [some (.inr (.inr 96)), some (.inr (.inr q)), some (.inr (.inr 60)), some (.inl v3), some (.inl v4), some (.inl 0)] [] h Q) ∧
      (v5 < (rd h q 2) →
        (0 ≤ v5 ∧ v5 < 14) ∧
        (-2147483648 ≤ 64 * (rd h (q + 7 + v5) 8) ∧ 64 * (rd h (q + 7 + v5) 8) ≤ 2147483647) ∧
        (-2147483648 ≤ 64 * (rd h (q + 7 + v5) 8) + 1 ∧ 64 * (rd h (q + 7 + v5) 8) + 1 ≤ 2147483647) ∧
        (0 ≤ v5 ∧ v5 < 14) ∧
        Rn xs xl e mm_Rents_settle 36 [some (.inr (.inr 96)), some (.inr (.inr q)), some (.inr (.inr 60)), some (.inl v3), some (.inl v4), some (.inl (v5 + 1))] [] (wr h 98 v5 (64 * (rd h (q + 7 + v5) 8) + 1)) Q)) :
    Rn xs xl e mm_Rents_settle 36 [some (.inr (.inr 96)), some (.inr (.inr q)), some (.inr (.inr 60)), some (.inl v3), some (.inl v4), some (.inl v5)] [] h Q := by
  refine R_ld (v := .inl v5) dd_Rents_settle_36 rfl rfl rfl rfl ?_
  refine R_ld (v := .inr (.inr q)) dd_Rents_settle_38 rfl rfl rfl rfl ?_
  refine R_gf (v := .inl (rd h q 2)) dd_Rents_settle_39 fd_8_38 (io_q hq) (congrArg (fun z : Int => (Sum.inl z : LV)) (rfl)) rfl ?_
  refine R_icmp dd_Rents_settle_42 rfl rfl (fun (c5 : (rd h q 2) ≤ v5) => ?_) (fun (c5 : v5 < (rd h q 2)) => ?_)
  · replace k := k.1 c5
    refine R_ic dd_Rents_settle_73 (by decide) rfl ?_
    refine R_st (ls' := [some (.inr (.inr 96)), some (.inr (.inr q)), some (.inr (.inr 60)), some (.inl v3), some (.inl v4), some (.inl 0)]) dd_Rents_settle_74 rfl rfl rfl (Nat.le_of_ble_eq_true rfl) rfl rfl ?_
    exact k
  · replace k := k.2 c5
    refine R_ld (v := .inr (.inr 96)) dd_Rents_settle_45 rfl rfl rfl rfl ?_
    refine R_gf (v := .inr (.inr 98)) dd_Rents_settle_46 fd_8_15 io_96 (congrArg (fun z : Int => (Sum.inr (Sum.inr z) : LV)) (rf_96_3 hF)) rfl ?_
    refine R_ld (v := .inl v5) dd_Rents_settle_49 rfl rfl rfl rfl ?_
    refine R_ld (v := .inr (.inr q)) dd_Rents_settle_51 rfl rfl rfl rfl ?_
    refine R_gf (v := .inr (.inr (q + 1))) dd_Rents_settle_52 fd_8_43 (io_q hq) (congrArg (fun z : Int => (Sum.inr (Sum.inr z) : LV)) (rq_arr hF hq)) rfl ?_
    refine R_ld (v := .inl v5) dd_Rents_settle_55 rfl rfl rfl rfl ?_
    obtain ⟨s1, k⟩ := k
    refine R_aald (v := (q + 7 + v5)) (n := 14) dd_Rents_settle_57 (ia_dq hq) (la_dq hq) s1 (rq_d hP hq s1) rfl ?_
    refine R_gf (v := .inl (rd h (q + 7 + v5) 8)) dd_Rents_settle_58 fd_8_47 (io_d hq (by omega)) (congrArg (fun z : Int => (Sum.inl z : LV)) (rfl)) rfl ?_
    refine R_bi dd_Rents_settle_61 (by decide) rfl ?_
    obtain ⟨s2, k⟩ := k
    refine R_imul (c := 64 * (rd h (q + 7 + v5) 8)) dd_Rents_settle_63 (by omega) s2 rfl ?_
    refine R_ic dd_Rents_settle_64 (by decide) rfl ?_
    obtain ⟨s3, k⟩ := k
    refine R_iadd (c := 64 * (rd h (q + 7 + v5) 8) + 1) dd_Rents_settle_65 (by omega) s3 rfl ?_
    obtain ⟨s4, k⟩ := k
    refine R_iast (n := 14) dd_Rents_settle_66 ia_98 la_98 s4 rfl ?_
    refine R_inc (y := v5 + 1) (ls' := [some (.inr (.inr 96)), some (.inr (.inr q)), some (.inr (.inr 60)), some (.inl v3), some (.inl v4), some (.inl (v5 + 1))]) dd_Rents_settle_67 rfl (by decide) (by omega) (by omega) rfl rfl ?_
    refine R_goto dd_Rents_settle_70 rfl ?_
    exact k
theorem B_Rents_settle_76 {xs : Nat → Int} {xl e : Nat} {h : LH} {Q : Option LV → LH → Prop} {v3 v4 v5 : Int} {q : Int} (hq : q = 5 ∨ q = 32) (hF : RF h) (r_v5 : 0 ≤ v5 ∧ v5 ≤ 100)
    (k : (100 ≤ v5 →
        Q none h) ∧
      (v5 < 100 →
        (∃ c, c < e ∧ Rn xs xl c mm_Rents_takeRents 0 [some (.inr (.inr 96)), some (.inr (.inr q)), some (.inr (.inr 60)), some (.inl v5), none, none, none, none] [] h (fun r h' => Rn xs xl e mm_Rents_settle 91 [some (.inr (.inr 96)), some (.inr (.inr q)), some (.inr (.inr 60)), some (.inl v3), some (.inl v4), some (.inl v5)] (r.toList ++ []) h' Q)))) :
    Rn xs xl e mm_Rents_settle 76 [some (.inr (.inr 96)), some (.inr (.inr q)), some (.inr (.inr 60)), some (.inl v3), some (.inl v4), some (.inl v5)] [] h Q := by
  refine R_ld (v := .inl v5) dd_Rents_settle_76 rfl rfl rfl rfl ?_
  refine R_bi dd_Rents_settle_78 (by decide) rfl ?_
  refine R_icmp dd_Rents_settle_80 rfl rfl (fun (c2 : 100 ≤ v5) => ?_) (fun (c2 : v5 < 100) => ?_)
  · replace k := k.1 c2
    exact R_vret dd_Rents_settle_97 rfl k
  · replace k := k.2 c2
    refine R_ld (v := .inr (.inr 96)) dd_Rents_settle_83 rfl rfl rfl rfl ?_
    refine R_ld (v := .inr (.inr q)) dd_Rents_settle_84 rfl rfl rfl rfl ?_
    refine R_ld (v := .inr (.inr 60)) dd_Rents_settle_85 rfl rfl rfl rfl ?_
    refine R_ld (v := .inl v5) dd_Rents_settle_86 rfl rfl rfl rfl ?_
    obtain ⟨c, hc, k⟩ := k
    exact R_call (as := [.inr (.inr 96), .inr (.inr q), .inr (.inr 60), .inl v5]) (rest := []) (M' := mm_Rents_takeRents) (ls0 := [some (.inr (.inr 96)), some (.inr (.inr q)), some (.inr (.inr 60)), some (.inl v5), none, none, none, none]) dd_Rents_settle_88 rfl rfl (cw_v cw_8_52 io_96 rfl rfl (Nat.le_of_ble_eq_true rfl) (Nat.le_of_ble_eq_true rfl)) mt_Rents_takeRents rfl hc rfl k
theorem B_Rents_settle_91 {xs : Nat → Int} {xl e : Nat} {h : LH} {Q : Option LV → LH → Prop} {v3 v4 v5 : Int} {q : Int} (hq : q = 5 ∨ q = 32) (hF : RF h) (r_v5 : 0 ≤ v5 ∧ v5 ≤ 99)
    (k : Rn xs xl e mm_Rents_settle 76 [some (.inr (.inr 96)), some (.inr (.inr q)), some (.inr (.inr 60)), some (.inl v3), some (.inl v4), some (.inl (v5 + 1))] [] h Q) :
    Rn xs xl e mm_Rents_settle 91 [some (.inr (.inr 96)), some (.inr (.inr q)), some (.inr (.inr 60)), some (.inl v3), some (.inl v4), some (.inl v5)] [] h Q := by
  refine R_inc (y := v5 + 1) (ls' := [some (.inr (.inr 96)), some (.inr (.inr q)), some (.inr (.inr 60)), some (.inl v3), some (.inl v4), some (.inl (v5 + 1))]) dd_Rents_settle_91 rfl (by decide) (by omega) (by omega) rfl rfl ?_
  refine R_goto dd_Rents_settle_94 rfl ?_
  exact k
theorem B_Rents_tryPrices_0 {xs : Nat → Int} {xl e : Nat} {h : LH} {Q : Option LV → LH → Prop} {v3 v4 : Int} {q : Int} (hq : q = 5 ∨ q = 32) (hF : RF h)
    (k : (24 ≤ (rd h 60 0) →
        Rn xs xl e mm_Rents_tryPrices 31 [some (.inr (.inr 96)), some (.inr (.inr q)), some (.inr (.inr 60)), some (.inl v3), some (.inl v4), some (.inl 0), some (.inl 0), none, none] [] h Q) ∧
      ((rd h 60 0) < 24 →
        ((zand (zshr (rd h 60 1) v4) 1) ≠ 0 →
          Rn xs xl e mm_Rents_tryPrices 31 [some (.inr (.inr 96)), some (.inr (.inr q)), some (.inr (.inr 60)), some (.inl v3), some (.inl v4), some (.inl 0), some (.inl 0), none, none] [] h Q) ∧
        ((zand (zshr (rd h 60 1) v4) 1) = 0 →
          Rn xs xl e mm_Rents_tryPrices 31 [some (.inr (.inr 96)), some (.inr (.inr q)), some (.inr (.inr 60)), some (.inl v3), some (.inl v4), some (.inl 1), some (.inl 0), none, none] [] h Q))) :
    Rn xs xl e mm_Rents_tryPrices 0 [some (.inr (.inr 96)), some (.inr (.inr q)), some (.inr (.inr 60)), some (.inl v3), some (.inl v4), none, none, none, none] [] h Q := by
  refine R_ld (v := .inr (.inr 60)) dd_Rents_tryPrices_0 rfl rfl rfl rfl ?_
  refine R_gf (v := .inl (rd h 60 0)) dd_Rents_tryPrices_1 fd_8_56 io_60 (congrArg (fun z : Int => (Sum.inl z : LV)) (rfl)) rfl ?_
  refine R_bi dd_Rents_tryPrices_4 (by decide) rfl ?_
  refine R_icmp dd_Rents_tryPrices_6 rfl rfl (fun (c1 : 24 ≤ (rd h 60 0)) => ?_) (fun (c1 : (rd h 60 0) < 24) => ?_)
  · replace k := k.1 c1
    refine R_ic dd_Rents_tryPrices_25 (by decide) rfl ?_
    refine R_st (ls' := [some (.inr (.inr 96)), some (.inr (.inr q)), some (.inr (.inr 60)), some (.inl v3), some (.inl v4), some (.inl 0), none, none, none]) dd_Rents_tryPrices_26 rfl rfl rfl (Nat.le_of_ble_eq_true rfl) rfl rfl ?_
    refine R_ic dd_Rents_tryPrices_28 (by decide) rfl ?_
    refine R_st (ls' := [some (.inr (.inr 96)), some (.inr (.inr q)), some (.inr (.inr 60)), some (.inl v3), some (.inl v4), some (.inl 0), some (.inl 0), none, none]) dd_Rents_tryPrices_29 rfl rfl rfl (Nat.le_of_ble_eq_true rfl) rfl rfl ?_
    exact k
  · replace k := k.2 c1
    refine R_ld (v := .inr (.inr 60)) dd_Rents_tryPrices_9 rfl rfl rfl rfl ?_
    refine R_gf (v := .inl (rd h 60 1)) dd_Rents_tryPrices_10 fd_8_61 io_60 (congrArg (fun z : Int => (Sum.inl z : LV)) (rfl)) rfl ?_
    refine R_ld (v := .inl v4) dd_Rents_tryPrices_13 rfl rfl rfl rfl ?_
    refine R_A dd_Rents_tryPrices_15 rfl rfl rfl rfl ?_
    refine R_ic dd_Rents_tryPrices_16 (by decide) rfl ?_
    refine R_A dd_Rents_tryPrices_17 rfl rfl rfl rfl ?_
    refine R_if dd_Rents_tryPrices_18 rfl rfl (fun (c2 : (zand (zshr (rd h 60 1) v4) 1) ≠ 0) => ?_) (fun (c2 : (zand (zshr (rd h 60 1) v4) 1) = 0) => ?_)
    · replace k := k.1 c2
      refine R_ic dd_Rents_tryPrices_25 (by decide) rfl ?_
      refine R_st (ls' := [some (.inr (.inr 96)), some (.inr (.inr q)), some (.inr (.inr 60)), some (.inl v3), some (.inl v4), some (.inl 0), none, none, none]) dd_Rents_tryPrices_26 rfl rfl rfl (Nat.le_of_ble_eq_true rfl) rfl rfl ?_
      refine R_ic dd_Rents_tryPrices_28 (by decide) rfl ?_
      refine R_st (ls' := [some (.inr (.inr 96)), some (.inr (.inr q)), some (.inr (.inr 60)), some (.inl v3), some (.inl v4), some (.inl 0), some (.inl 0), none, none]) dd_Rents_tryPrices_29 rfl rfl rfl (Nat.le_of_ble_eq_true rfl) rfl rfl ?_
      exact k
    · replace k := k.2 c2
      refine R_ic dd_Rents_tryPrices_21 (by decide) rfl ?_
      refine R_goto dd_Rents_tryPrices_22 rfl ?_
      refine R_st (ls' := [some (.inr (.inr 96)), some (.inr (.inr q)), some (.inr (.inr 60)), some (.inl v3), some (.inl v4), some (.inl 1), none, none, none]) dd_Rents_tryPrices_26 rfl rfl rfl (Nat.le_of_ble_eq_true rfl) rfl rfl ?_
      refine R_ic dd_Rents_tryPrices_28 (by decide) rfl ?_
      refine R_st (ls' := [some (.inr (.inr 96)), some (.inr (.inr q)), some (.inr (.inr 60)), some (.inl v3), some (.inl v4), some (.inl 1), some (.inl 0), none, none]) dd_Rents_tryPrices_29 rfl rfl rfl (Nat.le_of_ble_eq_true rfl) rfl rfl ?_
      exact k
theorem B_Rents_tryPrices_31 {xs : Nat → Int} {xl e : Nat} {h : LH} {Q : Option LV → LH → Prop} {v3 v4 v5 v6 : Int} {q : Int} (hq : q = 5 ∨ q = 32) {o7 : Option LV} {o8 : Option LV} (hF : RF h) (r_v6 : 0 ≤ v6 ∧ v6 ≤ 10)
    (k : (10 ≤ v6 →
        Q none h) ∧
      (v6 < 10 →
        Rn xs xl e mm_Rents_tryPrices 41 [some (.inr (.inr 96)), some (.inr (.inr q)), some (.inr (.inr 60)), some (.inl v3), some (.inl v4), some (.inl v5), some (.inl v6), some (.inl 0), o8] [] h Q)) :
    Rn xs xl e mm_Rents_tryPrices 31 [some (.inr (.inr 96)), some (.inr (.inr q)), some (.inr (.inr 60)), some (.inl v3), some (.inl v4), some (.inl v5), some (.inl v6), o7, o8] [] h Q := by
  refine R_ld (v := .inl v6) dd_Rents_tryPrices_31 rfl rfl rfl rfl ?_
  refine R_bi dd_Rents_tryPrices_33 (by decide) rfl ?_
  refine R_icmp dd_Rents_tryPrices_35 rfl rfl (fun (c1 : 10 ≤ v6) => ?_) (fun (c1 : v6 < 10) => ?_)
  · replace k := k.1 c1
    exact R_vret dd_Rents_tryPrices_104 rfl k
  · replace k := k.2 c1
    refine R_ic dd_Rents_tryPrices_38 (by decide) rfl ?_
    refine R_st (ls' := [some (.inr (.inr 96)), some (.inr (.inr q)), some (.inr (.inr 60)), some (.inl v3), some (.inl v4), some (.inl v5), some (.inl v6), some (.inl 0), o8]) dd_Rents_tryPrices_39 rfl rfl rfl (Nat.le_of_ble_eq_true rfl) rfl rfl ?_
    exact k
theorem B_Rents_tryPrices_41 {xs : Nat → Int} {xl e : Nat} {h : LH} {Q : Option LV → LH → Prop} {v3 v4 v5 v6 v7 : Int} {q : Int} (hq : q = 5 ∨ q = 32) {o8 : Option LV} (hF : RF h) (r_v6 : 0 ≤ v6 ∧ v6 ≤ 9) (r_v7 : 0 ≤ v7 ∧ v7 ≤ 4)
    (k : (4 ≤ v7 →
        Rn xs xl e mm_Rents_tryPrices 31 [some (.inr (.inr 96)), some (.inr (.inr q)), some (.inr (.inr 60)), some (.inl v3), some (.inl v4), some (.inl v5), some (.inl (v6 + 1)), some (.inl v7), o8] [] h Q) ∧
      (v7 < 4 →
        (v5 = 0 →
          Rn xs xl e mm_Rents_tryPrices 73 [some (.inr (.inr 96)), some (.inr (.inr q)), some (.inr (.inr 60)), some (.inl v3), some (.inl v4), some (.inl v5), some (.inl v6), some (.inl v7), some (.inl 0)] [] h Q) ∧
        (v5 ≠ 0 →
          (∃ c, c < e ∧ Rn xs xl c mm_Quarter_ways 0 [some (.inr (.inr q)), some (.inl v4), some (.inl v7), some (.inl (rd h 60 0)), some (.inl v6), some (.inl 0), none, none, none] [] h (fun r h' => Rn xs xl e mm_Rents_tryPrices 67 [some (.inr (.inr 96)), some (.inr (.inr q)), some (.inr (.inr 60)), some (.inl v3), some (.inl v4), some (.inl v5), some (.inl v6), some (.inl v7), o8] (r.toList ++ []) h' Q))))) :
    Rn xs xl e mm_Rents_tryPrices 41 [some (.inr (.inr 96)), some (.inr (.inr q)), some (.inr (.inr 60)), some (.inl v3), some (.inl v4), some (.inl v5), some (.inl v6), some (.inl v7), o8] [] h Q := by
  refine R_ld (v := .inl v7) dd_Rents_tryPrices_41 rfl rfl rfl rfl ?_
  refine R_ic dd_Rents_tryPrices_43 (by decide) rfl ?_
  refine R_icmp dd_Rents_tryPrices_44 rfl rfl (fun (c2 : 4 ≤ v7) => ?_) (fun (c2 : v7 < 4) => ?_)
  · replace k := k.1 c2
    refine R_inc (y := v6 + 1) (ls' := [some (.inr (.inr 96)), some (.inr (.inr q)), some (.inr (.inr 60)), some (.inl v3), some (.inl v4), some (.inl v5), some (.inl (v6 + 1)), some (.inl v7), o8]) dd_Rents_tryPrices_98 rfl (by decide) (by omega) (by omega) rfl rfl ?_
    refine R_goto dd_Rents_tryPrices_101 rfl ?_
    exact k
  · replace k := k.2 c2
    refine R_ld (v := .inl v5) dd_Rents_tryPrices_47 rfl rfl rfl rfl ?_
    refine R_if dd_Rents_tryPrices_49 rfl rfl (fun (c3 : v5 = 0) => ?_) (fun (c3 : v5 ≠ 0) => ?_)
    · replace k := k.1 c3
      refine R_ic dd_Rents_tryPrices_70 (by decide) rfl ?_
      refine R_st (ls' := [some (.inr (.inr 96)), some (.inr (.inr q)), some (.inr (.inr 60)), some (.inl v3), some (.inl v4), some (.inl v5), some (.inl v6), some (.inl v7), some (.inl 0)]) dd_Rents_tryPrices_71 rfl rfl rfl (Nat.le_of_ble_eq_true rfl) rfl rfl ?_
      exact k
    · replace k := k.2 c3
      refine R_ld (v := .inr (.inr q)) dd_Rents_tryPrices_52 rfl rfl rfl rfl ?_
      refine R_ld (v := .inl v4) dd_Rents_tryPrices_53 rfl rfl rfl rfl ?_
      refine R_ld (v := .inl v7) dd_Rents_tryPrices_55 rfl rfl rfl rfl ?_
      refine R_ld (v := .inr (.inr 60)) dd_Rents_tryPrices_57 rfl rfl rfl rfl ?_
      refine R_gf (v := .inl (rd h 60 0)) dd_Rents_tryPrices_58 fd_8_56 io_60 (congrArg (fun z : Int => (Sum.inl z : LV)) (rfl)) rfl ?_
      refine R_ld (v := .inl v6) dd_Rents_tryPrices_61 rfl rfl rfl rfl ?_
      refine R_ic dd_Rents_tryPrices_63 (by decide) rfl ?_
      obtain ⟨c, hc, k⟩ := k
      exact R_call (as := [.inr (.inr q), .inl v4, .inl v7, .inl (rd h 60 0), .inl v6, .inl 0]) (rest := []) (M' := mm_Quarter_ways) (ls0 := [some (.inr (.inr q)), some (.inl v4), some (.inl v7), some (.inl (rd h 60 0)), some (.inl v6), some (.inl 0), none, none, none]) dd_Rents_tryPrices_64 rfl rfl (cw_v cw_8_64 (io_q hq) rfl rfl (Nat.le_of_ble_eq_true rfl) (Nat.le_of_ble_eq_true rfl)) mt_Quarter_ways rfl hc rfl k
theorem B_Rents_tryPrices_67 {xs : Nat → Int} {xl e : Nat} {h : LH} {Q : Option LV → LH → Prop} {v3 v4 v5 v6 v7 w0 : Int} {q : Int} (hq : q = 5 ∨ q = 32) {o8 : Option LV} (hF : RF h) (r_v6 : 0 ≤ v6 ∧ v6 ≤ 9) (r_v7 : 0 ≤ v7 ∧ v7 ≤ 3)
    (k : Rn xs xl e mm_Rents_tryPrices 73 [some (.inr (.inr 96)), some (.inr (.inr q)), some (.inr (.inr 60)), some (.inl v3), some (.inl v4), some (.inl v5), some (.inl v6), some (.inl v7), some (.inl w0)] [] h Q) :
    Rn xs xl e mm_Rents_tryPrices 67 [some (.inr (.inr 96)), some (.inr (.inr q)), some (.inr (.inr 60)), some (.inl v3), some (.inl v4), some (.inl v5), some (.inl v6), some (.inl v7), o8] [.inl w0] h Q := by
  refine R_goto dd_Rents_tryPrices_67 rfl ?_
  refine R_st (ls' := [some (.inr (.inr 96)), some (.inr (.inr q)), some (.inr (.inr 60)), some (.inl v3), some (.inl v4), some (.inl v5), some (.inl v6), some (.inl v7), some (.inl w0)]) dd_Rents_tryPrices_71 rfl rfl rfl (Nat.le_of_ble_eq_true rfl) rfl rfl ?_
  exact k
theorem B_Rents_tryPrices_73 {xs : Nat → Int} {xl e : Nat} {h : LH} {Q : Option LV → LH → Prop} {v3 v4 v5 v6 v7 v8 : Int} {q : Int} (hq : q = 5 ∨ q = 32) (hF : RF h) (r_v3 : 0 ≤ v3 ∧ v3 ≤ 1) (r_v6 : 0 ≤ v6 ∧ v6 ≤ 9) (r_v7 : 0 ≤ v7 ∧ v7 ≤ 3)
    (k : Rn xs xl e mm_Rents_tryPrices 41 [some (.inr (.inr 96)), some (.inr (.inr q)), some (.inr (.inr 60)), some (.inl v3), some (.inl v4), some (.inl v5), some (.inl v6), some (.inl (v7 + 1)), some (.inl v8)] [] (wr h 99 (40 * v3 + 4 * v6 + v7) v8) Q) :
    Rn xs xl e mm_Rents_tryPrices 73 [some (.inr (.inr 96)), some (.inr (.inr q)), some (.inr (.inr 60)), some (.inl v3), some (.inl v4), some (.inl v5), some (.inl v6), some (.inl v7), some (.inl v8)] [] h Q := by
  refine R_ld (v := .inr (.inr 96)) dd_Rents_tryPrices_73 rfl rfl rfl rfl ?_
  refine R_gf (v := .inr (.inr 99)) dd_Rents_tryPrices_74 fd_8_18 io_96 (congrArg (fun z : Int => (Sum.inr (Sum.inr z) : LV)) (rf_96_4 hF)) rfl ?_
  refine R_ld (v := .inl v3) dd_Rents_tryPrices_77 rfl rfl rfl rfl ?_
  refine R_bi dd_Rents_tryPrices_78 (by decide) rfl ?_
  refine R_imul (c := 10 * v3) dd_Rents_tryPrices_80 (by omega) (by omega) rfl ?_
  refine R_ld (v := .inl v6) dd_Rents_tryPrices_81 rfl rfl rfl rfl ?_
  refine R_iadd (c := 10 * v3 + v6) dd_Rents_tryPrices_83 (by omega) (by omega) rfl ?_
  refine R_ic dd_Rents_tryPrices_84 (by decide) rfl ?_
  refine R_imul (c := 40 * v3 + 4 * v6) dd_Rents_tryPrices_85 (by omega) (by omega) rfl ?_
  refine R_ld (v := .inl v7) dd_Rents_tryPrices_86 rfl rfl rfl rfl ?_
  refine R_iadd (c := 40 * v3 + 4 * v6 + v7) dd_Rents_tryPrices_88 (by omega) (by omega) rfl ?_
  refine R_ld (v := .inl v8) dd_Rents_tryPrices_89 rfl rfl rfl rfl ?_
  refine R_iast (n := 80) dd_Rents_tryPrices_91 ia_99 la_99 (by omega) rfl ?_
  refine R_inc (y := v7 + 1) (ls' := [some (.inr (.inr 96)), some (.inr (.inr q)), some (.inr (.inr 60)), some (.inl v3), some (.inl v4), some (.inl v5), some (.inl v6), some (.inl (v7 + 1)), some (.inl v8)]) dd_Rents_tryPrices_92 rfl (by decide) (by omega) (by omega) rfl rfl ?_
  refine R_goto dd_Rents_tryPrices_95 rfl ?_
  exact k
theorem B_Rents_takeRents_0 {xs : Nat → Int} {xl e : Nat} {h : LH} {Q : Option LV → LH → Prop} {v3 : Int} {q : Int} (hq : q = 5 ∨ q = 32) (hF : RF h) (r_v3 : 0 ≤ v3 ∧ v3 ≤ 99)
    (k : (-2147483648 ≤ 64 * (v3 / 10) ∧ 64 * (v3 / 10) ≤ 2147483647) ∧
      (-2147483648 ≤ 64 * (v3 / 10) + 1 ∧ 64 * (v3 / 10) + 1 ≤ 2147483647) ∧
      (0 ≤ (rd h 96 0) ∧ (rd h 96 0) < 14) ∧
      (-2147483648 ≤ 64 * (v3 % 10) ∧ 64 * (v3 % 10) ≤ 2147483647) ∧
      (-2147483648 ≤ 64 * (v3 % 10) + 1 ∧ 64 * (v3 % 10) + 1 ≤ 2147483647) ∧
      (0 ≤ (rd h 96 1) ∧ (rd h 96 1) < 14) ∧
      Rn xs xl e mm_Rents_takeRents 61 [some (.inr (.inr 96)), some (.inr (.inr q)), some (.inr (.inr 60)), some (.inl v3), some (.inl (v3 / 10)), some (.inl (v3 % 10)), some (.inl 0), none] [] (wr (wr (wr (wr h 98 (rd h 96 0) (64 * (v3 / 10) + 1)) 98 (rd h 96 1) (64 * (v3 % 10) + 1)) 100 v3 0) 101 v3 0) Q) :
    Rn xs xl e mm_Rents_takeRents 0 [some (.inr (.inr 96)), some (.inr (.inr q)), some (.inr (.inr 60)), some (.inl v3), none, none, none, none] [] h Q := by
  refine R_ld (v := .inl v3) dd_Rents_takeRents_0 rfl rfl rfl rfl ?_
  refine R_bi dd_Rents_takeRents_1 (by decide) rfl ?_
  refine R_idiv dd_Rents_takeRents_3 (by omega) (by decide) rfl ?_
  refine R_st (ls' := [some (.inr (.inr 96)), some (.inr (.inr q)), some (.inr (.inr 60)), some (.inl v3), some (.inl (v3 / 10)), none, none, none]) dd_Rents_takeRents_4 rfl rfl rfl (Nat.le_of_ble_eq_true rfl) rfl rfl ?_
  refine R_ld (v := .inl v3) dd_Rents_takeRents_6 rfl rfl rfl rfl ?_
  refine R_bi dd_Rents_takeRents_7 (by decide) rfl ?_
  refine R_irem dd_Rents_takeRents_9 (by omega) (by decide) rfl ?_
  refine R_st (ls' := [some (.inr (.inr 96)), some (.inr (.inr q)), some (.inr (.inr 60)), some (.inl v3), some (.inl (v3 / 10)), some (.inl (v3 % 10)), none, none]) dd_Rents_takeRents_10 rfl rfl rfl (Nat.le_of_ble_eq_true rfl) rfl rfl ?_
  refine R_ld (v := .inr (.inr 96)) dd_Rents_takeRents_12 rfl rfl rfl rfl ?_
  refine R_gf (v := .inr (.inr 98)) dd_Rents_takeRents_13 fd_8_15 io_96 (congrArg (fun z : Int => (Sum.inr (Sum.inr z) : LV)) (rf_96_3 hF)) rfl ?_
  refine R_ld (v := .inr (.inr 96)) dd_Rents_takeRents_16 rfl rfl rfl rfl ?_
  refine R_gf (v := .inl (rd h 96 0)) dd_Rents_takeRents_17 fd_8_27 io_96 (congrArg (fun z : Int => (Sum.inl z : LV)) (rfl)) rfl ?_
  refine R_ld (v := .inl (v3 / 10)) dd_Rents_takeRents_20 rfl rfl rfl rfl ?_
  refine R_bi dd_Rents_takeRents_22 (by decide) rfl ?_
  obtain ⟨s1, k⟩ := k
  refine R_imul (c := 64 * (v3 / 10)) dd_Rents_takeRents_24 (by omega) s1 rfl ?_
  refine R_ic dd_Rents_takeRents_25 (by decide) rfl ?_
  obtain ⟨s2, k⟩ := k
  refine R_iadd (c := 64 * (v3 / 10) + 1) dd_Rents_takeRents_26 (by omega) s2 rfl ?_
  obtain ⟨s3, k⟩ := k
  refine R_iast (n := 14) dd_Rents_takeRents_27 ia_98 la_98 s3 rfl ?_
  refine R_ld (v := .inr (.inr 96)) dd_Rents_takeRents_28 rfl rfl rfl rfl ?_
  refine R_gf (v := .inr (.inr 98)) dd_Rents_takeRents_29 fd_8_15 io_96 (congrArg (fun z : Int => (Sum.inr (Sum.inr z) : LV)) ((rdw_ne (by decide)).trans (rf_96_3 hF))) rfl ?_
  refine R_ld (v := .inr (.inr 96)) dd_Rents_takeRents_32 rfl rfl rfl rfl ?_
  refine R_gf (v := .inl (rd h 96 1)) dd_Rents_takeRents_33 fd_8_31 io_96 (congrArg (fun z : Int => (Sum.inl z : LV)) (rdw_ne (by decide))) rfl ?_
  refine R_ld (v := .inl (v3 % 10)) dd_Rents_takeRents_36 rfl rfl rfl rfl ?_
  refine R_bi dd_Rents_takeRents_38 (by decide) rfl ?_
  obtain ⟨s4, k⟩ := k
  refine R_imul (c := 64 * (v3 % 10)) dd_Rents_takeRents_40 (by omega) s4 rfl ?_
  refine R_ic dd_Rents_takeRents_41 (by decide) rfl ?_
  obtain ⟨s5, k⟩ := k
  refine R_iadd (c := 64 * (v3 % 10) + 1) dd_Rents_takeRents_42 (by omega) s5 rfl ?_
  obtain ⟨s6, k⟩ := k
  refine R_iast (n := 14) dd_Rents_takeRents_43 ia_98 la_98 s6 rfl ?_
  refine R_ld (v := .inr (.inr 96)) dd_Rents_takeRents_44 rfl rfl rfl rfl ?_
  refine R_gf (v := .inr (.inr 100)) dd_Rents_takeRents_45 fd_8_21 io_96 (congrArg (fun z : Int => (Sum.inr (Sum.inr z) : LV)) ((rdw_ne (by decide)).trans ((rdw_ne (by decide)).trans (rf_96_5 hF)))) rfl ?_
  refine R_ld (v := .inl v3) dd_Rents_takeRents_48 rfl rfl rfl rfl ?_
  refine R_ic dd_Rents_takeRents_49 (by decide) rfl ?_
  refine R_iast (n := 100) dd_Rents_takeRents_50 ia_100 la_100 (by omega) rfl ?_
  refine R_ld (v := .inr (.inr 96)) dd_Rents_takeRents_51 rfl rfl rfl rfl ?_
  refine R_gf (v := .inr (.inr 101)) dd_Rents_takeRents_52 fd_8_24 io_96 (congrArg (fun z : Int => (Sum.inr (Sum.inr z) : LV)) ((rdw_ne (by decide)).trans ((rdw_ne (by decide)).trans ((rdw_ne (by decide)).trans (rf_96_6 hF))))) rfl ?_
  refine R_ld (v := .inl v3) dd_Rents_takeRents_55 rfl rfl rfl rfl ?_
  refine R_ic dd_Rents_takeRents_56 (by decide) rfl ?_
  refine R_iast (n := 100) dd_Rents_takeRents_57 ia_101 la_101 (by omega) rfl ?_
  refine R_ic dd_Rents_takeRents_58 (by decide) rfl ?_
  refine R_st (ls' := [some (.inr (.inr 96)), some (.inr (.inr q)), some (.inr (.inr 60)), some (.inl v3), some (.inl (v3 / 10)), some (.inl (v3 % 10)), some (.inl 0), none]) dd_Rents_takeRents_59 rfl rfl rfl (Nat.le_of_ble_eq_true rfl) rfl rfl ?_
  exact k
theorem B_Rents_takeRents_61 {xs : Nat → Int} {xl e : Nat} {h : LH} {Q : Option LV → LH → Prop} {v3 v4 v5 v6 : Int} {q : Int} (hq : q = 5 ∨ q = 32) {o7 : Option LV} (hF : RF h) (r_v3 : 0 ≤ v3 ∧ v3 ≤ 99) (r_v6 : 0 ≤ v6 ∧ v6 ≤ 6)
    (k : ((rd h q 4) ≤ v6 →
        Q none h) ∧
      (v6 < (rd h q 4) →
        (∃ c, c < e ∧ Rn xs xl c mm_Rents_doorsOf 0 [some (.inr (.inr 96)), some (.inr (.inr q)), some (.inr (.inr 60)), some (.inl v6), some (.inl v3), none, none, none] [] h (fun r h' => Rn xs xl e mm_Rents_takeRents 79 [some (.inr (.inr 96)), some (.inr (.inr q)), some (.inr (.inr 60)), some (.inl v3), some (.inl v4), some (.inl v5), some (.inl v6), o7] (r.toList ++ []) h' Q)))) :
    Rn xs xl e mm_Rents_takeRents 61 [some (.inr (.inr 96)), some (.inr (.inr q)), some (.inr (.inr 60)), some (.inl v3), some (.inl v4), some (.inl v5), some (.inl v6), o7] [] h Q := by
  refine R_ld (v := .inl v6) dd_Rents_takeRents_61 rfl rfl rfl rfl ?_
  refine R_ld (v := .inr (.inr q)) dd_Rents_takeRents_63 rfl rfl rfl rfl ?_
  refine R_gf (v := .inl (rd h q 4)) dd_Rents_takeRents_64 fd_8_68 (io_q hq) (congrArg (fun z : Int => (Sum.inl z : LV)) (rfl)) rfl ?_
  refine R_icmp dd_Rents_takeRents_67 rfl rfl (fun (c2 : (rd h q 4) ≤ v6) => ?_) (fun (c2 : v6 < (rd h q 4)) => ?_)
  · replace k := k.1 c2
    exact R_vret dd_Rents_takeRents_129 rfl k
  · replace k := k.2 c2
    refine R_ld (v := .inr (.inr 96)) dd_Rents_takeRents_70 rfl rfl rfl rfl ?_
    refine R_ld (v := .inr (.inr q)) dd_Rents_takeRents_71 rfl rfl rfl rfl ?_
    refine R_ld (v := .inr (.inr 60)) dd_Rents_takeRents_72 rfl rfl rfl rfl ?_
    refine R_ld (v := .inl v6) dd_Rents_takeRents_73 rfl rfl rfl rfl ?_
    refine R_ld (v := .inl v3) dd_Rents_takeRents_75 rfl rfl rfl rfl ?_
    obtain ⟨c, hc, k⟩ := k
    exact R_call (as := [.inr (.inr 96), .inr (.inr q), .inr (.inr 60), .inl v6, .inl v3]) (rest := []) (M' := mm_Rents_doorsOf) (ls0 := [some (.inr (.inr 96)), some (.inr (.inr q)), some (.inr (.inr 60)), some (.inl v6), some (.inl v3), none, none, none]) dd_Rents_takeRents_76 rfl rfl (cw_v cw_8_71 io_96 rfl rfl (Nat.le_of_ble_eq_true rfl) (Nat.le_of_ble_eq_true rfl)) mt_Rents_doorsOf rfl hc rfl k
theorem B_Rents_takeRents_79 {xs : Nat → Int} {xl e : Nat} {h : LH} {Q : Option LV → LH → Prop} {v3 v4 v5 v6 w0 : Int} {q : Int} (hq : q = 5 ∨ q = 32) {o7 : Option LV} (hF : RF h) (r_v3 : 0 ≤ v3 ∧ v3 ≤ 99) (r_v6 : 0 ≤ v6 ∧ v6 ≤ 5)
    (k : (-2147483648 ≤ ((zand (zshr w0 (rd h 96 0)) 1) * v4) ∧ ((zand (zshr w0 (rd h 96 0)) 1) * v4) ≤ 2147483647) ∧
      (-2147483648 ≤ (rd h 100 v3) + ((zand (zshr w0 (rd h 96 0)) 1) * v4) ∧ (rd h 100 v3) + ((zand (zshr w0 (rd h 96 0)) 1) * v4) ≤ 2147483647) ∧
      (-2147483648 ≤ ((zand (zshr w0 (rd h 96 1)) 1) * v5) ∧ ((zand (zshr w0 (rd h 96 1)) 1) * v5) ≤ 2147483647) ∧
      (-2147483648 ≤ (rd h 101 v3) + ((zand (zshr w0 (rd h 96 1)) 1) * v5) ∧ (rd h 101 v3) + ((zand (zshr w0 (rd h 96 1)) 1) * v5) ≤ 2147483647) ∧
      Rn xs xl e mm_Rents_takeRents 61 [some (.inr (.inr 96)), some (.inr (.inr q)), some (.inr (.inr 60)), some (.inl v3), some (.inl v4), some (.inl v5), some (.inl (v6 + 1)), some (.inl w0)] [] (wr (wr h 100 v3 ((rd h 100 v3) + ((zand (zshr w0 (rd h 96 0)) 1) * v4))) 101 v3 ((rd h 101 v3) + ((zand (zshr w0 (rd h 96 1)) 1) * v5))) Q) :
    Rn xs xl e mm_Rents_takeRents 79 [some (.inr (.inr 96)), some (.inr (.inr q)), some (.inr (.inr 60)), some (.inl v3), some (.inl v4), some (.inl v5), some (.inl v6), o7] [.inl w0] h Q := by
  refine R_st (ls' := [some (.inr (.inr 96)), some (.inr (.inr q)), some (.inr (.inr 60)), some (.inl v3), some (.inl v4), some (.inl v5), some (.inl v6), some (.inl w0)]) dd_Rents_takeRents_79 rfl rfl rfl (Nat.le_of_ble_eq_true rfl) rfl rfl ?_
  refine R_ld (v := .inr (.inr 96)) dd_Rents_takeRents_81 rfl rfl rfl rfl ?_
  refine R_gf (v := .inr (.inr 100)) dd_Rents_takeRents_82 fd_8_21 io_96 (congrArg (fun z : Int => (Sum.inr (Sum.inr z) : LV)) (rf_96_5 hF)) rfl ?_
  refine R_ld (v := .inl v3) dd_Rents_takeRents_85 rfl rfl rfl rfl ?_
  refine R_A dd_Rents_takeRents_86 rfl rfl rfl rfl ?_
  refine R_iald (v := (rd h 100 v3)) (n := 100) dd_Rents_takeRents_87 ia_100 la_100 (by omega) (rfl) rfl ?_
  refine R_ld (v := .inl w0) dd_Rents_takeRents_88 rfl rfl rfl rfl ?_
  refine R_ld (v := .inr (.inr 96)) dd_Rents_takeRents_90 rfl rfl rfl rfl ?_
  refine R_gf (v := .inl (rd h 96 0)) dd_Rents_takeRents_91 fd_8_27 io_96 (congrArg (fun z : Int => (Sum.inl z : LV)) (rfl)) rfl ?_
  refine R_A dd_Rents_takeRents_94 rfl rfl rfl rfl ?_
  refine R_ic dd_Rents_takeRents_95 (by decide) rfl ?_
  refine R_A dd_Rents_takeRents_96 rfl rfl rfl rfl ?_
  refine R_ld (v := .inl v4) dd_Rents_takeRents_97 rfl rfl rfl rfl ?_
  obtain ⟨s1, k⟩ := k
  refine R_imul (c := ((zand (zshr w0 (rd h 96 0)) 1) * v4)) dd_Rents_takeRents_99 rfl s1 rfl ?_
  obtain ⟨s2, k⟩ := k
  refine R_iadd (c := (rd h 100 v3) + ((zand (zshr w0 (rd h 96 0)) 1) * v4)) dd_Rents_takeRents_100 (by omega) s2 rfl ?_
  refine R_iast (n := 100) dd_Rents_takeRents_101 ia_100 la_100 (by omega) rfl ?_
  refine R_ld (v := .inr (.inr 96)) dd_Rents_takeRents_102 rfl rfl rfl rfl ?_
  refine R_gf (v := .inr (.inr 101)) dd_Rents_takeRents_103 fd_8_24 io_96 (congrArg (fun z : Int => (Sum.inr (Sum.inr z) : LV)) ((rdw_ne (by decide)).trans (rf_96_6 hF))) rfl ?_
  refine R_ld (v := .inl v3) dd_Rents_takeRents_106 rfl rfl rfl rfl ?_
  refine R_A dd_Rents_takeRents_107 rfl rfl rfl rfl ?_
  refine R_iald (v := (rd h 101 v3)) (n := 100) dd_Rents_takeRents_108 ia_101 la_101 (by omega) (rdw_ne (by decide)) rfl ?_
  refine R_ld (v := .inl w0) dd_Rents_takeRents_109 rfl rfl rfl rfl ?_
  refine R_ld (v := .inr (.inr 96)) dd_Rents_takeRents_111 rfl rfl rfl rfl ?_
  refine R_gf (v := .inl (rd h 96 1)) dd_Rents_takeRents_112 fd_8_31 io_96 (congrArg (fun z : Int => (Sum.inl z : LV)) (rdw_ne (by decide))) rfl ?_
  refine R_A dd_Rents_takeRents_115 rfl rfl rfl rfl ?_
  refine R_ic dd_Rents_takeRents_116 (by decide) rfl ?_
  refine R_A dd_Rents_takeRents_117 rfl rfl rfl rfl ?_
  refine R_ld (v := .inl v5) dd_Rents_takeRents_118 rfl rfl rfl rfl ?_
  obtain ⟨s3, k⟩ := k
  refine R_imul (c := ((zand (zshr w0 (rd h 96 1)) 1) * v5)) dd_Rents_takeRents_120 rfl s3 rfl ?_
  obtain ⟨s4, k⟩ := k
  refine R_iadd (c := (rd h 101 v3) + ((zand (zshr w0 (rd h 96 1)) 1) * v5)) dd_Rents_takeRents_121 (by omega) s4 rfl ?_
  refine R_iast (n := 100) dd_Rents_takeRents_122 ia_101 la_101 (by omega) rfl ?_
  refine R_inc (y := v6 + 1) (ls' := [some (.inr (.inr 96)), some (.inr (.inr q)), some (.inr (.inr 60)), some (.inl v3), some (.inl v4), some (.inl v5), some (.inl (v6 + 1)), some (.inl w0)]) dd_Rents_takeRents_123 rfl (by decide) (by omega) (by omega) rfl rfl ?_
  refine R_goto dd_Rents_takeRents_126 rfl ?_
  exact k
theorem B_Rents_doorsOf_0 {xs : Nat → Int} {xl e : Nat} {h : LH} {Q : Option LV → LH → Prop} {v3 v4 : Int} {q : Int} (hq : q = 5 ∨ q = 32) (hF : RF h) (hP : PT h) (r_v3 : 0 ≤ v3 ∧ v3 ≤ 5) (he : 1 ≤ e)
    (k : (24 ≤ (rd h 60 0) →
        (∃ c, c < e ∧ Rn xs xl c mm_Rents_withHinges 0 [some (.inr (.inr 96)), some (.inl 0), some (.inl v4), some (.inl (rd h (q + 21 + v3) 1)), some (.inl 1), none, none, none] [] h (fun r h' => Rn xs xl e mm_Rents_doorsOf 60 [some (.inr (.inr 96)), some (.inr (.inr q)), some (.inr (.inr 60)), some (.inl v3), some (.inl v4), some (.inr (.inr (q + 21 + v3))), some (.inl 0), some (.inl 0)] (r.toList ++ []) h' Q))) ∧
      ((rd h 60 0) < 24 →
        (-2147483648 ≤ 24 * (rd h (q + 21 + v3) 1) ∧ 24 * (rd h (q + 21 + v3) 1) ≤ 2147483647) ∧
        (-2147483648 ≤ 24 * (rd h (q + 21 + v3) 1) + (rd h 60 0) ∧ 24 * (rd h (q + 21 + v3) 1) + (rd h 60 0) ≤ 2147483647) ∧
        (0 ≤ 24 * (rd h (q + 21 + v3) 1) + (rd h 60 0) ∧ 24 * (rd h (q + 21 + v3) 1) + (rd h 60 0) < 96) ∧
        (-2147483648 ≤ 24 * (rd h (q + 21 + v3) 1) ∧ 24 * (rd h (q + 21 + v3) 1) ≤ 2147483647) ∧
        (-2147483648 ≤ 24 * (rd h (q + 21 + v3) 1) + (rd h 60 0) ∧ 24 * (rd h (q + 21 + v3) 1) + (rd h 60 0) ≤ 2147483647) ∧
        (0 ≤ 24 * (rd h (q + 21 + v3) 1) + (rd h 60 0) ∧ 24 * (rd h (q + 21 + v3) 1) + (rd h 60 0) < 96) ∧
        (∃ c, c < e ∧ Rn xs xl c mm_Rents_withHinges 0 [some (.inr (.inr 96)), some (.inl (zand (rd h (q + 5) (24 * (rd h (q + 21 + v3) 1) + (rd h 60 0))) (zxor (rd h 60 1) (-1)))), some (.inl v4), some (.inl (rd h (q + 21 + v3) 1)), some (.inl 1), none, none, none] [] h (fun r h' => Rn xs xl e mm_Rents_doorsOf 60 [some (.inr (.inr 96)), some (.inr (.inr q)), some (.inr (.inr 60)), some (.inl v3), some (.inl v4), some (.inr (.inr (q + 21 + v3))), some (.inl (zand (rd h (q + 5) (24 * (rd h (q + 21 + v3) 1) + (rd h 60 0))) (zxor (rd h 60 1) (-1)))), some (.inl (zand (rd h (q + 6) (24 * (rd h (q + 21 + v3) 1) + (rd h 60 0))) (zxor (rd h 60 1) (-1))))] (r.toList ++ []) h' Q)))) :
    Rn xs xl e mm_Rents_doorsOf 0 [some (.inr (.inr 96)), some (.inr (.inr q)), some (.inr (.inr 60)), some (.inl v3), some (.inl v4), none, none, none] [] h Q := by
  refine R_ld (v := .inr (.inr q)) dd_Rents_doorsOf_0 rfl rfl rfl rfl ?_
  refine R_gf (v := .inr (.inr (q + 2))) dd_Rents_doorsOf_1 fd_8_75 (io_q hq) (congrArg (fun z : Int => (Sum.inr (Sum.inr z) : LV)) (rq_ppl hF hq)) rfl ?_
  refine R_ld (v := .inl v3) dd_Rents_doorsOf_4 rfl rfl rfl rfl ?_
  refine R_aald (v := (q + 21 + v3)) (n := 6) dd_Rents_doorsOf_5 (ia_pq hq) (la_pq hq) (by omega) (rq_p hP hq (by omega)) rfl ?_
  refine R_st (ls' := [some (.inr (.inr 96)), some (.inr (.inr q)), some (.inr (.inr 60)), some (.inl v3), some (.inl v4), some (.inr (.inr (q + 21 + v3))), none, none]) dd_Rents_doorsOf_6 rfl rfl rfl (Nat.le_of_ble_eq_true rfl) rfl rfl ?_
  refine R_ld (v := .inr (.inr q)) dd_Rents_doorsOf_8 rfl rfl rfl rfl ?_
  refine R_ld (v := .inr (.inr (q + 21 + v3))) dd_Rents_doorsOf_9 rfl rfl rfl rfl ?_
  refine R_gf (v := .inl (rd h (q + 21 + v3) 1)) dd_Rents_doorsOf_11 fd_8_79 (io_p hq (by omega)) (congrArg (fun z : Int => (Sum.inl z : LV)) (rfl)) rfl ?_
  refine R_ld (v := .inr (.inr 60)) dd_Rents_doorsOf_14 rfl rfl rfl rfl ?_
  refine R_gf (v := .inl (rd h 60 0)) dd_Rents_doorsOf_15 fd_8_56 io_60 (congrArg (fun z : Int => (Sum.inl z : LV)) (rfl)) rfl ?_
  refine R_ld (v := .inr (.inr 60)) dd_Rents_doorsOf_18 rfl rfl rfl rfl ?_
  refine R_gf (v := .inl (rd h 60 1)) dd_Rents_doorsOf_19 fd_8_61 io_60 (congrArg (fun z : Int => (Sum.inl z : LV)) (rfl)) rfl ?_
  refine R_call (as := [.inr (.inr q), .inl (rd h (q + 21 + v3) 1), .inl (rd h 60 0), .inl (rd h 60 1)]) (rest := []) (M' := mm_Quarter_aheadIn) (ls0 := [some (.inr (.inr q)), some (.inl (rd h (q + 21 + v3) 1)), some (.inl (rd h 60 0)), some (.inl (rd h 60 1))]) dd_Rents_doorsOf_22 rfl rfl (cw_v cw_8_84 (io_q hq) rfl rfl (Nat.le_of_ble_eq_true rfl) (Nat.le_of_ble_eq_true rfl)) mt_Quarter_aheadIn rfl (c := e - 1) (by omega) rfl ?_
  refine R_ld (v := .inl (rd h 60 0)) dd_Quarter_aheadIn_0 rfl rfl rfl rfl ?_
  refine R_bi dd_Quarter_aheadIn_1 (by decide) rfl ?_
  refine R_icmp dd_Quarter_aheadIn_3 rfl rfl (fun (c9 : 24 ≤ (rd h 60 0)) => ?_) (fun (c9 : (rd h 60 0) < 24) => ?_)
  · replace k := k.1 c9
    refine R_ic dd_Quarter_aheadIn_24 (by decide) rfl ?_
    refine R_iret dd_Quarter_aheadIn_25 rfl ?_
    change Rn xs xl e mm_Rents_doorsOf 25 [some (.inr (.inr 96)), some (.inr (.inr q)), some (.inr (.inr 60)), some (.inl v3), some (.inl v4), some (.inr (.inr (q + 21 + v3))), none, none] [.inl 0] h _
    refine R_st (ls' := [some (.inr (.inr 96)), some (.inr (.inr q)), some (.inr (.inr 60)), some (.inl v3), some (.inl v4), some (.inr (.inr (q + 21 + v3))), some (.inl 0), none]) dd_Rents_doorsOf_25 rfl rfl rfl (Nat.le_of_ble_eq_true rfl) rfl rfl ?_
    refine R_ld (v := .inr (.inr q)) dd_Rents_doorsOf_27 rfl rfl rfl rfl ?_
    refine R_ld (v := .inr (.inr (q + 21 + v3))) dd_Rents_doorsOf_28 rfl rfl rfl rfl ?_
    refine R_gf (v := .inl (rd h (q + 21 + v3) 1)) dd_Rents_doorsOf_30 fd_8_79 (io_p hq (by omega)) (congrArg (fun z : Int => (Sum.inl z : LV)) (rfl)) rfl ?_
    refine R_ld (v := .inr (.inr 60)) dd_Rents_doorsOf_33 rfl rfl rfl rfl ?_
    refine R_gf (v := .inl (rd h 60 0)) dd_Rents_doorsOf_34 fd_8_56 io_60 (congrArg (fun z : Int => (Sum.inl z : LV)) (rfl)) rfl ?_
    refine R_ld (v := .inr (.inr 60)) dd_Rents_doorsOf_37 rfl rfl rfl rfl ?_
    refine R_gf (v := .inl (rd h 60 1)) dd_Rents_doorsOf_38 fd_8_61 io_60 (congrArg (fun z : Int => (Sum.inl z : LV)) (rfl)) rfl ?_
    refine R_call (as := [.inr (.inr q), .inl (rd h (q + 21 + v3) 1), .inl (rd h 60 0), .inl (rd h 60 1)]) (rest := []) (M' := mm_Quarter_backIn) (ls0 := [some (.inr (.inr q)), some (.inl (rd h (q + 21 + v3) 1)), some (.inl (rd h 60 0)), some (.inl (rd h 60 1))]) dd_Rents_doorsOf_41 rfl rfl (cw_v cw_8_88 (io_q hq) rfl rfl (Nat.le_of_ble_eq_true rfl) (Nat.le_of_ble_eq_true rfl)) mt_Quarter_backIn rfl (c := e - 1) (by omega) rfl ?_
    refine R_ld (v := .inl (rd h 60 0)) dd_Quarter_backIn_0 rfl rfl rfl rfl ?_
    refine R_bi dd_Quarter_backIn_1 (by decide) rfl ?_
    refine R_icmp dd_Quarter_backIn_3 rfl rfl (fun (c10 : 24 ≤ (rd h 60 0)) => ?_) (fun (c10 : (rd h 60 0) < 24) => ?_)
    · skip
      refine R_ic dd_Quarter_backIn_24 (by decide) rfl ?_
      refine R_iret dd_Quarter_backIn_25 rfl ?_
      change Rn xs xl e mm_Rents_doorsOf 44 [some (.inr (.inr 96)), some (.inr (.inr q)), some (.inr (.inr 60)), some (.inl v3), some (.inl v4), some (.inr (.inr (q + 21 + v3))), some (.inl 0), none] [.inl 0] h _
      refine R_st (ls' := [some (.inr (.inr 96)), some (.inr (.inr q)), some (.inr (.inr 60)), some (.inl v3), some (.inl v4), some (.inr (.inr (q + 21 + v3))), some (.inl 0), some (.inl 0)]) dd_Rents_doorsOf_44 rfl rfl rfl (Nat.le_of_ble_eq_true rfl) rfl rfl ?_
      refine R_ld (v := .inr (.inr 96)) dd_Rents_doorsOf_46 rfl rfl rfl rfl ?_
      refine R_ld (v := .inl 0) dd_Rents_doorsOf_47 rfl rfl rfl rfl ?_
      refine R_ld (v := .inl v4) dd_Rents_doorsOf_49 rfl rfl rfl rfl ?_
      refine R_ld (v := .inr (.inr (q + 21 + v3))) dd_Rents_doorsOf_51 rfl rfl rfl rfl ?_
      refine R_gf (v := .inl (rd h (q + 21 + v3) 1)) dd_Rents_doorsOf_53 fd_8_79 (io_p hq (by omega)) (congrArg (fun z : Int => (Sum.inl z : LV)) (rfl)) rfl ?_
      refine R_ic dd_Rents_doorsOf_56 (by decide) rfl ?_
      obtain ⟨c, hc, k⟩ := k
      exact R_call (as := [.inr (.inr 96), .inl 0, .inl v4, .inl (rd h (q + 21 + v3) 1), .inl 1]) (rest := []) (M' := mm_Rents_withHinges) (ls0 := [some (.inr (.inr 96)), some (.inl 0), some (.inl v4), some (.inl (rd h (q + 21 + v3) 1)), some (.inl 1), none, none, none]) dd_Rents_doorsOf_57 rfl rfl (cw_v cw_8_91 io_96 rfl rfl (Nat.le_of_ble_eq_true rfl) (Nat.le_of_ble_eq_true rfl)) mt_Rents_withHinges rfl hc rfl k
    · exact absurd c10 (by omega)
  · replace k := k.2 c9
    refine R_ld (v := .inr (.inr q)) dd_Quarter_aheadIn_6 rfl rfl rfl rfl ?_
    refine R_gf (v := .inr (.inr (q + 5))) dd_Quarter_aheadIn_7 fd_6_34 (io_q hq) (congrArg (fun z : Int => (Sum.inr (Sum.inr z) : LV)) (rq_ahd hF hq)) rfl ?_
    refine R_ld (v := .inl (rd h (q + 21 + v3) 1)) dd_Quarter_aheadIn_10 rfl rfl rfl rfl ?_
    refine R_bi dd_Quarter_aheadIn_11 (by decide) rfl ?_
    obtain ⟨s2, k⟩ := k
    refine R_imul (c := 24 * (rd h (q + 21 + v3) 1)) dd_Quarter_aheadIn_13 (by omega) s2 rfl ?_
    refine R_ld (v := .inl (rd h 60 0)) dd_Quarter_aheadIn_14 rfl rfl rfl rfl ?_
    obtain ⟨s3, k⟩ := k
    refine R_iadd (c := 24 * (rd h (q + 21 + v3) 1) + (rd h 60 0)) dd_Quarter_aheadIn_15 (by omega) s3 rfl ?_
    obtain ⟨s4, k⟩ := k
    refine R_iald (v := (rd h (q + 5) (24 * (rd h (q + 21 + v3) 1) + (rd h 60 0)))) (n := 96) dd_Quarter_aheadIn_16 (ia_aq hq) (la_aq hq) s4 (rfl) rfl ?_
    refine R_ld (v := .inl (rd h 60 1)) dd_Quarter_aheadIn_17 rfl rfl rfl rfl ?_
    refine R_ic dd_Quarter_aheadIn_18 (by decide) rfl ?_
    refine R_A dd_Quarter_aheadIn_19 rfl rfl rfl rfl ?_
    refine R_A dd_Quarter_aheadIn_20 rfl rfl rfl rfl ?_
    refine R_goto dd_Quarter_aheadIn_21 rfl ?_
    refine R_iret dd_Quarter_aheadIn_25 rfl ?_
    change Rn xs xl e mm_Rents_doorsOf 25 [some (.inr (.inr 96)), some (.inr (.inr q)), some (.inr (.inr 60)), some (.inl v3), some (.inl v4), some (.inr (.inr (q + 21 + v3))), none, none] [.inl (zand (rd h (q + 5) (24 * (rd h (q + 21 + v3) 1) + (rd h 60 0))) (zxor (rd h 60 1) (-1)))] h _
    refine R_st (ls' := [some (.inr (.inr 96)), some (.inr (.inr q)), some (.inr (.inr 60)), some (.inl v3), some (.inl v4), some (.inr (.inr (q + 21 + v3))), some (.inl (zand (rd h (q + 5) (24 * (rd h (q + 21 + v3) 1) + (rd h 60 0))) (zxor (rd h 60 1) (-1)))), none]) dd_Rents_doorsOf_25 rfl rfl rfl (Nat.le_of_ble_eq_true rfl) rfl rfl ?_
    refine R_ld (v := .inr (.inr q)) dd_Rents_doorsOf_27 rfl rfl rfl rfl ?_
    refine R_ld (v := .inr (.inr (q + 21 + v3))) dd_Rents_doorsOf_28 rfl rfl rfl rfl ?_
    refine R_gf (v := .inl (rd h (q + 21 + v3) 1)) dd_Rents_doorsOf_30 fd_8_79 (io_p hq (by omega)) (congrArg (fun z : Int => (Sum.inl z : LV)) (rfl)) rfl ?_
    refine R_ld (v := .inr (.inr 60)) dd_Rents_doorsOf_33 rfl rfl rfl rfl ?_
    refine R_gf (v := .inl (rd h 60 0)) dd_Rents_doorsOf_34 fd_8_56 io_60 (congrArg (fun z : Int => (Sum.inl z : LV)) (rfl)) rfl ?_
    refine R_ld (v := .inr (.inr 60)) dd_Rents_doorsOf_37 rfl rfl rfl rfl ?_
    refine R_gf (v := .inl (rd h 60 1)) dd_Rents_doorsOf_38 fd_8_61 io_60 (congrArg (fun z : Int => (Sum.inl z : LV)) (rfl)) rfl ?_
    refine R_call (as := [.inr (.inr q), .inl (rd h (q + 21 + v3) 1), .inl (rd h 60 0), .inl (rd h 60 1)]) (rest := []) (M' := mm_Quarter_backIn) (ls0 := [some (.inr (.inr q)), some (.inl (rd h (q + 21 + v3) 1)), some (.inl (rd h 60 0)), some (.inl (rd h 60 1))]) dd_Rents_doorsOf_41 rfl rfl (cw_v cw_8_88 (io_q hq) rfl rfl (Nat.le_of_ble_eq_true rfl) (Nat.le_of_ble_eq_true rfl)) mt_Quarter_backIn rfl (c := e - 1) (by omega) rfl ?_
    refine R_ld (v := .inl (rd h 60 0)) dd_Quarter_backIn_0 rfl rfl rfl rfl ?_
    refine R_bi dd_Quarter_backIn_1 (by decide) rfl ?_
    refine R_icmp dd_Quarter_backIn_3 rfl rfl (fun (c11 : 24 ≤ (rd h 60 0)) => ?_) (fun (c11 : (rd h 60 0) < 24) => ?_)
    · exact absurd c11 (by omega)
    · skip
      refine R_ld (v := .inr (.inr q)) dd_Quarter_backIn_6 rfl rfl rfl rfl ?_
      refine R_gf (v := .inr (.inr (q + 6))) dd_Quarter_backIn_7 fd_6_37 (io_q hq) (congrArg (fun z : Int => (Sum.inr (Sum.inr z) : LV)) (rq_bck hF hq)) rfl ?_
      refine R_ld (v := .inl (rd h (q + 21 + v3) 1)) dd_Quarter_backIn_10 rfl rfl rfl rfl ?_
      refine R_bi dd_Quarter_backIn_11 (by decide) rfl ?_
      obtain ⟨s5, k⟩ := k
      refine R_imul (c := 24 * (rd h (q + 21 + v3) 1)) dd_Quarter_backIn_13 (by omega) s5 rfl ?_
      refine R_ld (v := .inl (rd h 60 0)) dd_Quarter_backIn_14 rfl rfl rfl rfl ?_
      obtain ⟨s6, k⟩ := k
      refine R_iadd (c := 24 * (rd h (q + 21 + v3) 1) + (rd h 60 0)) dd_Quarter_backIn_15 (by omega) s6 rfl ?_
      obtain ⟨s7, k⟩ := k
      refine R_iald (v := (rd h (q + 6) (24 * (rd h (q + 21 + v3) 1) + (rd h 60 0)))) (n := 96) dd_Quarter_backIn_16 (ia_bq hq) (la_bq hq) s7 (rfl) rfl ?_
      refine R_ld (v := .inl (rd h 60 1)) dd_Quarter_backIn_17 rfl rfl rfl rfl ?_
      refine R_ic dd_Quarter_backIn_18 (by decide) rfl ?_
      refine R_A dd_Quarter_backIn_19 rfl rfl rfl rfl ?_
      refine R_A dd_Quarter_backIn_20 rfl rfl rfl rfl ?_
      refine R_goto dd_Quarter_backIn_21 rfl ?_
      refine R_iret dd_Quarter_backIn_25 rfl ?_
      change Rn xs xl e mm_Rents_doorsOf 44 [some (.inr (.inr 96)), some (.inr (.inr q)), some (.inr (.inr 60)), some (.inl v3), some (.inl v4), some (.inr (.inr (q + 21 + v3))), some (.inl (zand (rd h (q + 5) (24 * (rd h (q + 21 + v3) 1) + (rd h 60 0))) (zxor (rd h 60 1) (-1)))), none] [.inl (zand (rd h (q + 6) (24 * (rd h (q + 21 + v3) 1) + (rd h 60 0))) (zxor (rd h 60 1) (-1)))] h _
      refine R_st (ls' := [some (.inr (.inr 96)), some (.inr (.inr q)), some (.inr (.inr 60)), some (.inl v3), some (.inl v4), some (.inr (.inr (q + 21 + v3))), some (.inl (zand (rd h (q + 5) (24 * (rd h (q + 21 + v3) 1) + (rd h 60 0))) (zxor (rd h 60 1) (-1)))), some (.inl (zand (rd h (q + 6) (24 * (rd h (q + 21 + v3) 1) + (rd h 60 0))) (zxor (rd h 60 1) (-1))))]) dd_Rents_doorsOf_44 rfl rfl rfl (Nat.le_of_ble_eq_true rfl) rfl rfl ?_
      refine R_ld (v := .inr (.inr 96)) dd_Rents_doorsOf_46 rfl rfl rfl rfl ?_
      refine R_ld (v := .inl (zand (rd h (q + 5) (24 * (rd h (q + 21 + v3) 1) + (rd h 60 0))) (zxor (rd h 60 1) (-1)))) dd_Rents_doorsOf_47 rfl rfl rfl rfl ?_
      refine R_ld (v := .inl v4) dd_Rents_doorsOf_49 rfl rfl rfl rfl ?_
      refine R_ld (v := .inr (.inr (q + 21 + v3))) dd_Rents_doorsOf_51 rfl rfl rfl rfl ?_
      refine R_gf (v := .inl (rd h (q + 21 + v3) 1)) dd_Rents_doorsOf_53 fd_8_79 (io_p hq (by omega)) (congrArg (fun z : Int => (Sum.inl z : LV)) (rfl)) rfl ?_
      refine R_ic dd_Rents_doorsOf_56 (by decide) rfl ?_
      obtain ⟨c, hc, k⟩ := k
      exact R_call (as := [.inr (.inr 96), .inl (zand (rd h (q + 5) (24 * (rd h (q + 21 + v3) 1) + (rd h 60 0))) (zxor (rd h 60 1) (-1))), .inl v4, .inl (rd h (q + 21 + v3) 1), .inl 1]) (rest := []) (M' := mm_Rents_withHinges) (ls0 := [some (.inr (.inr 96)), some (.inl (zand (rd h (q + 5) (24 * (rd h (q + 21 + v3) 1) + (rd h 60 0))) (zxor (rd h 60 1) (-1)))), some (.inl v4), some (.inl (rd h (q + 21 + v3) 1)), some (.inl 1), none, none, none]) dd_Rents_doorsOf_57 rfl rfl (cw_v cw_8_91 io_96 rfl rfl (Nat.le_of_ble_eq_true rfl) (Nat.le_of_ble_eq_true rfl)) mt_Rents_withHinges rfl hc rfl k
theorem B_Rents_doorsOf_60 {xs : Nat → Int} {xl e : Nat} {h : LH} {Q : Option LV → LH → Prop} {v3 v4 v6 v7 w0 : Int} {q : Int} (hq : q = 5 ∨ q = 32) (hF : RF h) (r_v3 : 0 ≤ v3 ∧ v3 ≤ 5)
    (k : (∃ c, c < e ∧ Rn xs xl c mm_Rents_withHinges 0 [some (.inr (.inr 96)), some (.inl v7), some (.inl v4), some (.inl (rd h (q + 21 + v3) 1)), some (.inl 2), none, none, none] [] h (fun r h' => Rn xs xl e mm_Rents_doorsOf 76 [some (.inr (.inr 96)), some (.inr (.inr q)), some (.inr (.inr 60)), some (.inl v3), some (.inl v4), some (.inr (.inr (q + 21 + v3))), some (.inl w0), some (.inl v7)] (r.toList ++ []) h' Q))) :
    Rn xs xl e mm_Rents_doorsOf 60 [some (.inr (.inr 96)), some (.inr (.inr q)), some (.inr (.inr 60)), some (.inl v3), some (.inl v4), some (.inr (.inr (q + 21 + v3))), some (.inl v6), some (.inl v7)] [.inl w0] h Q := by
  refine R_st (ls' := [some (.inr (.inr 96)), some (.inr (.inr q)), some (.inr (.inr 60)), some (.inl v3), some (.inl v4), some (.inr (.inr (q + 21 + v3))), some (.inl w0), some (.inl v7)]) dd_Rents_doorsOf_60 rfl rfl rfl (Nat.le_of_ble_eq_true rfl) rfl rfl ?_
  refine R_ld (v := .inr (.inr 96)) dd_Rents_doorsOf_62 rfl rfl rfl rfl ?_
  refine R_ld (v := .inl v7) dd_Rents_doorsOf_63 rfl rfl rfl rfl ?_
  refine R_ld (v := .inl v4) dd_Rents_doorsOf_65 rfl rfl rfl rfl ?_
  refine R_ld (v := .inr (.inr (q + 21 + v3))) dd_Rents_doorsOf_67 rfl rfl rfl rfl ?_
  refine R_gf (v := .inl (rd h (q + 21 + v3) 1)) dd_Rents_doorsOf_69 fd_8_79 (io_p hq (by omega)) (congrArg (fun z : Int => (Sum.inl z : LV)) (rfl)) rfl ?_
  refine R_ic dd_Rents_doorsOf_72 (by decide) rfl ?_
  obtain ⟨c, hc, k⟩ := k
  exact R_call (as := [.inr (.inr 96), .inl v7, .inl v4, .inl (rd h (q + 21 + v3) 1), .inl 2]) (rest := []) (M' := mm_Rents_withHinges) (ls0 := [some (.inr (.inr 96)), some (.inl v7), some (.inl v4), some (.inl (rd h (q + 21 + v3) 1)), some (.inl 2), none, none, none]) dd_Rents_doorsOf_73 rfl rfl (cw_v cw_8_91 io_96 rfl rfl (Nat.le_of_ble_eq_true rfl) (Nat.le_of_ble_eq_true rfl)) mt_Rents_withHinges rfl hc rfl k
theorem B_Rents_doorsOf_76 {xs : Nat → Int} {xl e : Nat} {h : LH} {Q : Option LV → LH → Prop} {v3 v4 v6 v7 w0 : Int} {q : Int} (hq : q = 5 ∨ q = 32) (hF : RF h) (r_v3 : 0 ≤ v3 ∧ v3 ≤ 5)
    (k : (∃ c, c < e ∧ Rn xs xl c mm_Rents_fillBest 0 [some (.inr (.inr 96)), some (.inr (.inr q)), some (.inl v6), some (.inl w0), some (.inl (rd h (q + 21 + v3) 3)), none, none, none, none, none, none] [] h (fun r h' => Rn xs xl e mm_Rents_doorsOf 92 [some (.inr (.inr 96)), some (.inr (.inr q)), some (.inr (.inr 60)), some (.inl v3), some (.inl v4), some (.inr (.inr (q + 21 + v3))), some (.inl v6), some (.inl w0)] (r.toList ++ []) h' Q))) :
    Rn xs xl e mm_Rents_doorsOf 76 [some (.inr (.inr 96)), some (.inr (.inr q)), some (.inr (.inr 60)), some (.inl v3), some (.inl v4), some (.inr (.inr (q + 21 + v3))), some (.inl v6), some (.inl v7)] [.inl w0] h Q := by
  refine R_st (ls' := [some (.inr (.inr 96)), some (.inr (.inr q)), some (.inr (.inr 60)), some (.inl v3), some (.inl v4), some (.inr (.inr (q + 21 + v3))), some (.inl v6), some (.inl w0)]) dd_Rents_doorsOf_76 rfl rfl rfl (Nat.le_of_ble_eq_true rfl) rfl rfl ?_
  refine R_ld (v := .inr (.inr 96)) dd_Rents_doorsOf_78 rfl rfl rfl rfl ?_
  refine R_ld (v := .inr (.inr q)) dd_Rents_doorsOf_79 rfl rfl rfl rfl ?_
  refine R_ld (v := .inl v6) dd_Rents_doorsOf_80 rfl rfl rfl rfl ?_
  refine R_ld (v := .inl w0) dd_Rents_doorsOf_82 rfl rfl rfl rfl ?_
  refine R_ld (v := .inr (.inr (q + 21 + v3))) dd_Rents_doorsOf_84 rfl rfl rfl rfl ?_
  refine R_gf (v := .inl (rd h (q + 21 + v3) 3)) dd_Rents_doorsOf_86 fd_8_95 (io_p hq (by omega)) (congrArg (fun z : Int => (Sum.inl z : LV)) (rfl)) rfl ?_
  obtain ⟨c, hc, k⟩ := k
  exact R_call (as := [.inr (.inr 96), .inr (.inr q), .inl v6, .inl w0, .inl (rd h (q + 21 + v3) 3)]) (rest := []) (M' := mm_Rents_fillBest) (ls0 := [some (.inr (.inr 96)), some (.inr (.inr q)), some (.inl v6), some (.inl w0), some (.inl (rd h (q + 21 + v3) 3)), none, none, none, none, none, none]) dd_Rents_doorsOf_89 rfl rfl (cw_v cw_8_98 io_96 rfl rfl (Nat.le_of_ble_eq_true rfl) (Nat.le_of_ble_eq_true rfl)) mt_Rents_fillBest rfl hc rfl k
theorem B_Rents_doorsOf_92 {xs : Nat → Int} {xl e : Nat} {h : LH} {Q : Option LV → LH → Prop} {v3 v4 v6 v7 : Int} {q : Int} (hq : q = 5 ∨ q = 32) (hF : RF h) (r_v3 : 0 ≤ v3 ∧ v3 ≤ 5)
    (k : (∃ c, c < e ∧ Rn xs xl c mm_Rents_cheapest 0 [some (.inr (.inr 96)), some (.inr (.inr q)), some (.inl v6), some (.inl v7), some (.inl (rd h 61 v3)), some (.inl (rd h (q + 21 + v3) 3)), none, none, none, none, none, none, none, none] [] h (fun r h' => Rn xs xl e mm_Rents_doorsOf 112 [some (.inr (.inr 96)), some (.inr (.inr q)), some (.inr (.inr 60)), some (.inl v3), some (.inl v4), some (.inr (.inr (q + 21 + v3))), some (.inl v6), some (.inl v7)] (r.toList ++ []) h' Q))) :
    Rn xs xl e mm_Rents_doorsOf 92 [some (.inr (.inr 96)), some (.inr (.inr q)), some (.inr (.inr 60)), some (.inl v3), some (.inl v4), some (.inr (.inr (q + 21 + v3))), some (.inl v6), some (.inl v7)] [] h Q := by
  refine R_ld (v := .inr (.inr 96)) dd_Rents_doorsOf_92 rfl rfl rfl rfl ?_
  refine R_ld (v := .inr (.inr q)) dd_Rents_doorsOf_93 rfl rfl rfl rfl ?_
  refine R_ld (v := .inl v6) dd_Rents_doorsOf_94 rfl rfl rfl rfl ?_
  refine R_ld (v := .inl v7) dd_Rents_doorsOf_96 rfl rfl rfl rfl ?_
  refine R_ld (v := .inr (.inr 60)) dd_Rents_doorsOf_98 rfl rfl rfl rfl ?_
  refine R_gf (v := .inr (.inr 61)) dd_Rents_doorsOf_99 fd_8_102 io_60 (congrArg (fun z : Int => (Sum.inr (Sum.inr z) : LV)) (rf_60_4 hF)) rfl ?_
  refine R_ld (v := .inl v3) dd_Rents_doorsOf_102 rfl rfl rfl rfl ?_
  refine R_iald (v := (rd h 61 v3)) (n := 6) dd_Rents_doorsOf_103 ia_61 la_61 (by omega) (rfl) rfl ?_
  refine R_ld (v := .inr (.inr (q + 21 + v3))) dd_Rents_doorsOf_104 rfl rfl rfl rfl ?_
  refine R_gf (v := .inl (rd h (q + 21 + v3) 3)) dd_Rents_doorsOf_106 fd_8_95 (io_p hq (by omega)) (congrArg (fun z : Int => (Sum.inl z : LV)) (rfl)) rfl ?_
  obtain ⟨c, hc, k⟩ := k
  exact R_call (as := [.inr (.inr 96), .inr (.inr q), .inl v6, .inl v7, .inl (rd h 61 v3), .inl (rd h (q + 21 + v3) 3)]) (rest := []) (M' := mm_Rents_cheapest) (ls0 := [some (.inr (.inr 96)), some (.inr (.inr q)), some (.inl v6), some (.inl v7), some (.inl (rd h 61 v3)), some (.inl (rd h (q + 21 + v3) 3)), none, none, none, none, none, none, none, none]) dd_Rents_doorsOf_109 rfl rfl (cw_v cw_8_105 io_96 rfl rfl (Nat.le_of_ble_eq_true rfl) (Nat.le_of_ble_eq_true rfl)) mt_Rents_cheapest rfl hc rfl k
theorem B_Rents_doorsOf_112 {xs : Nat → Int} {xl e : Nat} {h : LH} {Q : Option LV → LH → Prop} {v3 v4 v6 v7 w0 : Int} {q : Int} (hq : q = 5 ∨ q = 32) (hF : RF h) (r_v3 : 0 ≤ v3 ∧ v3 ≤ 5)
    (k : Q (some (.inl w0)) h) :
    Rn xs xl e mm_Rents_doorsOf 112 [some (.inr (.inr 96)), some (.inr (.inr q)), some (.inr (.inr 60)), some (.inl v3), some (.inl v4), some (.inr (.inr (q + 21 + v3))), some (.inl v6), some (.inl v7)] [.inl w0] h Q := by
  exact R_iret dd_Rents_doorsOf_112 rfl k
theorem B_Rents_withHinges_0 {xs : Nat → Int} {xl e : Nat} {h : LH} {Q : Option LV → LH → Prop} {v1 v2 v3 v4 : Int} (hF : RF h) (r_v2 : 0 ≤ v2 ∧ v2 ≤ 99) (r_v3 : 0 ≤ v3 ∧ v3 ≤ 3)
    (k : (-2147483648 ≤ 4 * (v2 / 10) ∧ 4 * (v2 / 10) ≤ 2147483647) ∧
      (-2147483648 ≤ 4 * (v2 / 10) + v3 ∧ 4 * (v2 / 10) + v3 ≤ 2147483647) ∧
      (0 ≤ 4 * (v2 / 10) + v3 ∧ 4 * (v2 / 10) + v3 < 80) ∧
      (-2147483648 ≤ (v2 % 10) + 10 ∧ (v2 % 10) + 10 ≤ 2147483647) ∧
      (-2147483648 ≤ 4 * (v2 % 10) + 40 ∧ 4 * (v2 % 10) + 40 ≤ 2147483647) ∧
      (-2147483648 ≤ 4 * (v2 % 10) + v3 + 40 ∧ 4 * (v2 % 10) + v3 + 40 ≤ 2147483647) ∧
      (0 ≤ 4 * (v2 % 10) + v3 + 40 ∧ 4 * (v2 % 10) + v3 + 40 < 80) ∧
      ((zand (rd h 99 (4 * (v2 / 10) + v3)) v4) = 0 →
        ((zand (rd h 99 (4 * (v2 % 10) + v3 + 40)) v4) = 0 →
          Q (some (.inl (zor (zor (zand v1 (zxor (zor (zshl 1 (rd h 96 0)) (zshl 1 (rd h 96 1))) (-1))) 0) 0))) h) ∧
        ((zand (rd h 99 (4 * (v2 % 10) + v3 + 40)) v4) ≠ 0 →
          Q (some (.inl (zor (zor (zand v1 (zxor (zor (zshl 1 (rd h 96 0)) (zshl 1 (rd h 96 1))) (-1))) 0) (zshl 1 (rd h 96 1))))) h)) ∧
      ((zand (rd h 99 (4 * (v2 / 10) + v3)) v4) ≠ 0 →
        ((zand (rd h 99 (4 * (v2 % 10) + v3 + 40)) v4) = 0 →
          Q (some (.inl (zor (zor (zand v1 (zxor (zor (zshl 1 (rd h 96 0)) (zshl 1 (rd h 96 1))) (-1))) (zshl 1 (rd h 96 0))) 0))) h) ∧
        ((zand (rd h 99 (4 * (v2 % 10) + v3 + 40)) v4) ≠ 0 →
          Q (some (.inl (zor (zor (zand v1 (zxor (zor (zshl 1 (rd h 96 0)) (zshl 1 (rd h 96 1))) (-1))) (zshl 1 (rd h 96 0))) (zshl 1 (rd h 96 1))))) h))) :
    Rn xs xl e mm_Rents_withHinges 0 [some (.inr (.inr 96)), some (.inl v1), some (.inl v2), some (.inl v3), some (.inl v4), none, none, none] [] h Q := by
  refine R_ld (v := .inr (.inr 96)) dd_Rents_withHinges_0 rfl rfl rfl rfl ?_
  refine R_gf (v := .inr (.inr 99)) dd_Rents_withHinges_1 fd_8_18 io_96 (congrArg (fun z : Int => (Sum.inr (Sum.inr z) : LV)) (rf_96_4 hF)) rfl ?_
  refine R_ld (v := .inl v2) dd_Rents_withHinges_4 rfl rfl rfl rfl ?_
  refine R_bi dd_Rents_withHinges_5 (by decide) rfl ?_
  refine R_idiv dd_Rents_withHinges_7 (by omega) (by decide) rfl ?_
  refine R_ic dd_Rents_withHinges_8 (by decide) rfl ?_
  obtain ⟨s1, k⟩ := k
  refine R_imul (c := 4 * (v2 / 10)) dd_Rents_withHinges_9 (by omega) s1 rfl ?_
  refine R_ld (v := .inl v3) dd_Rents_withHinges_10 rfl rfl rfl rfl ?_
  obtain ⟨s2, k⟩ := k
  refine R_iadd (c := 4 * (v2 / 10) + v3) dd_Rents_withHinges_11 (by omega) s2 rfl ?_
  obtain ⟨s3, k⟩ := k
  refine R_iald (v := (rd h 99 (4 * (v2 / 10) + v3))) (n := 80) dd_Rents_withHinges_12 ia_99 la_99 s3 (rfl) rfl ?_
  refine R_st (ls' := [some (.inr (.inr 96)), some (.inl v1), some (.inl v2), some (.inl v3), some (.inl v4), some (.inl (rd h 99 (4 * (v2 / 10) + v3))), none, none]) dd_Rents_withHinges_13 rfl rfl rfl (Nat.le_of_ble_eq_true rfl) rfl rfl ?_
  refine R_ld (v := .inr (.inr 96)) dd_Rents_withHinges_15 rfl rfl rfl rfl ?_
  refine R_gf (v := .inr (.inr 99)) dd_Rents_withHinges_16 fd_8_18 io_96 (congrArg (fun z : Int => (Sum.inr (Sum.inr z) : LV)) (rf_96_4 hF)) rfl ?_
  refine R_bi dd_Rents_withHinges_19 (by decide) rfl ?_
  refine R_ld (v := .inl v2) dd_Rents_withHinges_21 rfl rfl rfl rfl ?_
  refine R_bi dd_Rents_withHinges_22 (by decide) rfl ?_
  refine R_irem dd_Rents_withHinges_24 (by omega) (by decide) rfl ?_
  obtain ⟨s4, k⟩ := k
  refine R_iadd (c := (v2 % 10) + 10) dd_Rents_withHinges_25 (by omega) s4 rfl ?_
  refine R_ic dd_Rents_withHinges_26 (by decide) rfl ?_
  obtain ⟨s5, k⟩ := k
  refine R_imul (c := 4 * (v2 % 10) + 40) dd_Rents_withHinges_27 (by omega) s5 rfl ?_
  refine R_ld (v := .inl v3) dd_Rents_withHinges_28 rfl rfl rfl rfl ?_
  obtain ⟨s6, k⟩ := k
  refine R_iadd (c := 4 * (v2 % 10) + v3 + 40) dd_Rents_withHinges_29 (by omega) s6 rfl ?_
  obtain ⟨s7, k⟩ := k
  refine R_iald (v := (rd h 99 (4 * (v2 % 10) + v3 + 40))) (n := 80) dd_Rents_withHinges_30 ia_99 la_99 s7 (rfl) rfl ?_
  refine R_st (ls' := [some (.inr (.inr 96)), some (.inl v1), some (.inl v2), some (.inl v3), some (.inl v4), some (.inl (rd h 99 (4 * (v2 / 10) + v3))), some (.inl (rd h 99 (4 * (v2 % 10) + v3 + 40))), none]) dd_Rents_withHinges_31 rfl rfl rfl (Nat.le_of_ble_eq_true rfl) rfl rfl ?_
  refine R_ld (v := .inl v1) dd_Rents_withHinges_33 rfl rfl rfl rfl ?_
  refine R_ic dd_Rents_withHinges_34 (by decide) rfl ?_
  refine R_ld (v := .inr (.inr 96)) dd_Rents_withHinges_35 rfl rfl rfl rfl ?_
  refine R_gf (v := .inl (rd h 96 0)) dd_Rents_withHinges_36 fd_8_27 io_96 (congrArg (fun z : Int => (Sum.inl z : LV)) (rfl)) rfl ?_
  refine R_A dd_Rents_withHinges_39 rfl rfl rfl rfl ?_
  refine R_ic dd_Rents_withHinges_40 (by decide) rfl ?_
  refine R_ld (v := .inr (.inr 96)) dd_Rents_withHinges_41 rfl rfl rfl rfl ?_
  refine R_gf (v := .inl (rd h 96 1)) dd_Rents_withHinges_42 fd_8_31 io_96 (congrArg (fun z : Int => (Sum.inl z : LV)) (rfl)) rfl ?_
  refine R_A dd_Rents_withHinges_45 rfl rfl rfl rfl ?_
  refine R_A dd_Rents_withHinges_46 rfl rfl rfl rfl ?_
  refine R_ic dd_Rents_withHinges_47 (by decide) rfl ?_
  refine R_A dd_Rents_withHinges_48 rfl rfl rfl rfl ?_
  refine R_A dd_Rents_withHinges_49 rfl rfl rfl rfl ?_
  refine R_st (ls' := [some (.inr (.inr 96)), some (.inl v1), some (.inl v2), some (.inl v3), some (.inl v4), some (.inl (rd h 99 (4 * (v2 / 10) + v3))), some (.inl (rd h 99 (4 * (v2 % 10) + v3 + 40))), some (.inl (zand v1 (zxor (zor (zshl 1 (rd h 96 0)) (zshl 1 (rd h 96 1))) (-1))))]) dd_Rents_withHinges_50 rfl rfl rfl (Nat.le_of_ble_eq_true rfl) rfl rfl ?_
  refine R_ld (v := .inl (zand v1 (zxor (zor (zshl 1 (rd h 96 0)) (zshl 1 (rd h 96 1))) (-1)))) dd_Rents_withHinges_52 rfl rfl rfl rfl ?_
  refine R_ld (v := .inl (rd h 99 (4 * (v2 / 10) + v3))) dd_Rents_withHinges_54 rfl rfl rfl rfl ?_
  refine R_ld (v := .inl v4) dd_Rents_withHinges_56 rfl rfl rfl rfl ?_
  refine R_A dd_Rents_withHinges_58 rfl rfl rfl rfl ?_
  refine R_if dd_Rents_withHinges_59 rfl rfl (fun (c8 : (zand (rd h 99 (4 * (v2 / 10) + v3)) v4) = 0) => ?_) (fun (c8 : (zand (rd h 99 (4 * (v2 / 10) + v3)) v4) ≠ 0) => ?_)
  · replace k := k.1 c8
    refine R_ic dd_Rents_withHinges_71 (by decide) rfl ?_
    refine R_A dd_Rents_withHinges_72 rfl rfl rfl rfl ?_
    refine R_st (ls' := [some (.inr (.inr 96)), some (.inl v1), some (.inl v2), some (.inl v3), some (.inl v4), some (.inl (rd h 99 (4 * (v2 / 10) + v3))), some (.inl (rd h 99 (4 * (v2 % 10) + v3 + 40))), some (.inl (zor (zand v1 (zxor (zor (zshl 1 (rd h 96 0)) (zshl 1 (rd h 96 1))) (-1))) 0))]) dd_Rents_withHinges_73 rfl rfl rfl (Nat.le_of_ble_eq_true rfl) rfl rfl ?_
    refine R_ld (v := .inl (zor (zand v1 (zxor (zor (zshl 1 (rd h 96 0)) (zshl 1 (rd h 96 1))) (-1))) 0)) dd_Rents_withHinges_75 rfl rfl rfl rfl ?_
    refine R_ld (v := .inl (rd h 99 (4 * (v2 % 10) + v3 + 40))) dd_Rents_withHinges_77 rfl rfl rfl rfl ?_
    refine R_ld (v := .inl v4) dd_Rents_withHinges_79 rfl rfl rfl rfl ?_
    refine R_A dd_Rents_withHinges_81 rfl rfl rfl rfl ?_
    refine R_if dd_Rents_withHinges_82 rfl rfl (fun (c9 : (zand (rd h 99 (4 * (v2 % 10) + v3 + 40)) v4) = 0) => ?_) (fun (c9 : (zand (rd h 99 (4 * (v2 % 10) + v3 + 40)) v4) ≠ 0) => ?_)
    · replace k := k.1 c9
      refine R_ic dd_Rents_withHinges_94 (by decide) rfl ?_
      refine R_A dd_Rents_withHinges_95 rfl rfl rfl rfl ?_
      refine R_st (ls' := [some (.inr (.inr 96)), some (.inl v1), some (.inl v2), some (.inl v3), some (.inl v4), some (.inl (rd h 99 (4 * (v2 / 10) + v3))), some (.inl (rd h 99 (4 * (v2 % 10) + v3 + 40))), some (.inl (zor (zor (zand v1 (zxor (zor (zshl 1 (rd h 96 0)) (zshl 1 (rd h 96 1))) (-1))) 0) 0))]) dd_Rents_withHinges_96 rfl rfl rfl (Nat.le_of_ble_eq_true rfl) rfl rfl ?_
      refine R_ld (v := .inl (zor (zor (zand v1 (zxor (zor (zshl 1 (rd h 96 0)) (zshl 1 (rd h 96 1))) (-1))) 0) 0)) dd_Rents_withHinges_98 rfl rfl rfl rfl ?_
      exact R_iret dd_Rents_withHinges_100 rfl k
    · replace k := k.2 c9
      refine R_ic dd_Rents_withHinges_85 (by decide) rfl ?_
      refine R_ld (v := .inr (.inr 96)) dd_Rents_withHinges_86 rfl rfl rfl rfl ?_
      refine R_gf (v := .inl (rd h 96 1)) dd_Rents_withHinges_87 fd_8_31 io_96 (congrArg (fun z : Int => (Sum.inl z : LV)) (rfl)) rfl ?_
      refine R_A dd_Rents_withHinges_90 rfl rfl rfl rfl ?_
      refine R_goto dd_Rents_withHinges_91 rfl ?_
      refine R_A dd_Rents_withHinges_95 rfl rfl rfl rfl ?_
      refine R_st (ls' := [some (.inr (.inr 96)), some (.inl v1), some (.inl v2), some (.inl v3), some (.inl v4), some (.inl (rd h 99 (4 * (v2 / 10) + v3))), some (.inl (rd h 99 (4 * (v2 % 10) + v3 + 40))), some (.inl (zor (zor (zand v1 (zxor (zor (zshl 1 (rd h 96 0)) (zshl 1 (rd h 96 1))) (-1))) 0) (zshl 1 (rd h 96 1))))]) dd_Rents_withHinges_96 rfl rfl rfl (Nat.le_of_ble_eq_true rfl) rfl rfl ?_
      refine R_ld (v := .inl (zor (zor (zand v1 (zxor (zor (zshl 1 (rd h 96 0)) (zshl 1 (rd h 96 1))) (-1))) 0) (zshl 1 (rd h 96 1)))) dd_Rents_withHinges_98 rfl rfl rfl rfl ?_
      exact R_iret dd_Rents_withHinges_100 rfl k
  · replace k := k.2 c8
    refine R_ic dd_Rents_withHinges_62 (by decide) rfl ?_
    refine R_ld (v := .inr (.inr 96)) dd_Rents_withHinges_63 rfl rfl rfl rfl ?_
    refine R_gf (v := .inl (rd h 96 0)) dd_Rents_withHinges_64 fd_8_27 io_96 (congrArg (fun z : Int => (Sum.inl z : LV)) (rfl)) rfl ?_
    refine R_A dd_Rents_withHinges_67 rfl rfl rfl rfl ?_
    refine R_goto dd_Rents_withHinges_68 rfl ?_
    refine R_A dd_Rents_withHinges_72 rfl rfl rfl rfl ?_
    refine R_st (ls' := [some (.inr (.inr 96)), some (.inl v1), some (.inl v2), some (.inl v3), some (.inl v4), some (.inl (rd h 99 (4 * (v2 / 10) + v3))), some (.inl (rd h 99 (4 * (v2 % 10) + v3 + 40))), some (.inl (zor (zand v1 (zxor (zor (zshl 1 (rd h 96 0)) (zshl 1 (rd h 96 1))) (-1))) (zshl 1 (rd h 96 0))))]) dd_Rents_withHinges_73 rfl rfl rfl (Nat.le_of_ble_eq_true rfl) rfl rfl ?_
    refine R_ld (v := .inl (zor (zand v1 (zxor (zor (zshl 1 (rd h 96 0)) (zshl 1 (rd h 96 1))) (-1))) (zshl 1 (rd h 96 0)))) dd_Rents_withHinges_75 rfl rfl rfl rfl ?_
    refine R_ld (v := .inl (rd h 99 (4 * (v2 % 10) + v3 + 40))) dd_Rents_withHinges_77 rfl rfl rfl rfl ?_
    refine R_ld (v := .inl v4) dd_Rents_withHinges_79 rfl rfl rfl rfl ?_
    refine R_A dd_Rents_withHinges_81 rfl rfl rfl rfl ?_
    refine R_if dd_Rents_withHinges_82 rfl rfl (fun (c10 : (zand (rd h 99 (4 * (v2 % 10) + v3 + 40)) v4) = 0) => ?_) (fun (c10 : (zand (rd h 99 (4 * (v2 % 10) + v3 + 40)) v4) ≠ 0) => ?_)
    · replace k := k.1 c10
      refine R_ic dd_Rents_withHinges_94 (by decide) rfl ?_
      refine R_A dd_Rents_withHinges_95 rfl rfl rfl rfl ?_
      refine R_st (ls' := [some (.inr (.inr 96)), some (.inl v1), some (.inl v2), some (.inl v3), some (.inl v4), some (.inl (rd h 99 (4 * (v2 / 10) + v3))), some (.inl (rd h 99 (4 * (v2 % 10) + v3 + 40))), some (.inl (zor (zor (zand v1 (zxor (zor (zshl 1 (rd h 96 0)) (zshl 1 (rd h 96 1))) (-1))) (zshl 1 (rd h 96 0))) 0))]) dd_Rents_withHinges_96 rfl rfl rfl (Nat.le_of_ble_eq_true rfl) rfl rfl ?_
      refine R_ld (v := .inl (zor (zor (zand v1 (zxor (zor (zshl 1 (rd h 96 0)) (zshl 1 (rd h 96 1))) (-1))) (zshl 1 (rd h 96 0))) 0)) dd_Rents_withHinges_98 rfl rfl rfl rfl ?_
      exact R_iret dd_Rents_withHinges_100 rfl k
    · replace k := k.2 c10
      refine R_ic dd_Rents_withHinges_85 (by decide) rfl ?_
      refine R_ld (v := .inr (.inr 96)) dd_Rents_withHinges_86 rfl rfl rfl rfl ?_
      refine R_gf (v := .inl (rd h 96 1)) dd_Rents_withHinges_87 fd_8_31 io_96 (congrArg (fun z : Int => (Sum.inl z : LV)) (rfl)) rfl ?_
      refine R_A dd_Rents_withHinges_90 rfl rfl rfl rfl ?_
      refine R_goto dd_Rents_withHinges_91 rfl ?_
      refine R_A dd_Rents_withHinges_95 rfl rfl rfl rfl ?_
      refine R_st (ls' := [some (.inr (.inr 96)), some (.inl v1), some (.inl v2), some (.inl v3), some (.inl v4), some (.inl (rd h 99 (4 * (v2 / 10) + v3))), some (.inl (rd h 99 (4 * (v2 % 10) + v3 + 40))), some (.inl (zor (zor (zand v1 (zxor (zor (zshl 1 (rd h 96 0)) (zshl 1 (rd h 96 1))) (-1))) (zshl 1 (rd h 96 0))) (zshl 1 (rd h 96 1))))]) dd_Rents_withHinges_96 rfl rfl rfl (Nat.le_of_ble_eq_true rfl) rfl rfl ?_
      refine R_ld (v := .inl (zor (zor (zand v1 (zxor (zor (zshl 1 (rd h 96 0)) (zshl 1 (rd h 96 1))) (-1))) (zshl 1 (rd h 96 0))) (zshl 1 (rd h 96 1)))) dd_Rents_withHinges_98 rfl rfl rfl rfl ?_
      exact R_iret dd_Rents_withHinges_100 rfl k
theorem B_Rents_fillBest_0 {xs : Nat → Int} {xl e : Nat} {h : LH} {Q : Option LV → LH → Prop} {v2 v3 v4 : Int} {q : Int} (hq : q = 5 ∨ q = 32) (hF : RF h)
    (k : (∃ c, c < e ∧ Rn xs xl c mm_java_util_Arrays_fill 0 [some (.inr (.inr 97)), some (.inl 1000000), none, none] [] h (fun r h' => Rn xs xl e mm_Rents_fillBest 9 [some (.inr (.inr 96)), some (.inr (.inr q)), some (.inl v2), some (.inl v3), some (.inl v4), none, none, none, none, none, none] (r.toList ++ []) h' Q))) :
    Rn xs xl e mm_Rents_fillBest 0 [some (.inr (.inr 96)), some (.inr (.inr q)), some (.inl v2), some (.inl v3), some (.inl v4), none, none, none, none, none, none] [] h Q := by
  refine R_ld (v := .inr (.inr 96)) dd_Rents_fillBest_0 rfl rfl rfl rfl ?_
  refine R_gf (v := .inr (.inr 97)) dd_Rents_fillBest_1 fd_8_9 io_96 (congrArg (fun z : Int => (Sum.inr (Sum.inr z) : LV)) (rf_96_2 hF)) rfl ?_
  refine R_C (v := .inl (1000000)) dd_Rents_fillBest_4 rfl rfl (by decide +kernel) rfl ?_
  obtain ⟨c, hc, k⟩ := k
  exact R_call (as := [.inr (.inr 97), .inl 1000000]) (rest := []) (M' := mm_java_util_Arrays_fill) (ls0 := [some (.inr (.inr 97)), some (.inl 1000000), none, none]) dd_Rents_fillBest_6 rfl rfl (cw_s cw_8_110 rfl rfl (Nat.le_of_ble_eq_true rfl) (Nat.le_of_ble_eq_true rfl)) mt_java_util_Arrays_fill rfl hc rfl k
theorem B_Rents_fillBest_9 {xs : Nat → Int} {xl e : Nat} {h : LH} {Q : Option LV → LH → Prop} {v2 v3 v4 : Int} {q : Int} (hq : q = 5 ∨ q = 32) (hF : RF h)
    (k : (0 ≤ v4 ∧ v4 < 10) ∧
      Rn xs xl e mm_Rents_fillBest 23 [some (.inr (.inr 96)), some (.inr (.inr q)), some (.inl v2), some (.inl v3), some (.inl v4), some (.inl 1), some (.inl 0), none, none, none, none] [] (wr h 97 v4 0) Q) :
    Rn xs xl e mm_Rents_fillBest 9 [some (.inr (.inr 96)), some (.inr (.inr q)), some (.inl v2), some (.inl v3), some (.inl v4), none, none, none, none, none, none] [] h Q := by
  refine R_ld (v := .inr (.inr 96)) dd_Rents_fillBest_9 rfl rfl rfl rfl ?_
  refine R_gf (v := .inr (.inr 97)) dd_Rents_fillBest_10 fd_8_9 io_96 (congrArg (fun z : Int => (Sum.inr (Sum.inr z) : LV)) (rf_96_2 hF)) rfl ?_
  refine R_ld (v := .inl v4) dd_Rents_fillBest_13 rfl rfl rfl rfl ?_
  refine R_ic dd_Rents_fillBest_15 (by decide) rfl ?_
  obtain ⟨s1, k⟩ := k
  refine R_iast (n := 10) dd_Rents_fillBest_16 ia_97 la_97 s1 rfl ?_
  refine R_ic dd_Rents_fillBest_17 (by decide) rfl ?_
  refine R_st (ls' := [some (.inr (.inr 96)), some (.inr (.inr q)), some (.inl v2), some (.inl v3), some (.inl v4), some (.inl 1), none, none, none, none, none]) dd_Rents_fillBest_18 rfl rfl rfl (Nat.le_of_ble_eq_true rfl) rfl rfl ?_
  refine R_ic dd_Rents_fillBest_20 (by decide) rfl ?_
  refine R_st (ls' := [some (.inr (.inr 96)), some (.inr (.inr q)), some (.inl v2), some (.inl v3), some (.inl v4), some (.inl 1), some (.inl 0), none, none, none, none]) dd_Rents_fillBest_21 rfl rfl rfl (Nat.le_of_ble_eq_true rfl) rfl rfl ?_
  exact k
theorem B_Rents_fillBest_23 {xs : Nat → Int} {xl e : Nat} {h : LH} {Q : Option LV → LH → Prop} {v2 v3 v4 v5 v6 : Int} {q : Int} (hq : q = 5 ∨ q = 32) {o7 : Option LV} {o8 : Option LV} {o9 : Option LV} {o10 : Option LV} (hF : RF h) (r_v6 : 0 ≤ v6 ∧ v6 ≤ 10)
    (k : (10 ≤ v6 →
        Q none h) ∧
      (v6 < 10 →
        (v5 = 0 →
          Q none h) ∧
        (v5 ≠ 0 →
          Rn xs xl e mm_Rents_fillBest 41 [some (.inr (.inr 96)), some (.inr (.inr q)), some (.inl v2), some (.inl v3), some (.inl v4), some (.inl 0), some (.inl v6), some (.inl 0), o8, o9, o10] [] h Q))) :
    Rn xs xl e mm_Rents_fillBest 23 [some (.inr (.inr 96)), some (.inr (.inr q)), some (.inl v2), some (.inl v3), some (.inl v4), some (.inl v5), some (.inl v6), o7, o8, o9, o10] [] h Q := by
  refine R_ld (v := .inl v6) dd_Rents_fillBest_23 rfl rfl rfl rfl ?_
  refine R_bi dd_Rents_fillBest_25 (by decide) rfl ?_
  refine R_icmp dd_Rents_fillBest_27 rfl rfl (fun (c1 : 10 ≤ v6) => ?_) (fun (c1 : v6 < 10) => ?_)
  · replace k := k.1 c1
    exact R_vret dd_Rents_fillBest_199 rfl k
  · replace k := k.2 c1
    refine R_ld (v := .inl v5) dd_Rents_fillBest_30 rfl rfl rfl rfl ?_
    refine R_if dd_Rents_fillBest_32 rfl rfl (fun (c2 : v5 = 0) => ?_) (fun (c2 : v5 ≠ 0) => ?_)
    · replace k := k.1 c2
      exact R_vret dd_Rents_fillBest_199 rfl k
    · replace k := k.2 c2
      refine R_ic dd_Rents_fillBest_35 (by decide) rfl ?_
      refine R_st (ls' := [some (.inr (.inr 96)), some (.inr (.inr q)), some (.inl v2), some (.inl v3), some (.inl v4), some (.inl 0), some (.inl v6), o7, o8, o9, o10]) dd_Rents_fillBest_36 rfl rfl rfl (Nat.le_of_ble_eq_true rfl) rfl rfl ?_
      refine R_ic dd_Rents_fillBest_38 (by decide) rfl ?_
      refine R_st (ls' := [some (.inr (.inr 96)), some (.inr (.inr q)), some (.inl v2), some (.inl v3), some (.inl v4), some (.inl 0), some (.inl v6), some (.inl 0), o8, o9, o10]) dd_Rents_fillBest_39 rfl rfl rfl (Nat.le_of_ble_eq_true rfl) rfl rfl ?_
      exact k
theorem B_Rents_fillBest_41 {xs : Nat → Int} {xl e : Nat} {h : LH} {Q : Option LV → LH → Prop} {v2 v3 v4 v5 v6 v7 : Int} {q : Int} (hq : q = 5 ∨ q = 32) {o8 : Option LV} {o9 : Option LV} {o10 : Option LV} (hF : RF h) (hP : PT h) (r_v6 : 0 ≤ v6 ∧ v6 ≤ 9) (r_v7 : 0 ≤ v7 ∧ v7 ≤ 14)
    (k : ((rd h q 2) ≤ v7 →
        Rn xs xl e mm_Rents_fillBest 23 [some (.inr (.inr 96)), some (.inr (.inr q)), some (.inl v2), some (.inl v3), some (.inl v4), some (.inl v5), some (.inl (v6 + 1)), some (.inl v7), o8, o9, o10] [] h Q) ∧
      (v7 < (rd h q 2) →
        (0 ≤ v7 ∧ v7 < 14) ∧
        ((zand (zshr v2 v7) 1) = 0 →
          ((zand (zshr v3 v7) 1) = 0 →
            Rn xs xl e mm_Rents_fillBest 127 [some (.inr (.inr 96)), some (.inr (.inr q)), some (.inl v2), some (.inl v3), some (.inl v4), some (.inl v5), some (.inl v6), some (.inl v7), some (.inr (.inr (q + 7 + v7))), some (.inl 1000000), some (.inl 1000000)] [] h Q) ∧
          ((zand (zshr v3 v7) 1) ≠ 0 →
            (0 ≤ (rd h (q + 7 + v7) 2) ∧ (rd h (q + 7 + v7) 2) < 10) ∧
            (0 ≤ v7 ∧ v7 < 14) ∧
            (-2147483648 ≤ (rd h 97 (rd h (q + 7 + v7) 2)) + (rd h 98 v7) ∧ (rd h 97 (rd h (q + 7 + v7) 2)) + (rd h 98 v7) ≤ 2147483647) ∧
            Rn xs xl e mm_Rents_fillBest 127 [some (.inr (.inr 96)), some (.inr (.inr q)), some (.inl v2), some (.inl v3), some (.inl v4), some (.inl v5), some (.inl v6), some (.inl v7), some (.inr (.inr (q + 7 + v7))), some (.inl 1000000), some (.inl ((rd h 97 (rd h (q + 7 + v7) 2)) + (rd h 98 v7)))] [] h Q)) ∧
        ((zand (zshr v2 v7) 1) ≠ 0 →
          (0 ≤ (rd h (q + 7 + v7) 3) ∧ (rd h (q + 7 + v7) 3) < 10) ∧
          (0 ≤ v7 ∧ v7 < 14) ∧
          (-2147483648 ≤ (rd h 97 (rd h (q + 7 + v7) 3)) + (rd h 98 v7) ∧ (rd h 97 (rd h (q + 7 + v7) 3)) + (rd h 98 v7) ≤ 2147483647) ∧
          ((zand (zshr v3 v7) 1) = 0 →
            Rn xs xl e mm_Rents_fillBest 127 [some (.inr (.inr 96)), some (.inr (.inr q)), some (.inl v2), some (.inl v3), some (.inl v4), some (.inl v5), some (.inl v6), some (.inl v7), some (.inr (.inr (q + 7 + v7))), some (.inl ((rd h 97 (rd h (q + 7 + v7) 3)) + (rd h 98 v7))), some (.inl 1000000)] [] h Q) ∧
          ((zand (zshr v3 v7) 1) ≠ 0 →
            (0 ≤ (rd h (q + 7 + v7) 2) ∧ (rd h (q + 7 + v7) 2) < 10) ∧
            (0 ≤ v7 ∧ v7 < 14) ∧
            (-2147483648 ≤ (rd h 97 (rd h (q + 7 + v7) 2)) + (rd h 98 v7) ∧ (rd h 97 (rd h (q + 7 + v7) 2)) + (rd h 98 v7) ≤ 2147483647) ∧
            Rn xs xl e mm_Rents_fillBest 127 [some (.inr (.inr 96)), some (.inr (.inr q)), some (.inl v2), some (.inl v3), some (.inl v4), some (.inl v5), some (.inl v6), some (.inl v7), some (.inr (.inr (q + 7 + v7))), some (.inl ((rd h 97 (rd h (q + 7 + v7) 3)) + (rd h 98 v7))), some (.inl ((rd h 97 (rd h (q + 7 + v7) 2)) + (rd h 98 v7)))] [] h Q)))) :
    Rn xs xl e mm_Rents_fillBest 41 [some (.inr (.inr 96)), some (.inr (.inr q)), some (.inl v2), some (.inl v3), some (.inl v4), some (.inl v5), some (.inl v6), some (.inl v7), o8, o9, o10] [] h Q := by
  refine R_ld (v := .inl v7) dd_Rents_fillBest_41 rfl rfl rfl rfl ?_
  refine R_ld (v := .inr (.inr q)) dd_Rents_fillBest_43 rfl rfl rfl rfl ?_
  refine R_gf (v := .inl (rd h q 2)) dd_Rents_fillBest_44 fd_8_38 (io_q hq) (congrArg (fun z : Int => (Sum.inl z : LV)) (rfl)) rfl ?_
  refine R_icmp dd_Rents_fillBest_47 rfl rfl (fun (c11 : (rd h q 2) ≤ v7) => ?_) (fun (c11 : v7 < (rd h q 2)) => ?_)
  · replace k := k.1 c11
    refine R_inc (y := v6 + 1) (ls' := [some (.inr (.inr 96)), some (.inr (.inr q)), some (.inl v2), some (.inl v3), some (.inl v4), some (.inl v5), some (.inl (v6 + 1)), some (.inl v7), o8, o9, o10]) dd_Rents_fillBest_193 rfl (by decide) (by omega) (by omega) rfl rfl ?_
    refine R_goto dd_Rents_fillBest_196 rfl ?_
    exact k
  · replace k := k.2 c11
    refine R_ld (v := .inr (.inr q)) dd_Rents_fillBest_50 rfl rfl rfl rfl ?_
    refine R_gf (v := .inr (.inr (q + 1))) dd_Rents_fillBest_51 fd_8_43 (io_q hq) (congrArg (fun z : Int => (Sum.inr (Sum.inr z) : LV)) (rq_arr hF hq)) rfl ?_
    refine R_ld (v := .inl v7) dd_Rents_fillBest_54 rfl rfl rfl rfl ?_
    obtain ⟨s1, k⟩ := k
    refine R_aald (v := (q + 7 + v7)) (n := 14) dd_Rents_fillBest_56 (ia_dq hq) (la_dq hq) s1 (rq_d hP hq s1) rfl ?_
    refine R_st (ls' := [some (.inr (.inr 96)), some (.inr (.inr q)), some (.inl v2), some (.inl v3), some (.inl v4), some (.inl v5), some (.inl v6), some (.inl v7), some (.inr (.inr (q + 7 + v7))), o9, o10]) dd_Rents_fillBest_57 rfl rfl rfl (Nat.le_of_ble_eq_true rfl) rfl rfl ?_
    refine R_ld (v := .inl v2) dd_Rents_fillBest_59 rfl rfl rfl rfl ?_
    refine R_ld (v := .inl v7) dd_Rents_fillBest_60 rfl rfl rfl rfl ?_
    refine R_A dd_Rents_fillBest_62 rfl rfl rfl rfl ?_
    refine R_ic dd_Rents_fillBest_63 (by decide) rfl ?_
    refine R_A dd_Rents_fillBest_64 rfl rfl rfl rfl ?_
    refine R_if dd_Rents_fillBest_65 rfl rfl (fun (c12 : (zand (zshr v2 v7) 1) = 0) => ?_) (fun (c12 : (zand (zshr v2 v7) 1) ≠ 0) => ?_)
    · replace k := k.1 c12
      refine R_C (v := .inl (1000000)) dd_Rents_fillBest_89 rfl rfl (by decide +kernel) rfl ?_
      refine R_st (ls' := [some (.inr (.inr 96)), some (.inr (.inr q)), some (.inl v2), some (.inl v3), some (.inl v4), some (.inl v5), some (.inl v6), some (.inl v7), some (.inr (.inr (q + 7 + v7))), some (.inl 1000000), o10]) dd_Rents_fillBest_91 rfl rfl rfl (Nat.le_of_ble_eq_true rfl) rfl rfl ?_
      refine R_ld (v := .inl v3) dd_Rents_fillBest_93 rfl rfl rfl rfl ?_
      refine R_ld (v := .inl v7) dd_Rents_fillBest_94 rfl rfl rfl rfl ?_
      refine R_A dd_Rents_fillBest_96 rfl rfl rfl rfl ?_
      refine R_ic dd_Rents_fillBest_97 (by decide) rfl ?_
      refine R_A dd_Rents_fillBest_98 rfl rfl rfl rfl ?_
      refine R_if dd_Rents_fillBest_99 rfl rfl (fun (c13 : (zand (zshr v3 v7) 1) = 0) => ?_) (fun (c13 : (zand (zshr v3 v7) 1) ≠ 0) => ?_)
      · replace k := k.1 c13
        refine R_C (v := .inl (1000000)) dd_Rents_fillBest_123 rfl rfl (by decide +kernel) rfl ?_
        refine R_st (ls' := [some (.inr (.inr 96)), some (.inr (.inr q)), some (.inl v2), some (.inl v3), some (.inl v4), some (.inl v5), some (.inl v6), some (.inl v7), some (.inr (.inr (q + 7 + v7))), some (.inl 1000000), some (.inl 1000000)]) dd_Rents_fillBest_125 rfl rfl rfl (Nat.le_of_ble_eq_true rfl) rfl rfl ?_
        exact k
      · replace k := k.2 c13
        refine R_ld (v := .inr (.inr 96)) dd_Rents_fillBest_102 rfl rfl rfl rfl ?_
        refine R_gf (v := .inr (.inr 97)) dd_Rents_fillBest_103 fd_8_9 io_96 (congrArg (fun z : Int => (Sum.inr (Sum.inr z) : LV)) (rf_96_2 hF)) rfl ?_
        refine R_ld (v := .inr (.inr (q + 7 + v7))) dd_Rents_fillBest_106 rfl rfl rfl rfl ?_
        refine R_gf (v := .inl (rd h (q + 7 + v7) 2)) dd_Rents_fillBest_108 fd_8_119 (io_d hq (by omega)) (congrArg (fun z : Int => (Sum.inl z : LV)) (rfl)) rfl ?_
        obtain ⟨s2, k⟩ := k
        refine R_iald (v := (rd h 97 (rd h (q + 7 + v7) 2))) (n := 10) dd_Rents_fillBest_111 ia_97 la_97 s2 (rfl) rfl ?_
        refine R_ld (v := .inr (.inr 96)) dd_Rents_fillBest_112 rfl rfl rfl rfl ?_
        refine R_gf (v := .inr (.inr 98)) dd_Rents_fillBest_113 fd_8_15 io_96 (congrArg (fun z : Int => (Sum.inr (Sum.inr z) : LV)) (rf_96_3 hF)) rfl ?_
        refine R_ld (v := .inl v7) dd_Rents_fillBest_116 rfl rfl rfl rfl ?_
        obtain ⟨s3, k⟩ := k
        refine R_iald (v := (rd h 98 v7)) (n := 14) dd_Rents_fillBest_118 ia_98 la_98 s3 (rfl) rfl ?_
        obtain ⟨s4, k⟩ := k
        refine R_iadd (c := (rd h 97 (rd h (q + 7 + v7) 2)) + (rd h 98 v7)) dd_Rents_fillBest_119 (by omega) s4 rfl ?_
        refine R_goto dd_Rents_fillBest_120 rfl ?_
        refine R_st (ls' := [some (.inr (.inr 96)), some (.inr (.inr q)), some (.inl v2), some (.inl v3), some (.inl v4), some (.inl v5), some (.inl v6), some (.inl v7), some (.inr (.inr (q + 7 + v7))), some (.inl 1000000), some (.inl ((rd h 97 (rd h (q + 7 + v7) 2)) + (rd h 98 v7)))]) dd_Rents_fillBest_125 rfl rfl rfl (Nat.le_of_ble_eq_true rfl) rfl rfl ?_
        exact k
    · replace k := k.2 c12
      refine R_ld (v := .inr (.inr 96)) dd_Rents_fillBest_68 rfl rfl rfl rfl ?_
      refine R_gf (v := .inr (.inr 97)) dd_Rents_fillBest_69 fd_8_9 io_96 (congrArg (fun z : Int => (Sum.inr (Sum.inr z) : LV)) (rf_96_2 hF)) rfl ?_
      refine R_ld (v := .inr (.inr (q + 7 + v7))) dd_Rents_fillBest_72 rfl rfl rfl rfl ?_
      refine R_gf (v := .inl (rd h (q + 7 + v7) 3)) dd_Rents_fillBest_74 fd_8_116 (io_d hq (by omega)) (congrArg (fun z : Int => (Sum.inl z : LV)) (rfl)) rfl ?_
      obtain ⟨s5, k⟩ := k
      refine R_iald (v := (rd h 97 (rd h (q + 7 + v7) 3))) (n := 10) dd_Rents_fillBest_77 ia_97 la_97 s5 (rfl) rfl ?_
      refine R_ld (v := .inr (.inr 96)) dd_Rents_fillBest_78 rfl rfl rfl rfl ?_
      refine R_gf (v := .inr (.inr 98)) dd_Rents_fillBest_79 fd_8_15 io_96 (congrArg (fun z : Int => (Sum.inr (Sum.inr z) : LV)) (rf_96_3 hF)) rfl ?_
      refine R_ld (v := .inl v7) dd_Rents_fillBest_82 rfl rfl rfl rfl ?_
      obtain ⟨s6, k⟩ := k
      refine R_iald (v := (rd h 98 v7)) (n := 14) dd_Rents_fillBest_84 ia_98 la_98 s6 (rfl) rfl ?_
      obtain ⟨s7, k⟩ := k
      refine R_iadd (c := (rd h 97 (rd h (q + 7 + v7) 3)) + (rd h 98 v7)) dd_Rents_fillBest_85 (by omega) s7 rfl ?_
      refine R_goto dd_Rents_fillBest_86 rfl ?_
      refine R_st (ls' := [some (.inr (.inr 96)), some (.inr (.inr q)), some (.inl v2), some (.inl v3), some (.inl v4), some (.inl v5), some (.inl v6), some (.inl v7), some (.inr (.inr (q + 7 + v7))), some (.inl ((rd h 97 (rd h (q + 7 + v7) 3)) + (rd h 98 v7))), o10]) dd_Rents_fillBest_91 rfl rfl rfl (Nat.le_of_ble_eq_true rfl) rfl rfl ?_
      refine R_ld (v := .inl v3) dd_Rents_fillBest_93 rfl rfl rfl rfl ?_
      refine R_ld (v := .inl v7) dd_Rents_fillBest_94 rfl rfl rfl rfl ?_
      refine R_A dd_Rents_fillBest_96 rfl rfl rfl rfl ?_
      refine R_ic dd_Rents_fillBest_97 (by decide) rfl ?_
      refine R_A dd_Rents_fillBest_98 rfl rfl rfl rfl ?_
      refine R_if dd_Rents_fillBest_99 rfl rfl (fun (c14 : (zand (zshr v3 v7) 1) = 0) => ?_) (fun (c14 : (zand (zshr v3 v7) 1) ≠ 0) => ?_)
      · replace k := k.1 c14
        refine R_C (v := .inl (1000000)) dd_Rents_fillBest_123 rfl rfl (by decide +kernel) rfl ?_
        refine R_st (ls' := [some (.inr (.inr 96)), some (.inr (.inr q)), some (.inl v2), some (.inl v3), some (.inl v4), some (.inl v5), some (.inl v6), some (.inl v7), some (.inr (.inr (q + 7 + v7))), some (.inl ((rd h 97 (rd h (q + 7 + v7) 3)) + (rd h 98 v7))), some (.inl 1000000)]) dd_Rents_fillBest_125 rfl rfl rfl (Nat.le_of_ble_eq_true rfl) rfl rfl ?_
        exact k
      · replace k := k.2 c14
        refine R_ld (v := .inr (.inr 96)) dd_Rents_fillBest_102 rfl rfl rfl rfl ?_
        refine R_gf (v := .inr (.inr 97)) dd_Rents_fillBest_103 fd_8_9 io_96 (congrArg (fun z : Int => (Sum.inr (Sum.inr z) : LV)) (rf_96_2 hF)) rfl ?_
        refine R_ld (v := .inr (.inr (q + 7 + v7))) dd_Rents_fillBest_106 rfl rfl rfl rfl ?_
        refine R_gf (v := .inl (rd h (q + 7 + v7) 2)) dd_Rents_fillBest_108 fd_8_119 (io_d hq (by omega)) (congrArg (fun z : Int => (Sum.inl z : LV)) (rfl)) rfl ?_
        obtain ⟨s8, k⟩ := k
        refine R_iald (v := (rd h 97 (rd h (q + 7 + v7) 2))) (n := 10) dd_Rents_fillBest_111 ia_97 la_97 s8 (rfl) rfl ?_
        refine R_ld (v := .inr (.inr 96)) dd_Rents_fillBest_112 rfl rfl rfl rfl ?_
        refine R_gf (v := .inr (.inr 98)) dd_Rents_fillBest_113 fd_8_15 io_96 (congrArg (fun z : Int => (Sum.inr (Sum.inr z) : LV)) (rf_96_3 hF)) rfl ?_
        refine R_ld (v := .inl v7) dd_Rents_fillBest_116 rfl rfl rfl rfl ?_
        obtain ⟨s9, k⟩ := k
        refine R_iald (v := (rd h 98 v7)) (n := 14) dd_Rents_fillBest_118 ia_98 la_98 s9 (rfl) rfl ?_
        obtain ⟨s10, k⟩ := k
        refine R_iadd (c := (rd h 97 (rd h (q + 7 + v7) 2)) + (rd h 98 v7)) dd_Rents_fillBest_119 (by omega) s10 rfl ?_
        refine R_goto dd_Rents_fillBest_120 rfl ?_
        refine R_st (ls' := [some (.inr (.inr 96)), some (.inr (.inr q)), some (.inl v2), some (.inl v3), some (.inl v4), some (.inl v5), some (.inl v6), some (.inl v7), some (.inr (.inr (q + 7 + v7))), some (.inl ((rd h 97 (rd h (q + 7 + v7) 3)) + (rd h 98 v7))), some (.inl ((rd h 97 (rd h (q + 7 + v7) 2)) + (rd h 98 v7)))]) dd_Rents_fillBest_125 rfl rfl rfl (Nat.le_of_ble_eq_true rfl) rfl rfl ?_
        exact k
theorem B_Rents_fillBest_127 {xs : Nat → Int} {xl e : Nat} {h : LH} {Q : Option LV → LH → Prop} {v2 v3 v4 v5 v6 v7 v9 v10 : Int} {q : Int} (hq : q = 5 ∨ q = 32) (hF : RF h) (r_v7 : 0 ≤ v7 ∧ v7 ≤ 13)
    (k : (0 ≤ (rd h (q + 7 + v7) 2) ∧ (rd h (q + 7 + v7) 2) < 10) ∧
      ((rd h 97 (rd h (q + 7 + v7) 2)) ≤ v9 →
        (0 ≤ (rd h (q + 7 + v7) 3) ∧ (rd h (q + 7 + v7) 3) < 10) ∧
        ((rd h 97 (rd h (q + 7 + v7) 3)) ≤ v10 →
          Rn xs xl e mm_Rents_fillBest 41 [some (.inr (.inr 96)), some (.inr (.inr q)), some (.inl v2), some (.inl v3), some (.inl v4), some (.inl v5), some (.inl v6), some (.inl (v7 + 1)), some (.inr (.inr (q + 7 + v7))), some (.inl v9), some (.inl v10)] [] h Q) ∧
        (v10 < (rd h 97 (rd h (q + 7 + v7) 3)) →
          (0 ≤ (rd h (q + 7 + v7) 3) ∧ (rd h (q + 7 + v7) 3) < 10) ∧
          Rn xs xl e mm_Rents_fillBest 41 [some (.inr (.inr 96)), some (.inr (.inr q)), some (.inl v2), some (.inl v3), some (.inl v4), some (.inl 1), some (.inl v6), some (.inl (v7 + 1)), some (.inr (.inr (q + 7 + v7))), some (.inl v9), some (.inl v10)] [] (wr h 97 (rd h (q + 7 + v7) 3) v10) Q)) ∧
      (v9 < (rd h 97 (rd h (q + 7 + v7) 2)) →
        (0 ≤ (rd h (q + 7 + v7) 2) ∧ (rd h (q + 7 + v7) 2) < 10) ∧
        (0 ≤ (rd h (q + 7 + v7) 3) ∧ (rd h (q + 7 + v7) 3) < 10) ∧
        ((rd (wr h 97 (rd h (q + 7 + v7) 2) v9) 97 (rd h (q + 7 + v7) 3)) ≤ v10 →
          Rn xs xl e mm_Rents_fillBest 41 [some (.inr (.inr 96)), some (.inr (.inr q)), some (.inl v2), some (.inl v3), some (.inl v4), some (.inl 1), some (.inl v6), some (.inl (v7 + 1)), some (.inr (.inr (q + 7 + v7))), some (.inl v9), some (.inl v10)] [] (wr h 97 (rd h (q + 7 + v7) 2) v9) Q) ∧
        (v10 < (rd (wr h 97 (rd h (q + 7 + v7) 2) v9) 97 (rd h (q + 7 + v7) 3)) →
          (0 ≤ (rd h (q + 7 + v7) 3) ∧ (rd h (q + 7 + v7) 3) < 10) ∧
          Rn xs xl e mm_Rents_fillBest 41 [some (.inr (.inr 96)), some (.inr (.inr q)), some (.inl v2), some (.inl v3), some (.inl v4), some (.inl 1), some (.inl v6), some (.inl (v7 + 1)), some (.inr (.inr (q + 7 + v7))), some (.inl v9), some (.inl v10)] [] (wr (wr h 97 (rd h (q + 7 + v7) 2) v9) 97 (rd h (q + 7 + v7) 3) v10) Q))) :
    Rn xs xl e mm_Rents_fillBest 127 [some (.inr (.inr 96)), some (.inr (.inr q)), some (.inl v2), some (.inl v3), some (.inl v4), some (.inl v5), some (.inl v6), some (.inl v7), some (.inr (.inr (q + 7 + v7))), some (.inl v9), some (.inl v10)] [] h Q := by
  refine R_ld (v := .inl v9) dd_Rents_fillBest_127 rfl rfl rfl rfl ?_
  refine R_ld (v := .inr (.inr 96)) dd_Rents_fillBest_129 rfl rfl rfl rfl ?_
  refine R_gf (v := .inr (.inr 97)) dd_Rents_fillBest_130 fd_8_9 io_96 (congrArg (fun z : Int => (Sum.inr (Sum.inr z) : LV)) (rf_96_2 hF)) rfl ?_
  refine R_ld (v := .inr (.inr (q + 7 + v7))) dd_Rents_fillBest_133 rfl rfl rfl rfl ?_
  refine R_gf (v := .inl (rd h (q + 7 + v7) 2)) dd_Rents_fillBest_135 fd_8_119 (io_d hq (by omega)) (congrArg (fun z : Int => (Sum.inl z : LV)) (rfl)) rfl ?_
  obtain ⟨s1, k⟩ := k
  refine R_iald (v := (rd h 97 (rd h (q + 7 + v7) 2))) (n := 10) dd_Rents_fillBest_138 ia_97 la_97 s1 (rfl) rfl ?_
  refine R_icmp dd_Rents_fillBest_139 rfl rfl (fun (c7 : (rd h 97 (rd h (q + 7 + v7) 2)) ≤ v9) => ?_) (fun (c7 : v9 < (rd h 97 (rd h (q + 7 + v7) 2))) => ?_)
  · replace k := k.1 c7
    refine R_ld (v := .inl v10) dd_Rents_fillBest_157 rfl rfl rfl rfl ?_
    refine R_ld (v := .inr (.inr 96)) dd_Rents_fillBest_159 rfl rfl rfl rfl ?_
    refine R_gf (v := .inr (.inr 97)) dd_Rents_fillBest_160 fd_8_9 io_96 (congrArg (fun z : Int => (Sum.inr (Sum.inr z) : LV)) (rf_96_2 hF)) rfl ?_
    refine R_ld (v := .inr (.inr (q + 7 + v7))) dd_Rents_fillBest_163 rfl rfl rfl rfl ?_
    refine R_gf (v := .inl (rd h (q + 7 + v7) 3)) dd_Rents_fillBest_165 fd_8_116 (io_d hq (by omega)) (congrArg (fun z : Int => (Sum.inl z : LV)) (rfl)) rfl ?_
    obtain ⟨s2, k⟩ := k
    refine R_iald (v := (rd h 97 (rd h (q + 7 + v7) 3))) (n := 10) dd_Rents_fillBest_168 ia_97 la_97 s2 (rfl) rfl ?_
    refine R_icmp dd_Rents_fillBest_169 rfl rfl (fun (c8 : (rd h 97 (rd h (q + 7 + v7) 3)) ≤ v10) => ?_) (fun (c8 : v10 < (rd h 97 (rd h (q + 7 + v7) 3))) => ?_)
    · replace k := k.1 c8
      refine R_inc (y := v7 + 1) (ls' := [some (.inr (.inr 96)), some (.inr (.inr q)), some (.inl v2), some (.inl v3), some (.inl v4), some (.inl v5), some (.inl v6), some (.inl (v7 + 1)), some (.inr (.inr (q + 7 + v7))), some (.inl v9), some (.inl v10)]) dd_Rents_fillBest_187 rfl (by decide) (by omega) (by omega) rfl rfl ?_
      refine R_goto dd_Rents_fillBest_190 rfl ?_
      exact k
    · replace k := k.2 c8
      refine R_ld (v := .inr (.inr 96)) dd_Rents_fillBest_172 rfl rfl rfl rfl ?_
      refine R_gf (v := .inr (.inr 97)) dd_Rents_fillBest_173 fd_8_9 io_96 (congrArg (fun z : Int => (Sum.inr (Sum.inr z) : LV)) (rf_96_2 hF)) rfl ?_
      refine R_ld (v := .inr (.inr (q + 7 + v7))) dd_Rents_fillBest_176 rfl rfl rfl rfl ?_
      refine R_gf (v := .inl (rd h (q + 7 + v7) 3)) dd_Rents_fillBest_178 fd_8_116 (io_d hq (by omega)) (congrArg (fun z : Int => (Sum.inl z : LV)) (rfl)) rfl ?_
      refine R_ld (v := .inl v10) dd_Rents_fillBest_181 rfl rfl rfl rfl ?_
      obtain ⟨s3, k⟩ := k
      refine R_iast (n := 10) dd_Rents_fillBest_183 ia_97 la_97 s3 rfl ?_
      refine R_ic dd_Rents_fillBest_184 (by decide) rfl ?_
      refine R_st (ls' := [some (.inr (.inr 96)), some (.inr (.inr q)), some (.inl v2), some (.inl v3), some (.inl v4), some (.inl 1), some (.inl v6), some (.inl v7), some (.inr (.inr (q + 7 + v7))), some (.inl v9), some (.inl v10)]) dd_Rents_fillBest_185 rfl rfl rfl (Nat.le_of_ble_eq_true rfl) rfl rfl ?_
      refine R_inc (y := v7 + 1) (ls' := [some (.inr (.inr 96)), some (.inr (.inr q)), some (.inl v2), some (.inl v3), some (.inl v4), some (.inl 1), some (.inl v6), some (.inl (v7 + 1)), some (.inr (.inr (q + 7 + v7))), some (.inl v9), some (.inl v10)]) dd_Rents_fillBest_187 rfl (by decide) (by omega) (by omega) rfl rfl ?_
      refine R_goto dd_Rents_fillBest_190 rfl ?_
      exact k
  · replace k := k.2 c7
    refine R_ld (v := .inr (.inr 96)) dd_Rents_fillBest_142 rfl rfl rfl rfl ?_
    refine R_gf (v := .inr (.inr 97)) dd_Rents_fillBest_143 fd_8_9 io_96 (congrArg (fun z : Int => (Sum.inr (Sum.inr z) : LV)) (rf_96_2 hF)) rfl ?_
    refine R_ld (v := .inr (.inr (q + 7 + v7))) dd_Rents_fillBest_146 rfl rfl rfl rfl ?_
    refine R_gf (v := .inl (rd h (q + 7 + v7) 2)) dd_Rents_fillBest_148 fd_8_119 (io_d hq (by omega)) (congrArg (fun z : Int => (Sum.inl z : LV)) (rfl)) rfl ?_
    refine R_ld (v := .inl v9) dd_Rents_fillBest_151 rfl rfl rfl rfl ?_
    obtain ⟨s4, k⟩ := k
    refine R_iast (n := 10) dd_Rents_fillBest_153 ia_97 la_97 s4 rfl ?_
    refine R_ic dd_Rents_fillBest_154 (by decide) rfl ?_
    refine R_st (ls' := [some (.inr (.inr 96)), some (.inr (.inr q)), some (.inl v2), some (.inl v3), some (.inl v4), some (.inl 1), some (.inl v6), some (.inl v7), some (.inr (.inr (q + 7 + v7))), some (.inl v9), some (.inl v10)]) dd_Rents_fillBest_155 rfl rfl rfl (Nat.le_of_ble_eq_true rfl) rfl rfl ?_
    refine R_ld (v := .inl v10) dd_Rents_fillBest_157 rfl rfl rfl rfl ?_
    refine R_ld (v := .inr (.inr 96)) dd_Rents_fillBest_159 rfl rfl rfl rfl ?_
    refine R_gf (v := .inr (.inr 97)) dd_Rents_fillBest_160 fd_8_9 io_96 (congrArg (fun z : Int => (Sum.inr (Sum.inr z) : LV)) ((rdw_ne (by decide)).trans (rf_96_2 hF))) rfl ?_
    refine R_ld (v := .inr (.inr (q + 7 + v7))) dd_Rents_fillBest_163 rfl rfl rfl rfl ?_
    refine R_gf (v := .inl (rd h (q + 7 + v7) 3)) dd_Rents_fillBest_165 fd_8_116 (io_d hq (by omega)) (congrArg (fun z : Int => (Sum.inl z : LV)) (rdw_ne (by omega))) rfl ?_
    obtain ⟨s5, k⟩ := k
    refine R_iald (v := (rd (wr h 97 (rd h (q + 7 + v7) 2) v9) 97 (rd h (q + 7 + v7) 3))) (n := 10) dd_Rents_fillBest_168 ia_97 la_97 s5 (rfl) rfl ?_
    refine R_icmp dd_Rents_fillBest_169 rfl rfl (fun (c9 : (rd (wr h 97 (rd h (q + 7 + v7) 2) v9) 97 (rd h (q + 7 + v7) 3)) ≤ v10) => ?_) (fun (c9 : v10 < (rd (wr h 97 (rd h (q + 7 + v7) 2) v9) 97 (rd h (q + 7 + v7) 3))) => ?_)
    · replace k := k.1 c9
      refine R_inc (y := v7 + 1) (ls' := [some (.inr (.inr 96)), some (.inr (.inr q)), some (.inl v2), some (.inl v3), some (.inl v4), some (.inl 1), some (.inl v6), some (.inl (v7 + 1)), some (.inr (.inr (q + 7 + v7))), some (.inl v9), some (.inl v10)]) dd_Rents_fillBest_187 rfl (by decide) (by omega) (by omega) rfl rfl ?_
      refine R_goto dd_Rents_fillBest_190 rfl ?_
      exact k
    · replace k := k.2 c9
      refine R_ld (v := .inr (.inr 96)) dd_Rents_fillBest_172 rfl rfl rfl rfl ?_
      refine R_gf (v := .inr (.inr 97)) dd_Rents_fillBest_173 fd_8_9 io_96 (congrArg (fun z : Int => (Sum.inr (Sum.inr z) : LV)) ((rdw_ne (by decide)).trans (rf_96_2 hF))) rfl ?_
      refine R_ld (v := .inr (.inr (q + 7 + v7))) dd_Rents_fillBest_176 rfl rfl rfl rfl ?_
      refine R_gf (v := .inl (rd h (q + 7 + v7) 3)) dd_Rents_fillBest_178 fd_8_116 (io_d hq (by omega)) (congrArg (fun z : Int => (Sum.inl z : LV)) (rdw_ne (by omega))) rfl ?_
      refine R_ld (v := .inl v10) dd_Rents_fillBest_181 rfl rfl rfl rfl ?_
      obtain ⟨s6, k⟩ := k
      refine R_iast (n := 10) dd_Rents_fillBest_183 ia_97 la_97 s6 rfl ?_
      refine R_ic dd_Rents_fillBest_184 (by decide) rfl ?_
      refine R_st (ls' := [some (.inr (.inr 96)), some (.inr (.inr q)), some (.inl v2), some (.inl v3), some (.inl v4), some (.inl 1), some (.inl v6), some (.inl v7), some (.inr (.inr (q + 7 + v7))), some (.inl v9), some (.inl v10)]) dd_Rents_fillBest_185 rfl rfl rfl (Nat.le_of_ble_eq_true rfl) rfl rfl ?_
      refine R_inc (y := v7 + 1) (ls' := [some (.inr (.inr 96)), some (.inr (.inr q)), some (.inl v2), some (.inl v3), some (.inl v4), some (.inl 1), some (.inl v6), some (.inl (v7 + 1)), some (.inr (.inr (q + 7 + v7))), some (.inl v9), some (.inl v10)]) dd_Rents_fillBest_187 rfl (by decide) (by omega) (by omega) rfl rfl ?_
      refine R_goto dd_Rents_fillBest_190 rfl ?_
      exact k
theorem B_Rents_cheapest_0 {xs : Nat → Int} {xl e : Nat} {h : LH} {Q : Option LV → LH → Prop} {v2 v3 v4 v5 : Int} {q : Int} (hq : q = 5 ∨ q = 32) (hF : RF h)
    (k : Rn xs xl e mm_Rents_cheapest 10 [some (.inr (.inr 96)), some (.inr (.inr q)), some (.inl v2), some (.inl v3), some (.inl v4), some (.inl v5), some (.inl v4), some (.inl 0), some (.inl 0), none, none, none, none, none] [] h Q) :
    Rn xs xl e mm_Rents_cheapest 0 [some (.inr (.inr 96)), some (.inr (.inr q)), some (.inl v2), some (.inl v3), some (.inl v4), some (.inl v5), none, none, none, none, none, none, none, none] [] h Q := by
  refine R_ld (v := .inl v4) dd_Rents_cheapest_0 rfl rfl rfl rfl ?_
  refine R_st (ls' := [some (.inr (.inr 96)), some (.inr (.inr q)), some (.inl v2), some (.inl v3), some (.inl v4), some (.inl v5), some (.inl v4), none, none, none, none, none, none, none]) dd_Rents_cheapest_2 rfl rfl rfl (Nat.le_of_ble_eq_true rfl) rfl rfl ?_
  refine R_ic dd_Rents_cheapest_4 (by decide) rfl ?_
  refine R_st (ls' := [some (.inr (.inr 96)), some (.inr (.inr q)), some (.inl v2), some (.inl v3), some (.inl v4), some (.inl v5), some (.inl v4), some (.inl 0), none, none, none, none, none, none]) dd_Rents_cheapest_5 rfl rfl rfl (Nat.le_of_ble_eq_true rfl) rfl rfl ?_
  refine R_ic dd_Rents_cheapest_7 (by decide) rfl ?_
  refine R_st (ls' := [some (.inr (.inr 96)), some (.inr (.inr q)), some (.inl v2), some (.inl v3), some (.inl v4), some (.inl v5), some (.inl v4), some (.inl 0), some (.inl 0), none, none, none, none, none]) dd_Rents_cheapest_8 rfl rfl rfl (Nat.le_of_ble_eq_true rfl) rfl rfl ?_
  exact k
theorem B_Rents_cheapest_10 {xs : Nat → Int} {xl e : Nat} {h : LH} {Q : Option LV → LH → Prop} {v2 v3 v4 v5 v6 v7 v8 : Int} {q : Int} (hq : q = 5 ∨ q = 32) {o9 : Option LV} {o10 : Option LV} {o11 : Option LV} {o12 : Option LV} {o13 : Option LV} (hF : RF h) (r_v8 : 0 ≤ v8 ∧ v8 ≤ 10)
    (k : (10 ≤ v8 →
        Q (some (.inl v7)) h) ∧
      (v8 < 10 →
        (v6 = v5 →
          Q (some (.inl v7)) h) ∧
        (v6 ≠ v5 →
          (0 ≤ v6 ∧ v6 < 10) ∧
          (1000000 ≤ (rd h 97 v6) →
            Q (some (.inl v7)) h) ∧
          ((rd h 97 v6) < 1000000 →
            Rn xs xl e mm_Rents_cheapest 39 [some (.inr (.inr 96)), some (.inr (.inr q)), some (.inl v2), some (.inl v3), some (.inl v4), some (.inl v5), some (.inl v6), some (.inl v7), some (.inl v8), some (.inl 0), o10, o11, o12, o13] [] h Q)))) :
    Rn xs xl e mm_Rents_cheapest 10 [some (.inr (.inr 96)), some (.inr (.inr q)), some (.inl v2), some (.inl v3), some (.inl v4), some (.inl v5), some (.inl v6), some (.inl v7), some (.inl v8), o9, o10, o11, o12, o13] [] h Q := by
  refine R_ld (v := .inl v8) dd_Rents_cheapest_10 rfl rfl rfl rfl ?_
  refine R_bi dd_Rents_cheapest_12 (by decide) rfl ?_
  refine R_icmp dd_Rents_cheapest_14 rfl rfl (fun (c2 : 10 ≤ v8) => ?_) (fun (c2 : v8 < 10) => ?_)
  · replace k := k.1 c2
    refine R_ld (v := .inl v7) dd_Rents_cheapest_192 rfl rfl rfl rfl ?_
    exact R_iret dd_Rents_cheapest_194 rfl k
  · replace k := k.2 c2
    refine R_ld (v := .inl v6) dd_Rents_cheapest_17 rfl rfl rfl rfl ?_
    refine R_ld (v := .inl v5) dd_Rents_cheapest_19 rfl rfl rfl rfl ?_
    refine R_icmp dd_Rents_cheapest_21 rfl rfl (fun (c3 : v6 = v5) => ?_) (fun (c3 : v6 ≠ v5) => ?_)
    · replace k := k.1 c3
      refine R_ld (v := .inl v7) dd_Rents_cheapest_192 rfl rfl rfl rfl ?_
      exact R_iret dd_Rents_cheapest_194 rfl k
    · replace k := k.2 c3
      refine R_ld (v := .inr (.inr 96)) dd_Rents_cheapest_24 rfl rfl rfl rfl ?_
      refine R_gf (v := .inr (.inr 97)) dd_Rents_cheapest_25 fd_8_9 io_96 (congrArg (fun z : Int => (Sum.inr (Sum.inr z) : LV)) (rf_96_2 hF)) rfl ?_
      refine R_ld (v := .inl v6) dd_Rents_cheapest_28 rfl rfl rfl rfl ?_
      obtain ⟨s1, k⟩ := k
      refine R_iald (v := (rd h 97 v6)) (n := 10) dd_Rents_cheapest_30 ia_97 la_97 s1 (rfl) rfl ?_
      refine R_C (v := .inl (1000000)) dd_Rents_cheapest_31 rfl rfl (by decide +kernel) rfl ?_
      refine R_icmp dd_Rents_cheapest_33 rfl rfl (fun (c4 : 1000000 ≤ (rd h 97 v6)) => ?_) (fun (c4 : (rd h 97 v6) < 1000000) => ?_)
      · replace k := k.1 c4
        refine R_ld (v := .inl v7) dd_Rents_cheapest_192 rfl rfl rfl rfl ?_
        exact R_iret dd_Rents_cheapest_194 rfl k
      · replace k := k.2 c4
        refine R_ic dd_Rents_cheapest_36 (by decide) rfl ?_
        refine R_st (ls' := [some (.inr (.inr 96)), some (.inr (.inr q)), some (.inl v2), some (.inl v3), some (.inl v4), some (.inl v5), some (.inl v6), some (.inl v7), some (.inl v8), some (.inl 0), o10, o11, o12, o13]) dd_Rents_cheapest_37 rfl rfl rfl (Nat.le_of_ble_eq_true rfl) rfl rfl ?_
        exact k
theorem B_Rents_cheapest_39 {xs : Nat → Int} {xl e : Nat} {h : LH} {Q : Option LV → LH → Prop} {v2 v3 v4 v5 v6 v7 v8 v9 : Int} {q : Int} (hq : q = 5 ∨ q = 32) {o10 : Option LV} {o11 : Option LV} {o12 : Option LV} {o13 : Option LV} (hF : RF h) (hP : PT h) (r_v8 : 0 ≤ v8 ∧ v8 ≤ 9) (r_v9 : 0 ≤ v9 ∧ v9 ≤ 14)
    (k : ((rd h q 2) ≤ v9 →
        Rn xs xl e mm_Rents_cheapest 186 [some (.inr (.inr 96)), some (.inr (.inr q)), some (.inl v2), some (.inl v3), some (.inl v4), some (.inl v5), some (.inl v6), some (.inl v7), some (.inl v8), some (.inl v9), o10, o11, o12, o13] [] h Q) ∧
      (v9 < (rd h q 2) →
        (0 ≤ v9 ∧ v9 < 14) ∧
        ((rd h (q + 7 + v9) 2) ≠ v6 →
          ((rd h (q + 7 + v9) 3) ≠ v6 →
            Rn xs xl e mm_Rents_cheapest 109 [some (.inr (.inr 96)), some (.inr (.inr q)), some (.inl v2), some (.inl v3), some (.inl v4), some (.inl v5), some (.inl v6), some (.inl v7), some (.inl v8), some (.inl v9), some (.inr (.inr (q + 7 + v9))), some (.inl 0), some (.inl 0), o13] [] h Q) ∧
          ((rd h (q + 7 + v9) 3) = v6 →
            ((zand (zshr v3 v9) 1) = 0 →
              Rn xs xl e mm_Rents_cheapest 109 [some (.inr (.inr 96)), some (.inr (.inr q)), some (.inl v2), some (.inl v3), some (.inl v4), some (.inl v5), some (.inl v6), some (.inl v7), some (.inl v8), some (.inl v9), some (.inr (.inr (q + 7 + v9))), some (.inl 0), some (.inl 0), o13] [] h Q) ∧
            ((zand (zshr v3 v9) 1) ≠ 0 →
              Rn xs xl e mm_Rents_cheapest 109 [some (.inr (.inr 96)), some (.inr (.inr q)), some (.inl v2), some (.inl v3), some (.inl v4), some (.inl v5), some (.inl v6), some (.inl v7), some (.inl v8), some (.inl v9), some (.inr (.inr (q + 7 + v9))), some (.inl 0), some (.inl 1), o13] [] h Q))) ∧
        ((rd h (q + 7 + v9) 2) = v6 →
          ((zand (zshr v2 v9) 1) = 0 →
            ((rd h (q + 7 + v9) 3) ≠ v6 →
              Rn xs xl e mm_Rents_cheapest 109 [some (.inr (.inr 96)), some (.inr (.inr q)), some (.inl v2), some (.inl v3), some (.inl v4), some (.inl v5), some (.inl v6), some (.inl v7), some (.inl v8), some (.inl v9), some (.inr (.inr (q + 7 + v9))), some (.inl 0), some (.inl 0), o13] [] h Q) ∧
            ((rd h (q + 7 + v9) 3) = v6 →
              ((zand (zshr v3 v9) 1) = 0 →
                Rn xs xl e mm_Rents_cheapest 109 [some (.inr (.inr 96)), some (.inr (.inr q)), some (.inl v2), some (.inl v3), some (.inl v4), some (.inl v5), some (.inl v6), some (.inl v7), some (.inl v8), some (.inl v9), some (.inr (.inr (q + 7 + v9))), some (.inl 0), some (.inl 0), o13] [] h Q) ∧
              ((zand (zshr v3 v9) 1) ≠ 0 →
                Rn xs xl e mm_Rents_cheapest 109 [some (.inr (.inr 96)), some (.inr (.inr q)), some (.inl v2), some (.inl v3), some (.inl v4), some (.inl v5), some (.inl v6), some (.inl v7), some (.inl v8), some (.inl v9), some (.inr (.inr (q + 7 + v9))), some (.inl 0), some (.inl 1), o13] [] h Q))) ∧
          ((zand (zshr v2 v9) 1) ≠ 0 →
            ((rd h (q + 7 + v9) 3) ≠ v6 →
              Rn xs xl e mm_Rents_cheapest 109 [some (.inr (.inr 96)), some (.inr (.inr q)), some (.inl v2), some (.inl v3), some (.inl v4), some (.inl v5), some (.inl v6), some (.inl v7), some (.inl v8), some (.inl v9), some (.inr (.inr (q + 7 + v9))), some (.inl 1), some (.inl 0), o13] [] h Q) ∧
            ((rd h (q + 7 + v9) 3) = v6 →
              ((zand (zshr v3 v9) 1) = 0 →
                Rn xs xl e mm_Rents_cheapest 109 [some (.inr (.inr 96)), some (.inr (.inr q)), some (.inl v2), some (.inl v3), some (.inl v4), some (.inl v5), some (.inl v6), some (.inl v7), some (.inl v8), some (.inl v9), some (.inr (.inr (q + 7 + v9))), some (.inl 1), some (.inl 0), o13] [] h Q) ∧
              ((zand (zshr v3 v9) 1) ≠ 0 →
                Rn xs xl e mm_Rents_cheapest 109 [some (.inr (.inr 96)), some (.inr (.inr q)), some (.inl v2), some (.inl v3), some (.inl v4), some (.inl v5), some (.inl v6), some (.inl v7), some (.inl v8), some (.inl v9), some (.inr (.inr (q + 7 + v9))), some (.inl 1), some (.inl 1), o13] [] h Q)))))) :
    Rn xs xl e mm_Rents_cheapest 39 [some (.inr (.inr 96)), some (.inr (.inr q)), some (.inl v2), some (.inl v3), some (.inl v4), some (.inl v5), some (.inl v6), some (.inl v7), some (.inl v8), some (.inl v9), o10, o11, o12, o13] [] h Q := by
  refine R_ld (v := .inl v9) dd_Rents_cheapest_39 rfl rfl rfl rfl ?_
  refine R_ld (v := .inr (.inr q)) dd_Rents_cheapest_41 rfl rfl rfl rfl ?_
  refine R_gf (v := .inl (rd h q 2)) dd_Rents_cheapest_42 fd_8_38 (io_q hq) (congrArg (fun z : Int => (Sum.inl z : LV)) (rfl)) rfl ?_
  refine R_icmp dd_Rents_cheapest_45 rfl rfl (fun (c2 : (rd h q 2) ≤ v9) => ?_) (fun (c2 : v9 < (rd h q 2)) => ?_)
  · replace k := k.1 c2
    exact k
  · replace k := k.2 c2
    refine R_ld (v := .inr (.inr q)) dd_Rents_cheapest_48 rfl rfl rfl rfl ?_
    refine R_gf (v := .inr (.inr (q + 1))) dd_Rents_cheapest_49 fd_8_43 (io_q hq) (congrArg (fun z : Int => (Sum.inr (Sum.inr z) : LV)) (rq_arr hF hq)) rfl ?_
    refine R_ld (v := .inl v9) dd_Rents_cheapest_52 rfl rfl rfl rfl ?_
    obtain ⟨s1, k⟩ := k
    refine R_aald (v := (q + 7 + v9)) (n := 14) dd_Rents_cheapest_54 (ia_dq hq) (la_dq hq) s1 (rq_d hP hq s1) rfl ?_
    refine R_st (ls' := [some (.inr (.inr 96)), some (.inr (.inr q)), some (.inl v2), some (.inl v3), some (.inl v4), some (.inl v5), some (.inl v6), some (.inl v7), some (.inl v8), some (.inl v9), some (.inr (.inr (q + 7 + v9))), o11, o12, o13]) dd_Rents_cheapest_55 rfl rfl rfl (Nat.le_of_ble_eq_true rfl) rfl rfl ?_
    refine R_ld (v := .inr (.inr (q + 7 + v9))) dd_Rents_cheapest_57 rfl rfl rfl rfl ?_
    refine R_gf (v := .inl (rd h (q + 7 + v9) 2)) dd_Rents_cheapest_59 fd_8_119 (io_d hq (by omega)) (congrArg (fun z : Int => (Sum.inl z : LV)) (rfl)) rfl ?_
    refine R_ld (v := .inl v6) dd_Rents_cheapest_62 rfl rfl rfl rfl ?_
    refine R_icmp dd_Rents_cheapest_64 rfl rfl (fun (c3 : (rd h (q + 7 + v9) 2) ≠ v6) => ?_) (fun (c3 : (rd h (q + 7 + v9) 2) = v6) => ?_)
    · replace k := k.1 c3
      refine R_ic dd_Rents_cheapest_80 (by decide) rfl ?_
      refine R_st (ls' := [some (.inr (.inr 96)), some (.inr (.inr q)), some (.inl v2), some (.inl v3), some (.inl v4), some (.inl v5), some (.inl v6), some (.inl v7), some (.inl v8), some (.inl v9), some (.inr (.inr (q + 7 + v9))), some (.inl 0), o12, o13]) dd_Rents_cheapest_81 rfl rfl rfl (Nat.le_of_ble_eq_true rfl) rfl rfl ?_
      refine R_ld (v := .inr (.inr (q + 7 + v9))) dd_Rents_cheapest_83 rfl rfl rfl rfl ?_
      refine R_gf (v := .inl (rd h (q + 7 + v9) 3)) dd_Rents_cheapest_85 fd_8_116 (io_d hq (by omega)) (congrArg (fun z : Int => (Sum.inl z : LV)) (rfl)) rfl ?_
      refine R_ld (v := .inl v6) dd_Rents_cheapest_88 rfl rfl rfl rfl ?_
      refine R_icmp dd_Rents_cheapest_90 rfl rfl (fun (c4 : (rd h (q + 7 + v9) 3) ≠ v6) => ?_) (fun (c4 : (rd h (q + 7 + v9) 3) = v6) => ?_)
      · replace k := k.1 c4
        refine R_ic dd_Rents_cheapest_106 (by decide) rfl ?_
        refine R_st (ls' := [some (.inr (.inr 96)), some (.inr (.inr q)), some (.inl v2), some (.inl v3), some (.inl v4), some (.inl v5), some (.inl v6), some (.inl v7), some (.inl v8), some (.inl v9), some (.inr (.inr (q + 7 + v9))), some (.inl 0), some (.inl 0), o13]) dd_Rents_cheapest_107 rfl rfl rfl (Nat.le_of_ble_eq_true rfl) rfl rfl ?_
        exact k
      · replace k := k.2 c4
        refine R_ld (v := .inl v3) dd_Rents_cheapest_93 rfl rfl rfl rfl ?_
        refine R_ld (v := .inl v9) dd_Rents_cheapest_94 rfl rfl rfl rfl ?_
        refine R_A dd_Rents_cheapest_96 rfl rfl rfl rfl ?_
        refine R_ic dd_Rents_cheapest_97 (by decide) rfl ?_
        refine R_A dd_Rents_cheapest_98 rfl rfl rfl rfl ?_
        refine R_if dd_Rents_cheapest_99 rfl rfl (fun (c5 : (zand (zshr v3 v9) 1) = 0) => ?_) (fun (c5 : (zand (zshr v3 v9) 1) ≠ 0) => ?_)
        · replace k := k.1 c5
          refine R_ic dd_Rents_cheapest_106 (by decide) rfl ?_
          refine R_st (ls' := [some (.inr (.inr 96)), some (.inr (.inr q)), some (.inl v2), some (.inl v3), some (.inl v4), some (.inl v5), some (.inl v6), some (.inl v7), some (.inl v8), some (.inl v9), some (.inr (.inr (q + 7 + v9))), some (.inl 0), some (.inl 0), o13]) dd_Rents_cheapest_107 rfl rfl rfl (Nat.le_of_ble_eq_true rfl) rfl rfl ?_
          exact k
        · replace k := k.2 c5
          refine R_ic dd_Rents_cheapest_102 (by decide) rfl ?_
          refine R_goto dd_Rents_cheapest_103 rfl ?_
          refine R_st (ls' := [some (.inr (.inr 96)), some (.inr (.inr q)), some (.inl v2), some (.inl v3), some (.inl v4), some (.inl v5), some (.inl v6), some (.inl v7), some (.inl v8), some (.inl v9), some (.inr (.inr (q + 7 + v9))), some (.inl 0), some (.inl 1), o13]) dd_Rents_cheapest_107 rfl rfl rfl (Nat.le_of_ble_eq_true rfl) rfl rfl ?_
          exact k
    · replace k := k.2 c3
      refine R_ld (v := .inl v2) dd_Rents_cheapest_67 rfl rfl rfl rfl ?_
      refine R_ld (v := .inl v9) dd_Rents_cheapest_68 rfl rfl rfl rfl ?_
      refine R_A dd_Rents_cheapest_70 rfl rfl rfl rfl ?_
      refine R_ic dd_Rents_cheapest_71 (by decide) rfl ?_
      refine R_A dd_Rents_cheapest_72 rfl rfl rfl rfl ?_
      refine R_if dd_Rents_cheapest_73 rfl rfl (fun (c6 : (zand (zshr v2 v9) 1) = 0) => ?_) (fun (c6 : (zand (zshr v2 v9) 1) ≠ 0) => ?_)
      · replace k := k.1 c6
        refine R_ic dd_Rents_cheapest_80 (by decide) rfl ?_
        refine R_st (ls' := [some (.inr (.inr 96)), some (.inr (.inr q)), some (.inl v2), some (.inl v3), some (.inl v4), some (.inl v5), some (.inl v6), some (.inl v7), some (.inl v8), some (.inl v9), some (.inr (.inr (q + 7 + v9))), some (.inl 0), o12, o13]) dd_Rents_cheapest_81 rfl rfl rfl (Nat.le_of_ble_eq_true rfl) rfl rfl ?_
        refine R_ld (v := .inr (.inr (q + 7 + v9))) dd_Rents_cheapest_83 rfl rfl rfl rfl ?_
        refine R_gf (v := .inl (rd h (q + 7 + v9) 3)) dd_Rents_cheapest_85 fd_8_116 (io_d hq (by omega)) (congrArg (fun z : Int => (Sum.inl z : LV)) (rfl)) rfl ?_
        refine R_ld (v := .inl v6) dd_Rents_cheapest_88 rfl rfl rfl rfl ?_
        refine R_icmp dd_Rents_cheapest_90 rfl rfl (fun (c7 : (rd h (q + 7 + v9) 3) ≠ v6) => ?_) (fun (c7 : (rd h (q + 7 + v9) 3) = v6) => ?_)
        · replace k := k.1 c7
          refine R_ic dd_Rents_cheapest_106 (by decide) rfl ?_
          refine R_st (ls' := [some (.inr (.inr 96)), some (.inr (.inr q)), some (.inl v2), some (.inl v3), some (.inl v4), some (.inl v5), some (.inl v6), some (.inl v7), some (.inl v8), some (.inl v9), some (.inr (.inr (q + 7 + v9))), some (.inl 0), some (.inl 0), o13]) dd_Rents_cheapest_107 rfl rfl rfl (Nat.le_of_ble_eq_true rfl) rfl rfl ?_
          exact k
        · replace k := k.2 c7
          refine R_ld (v := .inl v3) dd_Rents_cheapest_93 rfl rfl rfl rfl ?_
          refine R_ld (v := .inl v9) dd_Rents_cheapest_94 rfl rfl rfl rfl ?_
          refine R_A dd_Rents_cheapest_96 rfl rfl rfl rfl ?_
          refine R_ic dd_Rents_cheapest_97 (by decide) rfl ?_
          refine R_A dd_Rents_cheapest_98 rfl rfl rfl rfl ?_
          refine R_if dd_Rents_cheapest_99 rfl rfl (fun (c8 : (zand (zshr v3 v9) 1) = 0) => ?_) (fun (c8 : (zand (zshr v3 v9) 1) ≠ 0) => ?_)
          · replace k := k.1 c8
            refine R_ic dd_Rents_cheapest_106 (by decide) rfl ?_
            refine R_st (ls' := [some (.inr (.inr 96)), some (.inr (.inr q)), some (.inl v2), some (.inl v3), some (.inl v4), some (.inl v5), some (.inl v6), some (.inl v7), some (.inl v8), some (.inl v9), some (.inr (.inr (q + 7 + v9))), some (.inl 0), some (.inl 0), o13]) dd_Rents_cheapest_107 rfl rfl rfl (Nat.le_of_ble_eq_true rfl) rfl rfl ?_
            exact k
          · replace k := k.2 c8
            refine R_ic dd_Rents_cheapest_102 (by decide) rfl ?_
            refine R_goto dd_Rents_cheapest_103 rfl ?_
            refine R_st (ls' := [some (.inr (.inr 96)), some (.inr (.inr q)), some (.inl v2), some (.inl v3), some (.inl v4), some (.inl v5), some (.inl v6), some (.inl v7), some (.inl v8), some (.inl v9), some (.inr (.inr (q + 7 + v9))), some (.inl 0), some (.inl 1), o13]) dd_Rents_cheapest_107 rfl rfl rfl (Nat.le_of_ble_eq_true rfl) rfl rfl ?_
            exact k
      · replace k := k.2 c6
        refine R_ic dd_Rents_cheapest_76 (by decide) rfl ?_
        refine R_goto dd_Rents_cheapest_77 rfl ?_
        refine R_st (ls' := [some (.inr (.inr 96)), some (.inr (.inr q)), some (.inl v2), some (.inl v3), some (.inl v4), some (.inl v5), some (.inl v6), some (.inl v7), some (.inl v8), some (.inl v9), some (.inr (.inr (q + 7 + v9))), some (.inl 1), o12, o13]) dd_Rents_cheapest_81 rfl rfl rfl (Nat.le_of_ble_eq_true rfl) rfl rfl ?_
        refine R_ld (v := .inr (.inr (q + 7 + v9))) dd_Rents_cheapest_83 rfl rfl rfl rfl ?_
        refine R_gf (v := .inl (rd h (q + 7 + v9) 3)) dd_Rents_cheapest_85 fd_8_116 (io_d hq (by omega)) (congrArg (fun z : Int => (Sum.inl z : LV)) (rfl)) rfl ?_
        refine R_ld (v := .inl v6) dd_Rents_cheapest_88 rfl rfl rfl rfl ?_
        refine R_icmp dd_Rents_cheapest_90 rfl rfl (fun (c9 : (rd h (q + 7 + v9) 3) ≠ v6) => ?_) (fun (c9 : (rd h (q + 7 + v9) 3) = v6) => ?_)
        · replace k := k.1 c9
          refine R_ic dd_Rents_cheapest_106 (by decide) rfl ?_
          refine R_st (ls' := [some (.inr (.inr 96)), some (.inr (.inr q)), some (.inl v2), some (.inl v3), some (.inl v4), some (.inl v5), some (.inl v6), some (.inl v7), some (.inl v8), some (.inl v9), some (.inr (.inr (q + 7 + v9))), some (.inl 1), some (.inl 0), o13]) dd_Rents_cheapest_107 rfl rfl rfl (Nat.le_of_ble_eq_true rfl) rfl rfl ?_
          exact k
        · replace k := k.2 c9
          refine R_ld (v := .inl v3) dd_Rents_cheapest_93 rfl rfl rfl rfl ?_
          refine R_ld (v := .inl v9) dd_Rents_cheapest_94 rfl rfl rfl rfl ?_
          refine R_A dd_Rents_cheapest_96 rfl rfl rfl rfl ?_
          refine R_ic dd_Rents_cheapest_97 (by decide) rfl ?_
          refine R_A dd_Rents_cheapest_98 rfl rfl rfl rfl ?_
          refine R_if dd_Rents_cheapest_99 rfl rfl (fun (c10 : (zand (zshr v3 v9) 1) = 0) => ?_) (fun (c10 : (zand (zshr v3 v9) 1) ≠ 0) => ?_)
          · replace k := k.1 c10
            refine R_ic dd_Rents_cheapest_106 (by decide) rfl ?_
            refine R_st (ls' := [some (.inr (.inr 96)), some (.inr (.inr q)), some (.inl v2), some (.inl v3), some (.inl v4), some (.inl v5), some (.inl v6), some (.inl v7), some (.inl v8), some (.inl v9), some (.inr (.inr (q + 7 + v9))), some (.inl 1), some (.inl 0), o13]) dd_Rents_cheapest_107 rfl rfl rfl (Nat.le_of_ble_eq_true rfl) rfl rfl ?_
            exact k
          · replace k := k.2 c10
            refine R_ic dd_Rents_cheapest_102 (by decide) rfl ?_
            refine R_goto dd_Rents_cheapest_103 rfl ?_
            refine R_st (ls' := [some (.inr (.inr 96)), some (.inr (.inr q)), some (.inl v2), some (.inl v3), some (.inl v4), some (.inl v5), some (.inl v6), some (.inl v7), some (.inl v8), some (.inl v9), some (.inr (.inr (q + 7 + v9))), some (.inl 1), some (.inl 1), o13]) dd_Rents_cheapest_107 rfl rfl rfl (Nat.le_of_ble_eq_true rfl) rfl rfl ?_
            exact k
theorem B_Rents_cheapest_109 {xs : Nat → Int} {xl e : Nat} {h : LH} {Q : Option LV → LH → Prop} {v2 v3 v4 v5 v6 v7 v8 v9 v11 v12 : Int} {q : Int} (hq : q = 5 ∨ q = 32) {o13 : Option LV} (hF : RF h) (r_v9 : 0 ≤ v9 ∧ v9 ≤ 13)
    (k : (v11 = 0 →
        Rn xs xl e mm_Rents_cheapest 129 [some (.inr (.inr 96)), some (.inr (.inr q)), some (.inl v2), some (.inl v3), some (.inl v4), some (.inl v5), some (.inl v6), some (.inl v7), some (.inl v8), some (.inl v9), some (.inr (.inr (q + 7 + v9))), some (.inl v11), some (.inl v12), some (.inl (rd h (q + 7 + v9) 2))] [] h Q) ∧
      (v11 ≠ 0 →
        Rn xs xl e mm_Rents_cheapest 129 [some (.inr (.inr 96)), some (.inr (.inr q)), some (.inl v2), some (.inl v3), some (.inl v4), some (.inl v5), some (.inl v6), some (.inl v7), some (.inl v8), some (.inl v9), some (.inr (.inr (q + 7 + v9))), some (.inl v11), some (.inl v12), some (.inl (rd h (q + 7 + v9) 3))] [] h Q)) :
    Rn xs xl e mm_Rents_cheapest 109 [some (.inr (.inr 96)), some (.inr (.inr q)), some (.inl v2), some (.inl v3), some (.inl v4), some (.inl v5), some (.inl v6), some (.inl v7), some (.inl v8), some (.inl v9), some (.inr (.inr (q + 7 + v9))), some (.inl v11), some (.inl v12), o13] [] h Q := by
  refine R_ld (v := .inl v11) dd_Rents_cheapest_109 rfl rfl rfl rfl ?_
  refine R_if dd_Rents_cheapest_111 rfl rfl (fun (c1 : v11 = 0) => ?_) (fun (c1 : v11 ≠ 0) => ?_)
  · replace k := k.1 c1
    refine R_ld (v := .inr (.inr (q + 7 + v9))) dd_Rents_cheapest_122 rfl rfl rfl rfl ?_
    refine R_gf (v := .inl (rd h (q + 7 + v9) 2)) dd_Rents_cheapest_124 fd_8_119 (io_d hq (by omega)) (congrArg (fun z : Int => (Sum.inl z : LV)) (rfl)) rfl ?_
    refine R_st (ls' := [some (.inr (.inr 96)), some (.inr (.inr q)), some (.inl v2), some (.inl v3), some (.inl v4), some (.inl v5), some (.inl v6), some (.inl v7), some (.inl v8), some (.inl v9), some (.inr (.inr (q + 7 + v9))), some (.inl v11), some (.inl v12), some (.inl (rd h (q + 7 + v9) 2))]) dd_Rents_cheapest_127 rfl rfl rfl (Nat.le_of_ble_eq_true rfl) rfl rfl ?_
    exact k
  · replace k := k.2 c1
    refine R_ld (v := .inr (.inr (q + 7 + v9))) dd_Rents_cheapest_114 rfl rfl rfl rfl ?_
    refine R_gf (v := .inl (rd h (q + 7 + v9) 3)) dd_Rents_cheapest_116 fd_8_116 (io_d hq (by omega)) (congrArg (fun z : Int => (Sum.inl z : LV)) (rfl)) rfl ?_
    refine R_goto dd_Rents_cheapest_119 rfl ?_
    refine R_st (ls' := [some (.inr (.inr 96)), some (.inr (.inr q)), some (.inl v2), some (.inl v3), some (.inl v4), some (.inl v5), some (.inl v6), some (.inl v7), some (.inl v8), some (.inl v9), some (.inr (.inr (q + 7 + v9))), some (.inl v11), some (.inl v12), some (.inl (rd h (q + 7 + v9) 3))]) dd_Rents_cheapest_127 rfl rfl rfl (Nat.le_of_ble_eq_true rfl) rfl rfl ?_
    exact k
theorem B_Rents_cheapest_129 {xs : Nat → Int} {xl e : Nat} {h : LH} {Q : Option LV → LH → Prop} {v2 v3 v4 v5 v6 v7 v8 v9 v11 v12 v13 : Int} {q : Int} (hq : q = 5 ∨ q = 32) (hF : RF h) (r_v9 : 0 ≤ v9 ∧ v9 ≤ 13)
    (k : (v11 ≠ 0 →
        (0 ≤ v13 ∧ v13 < 10) ∧
        (-2147483648 ≤ (rd h 97 v13) + (rd h 98 v9) ∧ (rd h 97 v13) + (rd h 98 v9) ≤ 2147483647) ∧
        (0 ≤ v6 ∧ v6 < 10) ∧
        (((rd h 97 v13) + (rd h 98 v9)) ≠ (rd h 97 v6) →
          Rn xs xl e mm_Rents_cheapest 39 [some (.inr (.inr 96)), some (.inr (.inr q)), some (.inl v2), some (.inl v3), some (.inl v4), some (.inl v5), some (.inl v6), some (.inl v7), some (.inl v8), some (.inl (v9 + 1)), some (.inr (.inr (q + 7 + v9))), some (.inl v11), some (.inl v12), some (.inl v13)] [] h Q) ∧
        (((rd h 97 v13) + (rd h 98 v9)) = (rd h 97 v6) →
          Rn xs xl e mm_Rents_cheapest 186 [some (.inr (.inr 96)), some (.inr (.inr q)), some (.inl v2), some (.inl v3), some (.inl v4), some (.inl v5), some (.inl v13), some (.inl (zor v7 (zshl 1 v9))), some (.inl v8), some (.inl v9), some (.inr (.inr (q + 7 + v9))), some (.inl v11), some (.inl v12), some (.inl v13)] [] h Q)) ∧
      (v11 = 0 →
        (v12 = 0 →
          Rn xs xl e mm_Rents_cheapest 39 [some (.inr (.inr 96)), some (.inr (.inr q)), some (.inl v2), some (.inl v3), some (.inl v4), some (.inl v5), some (.inl v6), some (.inl v7), some (.inl v8), some (.inl (v9 + 1)), some (.inr (.inr (q + 7 + v9))), some (.inl v11), some (.inl v12), some (.inl v13)] [] h Q) ∧
        (v12 ≠ 0 →
          (0 ≤ v13 ∧ v13 < 10) ∧
          (-2147483648 ≤ (rd h 97 v13) + (rd h 98 v9) ∧ (rd h 97 v13) + (rd h 98 v9) ≤ 2147483647) ∧
          (0 ≤ v6 ∧ v6 < 10) ∧
          (((rd h 97 v13) + (rd h 98 v9)) ≠ (rd h 97 v6) →
            Rn xs xl e mm_Rents_cheapest 39 [some (.inr (.inr 96)), some (.inr (.inr q)), some (.inl v2), some (.inl v3), some (.inl v4), some (.inl v5), some (.inl v6), some (.inl v7), some (.inl v8), some (.inl (v9 + 1)), some (.inr (.inr (q + 7 + v9))), some (.inl v11), some (.inl v12), some (.inl v13)] [] h Q) ∧
          (((rd h 97 v13) + (rd h 98 v9)) = (rd h 97 v6) →
            Rn xs xl e mm_Rents_cheapest 186 [some (.inr (.inr 96)), some (.inr (.inr q)), some (.inl v2), some (.inl v3), some (.inl v4), some (.inl v5), some (.inl v13), some (.inl (zor v7 (zshl 1 v9))), some (.inl v8), some (.inl v9), some (.inr (.inr (q + 7 + v9))), some (.inl v11), some (.inl v12), some (.inl v13)] [] h Q)))) :
    Rn xs xl e mm_Rents_cheapest 129 [some (.inr (.inr 96)), some (.inr (.inr q)), some (.inl v2), some (.inl v3), some (.inl v4), some (.inl v5), some (.inl v6), some (.inl v7), some (.inl v8), some (.inl v9), some (.inr (.inr (q + 7 + v9))), some (.inl v11), some (.inl v12), some (.inl v13)] [] h Q := by
  refine R_ld (v := .inl v11) dd_Rents_cheapest_129 rfl rfl rfl rfl ?_
  refine R_if dd_Rents_cheapest_131 rfl rfl (fun (c7 : v11 ≠ 0) => ?_) (fun (c7 : v11 = 0) => ?_)
  · replace k := k.1 c7
    refine R_ld (v := .inr (.inr 96)) dd_Rents_cheapest_139 rfl rfl rfl rfl ?_
    refine R_gf (v := .inr (.inr 97)) dd_Rents_cheapest_140 fd_8_9 io_96 (congrArg (fun z : Int => (Sum.inr (Sum.inr z) : LV)) (rf_96_2 hF)) rfl ?_
    refine R_ld (v := .inl v13) dd_Rents_cheapest_143 rfl rfl rfl rfl ?_
    obtain ⟨s1, k⟩ := k
    refine R_iald (v := (rd h 97 v13)) (n := 10) dd_Rents_cheapest_145 ia_97 la_97 s1 (rfl) rfl ?_
    refine R_ld (v := .inr (.inr 96)) dd_Rents_cheapest_146 rfl rfl rfl rfl ?_
    refine R_gf (v := .inr (.inr 98)) dd_Rents_cheapest_147 fd_8_15 io_96 (congrArg (fun z : Int => (Sum.inr (Sum.inr z) : LV)) (rf_96_3 hF)) rfl ?_
    refine R_ld (v := .inl v9) dd_Rents_cheapest_150 rfl rfl rfl rfl ?_
    refine R_iald (v := (rd h 98 v9)) (n := 14) dd_Rents_cheapest_152 ia_98 la_98 (by omega) (rfl) rfl ?_
    obtain ⟨s2, k⟩ := k
    refine R_iadd (c := (rd h 97 v13) + (rd h 98 v9)) dd_Rents_cheapest_153 (by omega) s2 rfl ?_
    refine R_ld (v := .inr (.inr 96)) dd_Rents_cheapest_154 rfl rfl rfl rfl ?_
    refine R_gf (v := .inr (.inr 97)) dd_Rents_cheapest_155 fd_8_9 io_96 (congrArg (fun z : Int => (Sum.inr (Sum.inr z) : LV)) (rf_96_2 hF)) rfl ?_
    refine R_ld (v := .inl v6) dd_Rents_cheapest_158 rfl rfl rfl rfl ?_
    obtain ⟨s3, k⟩ := k
    refine R_iald (v := (rd h 97 v6)) (n := 10) dd_Rents_cheapest_160 ia_97 la_97 s3 (rfl) rfl ?_
    refine R_icmp dd_Rents_cheapest_161 rfl rfl (fun (c8 : ((rd h 97 v13) + (rd h 98 v9)) ≠ (rd h 97 v6)) => ?_) (fun (c8 : ((rd h 97 v13) + (rd h 98 v9)) = (rd h 97 v6)) => ?_)
    · replace k := k.1 c8
      refine R_inc (y := v9 + 1) (ls' := [some (.inr (.inr 96)), some (.inr (.inr q)), some (.inl v2), some (.inl v3), some (.inl v4), some (.inl v5), some (.inl v6), some (.inl v7), some (.inl v8), some (.inl (v9 + 1)), some (.inr (.inr (q + 7 + v9))), some (.inl v11), some (.inl v12), some (.inl v13)]) dd_Rents_cheapest_180 rfl (by decide) (by omega) (by omega) rfl rfl ?_
      refine R_goto dd_Rents_cheapest_183 rfl ?_
      exact k
    · replace k := k.2 c8
      refine R_ld (v := .inl v7) dd_Rents_cheapest_164 rfl rfl rfl rfl ?_
      refine R_ic dd_Rents_cheapest_166 (by decide) rfl ?_
      refine R_ld (v := .inl v9) dd_Rents_cheapest_167 rfl rfl rfl rfl ?_
      refine R_A dd_Rents_cheapest_169 rfl rfl rfl rfl ?_
      refine R_A dd_Rents_cheapest_170 rfl rfl rfl rfl ?_
      refine R_st (ls' := [some (.inr (.inr 96)), some (.inr (.inr q)), some (.inl v2), some (.inl v3), some (.inl v4), some (.inl v5), some (.inl v6), some (.inl (zor v7 (zshl 1 v9))), some (.inl v8), some (.inl v9), some (.inr (.inr (q + 7 + v9))), some (.inl v11), some (.inl v12), some (.inl v13)]) dd_Rents_cheapest_171 rfl rfl rfl (Nat.le_of_ble_eq_true rfl) rfl rfl ?_
      refine R_ld (v := .inl v13) dd_Rents_cheapest_173 rfl rfl rfl rfl ?_
      refine R_st (ls' := [some (.inr (.inr 96)), some (.inr (.inr q)), some (.inl v2), some (.inl v3), some (.inl v4), some (.inl v5), some (.inl v13), some (.inl (zor v7 (zshl 1 v9))), some (.inl v8), some (.inl v9), some (.inr (.inr (q + 7 + v9))), some (.inl v11), some (.inl v12), some (.inl v13)]) dd_Rents_cheapest_175 rfl rfl rfl (Nat.le_of_ble_eq_true rfl) rfl rfl ?_
      refine R_goto dd_Rents_cheapest_177 rfl ?_
      exact k
  · replace k := k.2 c7
    refine R_ld (v := .inl v12) dd_Rents_cheapest_134 rfl rfl rfl rfl ?_
    refine R_if dd_Rents_cheapest_136 rfl rfl (fun (c9 : v12 = 0) => ?_) (fun (c9 : v12 ≠ 0) => ?_)
    · replace k := k.1 c9
      refine R_inc (y := v9 + 1) (ls' := [some (.inr (.inr 96)), some (.inr (.inr q)), some (.inl v2), some (.inl v3), some (.inl v4), some (.inl v5), some (.inl v6), some (.inl v7), some (.inl v8), some (.inl (v9 + 1)), some (.inr (.inr (q + 7 + v9))), some (.inl v11), some (.inl v12), some (.inl v13)]) dd_Rents_cheapest_180 rfl (by decide) (by omega) (by omega) rfl rfl ?_
      refine R_goto dd_Rents_cheapest_183 rfl ?_
      exact k
    · replace k := k.2 c9
      refine R_ld (v := .inr (.inr 96)) dd_Rents_cheapest_139 rfl rfl rfl rfl ?_
      refine R_gf (v := .inr (.inr 97)) dd_Rents_cheapest_140 fd_8_9 io_96 (congrArg (fun z : Int => (Sum.inr (Sum.inr z) : LV)) (rf_96_2 hF)) rfl ?_
      refine R_ld (v := .inl v13) dd_Rents_cheapest_143 rfl rfl rfl rfl ?_
      obtain ⟨s4, k⟩ := k
      refine R_iald (v := (rd h 97 v13)) (n := 10) dd_Rents_cheapest_145 ia_97 la_97 s4 (rfl) rfl ?_
      refine R_ld (v := .inr (.inr 96)) dd_Rents_cheapest_146 rfl rfl rfl rfl ?_
      refine R_gf (v := .inr (.inr 98)) dd_Rents_cheapest_147 fd_8_15 io_96 (congrArg (fun z : Int => (Sum.inr (Sum.inr z) : LV)) (rf_96_3 hF)) rfl ?_
      refine R_ld (v := .inl v9) dd_Rents_cheapest_150 rfl rfl rfl rfl ?_
      refine R_iald (v := (rd h 98 v9)) (n := 14) dd_Rents_cheapest_152 ia_98 la_98 (by omega) (rfl) rfl ?_
      obtain ⟨s5, k⟩ := k
      refine R_iadd (c := (rd h 97 v13) + (rd h 98 v9)) dd_Rents_cheapest_153 (by omega) s5 rfl ?_
      refine R_ld (v := .inr (.inr 96)) dd_Rents_cheapest_154 rfl rfl rfl rfl ?_
      refine R_gf (v := .inr (.inr 97)) dd_Rents_cheapest_155 fd_8_9 io_96 (congrArg (fun z : Int => (Sum.inr (Sum.inr z) : LV)) (rf_96_2 hF)) rfl ?_
      refine R_ld (v := .inl v6) dd_Rents_cheapest_158 rfl rfl rfl rfl ?_
      obtain ⟨s6, k⟩ := k
      refine R_iald (v := (rd h 97 v6)) (n := 10) dd_Rents_cheapest_160 ia_97 la_97 s6 (rfl) rfl ?_
      refine R_icmp dd_Rents_cheapest_161 rfl rfl (fun (c10 : ((rd h 97 v13) + (rd h 98 v9)) ≠ (rd h 97 v6)) => ?_) (fun (c10 : ((rd h 97 v13) + (rd h 98 v9)) = (rd h 97 v6)) => ?_)
      · replace k := k.1 c10
        refine R_inc (y := v9 + 1) (ls' := [some (.inr (.inr 96)), some (.inr (.inr q)), some (.inl v2), some (.inl v3), some (.inl v4), some (.inl v5), some (.inl v6), some (.inl v7), some (.inl v8), some (.inl (v9 + 1)), some (.inr (.inr (q + 7 + v9))), some (.inl v11), some (.inl v12), some (.inl v13)]) dd_Rents_cheapest_180 rfl (by decide) (by omega) (by omega) rfl rfl ?_
        refine R_goto dd_Rents_cheapest_183 rfl ?_
        exact k
      · replace k := k.2 c10
        refine R_ld (v := .inl v7) dd_Rents_cheapest_164 rfl rfl rfl rfl ?_
        refine R_ic dd_Rents_cheapest_166 (by decide) rfl ?_
        refine R_ld (v := .inl v9) dd_Rents_cheapest_167 rfl rfl rfl rfl ?_
        refine R_A dd_Rents_cheapest_169 rfl rfl rfl rfl ?_
        refine R_A dd_Rents_cheapest_170 rfl rfl rfl rfl ?_
        refine R_st (ls' := [some (.inr (.inr 96)), some (.inr (.inr q)), some (.inl v2), some (.inl v3), some (.inl v4), some (.inl v5), some (.inl v6), some (.inl (zor v7 (zshl 1 v9))), some (.inl v8), some (.inl v9), some (.inr (.inr (q + 7 + v9))), some (.inl v11), some (.inl v12), some (.inl v13)]) dd_Rents_cheapest_171 rfl rfl rfl (Nat.le_of_ble_eq_true rfl) rfl rfl ?_
        refine R_ld (v := .inl v13) dd_Rents_cheapest_173 rfl rfl rfl rfl ?_
        refine R_st (ls' := [some (.inr (.inr 96)), some (.inr (.inr q)), some (.inl v2), some (.inl v3), some (.inl v4), some (.inl v5), some (.inl v13), some (.inl (zor v7 (zshl 1 v9))), some (.inl v8), some (.inl v9), some (.inr (.inr (q + 7 + v9))), some (.inl v11), some (.inl v12), some (.inl v13)]) dd_Rents_cheapest_175 rfl rfl rfl (Nat.le_of_ble_eq_true rfl) rfl rfl ?_
        refine R_goto dd_Rents_cheapest_177 rfl ?_
        exact k
theorem B_Rents_cheapest_186 {xs : Nat → Int} {xl e : Nat} {h : LH} {Q : Option LV → LH → Prop} {v2 v3 v4 v5 v6 v7 v8 v9 : Int} {q : Int} (hq : q = 5 ∨ q = 32) {o10 : Option LV} {o11 : Option LV} {o12 : Option LV} {o13 : Option LV} (hF : RF h) (r_v8 : 0 ≤ v8 ∧ v8 ≤ 9)
    (k : Rn xs xl e mm_Rents_cheapest 10 [some (.inr (.inr 96)), some (.inr (.inr q)), some (.inl v2), some (.inl v3), some (.inl v4), some (.inl v5), some (.inl v6), some (.inl v7), some (.inl (v8 + 1)), some (.inl v9), o10, o11, o12, o13] [] h Q) :
    Rn xs xl e mm_Rents_cheapest 186 [some (.inr (.inr 96)), some (.inr (.inr q)), some (.inl v2), some (.inl v3), some (.inl v4), some (.inl v5), some (.inl v6), some (.inl v7), some (.inl v8), some (.inl v9), o10, o11, o12, o13] [] h Q := by
  refine R_inc (y := v8 + 1) (ls' := [some (.inr (.inr 96)), some (.inr (.inr q)), some (.inl v2), some (.inl v3), some (.inl v4), some (.inl v5), some (.inl v6), some (.inl v7), some (.inl (v8 + 1)), some (.inl v9), o10, o11, o12, o13]) dd_Rents_cheapest_186 rfl (by decide) (by omega) (by omega) rfl rfl ?_
  refine R_goto dd_Rents_cheapest_189 rfl ?_
  exact k
theorem B_Rents_isRest_0 {xs : Nat → Int} {xl e : Nat} {h : LH} {Q : Option LV → LH → Prop} {v1 : Int} (hF : RF h) (r_v1 : 0 ≤ v1 ∧ v1 ≤ 99)
    (k : Rn xs xl e mm_Rents_isRest 2 [some (.inr (.inr 96)), some (.inl v1), some (.inl 0)] [] h Q) :
    Rn xs xl e mm_Rents_isRest 0 [some (.inr (.inr 96)), some (.inl v1), none] [] h Q := by
  refine R_ic dd_Rents_isRest_0 (by decide) rfl ?_
  refine R_st (ls' := [some (.inr (.inr 96)), some (.inl v1), some (.inl 0)]) dd_Rents_isRest_1 rfl rfl rfl (Nat.le_of_ble_eq_true rfl) rfl rfl ?_
  exact k
theorem B_Rents_isRest_2 {xs : Nat → Int} {xl e : Nat} {h : LH} {Q : Option LV → LH → Prop} {v1 v2 : Int} (hF : RF h) (r_v1 : 0 ≤ v1 ∧ v1 ≤ 99) (r_v2 : 0 ≤ v2 ∧ v2 ≤ 10)
    (k : (10 ≤ v2 →
        Q (some (.inl 1)) h) ∧
      (v2 < 10 →
        (-2147483648 ≤ 10 * v2 + (v1 % 10) ∧ 10 * v2 + (v1 % 10) ≤ 2147483647) ∧
        (0 ≤ 10 * v2 + (v1 % 10) ∧ 10 * v2 + (v1 % 10) < 100) ∧
        ((rd h 100 (10 * v2 + (v1 % 10))) ≤ (rd h 100 v1) →
          (-2147483648 ≤ 10 * (v1 / 10) ∧ 10 * (v1 / 10) ≤ 2147483647) ∧
          (-2147483648 ≤ 10 * (v1 / 10) + v2 ∧ 10 * (v1 / 10) + v2 ≤ 2147483647) ∧
          (0 ≤ 10 * (v1 / 10) + v2 ∧ 10 * (v1 / 10) + v2 < 100) ∧
          ((rd h 101 (10 * (v1 / 10) + v2)) ≤ (rd h 101 v1) →
            Rn xs xl e mm_Rents_isRest 2 [some (.inr (.inr 96)), some (.inl v1), some (.inl (v2 + 1))] [] h Q) ∧
          ((rd h 101 v1) < (rd h 101 (10 * (v1 / 10) + v2)) →
            Q (some (.inl 0)) h)) ∧
        ((rd h 100 v1) < (rd h 100 (10 * v2 + (v1 % 10))) →
          Q (some (.inl 0)) h))) :
    Rn xs xl e mm_Rents_isRest 2 [some (.inr (.inr 96)), some (.inl v1), some (.inl v2)] [] h Q := by
  refine R_ld (v := .inl v2) dd_Rents_isRest_2 rfl rfl rfl rfl ?_
  refine R_bi dd_Rents_isRest_3 (by decide) rfl ?_
  refine R_icmp dd_Rents_isRest_5 rfl rfl (fun (c6 : 10 ≤ v2) => ?_) (fun (c6 : v2 < 10) => ?_)
  · replace k := k.1 c6
    refine R_ic dd_Rents_isRest_64 (by decide) rfl ?_
    exact R_zret dd_Rents_isRest_65 rfl (by decide) k
  · replace k := k.2 c6
    refine R_ld (v := .inr (.inr 96)) dd_Rents_isRest_8 rfl rfl rfl rfl ?_
    refine R_gf (v := .inr (.inr 100)) dd_Rents_isRest_9 fd_8_21 io_96 (congrArg (fun z : Int => (Sum.inr (Sum.inr z) : LV)) (rf_96_5 hF)) rfl ?_
    refine R_ld (v := .inl v2) dd_Rents_isRest_12 rfl rfl rfl rfl ?_
    refine R_bi dd_Rents_isRest_13 (by decide) rfl ?_
    refine R_imul (c := 10 * v2) dd_Rents_isRest_15 (by omega) (by omega) rfl ?_
    refine R_ld (v := .inl v1) dd_Rents_isRest_16 rfl rfl rfl rfl ?_
    refine R_bi dd_Rents_isRest_17 (by decide) rfl ?_
    refine R_irem dd_Rents_isRest_19 (by omega) (by decide) rfl ?_
    obtain ⟨s1, k⟩ := k
    refine R_iadd (c := 10 * v2 + (v1 % 10)) dd_Rents_isRest_20 (by omega) s1 rfl ?_
    obtain ⟨s2, k⟩ := k
    refine R_iald (v := (rd h 100 (10 * v2 + (v1 % 10)))) (n := 100) dd_Rents_isRest_21 ia_100 la_100 s2 (rfl) rfl ?_
    refine R_ld (v := .inr (.inr 96)) dd_Rents_isRest_22 rfl rfl rfl rfl ?_
    refine R_gf (v := .inr (.inr 100)) dd_Rents_isRest_23 fd_8_21 io_96 (congrArg (fun z : Int => (Sum.inr (Sum.inr z) : LV)) (rf_96_5 hF)) rfl ?_
    refine R_ld (v := .inl v1) dd_Rents_isRest_26 rfl rfl rfl rfl ?_
    refine R_iald (v := (rd h 100 v1)) (n := 100) dd_Rents_isRest_27 ia_100 la_100 (by omega) (rfl) rfl ?_
    refine R_icmp dd_Rents_isRest_28 rfl rfl (fun (c7 : (rd h 100 (10 * v2 + (v1 % 10))) ≤ (rd h 100 v1)) => ?_) (fun (c7 : (rd h 100 v1) < (rd h 100 (10 * v2 + (v1 % 10)))) => ?_)
    · replace k := k.1 c7
      refine R_ld (v := .inr (.inr 96)) dd_Rents_isRest_33 rfl rfl rfl rfl ?_
      refine R_gf (v := .inr (.inr 101)) dd_Rents_isRest_34 fd_8_24 io_96 (congrArg (fun z : Int => (Sum.inr (Sum.inr z) : LV)) (rf_96_6 hF)) rfl ?_
      refine R_ld (v := .inl v1) dd_Rents_isRest_37 rfl rfl rfl rfl ?_
      refine R_bi dd_Rents_isRest_38 (by decide) rfl ?_
      refine R_idiv dd_Rents_isRest_40 (by omega) (by decide) rfl ?_
      refine R_bi dd_Rents_isRest_41 (by decide) rfl ?_
      obtain ⟨s3, k⟩ := k
      refine R_imul (c := 10 * (v1 / 10)) dd_Rents_isRest_43 (by omega) s3 rfl ?_
      refine R_ld (v := .inl v2) dd_Rents_isRest_44 rfl rfl rfl rfl ?_
      obtain ⟨s4, k⟩ := k
      refine R_iadd (c := 10 * (v1 / 10) + v2) dd_Rents_isRest_45 (by omega) s4 rfl ?_
      obtain ⟨s5, k⟩ := k
      refine R_iald (v := (rd h 101 (10 * (v1 / 10) + v2))) (n := 100) dd_Rents_isRest_46 ia_101 la_101 s5 (rfl) rfl ?_
      refine R_ld (v := .inr (.inr 96)) dd_Rents_isRest_47 rfl rfl rfl rfl ?_
      refine R_gf (v := .inr (.inr 101)) dd_Rents_isRest_48 fd_8_24 io_96 (congrArg (fun z : Int => (Sum.inr (Sum.inr z) : LV)) (rf_96_6 hF)) rfl ?_
      refine R_ld (v := .inl v1) dd_Rents_isRest_51 rfl rfl rfl rfl ?_
      refine R_iald (v := (rd h 101 v1)) (n := 100) dd_Rents_isRest_52 ia_101 la_101 (by omega) (rfl) rfl ?_
      refine R_icmp dd_Rents_isRest_53 rfl rfl (fun (c8 : (rd h 101 (10 * (v1 / 10) + v2)) ≤ (rd h 101 v1)) => ?_) (fun (c8 : (rd h 101 v1) < (rd h 101 (10 * (v1 / 10) + v2))) => ?_)
      · replace k := k.1 c8
        refine R_inc (y := v2 + 1) (ls' := [some (.inr (.inr 96)), some (.inl v1), some (.inl (v2 + 1))]) dd_Rents_isRest_58 rfl (by decide) (by omega) (by omega) rfl rfl ?_
        refine R_goto dd_Rents_isRest_61 rfl ?_
        exact k
      · replace k := k.2 c8
        refine R_ic dd_Rents_isRest_56 (by decide) rfl ?_
        exact R_zret dd_Rents_isRest_57 rfl (by decide) k
    · replace k := k.2 c7
      refine R_ic dd_Rents_isRest_31 (by decide) rfl ?_
      exact R_zret dd_Rents_isRest_32 rfl (by decide) k
theorem B_Rents_restCount_0 {xs : Nat → Int} {xl e : Nat} {h : LH} {Q : Option LV → LH → Prop} (hF : RF h)
    (k : Rn xs xl e mm_Rents_restCount 4 [some (.inr (.inr 96)), some (.inl 0), some (.inl 0)] [] h Q) :
    Rn xs xl e mm_Rents_restCount 0 [some (.inr (.inr 96)), none, none] [] h Q := by
  refine R_ic dd_Rents_restCount_0 (by decide) rfl ?_
  refine R_st (ls' := [some (.inr (.inr 96)), some (.inl 0), none]) dd_Rents_restCount_1 rfl rfl rfl (Nat.le_of_ble_eq_true rfl) rfl rfl ?_
  refine R_ic dd_Rents_restCount_2 (by decide) rfl ?_
  refine R_st (ls' := [some (.inr (.inr 96)), some (.inl 0), some (.inl 0)]) dd_Rents_restCount_3 rfl rfl rfl (Nat.le_of_ble_eq_true rfl) rfl rfl ?_
  exact k
theorem B_Rents_restCount_4 {xs : Nat → Int} {xl e : Nat} {h : LH} {Q : Option LV → LH → Prop} {v1 v2 : Int} (hF : RF h) (r_v2 : 0 ≤ v2 ∧ v2 ≤ 100)
    (k : (100 ≤ v2 →
        Q (some (.inl v1)) h) ∧
      (v2 < 100 →
        (∃ c, c < e ∧ Rn xs xl c mm_Rents_isRest 0 [some (.inr (.inr 96)), some (.inl v2), none] [] h (fun r h' => Rn xs xl e mm_Rents_restCount 16 [some (.inr (.inr 96)), some (.inl v1), some (.inl v2)] (r.toList ++ [.inl v1]) h' Q)))) :
    Rn xs xl e mm_Rents_restCount 4 [some (.inr (.inr 96)), some (.inl v1), some (.inl v2)] [] h Q := by
  refine R_ld (v := .inl v2) dd_Rents_restCount_4 rfl rfl rfl rfl ?_
  refine R_bi dd_Rents_restCount_5 (by decide) rfl ?_
  refine R_icmp dd_Rents_restCount_7 rfl rfl (fun (c2 : 100 ≤ v2) => ?_) (fun (c2 : v2 < 100) => ?_)
  · replace k := k.1 c2
    refine R_ld (v := .inl v1) dd_Rents_restCount_32 rfl rfl rfl rfl ?_
    exact R_iret dd_Rents_restCount_33 rfl k
  · replace k := k.2 c2
    refine R_ld (v := .inl v1) dd_Rents_restCount_10 rfl rfl rfl rfl ?_
    refine R_ld (v := .inr (.inr 96)) dd_Rents_restCount_11 rfl rfl rfl rfl ?_
    refine R_ld (v := .inl v2) dd_Rents_restCount_12 rfl rfl rfl rfl ?_
    obtain ⟨c, hc, k⟩ := k
    exact R_call (as := [.inr (.inr 96), .inl v2]) (rest := [.inl v1]) (M' := mm_Rents_isRest) (ls0 := [some (.inr (.inr 96)), some (.inl v2), none]) dd_Rents_restCount_13 rfl rfl (cw_v cw_8_122 io_96 rfl rfl (Nat.le_of_ble_eq_true rfl) (Nat.le_of_ble_eq_true rfl)) mt_Rents_isRest rfl hc rfl k
theorem B_Rents_restCount_16 {xs : Nat → Int} {xl e : Nat} {h : LH} {Q : Option LV → LH → Prop} {v1 v2 w0 w1 : Int} (hF : RF h) (r_v2 : 0 ≤ v2 ∧ v2 ≤ 99)
    (k : (w1 = 0 →
        (-2147483648 ≤ w0 ∧ w0 ≤ 2147483647) ∧
        Rn xs xl e mm_Rents_restCount 4 [some (.inr (.inr 96)), some (.inl w0), some (.inl (v2 + 1))] [] h Q) ∧
      (w1 ≠ 0 →
        (-2147483648 ≤ w0 + 1 ∧ w0 + 1 ≤ 2147483647) ∧
        Rn xs xl e mm_Rents_restCount 4 [some (.inr (.inr 96)), some (.inl (w0 + 1)), some (.inl (v2 + 1))] [] h Q)) :
    Rn xs xl e mm_Rents_restCount 16 [some (.inr (.inr 96)), some (.inl v1), some (.inl v2)] [.inl w1, .inl w0] h Q := by
  refine R_if dd_Rents_restCount_16 rfl rfl (fun (c3 : w1 = 0) => ?_) (fun (c3 : w1 ≠ 0) => ?_)
  · replace k := k.1 c3
    refine R_ic dd_Rents_restCount_23 (by decide) rfl ?_
    obtain ⟨s1, k⟩ := k
    refine R_iadd (c := w0) dd_Rents_restCount_24 (by omega) s1 rfl ?_
    refine R_st (ls' := [some (.inr (.inr 96)), some (.inl w0), some (.inl v2)]) dd_Rents_restCount_25 rfl rfl rfl (Nat.le_of_ble_eq_true rfl) rfl rfl ?_
    refine R_inc (y := v2 + 1) (ls' := [some (.inr (.inr 96)), some (.inl w0), some (.inl (v2 + 1))]) dd_Rents_restCount_26 rfl (by decide) (by omega) (by omega) rfl rfl ?_
    refine R_goto dd_Rents_restCount_29 rfl ?_
    exact k
  · replace k := k.2 c3
    refine R_ic dd_Rents_restCount_19 (by decide) rfl ?_
    refine R_goto dd_Rents_restCount_20 rfl ?_
    obtain ⟨s2, k⟩ := k
    refine R_iadd (c := w0 + 1) dd_Rents_restCount_24 (by omega) s2 rfl ?_
    refine R_st (ls' := [some (.inr (.inr 96)), some (.inl (w0 + 1)), some (.inl v2)]) dd_Rents_restCount_25 rfl rfl rfl (Nat.le_of_ble_eq_true rfl) rfl rfl ?_
    refine R_inc (y := v2 + 1) (ls' := [some (.inr (.inr 96)), some (.inl (w0 + 1)), some (.inl (v2 + 1))]) dd_Rents_restCount_26 rfl (by decide) (by omega) (by omega) rfl rfl ?_
    refine R_goto dd_Rents_restCount_29 rfl ?_
    exact k
theorem B_Rents_restAt_0 {xs : Nat → Int} {xl e : Nat} {h : LH} {Q : Option LV → LH → Prop} {v1 : Int} (hF : RF h)
    (k : Rn xs xl e mm_Rents_restAt 4 [some (.inr (.inr 96)), some (.inl v1), some (.inl v1), some (.inl 0)] [] h Q) :
    Rn xs xl e mm_Rents_restAt 0 [some (.inr (.inr 96)), some (.inl v1), none, none] [] h Q := by
  refine R_ld (v := .inl v1) dd_Rents_restAt_0 rfl rfl rfl rfl ?_
  refine R_st (ls' := [some (.inr (.inr 96)), some (.inl v1), some (.inl v1), none]) dd_Rents_restAt_1 rfl rfl rfl (Nat.le_of_ble_eq_true rfl) rfl rfl ?_
  refine R_ic dd_Rents_restAt_2 (by decide) rfl ?_
  refine R_st (ls' := [some (.inr (.inr 96)), some (.inl v1), some (.inl v1), some (.inl 0)]) dd_Rents_restAt_3 rfl rfl rfl (Nat.le_of_ble_eq_true rfl) rfl rfl ?_
  exact k
theorem B_Rents_restAt_4 {xs : Nat → Int} {xl e : Nat} {h : LH} {Q : Option LV → LH → Prop} {v1 v2 v3 : Int} (hF : RF h) (r_v3 : 0 ≤ v3 ∧ v3 ≤ 100)
    (k : (100 ≤ v3 →
        Q (some (.inl (-1))) h) ∧
      (v3 < 100 →
        (∃ c, c < e ∧ Rn xs xl c mm_Rents_isRest 0 [some (.inr (.inr 96)), some (.inl v3), none] [] h (fun r h' => Rn xs xl e mm_Rents_restAt 15 [some (.inr (.inr 96)), some (.inl v1), some (.inl v2), some (.inl v3)] (r.toList ++ []) h' Q)))) :
    Rn xs xl e mm_Rents_restAt 4 [some (.inr (.inr 96)), some (.inl v1), some (.inl v2), some (.inl v3)] [] h Q := by
  refine R_ld (v := .inl v3) dd_Rents_restAt_4 rfl rfl rfl rfl ?_
  refine R_bi dd_Rents_restAt_5 (by decide) rfl ?_
  refine R_icmp dd_Rents_restAt_7 rfl rfl (fun (c2 : 100 ≤ v3) => ?_) (fun (c2 : v3 < 100) => ?_)
  · replace k := k.1 c2
    refine R_ic dd_Rents_restAt_33 (by decide) rfl ?_
    exact R_iret dd_Rents_restAt_34 rfl k
  · replace k := k.2 c2
    refine R_ld (v := .inr (.inr 96)) dd_Rents_restAt_10 rfl rfl rfl rfl ?_
    refine R_ld (v := .inl v3) dd_Rents_restAt_11 rfl rfl rfl rfl ?_
    obtain ⟨c, hc, k⟩ := k
    exact R_call (as := [.inr (.inr 96), .inl v3]) (rest := []) (M' := mm_Rents_isRest) (ls0 := [some (.inr (.inr 96)), some (.inl v3), none]) dd_Rents_restAt_12 rfl rfl (cw_v cw_8_122 io_96 rfl rfl (Nat.le_of_ble_eq_true rfl) (Nat.le_of_ble_eq_true rfl)) mt_Rents_isRest rfl hc rfl k
theorem B_Rents_restAt_15 {xs : Nat → Int} {xl e : Nat} {h : LH} {Q : Option LV → LH → Prop} {v1 v2 v3 w0 : Int} (hF : RF h) (r_v3 : 0 ≤ v3 ∧ v3 ≤ 99)
    (k : (w0 = 0 →
        Rn xs xl e mm_Rents_restAt 4 [some (.inr (.inr 96)), some (.inl v1), some (.inl v2), some (.inl (v3 + 1))] [] h Q) ∧
      (w0 ≠ 0 →
        (v2 ≠ 0 →
          (-2147483648 ≤ v2 - 1 ∧ v2 - 1 ≤ 2147483647) ∧
          Rn xs xl e mm_Rents_restAt 4 [some (.inr (.inr 96)), some (.inl v1), some (.inl (v2 - 1)), some (.inl (v3 + 1))] [] h Q) ∧
        (v2 = 0 →
          Q (some (.inl v3)) h))) :
    Rn xs xl e mm_Rents_restAt 15 [some (.inr (.inr 96)), some (.inl v1), some (.inl v2), some (.inl v3)] [.inl w0] h Q := by
  refine R_if dd_Rents_restAt_15 rfl rfl (fun (c2 : w0 = 0) => ?_) (fun (c2 : w0 ≠ 0) => ?_)
  · replace k := k.1 c2
    refine R_inc (y := v3 + 1) (ls' := [some (.inr (.inr 96)), some (.inl v1), some (.inl v2), some (.inl (v3 + 1))]) dd_Rents_restAt_27 rfl (by decide) (by omega) (by omega) rfl rfl ?_
    refine R_goto dd_Rents_restAt_30 rfl ?_
    exact k
  · replace k := k.2 c2
    refine R_ld (v := .inl v2) dd_Rents_restAt_18 rfl rfl rfl rfl ?_
    refine R_if dd_Rents_restAt_19 rfl rfl (fun (c3 : v2 ≠ 0) => ?_) (fun (c3 : v2 = 0) => ?_)
    · replace k := k.1 c3
      obtain ⟨s1, k⟩ := k
      refine R_inc (y := v2 - 1) (ls' := [some (.inr (.inr 96)), some (.inl v1), some (.inl (v2 - 1)), some (.inl v3)]) dd_Rents_restAt_24 rfl (by decide) (by omega) s1 rfl rfl ?_
      refine R_inc (y := v3 + 1) (ls' := [some (.inr (.inr 96)), some (.inl v1), some (.inl (v2 - 1)), some (.inl (v3 + 1))]) dd_Rents_restAt_27 rfl (by decide) (by omega) (by omega) rfl rfl ?_
      refine R_goto dd_Rents_restAt_30 rfl ?_
      exact k
    · replace k := k.2 c3
      refine R_ld (v := .inl v3) dd_Rents_restAt_22 rfl rfl rfl rfl ?_
      exact R_iret dd_Rents_restAt_23 rfl k
theorem B_OneSided_rests_0 {xs : Nat → Int} {xl e : Nat} {h : LH} {Q : Option LV → LH → Prop} {v1 v2 v3 : Int} {q : Int} (hq : q = 5 ∨ q = 32) (hQ : rd h 1 ((1 : Nat) : Int) = q) (hF : RF h) (hP : PT h) (he : 2 ≤ e)
    (k : (v1 < 0 →
        Q (some (.inl (-1))) h) ∧
      (0 ≤ v1 →
        ((rd h q 2) ≤ v1 →
          Q (some (.inl (-1))) h) ∧
        (v1 < (rd h q 2) →
          (0 ≤ v1 ∧ v1 < 14) ∧
          ((rd h (q + 7 + v1) 1) ≠ 2 →
            Q (some (.inl (-1))) h) ∧
          ((rd h (q + 7 + v1) 1) = 2 →
            (v2 < 0 →
              Q (some (.inl (-1))) h) ∧
            (0 ≤ v2 →
              ((rd h q 2) ≤ v2 →
                Q (some (.inl (-1))) h) ∧
              (v2 < (rd h q 2) →
                (0 ≤ v2 ∧ v2 < 14) ∧
                ((rd h (q + 7 + v2) 1) ≠ 2 →
                  Q (some (.inl (-1))) h) ∧
                ((rd h (q + 7 + v2) 1) = 2 →
                  (v1 = v2 →
                    Q (some (.inl (-1))) h) ∧
                  (v1 ≠ v2 →
                    ((-1) ≤ v3 →
                      (∃ c, c < e ∧ Rn xs xl c mm_Rents_settle 0 [some (.inr (.inr 96)), some (.inr (.inr q)), some (.inr (.inr 60)), some (.inl v1), some (.inl v2), none] [] h (fun r h' => Rn xs xl e mm_OneSided_rests 48 [some (.inr (.inr 1)), some (.inl v1), some (.inl v2), some (.inl v3)] (r.toList ++ []) h' Q))) ∧
                    (v3 < (-1) →
                      Q (some (.inl (-1))) h))))))))) :
    Rn xs xl e mm_OneSided_rests 0 [some (.inr (.inr 1)), some (.inl v1), some (.inl v2), some (.inl v3)] [] h Q := by
  refine R_ld (v := .inr (.inr 1)) dd_OneSided_rests_0 rfl rfl rfl rfl ?_
  refine R_ld (v := .inl v1) dd_OneSided_rests_1 rfl rfl rfl rfl ?_
  refine R_call (as := [.inr (.inr 1), .inl v1]) (rest := []) (M' := mm_OneSided_isHinge) (ls0 := [some (.inr (.inr 1)), some (.inl v1)]) dd_OneSided_rests_2 rfl rfl (cw_v cw_11_318 io_1 rfl rfl (Nat.le_of_ble_eq_true rfl) (Nat.le_of_ble_eq_true rfl)) mt_OneSided_isHinge rfl (c := e - 1) (by omega) rfl ?_
  refine R_ld (v := .inr (.inr 1)) dd_OneSided_isHinge_0 rfl rfl rfl rfl ?_
  refine R_ld (v := .inl v1) dd_OneSided_isHinge_1 rfl rfl rfl rfl ?_
  refine R_call (as := [.inr (.inr 1), .inl v1]) (rest := []) (M' := mm_OneSided_isDoor) (ls0 := [some (.inr (.inr 1)), some (.inl v1)]) dd_OneSided_isHinge_2 rfl rfl (cw_v cw_11_115 io_1 rfl rfl (Nat.le_of_ble_eq_true rfl) (Nat.le_of_ble_eq_true rfl)) mt_OneSided_isDoor rfl (c := e - 2) (by omega) rfl ?_
  refine R_ld (v := .inl v1) dd_OneSided_isDoor_0 rfl rfl rfl rfl ?_
  refine R_if dd_OneSided_isDoor_1 rfl rfl (fun (c4 : v1 < 0) => ?_) (fun (c4 : 0 ≤ v1) => ?_)
  · replace k := k.1 c4
    refine R_ic dd_OneSided_isDoor_19 (by decide) rfl ?_
    refine R_zret dd_OneSided_isDoor_20 rfl (by decide) ?_
    change Rn xs xl (e - 1) mm_OneSided_isHinge 5 [some (.inr (.inr 1)), some (.inl v1)] [.inl 0] h _
    refine R_if dd_OneSided_isHinge_5 rfl rfl (fun (c5 : 0 = 0) => ?_) (fun (c5 : 0 ≠ 0) => ?_)
    · skip
      refine R_ic dd_OneSided_isHinge_28 (by decide) rfl ?_
      refine R_zret dd_OneSided_isHinge_29 rfl (by decide) ?_
      change Rn xs xl e mm_OneSided_rests 5 [some (.inr (.inr 1)), some (.inl v1), some (.inl v2), some (.inl v3)] [.inl 0] h _
      refine R_if dd_OneSided_rests_5 rfl rfl (fun (c6 : 0 = 0) => ?_) (fun (c6 : 0 ≠ 0) => ?_)
      · skip
        refine R_ic dd_OneSided_rests_26 (by decide) rfl ?_
        exact R_iret dd_OneSided_rests_27 rfl k
      · exact absurd c6 (by omega)
    · exact absurd c5 (by omega)
  · replace k := k.2 c4
    refine R_ld (v := .inl v1) dd_OneSided_isDoor_4 rfl rfl rfl rfl ?_
    refine R_ld (v := .inr (.inr 1)) dd_OneSided_isDoor_5 rfl rfl rfl rfl ?_
    refine R_gf (v := .inr (.inr q)) dd_OneSided_isDoor_6 fd_11_19 io_1 (congrArg (fun z : Int => (Sum.inr (Sum.inr z) : LV)) hQ) rfl ?_
    refine R_gf (v := .inl (rd h q 2)) dd_OneSided_isDoor_9 fd_11_345 (io_q hq) (congrArg (fun z : Int => (Sum.inl z : LV)) (rfl)) rfl ?_
    refine R_icmp dd_OneSided_isDoor_12 rfl rfl (fun (c7 : (rd h q 2) ≤ v1) => ?_) (fun (c7 : v1 < (rd h q 2)) => ?_)
    · replace k := k.1 c7
      refine R_ic dd_OneSided_isDoor_19 (by decide) rfl ?_
      refine R_zret dd_OneSided_isDoor_20 rfl (by decide) ?_
      change Rn xs xl (e - 1) mm_OneSided_isHinge 5 [some (.inr (.inr 1)), some (.inl v1)] [.inl 0] h _
      refine R_if dd_OneSided_isHinge_5 rfl rfl (fun (c8 : 0 = 0) => ?_) (fun (c8 : 0 ≠ 0) => ?_)
      · skip
        refine R_ic dd_OneSided_isHinge_28 (by decide) rfl ?_
        refine R_zret dd_OneSided_isHinge_29 rfl (by decide) ?_
        change Rn xs xl e mm_OneSided_rests 5 [some (.inr (.inr 1)), some (.inl v1), some (.inl v2), some (.inl v3)] [.inl 0] h _
        refine R_if dd_OneSided_rests_5 rfl rfl (fun (c9 : 0 = 0) => ?_) (fun (c9 : 0 ≠ 0) => ?_)
        · skip
          refine R_ic dd_OneSided_rests_26 (by decide) rfl ?_
          exact R_iret dd_OneSided_rests_27 rfl k
        · exact absurd c9 (by omega)
      · exact absurd c8 (by omega)
    · replace k := k.2 c7
      refine R_ic dd_OneSided_isDoor_15 (by decide) rfl ?_
      refine R_goto dd_OneSided_isDoor_16 rfl ?_
      refine R_zret dd_OneSided_isDoor_20 rfl (by decide) ?_
      change Rn xs xl (e - 1) mm_OneSided_isHinge 5 [some (.inr (.inr 1)), some (.inl v1)] [.inl 1] h _
      refine R_if dd_OneSided_isHinge_5 rfl rfl (fun (c10 : 1 = 0) => ?_) (fun (c10 : 1 ≠ 0) => ?_)
      · exact absurd c10 (by omega)
      · skip
        refine R_ld (v := .inr (.inr 1)) dd_OneSided_isHinge_8 rfl rfl rfl rfl ?_
        refine R_gf (v := .inr (.inr q)) dd_OneSided_isHinge_9 fd_11_19 io_1 (congrArg (fun z : Int => (Sum.inr (Sum.inr z) : LV)) hQ) rfl ?_
        refine R_gf (v := .inr (.inr (q + 1))) dd_OneSided_isHinge_12 fd_11_119 (io_q hq) (congrArg (fun z : Int => (Sum.inr (Sum.inr z) : LV)) (rq_arr hF hq)) rfl ?_
        refine R_ld (v := .inl v1) dd_OneSided_isHinge_15 rfl rfl rfl rfl ?_
        obtain ⟨s1, k⟩ := k
        refine R_aald (v := (q + 7 + v1)) (n := 14) dd_OneSided_isHinge_16 (ia_dq hq) (la_dq hq) s1 (rq_d hP hq s1) rfl ?_
        refine R_gf (v := .inl (rd h (q + 7 + v1) 1)) dd_OneSided_isHinge_17 fd_11_123 (io_d hq (by omega)) (congrArg (fun z : Int => (Sum.inl z : LV)) (rfl)) rfl ?_
        refine R_ic dd_OneSided_isHinge_20 (by decide) rfl ?_
        refine R_icmp dd_OneSided_isHinge_21 rfl rfl (fun (c11 : (rd h (q + 7 + v1) 1) ≠ 2) => ?_) (fun (c11 : (rd h (q + 7 + v1) 1) = 2) => ?_)
        · replace k := k.1 c11
          refine R_ic dd_OneSided_isHinge_28 (by decide) rfl ?_
          refine R_zret dd_OneSided_isHinge_29 rfl (by decide) ?_
          change Rn xs xl e mm_OneSided_rests 5 [some (.inr (.inr 1)), some (.inl v1), some (.inl v2), some (.inl v3)] [.inl 0] h _
          refine R_if dd_OneSided_rests_5 rfl rfl (fun (c12 : 0 = 0) => ?_) (fun (c12 : 0 ≠ 0) => ?_)
          · skip
            refine R_ic dd_OneSided_rests_26 (by decide) rfl ?_
            exact R_iret dd_OneSided_rests_27 rfl k
          · exact absurd c12 (by omega)
        · replace k := k.2 c11
          refine R_ic dd_OneSided_isHinge_24 (by decide) rfl ?_
          refine R_goto dd_OneSided_isHinge_25 rfl ?_
          refine R_zret dd_OneSided_isHinge_29 rfl (by decide) ?_
          change Rn xs xl e mm_OneSided_rests 5 [some (.inr (.inr 1)), some (.inl v1), some (.inl v2), some (.inl v3)] [.inl 1] h _
          refine R_if dd_OneSided_rests_5 rfl rfl (fun (c13 : 1 = 0) => ?_) (fun (c13 : 1 ≠ 0) => ?_)
          · exact absurd c13 (by omega)
          · skip
            refine R_ld (v := .inr (.inr 1)) dd_OneSided_rests_8 rfl rfl rfl rfl ?_
            refine R_ld (v := .inl v2) dd_OneSided_rests_9 rfl rfl rfl rfl ?_
            refine R_call (as := [.inr (.inr 1), .inl v2]) (rest := []) (M' := mm_OneSided_isHinge) (ls0 := [some (.inr (.inr 1)), some (.inl v2)]) dd_OneSided_rests_10 rfl rfl (cw_v cw_11_318 io_1 rfl rfl (Nat.le_of_ble_eq_true rfl) (Nat.le_of_ble_eq_true rfl)) mt_OneSided_isHinge rfl (c := e - 1) (by omega) rfl ?_
            refine R_ld (v := .inr (.inr 1)) dd_OneSided_isHinge_0 rfl rfl rfl rfl ?_
            refine R_ld (v := .inl v2) dd_OneSided_isHinge_1 rfl rfl rfl rfl ?_
            refine R_call (as := [.inr (.inr 1), .inl v2]) (rest := []) (M' := mm_OneSided_isDoor) (ls0 := [some (.inr (.inr 1)), some (.inl v2)]) dd_OneSided_isHinge_2 rfl rfl (cw_v cw_11_115 io_1 rfl rfl (Nat.le_of_ble_eq_true rfl) (Nat.le_of_ble_eq_true rfl)) mt_OneSided_isDoor rfl (c := e - 2) (by omega) rfl ?_
            refine R_ld (v := .inl v2) dd_OneSided_isDoor_0 rfl rfl rfl rfl ?_
            refine R_if dd_OneSided_isDoor_1 rfl rfl (fun (c14 : v2 < 0) => ?_) (fun (c14 : 0 ≤ v2) => ?_)
            · replace k := k.1 c14
              refine R_ic dd_OneSided_isDoor_19 (by decide) rfl ?_
              refine R_zret dd_OneSided_isDoor_20 rfl (by decide) ?_
              change Rn xs xl (e - 1) mm_OneSided_isHinge 5 [some (.inr (.inr 1)), some (.inl v2)] [.inl 0] h _
              refine R_if dd_OneSided_isHinge_5 rfl rfl (fun (c15 : 0 = 0) => ?_) (fun (c15 : 0 ≠ 0) => ?_)
              · skip
                refine R_ic dd_OneSided_isHinge_28 (by decide) rfl ?_
                refine R_zret dd_OneSided_isHinge_29 rfl (by decide) ?_
                change Rn xs xl e mm_OneSided_rests 13 [some (.inr (.inr 1)), some (.inl v1), some (.inl v2), some (.inl v3)] [.inl 0] h _
                refine R_if dd_OneSided_rests_13 rfl rfl (fun (c16 : 0 = 0) => ?_) (fun (c16 : 0 ≠ 0) => ?_)
                · skip
                  refine R_ic dd_OneSided_rests_26 (by decide) rfl ?_
                  exact R_iret dd_OneSided_rests_27 rfl k
                · exact absurd c16 (by omega)
              · exact absurd c15 (by omega)
            · replace k := k.2 c14
              refine R_ld (v := .inl v2) dd_OneSided_isDoor_4 rfl rfl rfl rfl ?_
              refine R_ld (v := .inr (.inr 1)) dd_OneSided_isDoor_5 rfl rfl rfl rfl ?_
              refine R_gf (v := .inr (.inr q)) dd_OneSided_isDoor_6 fd_11_19 io_1 (congrArg (fun z : Int => (Sum.inr (Sum.inr z) : LV)) hQ) rfl ?_
              refine R_gf (v := .inl (rd h q 2)) dd_OneSided_isDoor_9 fd_11_345 (io_q hq) (congrArg (fun z : Int => (Sum.inl z : LV)) (rfl)) rfl ?_
              refine R_icmp dd_OneSided_isDoor_12 rfl rfl (fun (c17 : (rd h q 2) ≤ v2) => ?_) (fun (c17 : v2 < (rd h q 2)) => ?_)
              · replace k := k.1 c17
                refine R_ic dd_OneSided_isDoor_19 (by decide) rfl ?_
                refine R_zret dd_OneSided_isDoor_20 rfl (by decide) ?_
                change Rn xs xl (e - 1) mm_OneSided_isHinge 5 [some (.inr (.inr 1)), some (.inl v2)] [.inl 0] h _
                refine R_if dd_OneSided_isHinge_5 rfl rfl (fun (c18 : 0 = 0) => ?_) (fun (c18 : 0 ≠ 0) => ?_)
                · skip
                  refine R_ic dd_OneSided_isHinge_28 (by decide) rfl ?_
                  refine R_zret dd_OneSided_isHinge_29 rfl (by decide) ?_
                  change Rn xs xl e mm_OneSided_rests 13 [some (.inr (.inr 1)), some (.inl v1), some (.inl v2), some (.inl v3)] [.inl 0] h _
                  refine R_if dd_OneSided_rests_13 rfl rfl (fun (c19 : 0 = 0) => ?_) (fun (c19 : 0 ≠ 0) => ?_)
                  · skip
                    refine R_ic dd_OneSided_rests_26 (by decide) rfl ?_
                    exact R_iret dd_OneSided_rests_27 rfl k
                  · exact absurd c19 (by omega)
                · exact absurd c18 (by omega)
              · replace k := k.2 c17
                refine R_ic dd_OneSided_isDoor_15 (by decide) rfl ?_
                refine R_goto dd_OneSided_isDoor_16 rfl ?_
                refine R_zret dd_OneSided_isDoor_20 rfl (by decide) ?_
                change Rn xs xl (e - 1) mm_OneSided_isHinge 5 [some (.inr (.inr 1)), some (.inl v2)] [.inl 1] h _
                refine R_if dd_OneSided_isHinge_5 rfl rfl (fun (c20 : 1 = 0) => ?_) (fun (c20 : 1 ≠ 0) => ?_)
                · exact absurd c20 (by omega)
                · skip
                  refine R_ld (v := .inr (.inr 1)) dd_OneSided_isHinge_8 rfl rfl rfl rfl ?_
                  refine R_gf (v := .inr (.inr q)) dd_OneSided_isHinge_9 fd_11_19 io_1 (congrArg (fun z : Int => (Sum.inr (Sum.inr z) : LV)) hQ) rfl ?_
                  refine R_gf (v := .inr (.inr (q + 1))) dd_OneSided_isHinge_12 fd_11_119 (io_q hq) (congrArg (fun z : Int => (Sum.inr (Sum.inr z) : LV)) (rq_arr hF hq)) rfl ?_
                  refine R_ld (v := .inl v2) dd_OneSided_isHinge_15 rfl rfl rfl rfl ?_
                  obtain ⟨s2, k⟩ := k
                  refine R_aald (v := (q + 7 + v2)) (n := 14) dd_OneSided_isHinge_16 (ia_dq hq) (la_dq hq) s2 (rq_d hP hq s2) rfl ?_
                  refine R_gf (v := .inl (rd h (q + 7 + v2) 1)) dd_OneSided_isHinge_17 fd_11_123 (io_d hq (by omega)) (congrArg (fun z : Int => (Sum.inl z : LV)) (rfl)) rfl ?_
                  refine R_ic dd_OneSided_isHinge_20 (by decide) rfl ?_
                  refine R_icmp dd_OneSided_isHinge_21 rfl rfl (fun (c21 : (rd h (q + 7 + v2) 1) ≠ 2) => ?_) (fun (c21 : (rd h (q + 7 + v2) 1) = 2) => ?_)
                  · replace k := k.1 c21
                    refine R_ic dd_OneSided_isHinge_28 (by decide) rfl ?_
                    refine R_zret dd_OneSided_isHinge_29 rfl (by decide) ?_
                    change Rn xs xl e mm_OneSided_rests 13 [some (.inr (.inr 1)), some (.inl v1), some (.inl v2), some (.inl v3)] [.inl 0] h _
                    refine R_if dd_OneSided_rests_13 rfl rfl (fun (c22 : 0 = 0) => ?_) (fun (c22 : 0 ≠ 0) => ?_)
                    · skip
                      refine R_ic dd_OneSided_rests_26 (by decide) rfl ?_
                      exact R_iret dd_OneSided_rests_27 rfl k
                    · exact absurd c22 (by omega)
                  · replace k := k.2 c21
                    refine R_ic dd_OneSided_isHinge_24 (by decide) rfl ?_
                    refine R_goto dd_OneSided_isHinge_25 rfl ?_
                    refine R_zret dd_OneSided_isHinge_29 rfl (by decide) ?_
                    change Rn xs xl e mm_OneSided_rests 13 [some (.inr (.inr 1)), some (.inl v1), some (.inl v2), some (.inl v3)] [.inl 1] h _
                    refine R_if dd_OneSided_rests_13 rfl rfl (fun (c23 : 1 = 0) => ?_) (fun (c23 : 1 ≠ 0) => ?_)
                    · exact absurd c23 (by omega)
                    · skip
                      refine R_ld (v := .inl v1) dd_OneSided_rests_16 rfl rfl rfl rfl ?_
                      refine R_ld (v := .inl v2) dd_OneSided_rests_17 rfl rfl rfl rfl ?_
                      refine R_icmp dd_OneSided_rests_18 rfl rfl (fun (c24 : v1 = v2) => ?_) (fun (c24 : v1 ≠ v2) => ?_)
                      · replace k := k.1 c24
                        refine R_ic dd_OneSided_rests_26 (by decide) rfl ?_
                        exact R_iret dd_OneSided_rests_27 rfl k
                      · replace k := k.2 c24
                        refine R_ld (v := .inl v3) dd_OneSided_rests_21 rfl rfl rfl rfl ?_
                        refine R_ic dd_OneSided_rests_22 (by decide) rfl ?_
                        refine R_icmp dd_OneSided_rests_23 rfl rfl (fun (c25 : (-1) ≤ v3) => ?_) (fun (c25 : v3 < (-1)) => ?_)
                        · replace k := k.1 c25
                          refine R_ld (v := .inr (.inr 1)) dd_OneSided_rests_28 rfl rfl rfl rfl ?_
                          refine R_gf (v := .inr (.inr 96)) dd_OneSided_rests_29 fd_11_77 io_1 (congrArg (fun z : Int => (Sum.inr (Sum.inr z) : LV)) (rf_1_14 hF)) rfl ?_
                          refine R_ld (v := .inr (.inr 1)) dd_OneSided_rests_32 rfl rfl rfl rfl ?_
                          refine R_gf (v := .inr (.inr q)) dd_OneSided_rests_33 fd_11_19 io_1 (congrArg (fun z : Int => (Sum.inr (Sum.inr z) : LV)) hQ) rfl ?_
                          refine R_ld (v := .inr (.inr 1)) dd_OneSided_rests_36 rfl rfl rfl rfl ?_
                          refine R_gf (v := .inr (.inr 59)) dd_OneSided_rests_37 fd_11_29 io_1 (congrArg (fun z : Int => (Sum.inr (Sum.inr z) : LV)) (rf_1_3 hF)) rfl ?_
                          refine R_gf (v := .inr (.inr 60)) dd_OneSided_rests_40 fd_11_149 io_59 (congrArg (fun z : Int => (Sum.inr (Sum.inr z) : LV)) (rf_59_0 hF)) rfl ?_
                          refine R_ld (v := .inl v1) dd_OneSided_rests_43 rfl rfl rfl rfl ?_
                          refine R_ld (v := .inl v2) dd_OneSided_rests_44 rfl rfl rfl rfl ?_
                          obtain ⟨c, hc, k⟩ := k
                          exact R_call (as := [.inr (.inr 96), .inr (.inr q), .inr (.inr 60), .inl v1, .inl v2]) (rest := []) (M' := mm_Rents_settle) (ls0 := [some (.inr (.inr 96)), some (.inr (.inr q)), some (.inr (.inr 60)), some (.inl v1), some (.inl v2), none]) dd_OneSided_rests_45 rfl rfl (cw_v cw_11_321 io_96 rfl rfl (Nat.le_of_ble_eq_true rfl) (Nat.le_of_ble_eq_true rfl)) mt_Rents_settle rfl hc rfl k
                        · replace k := k.2 c25
                          refine R_ic dd_OneSided_rests_26 (by decide) rfl ?_
                          exact R_iret dd_OneSided_rests_27 rfl k
theorem B_OneSided_rests_48 {xs : Nat → Int} {xl e : Nat} {h : LH} {Q : Option LV → LH → Prop} {v1 v2 v3 : Int} (hF : RF h)
    (k : (v3 ≠ (-1) →
        (∃ c, c < e ∧ Rn xs xl c mm_Rents_restAt 0 [some (.inr (.inr 96)), some (.inl v3), none, none] [] h (fun r h' => Rn xs xl e mm_OneSided_rests 71 [some (.inr (.inr 1)), some (.inl v1), some (.inl v2), some (.inl v3)] (r.toList ++ []) h' Q))) ∧
      (v3 = (-1) →
        (∃ c, c < e ∧ Rn xs xl c mm_Rents_restCount 0 [some (.inr (.inr 96)), none, none] [] h (fun r h' => Rn xs xl e mm_OneSided_rests 60 [some (.inr (.inr 1)), some (.inl v1), some (.inl v2), some (.inl v3)] (r.toList ++ []) h' Q)))) :
    Rn xs xl e mm_OneSided_rests 48 [some (.inr (.inr 1)), some (.inl v1), some (.inl v2), some (.inl v3)] [] h Q := by
  refine R_ld (v := .inl v3) dd_OneSided_rests_48 rfl rfl rfl rfl ?_
  refine R_ic dd_OneSided_rests_49 (by decide) rfl ?_
  refine R_icmp dd_OneSided_rests_50 rfl rfl (fun (c3 : v3 ≠ (-1)) => ?_) (fun (c3 : v3 = (-1)) => ?_)
  · replace k := k.1 c3
    refine R_ld (v := .inr (.inr 1)) dd_OneSided_rests_63 rfl rfl rfl rfl ?_
    refine R_gf (v := .inr (.inr 96)) dd_OneSided_rests_64 fd_11_77 io_1 (congrArg (fun z : Int => (Sum.inr (Sum.inr z) : LV)) (rf_1_14 hF)) rfl ?_
    refine R_ld (v := .inl v3) dd_OneSided_rests_67 rfl rfl rfl rfl ?_
    obtain ⟨c, hc, k⟩ := k
    exact R_call (as := [.inr (.inr 96), .inl v3]) (rest := []) (M' := mm_Rents_restAt) (ls0 := [some (.inr (.inr 96)), some (.inl v3), none, none]) dd_OneSided_rests_68 rfl rfl (cw_v cw_11_328 io_96 rfl rfl (Nat.le_of_ble_eq_true rfl) (Nat.le_of_ble_eq_true rfl)) mt_Rents_restAt rfl hc rfl k
  · replace k := k.2 c3
    refine R_ld (v := .inr (.inr 1)) dd_OneSided_rests_53 rfl rfl rfl rfl ?_
    refine R_gf (v := .inr (.inr 96)) dd_OneSided_rests_54 fd_11_77 io_1 (congrArg (fun z : Int => (Sum.inr (Sum.inr z) : LV)) (rf_1_14 hF)) rfl ?_
    obtain ⟨c, hc, k⟩ := k
    exact R_call (as := [.inr (.inr 96)]) (rest := []) (M' := mm_Rents_restCount) (ls0 := [some (.inr (.inr 96)), none, none]) dd_OneSided_rests_57 rfl rfl (cw_v cw_11_324 io_96 rfl rfl (Nat.le_of_ble_eq_true rfl) (Nat.le_of_ble_eq_true rfl)) mt_Rents_restCount rfl hc rfl k
theorem B_OneSided_rests_60 {xs : Nat → Int} {xl e : Nat} {h : LH} {Q : Option LV → LH → Prop} {v1 v2 v3 w0 : Int} (hF : RF h)
    (k : Q (some (.inl w0)) h) :
    Rn xs xl e mm_OneSided_rests 60 [some (.inr (.inr 1)), some (.inl v1), some (.inl v2), some (.inl v3)] [.inl w0] h Q := by
  refine R_goto dd_OneSided_rests_60 rfl ?_
  exact R_iret dd_OneSided_rests_71 rfl k
theorem B_OneSided_rests_71 {xs : Nat → Int} {xl e : Nat} {h : LH} {Q : Option LV → LH → Prop} {v1 v2 v3 w0 : Int} (hF : RF h)
    (k : Q (some (.inl w0)) h) :
    Rn xs xl e mm_OneSided_rests 71 [some (.inr (.inr 1)), some (.inl v1), some (.inl v2), some (.inl v3)] [.inl w0] h Q := by
  exact R_iret dd_OneSided_rests_71 rfl k
theorem B_rests_0 {xs : Nat → Int} {xl e : Nat} {h : LH} {Q : Option LV → LH → Prop} {v1 v2 v3 : Int} (hF : RF h) (he : 2 ≤ e)
    (k : (v1 < 0 →
        Q (some (.inl (-1))) (wr h 182 0 0)) ∧
      (0 ≤ v1 →
        ((rd h 188 1) ≤ v1 →
          Q (some (.inl (-1))) (wr h 182 0 0)) ∧
        (v1 < (rd h 188 1) →
          (v2 < 0 →
            Q (some (.inl (-1))) (wr h 182 0 0)) ∧
          (0 ≤ v2 →
            ((rd h 188 1) ≤ v2 →
              Q (some (.inl (-1))) (wr h 182 0 0)) ∧
            (v2 < (rd h 188 1) →
              (v1 = v2 →
                Q (some (.inl (-1))) (wr h 182 0 0)) ∧
              (v1 ≠ v2 →
                (-2147483648 ≤ 8 * v1 ∧ 8 * v1 ≤ 2147483647) ∧
                (-2147483648 ≤ 8 * v1 + 4 ∧ 8 * v1 + 4 ≤ 2147483647) ∧
                (-2147483648 ≤ 8 * v1 + 4 ∧ 8 * v1 + 4 ≤ 2147483647) ∧
                (0 ≤ 8 * v1 + 4 ∧ 8 * v1 + 4 < 300) ∧
                ((rd h 188 (8 * v1 + 4)) ≠ 2 →
                  Q (some (.inl (-1))) (wr h 182 0 0)) ∧
                ((rd h 188 (8 * v1 + 4)) = 2 →
                  (-2147483648 ≤ 8 * v2 ∧ 8 * v2 ≤ 2147483647) ∧
                  (-2147483648 ≤ 8 * v2 + 4 ∧ 8 * v2 + 4 ≤ 2147483647) ∧
                  (-2147483648 ≤ 8 * v2 + 4 ∧ 8 * v2 + 4 ≤ 2147483647) ∧
                  (0 ≤ 8 * v2 + 4 ∧ 8 * v2 + 4 < 300) ∧
                  ((rd h 188 (8 * v2 + 4)) ≠ 2 →
                    Q (some (.inl (-1))) (wr h 182 0 0)) ∧
                  ((rd h 188 (8 * v2 + 4)) = 2 →
                    ((-1) ≤ v3 →
                      Rn xs xl e mm_rests 66 [some (.inr (.inr 182)), some (.inl v1), some (.inl v2), some (.inl v3), some (.inl 0), none, none, none] [] (wr (wr (wr h 182 0 0) 182 28 v1) 182 29 v2) Q) ∧
                    (v3 < (-1) →
                      Q (some (.inl (-1))) (wr h 182 0 0)))))))))) :
    Rn xs xl e mm_rests 0 [some (.inr (.inr 182)), some (.inl v1), some (.inl v2), some (.inl v3), none, none, none, none] [] h Q := by
  refine R_ld (v := .inr (.inr 182)) dd_rests_0 rfl rfl rfl rfl ?_
  refine R_ic dd_rests_1 (by decide) rfl ?_
  refine R_pf (z := 0) dd_rests_2 fd_12_1 io_182 fn_12_0 rfl rfl ?_
  refine R_ld (v := .inr (.inr 182)) dd_rests_5 rfl rfl rfl rfl ?_
  refine R_ld (v := .inl v1) dd_rests_6 rfl rfl rfl rfl ?_
  refine R_call (as := [.inr (.inr 182), .inl v1]) (rest := []) (M' := mm_isDoor) (ls0 := [some (.inr (.inr 182)), some (.inl v1)]) dd_rests_7 rfl rfl (cw_v cw_12_364 io_182 rfl rfl (Nat.le_of_ble_eq_true rfl) (Nat.le_of_ble_eq_true rfl)) mt_isDoor rfl (c := e - 1) (by omega) rfl ?_
  refine R_ld (v := .inl v1) dd_isDoor_0 rfl rfl rfl rfl ?_
  refine R_if dd_isDoor_1 rfl rfl (fun (c9 : v1 < 0) => ?_) (fun (c9 : 0 ≤ v1) => ?_)
  · replace k := k.1 c9
    refine R_ic dd_isDoor_16 (by decide) rfl ?_
    refine R_zret dd_isDoor_17 rfl (by decide) ?_
    change Rn xs xl e mm_rests 10 [some (.inr (.inr 182)), some (.inl v1), some (.inl v2), some (.inl v3), none, none, none, none] [.inl 0] (wr h 182 0 0) _
    refine R_if dd_rests_10 rfl rfl (fun (c10 : 0 = 0) => ?_) (fun (c10 : 0 ≠ 0) => ?_)
    · skip
      refine R_ic dd_rests_51 (by decide) rfl ?_
      exact R_iret dd_rests_52 rfl k
    · exact absurd c10 (by omega)
  · replace k := k.2 c9
    refine R_ld (v := .inl v1) dd_isDoor_4 rfl rfl rfl rfl ?_
    refine R_ld (v := .inr (.inr 182)) dd_isDoor_5 rfl rfl rfl rfl ?_
    refine R_call (as := [.inr (.inr 182)]) (rest := [.inl v1]) (M' := mm_doors) (ls0 := [some (.inr (.inr 182))]) dd_isDoor_6 rfl rfl (cw_v cw_12_335 io_182 rfl rfl (Nat.le_of_ble_eq_true rfl) (Nat.le_of_ble_eq_true rfl)) mt_doors rfl (c := e - 2) (by omega) rfl ?_
    refine R_ld (v := .inr (.inr 182)) dd_doors_0 rfl rfl rfl rfl ?_
    refine R_gf (v := .inr (.inr 188)) dd_doors_1 fd_12_95 io_182 (congrArg (fun z : Int => (Sum.inr (Sum.inr z) : LV)) ((rdw_nei (by omega)).trans (rf_182_10 hF))) rfl ?_
    refine R_ic dd_doors_4 (by decide) rfl ?_
    refine R_iald (v := (rd h 188 1)) (n := 300) dd_doors_5 ia_188 la_188 (by decide) (rdw_ne (by decide)) rfl ?_
    refine R_iret dd_doors_6 rfl ?_
    change Rn xs xl (e - 1) mm_isDoor 9 [some (.inr (.inr 182)), some (.inl v1)] [.inl (rd h 188 1), .inl v1] (wr h 182 0 0) _
    refine R_icmp dd_isDoor_9 rfl rfl (fun (c11 : (rd h 188 1) ≤ v1) => ?_) (fun (c11 : v1 < (rd h 188 1)) => ?_)
    · replace k := k.1 c11
      refine R_ic dd_isDoor_16 (by decide) rfl ?_
      refine R_zret dd_isDoor_17 rfl (by decide) ?_
      change Rn xs xl e mm_rests 10 [some (.inr (.inr 182)), some (.inl v1), some (.inl v2), some (.inl v3), none, none, none, none] [.inl 0] (wr h 182 0 0) _
      refine R_if dd_rests_10 rfl rfl (fun (c12 : 0 = 0) => ?_) (fun (c12 : 0 ≠ 0) => ?_)
      · skip
        refine R_ic dd_rests_51 (by decide) rfl ?_
        exact R_iret dd_rests_52 rfl k
      · exact absurd c12 (by omega)
    · replace k := k.2 c11
      refine R_ic dd_isDoor_12 (by decide) rfl ?_
      refine R_goto dd_isDoor_13 rfl ?_
      refine R_zret dd_isDoor_17 rfl (by decide) ?_
      change Rn xs xl e mm_rests 10 [some (.inr (.inr 182)), some (.inl v1), some (.inl v2), some (.inl v3), none, none, none, none] [.inl 1] (wr h 182 0 0) _
      refine R_if dd_rests_10 rfl rfl (fun (c13 : 1 = 0) => ?_) (fun (c13 : 1 ≠ 0) => ?_)
      · exact absurd c13 (by omega)
      · skip
        refine R_ld (v := .inr (.inr 182)) dd_rests_13 rfl rfl rfl rfl ?_
        refine R_ld (v := .inl v2) dd_rests_14 rfl rfl rfl rfl ?_
        refine R_call (as := [.inr (.inr 182), .inl v2]) (rest := []) (M' := mm_isDoor) (ls0 := [some (.inr (.inr 182)), some (.inl v2)]) dd_rests_15 rfl rfl (cw_v cw_12_364 io_182 rfl rfl (Nat.le_of_ble_eq_true rfl) (Nat.le_of_ble_eq_true rfl)) mt_isDoor rfl (c := e - 1) (by omega) rfl ?_
        refine R_ld (v := .inl v2) dd_isDoor_0 rfl rfl rfl rfl ?_
        refine R_if dd_isDoor_1 rfl rfl (fun (c14 : v2 < 0) => ?_) (fun (c14 : 0 ≤ v2) => ?_)
        · replace k := k.1 c14
          refine R_ic dd_isDoor_16 (by decide) rfl ?_
          refine R_zret dd_isDoor_17 rfl (by decide) ?_
          change Rn xs xl e mm_rests 18 [some (.inr (.inr 182)), some (.inl v1), some (.inl v2), some (.inl v3), none, none, none, none] [.inl 0] (wr h 182 0 0) _
          refine R_if dd_rests_18 rfl rfl (fun (c15 : 0 = 0) => ?_) (fun (c15 : 0 ≠ 0) => ?_)
          · skip
            refine R_ic dd_rests_51 (by decide) rfl ?_
            exact R_iret dd_rests_52 rfl k
          · exact absurd c15 (by omega)
        · replace k := k.2 c14
          refine R_ld (v := .inl v2) dd_isDoor_4 rfl rfl rfl rfl ?_
          refine R_ld (v := .inr (.inr 182)) dd_isDoor_5 rfl rfl rfl rfl ?_
          refine R_call (as := [.inr (.inr 182)]) (rest := [.inl v2]) (M' := mm_doors) (ls0 := [some (.inr (.inr 182))]) dd_isDoor_6 rfl rfl (cw_v cw_12_335 io_182 rfl rfl (Nat.le_of_ble_eq_true rfl) (Nat.le_of_ble_eq_true rfl)) mt_doors rfl (c := e - 2) (by omega) rfl ?_
          refine R_ld (v := .inr (.inr 182)) dd_doors_0 rfl rfl rfl rfl ?_
          refine R_gf (v := .inr (.inr 188)) dd_doors_1 fd_12_95 io_182 (congrArg (fun z : Int => (Sum.inr (Sum.inr z) : LV)) ((rdw_nei (by omega)).trans (rf_182_10 hF))) rfl ?_
          refine R_ic dd_doors_4 (by decide) rfl ?_
          refine R_iald (v := (rd h 188 1)) (n := 300) dd_doors_5 ia_188 la_188 (by decide) (rdw_ne (by decide)) rfl ?_
          refine R_iret dd_doors_6 rfl ?_
          change Rn xs xl (e - 1) mm_isDoor 9 [some (.inr (.inr 182)), some (.inl v2)] [.inl (rd h 188 1), .inl v2] (wr h 182 0 0) _
          refine R_icmp dd_isDoor_9 rfl rfl (fun (c16 : (rd h 188 1) ≤ v2) => ?_) (fun (c16 : v2 < (rd h 188 1)) => ?_)
          · replace k := k.1 c16
            refine R_ic dd_isDoor_16 (by decide) rfl ?_
            refine R_zret dd_isDoor_17 rfl (by decide) ?_
            change Rn xs xl e mm_rests 18 [some (.inr (.inr 182)), some (.inl v1), some (.inl v2), some (.inl v3), none, none, none, none] [.inl 0] (wr h 182 0 0) _
            refine R_if dd_rests_18 rfl rfl (fun (c17 : 0 = 0) => ?_) (fun (c17 : 0 ≠ 0) => ?_)
            · skip
              refine R_ic dd_rests_51 (by decide) rfl ?_
              exact R_iret dd_rests_52 rfl k
            · exact absurd c17 (by omega)
          · replace k := k.2 c16
            refine R_ic dd_isDoor_12 (by decide) rfl ?_
            refine R_goto dd_isDoor_13 rfl ?_
            refine R_zret dd_isDoor_17 rfl (by decide) ?_
            change Rn xs xl e mm_rests 18 [some (.inr (.inr 182)), some (.inl v1), some (.inl v2), some (.inl v3), none, none, none, none] [.inl 1] (wr h 182 0 0) _
            refine R_if dd_rests_18 rfl rfl (fun (c18 : 1 = 0) => ?_) (fun (c18 : 1 ≠ 0) => ?_)
            · exact absurd c18 (by omega)
            · skip
              refine R_ld (v := .inl v1) dd_rests_21 rfl rfl rfl rfl ?_
              refine R_ld (v := .inl v2) dd_rests_22 rfl rfl rfl rfl ?_
              refine R_icmp dd_rests_23 rfl rfl (fun (c19 : v1 = v2) => ?_) (fun (c19 : v1 ≠ v2) => ?_)
              · replace k := k.1 c19
                refine R_ic dd_rests_51 (by decide) rfl ?_
                exact R_iret dd_rests_52 rfl k
              · replace k := k.2 c19
                refine R_ld (v := .inr (.inr 182)) dd_rests_26 rfl rfl rfl rfl ?_
                refine R_ld (v := .inl v1) dd_rests_27 rfl rfl rfl rfl ?_
                refine R_ic dd_rests_28 (by decide) rfl ?_
                refine R_call (as := [.inr (.inr 182), .inl v1, .inl 0]) (rest := []) (M' := mm_doorOf) (ls0 := [some (.inr (.inr 182)), some (.inl v1), some (.inl 0)]) dd_rests_29 rfl rfl (cw_v cw_12_347 io_182 rfl rfl (Nat.le_of_ble_eq_true rfl) (Nat.le_of_ble_eq_true rfl)) mt_doorOf rfl (c := e - 1) (by omega) rfl ?_
                refine R_ld (v := .inr (.inr 182)) dd_doorOf_0 rfl rfl rfl rfl ?_
                refine R_gf (v := .inr (.inr 188)) dd_doorOf_1 fd_12_95 io_182 (congrArg (fun z : Int => (Sum.inr (Sum.inr z) : LV)) ((rdw_nei (by omega)).trans (rf_182_10 hF))) rfl ?_
                refine R_ic dd_doorOf_4 (by decide) rfl ?_
                refine R_bi dd_doorOf_5 (by decide) rfl ?_
                refine R_ld (v := .inl v1) dd_doorOf_7 rfl rfl rfl rfl ?_
                obtain ⟨s1, k⟩ := k
                refine R_imul (c := 8 * v1) dd_doorOf_8 (by omega) s1 rfl ?_
                obtain ⟨s2, k⟩ := k
                refine R_iadd (c := 8 * v1 + 4) dd_doorOf_9 (by omega) s2 rfl ?_
                refine R_ld (v := .inl 0) dd_doorOf_10 rfl rfl rfl rfl ?_
                obtain ⟨s3, k⟩ := k
                refine R_iadd (c := 8 * v1 + 4) dd_doorOf_11 (by omega) s3 rfl ?_
                obtain ⟨s4, k⟩ := k
                refine R_iald (v := (rd h 188 (8 * v1 + 4))) (n := 300) dd_doorOf_12 ia_188 la_188 s4 (rdw_ne (by decide)) rfl ?_
                refine R_iret dd_doorOf_13 rfl ?_
                change Rn xs xl e mm_rests 32 [some (.inr (.inr 182)), some (.inl v1), some (.inl v2), some (.inl v3), none, none, none, none] [.inl (rd h 188 (8 * v1 + 4))] (wr h 182 0 0) _
                refine R_ic dd_rests_32 (by decide) rfl ?_
                refine R_icmp dd_rests_33 rfl rfl (fun (c20 : (rd h 188 (8 * v1 + 4)) ≠ 2) => ?_) (fun (c20 : (rd h 188 (8 * v1 + 4)) = 2) => ?_)
                · replace k := k.1 c20
                  refine R_ic dd_rests_51 (by decide) rfl ?_
                  exact R_iret dd_rests_52 rfl k
                · replace k := k.2 c20
                  refine R_ld (v := .inr (.inr 182)) dd_rests_36 rfl rfl rfl rfl ?_
                  refine R_ld (v := .inl v2) dd_rests_37 rfl rfl rfl rfl ?_
                  refine R_ic dd_rests_38 (by decide) rfl ?_
                  refine R_call (as := [.inr (.inr 182), .inl v2, .inl 0]) (rest := []) (M' := mm_doorOf) (ls0 := [some (.inr (.inr 182)), some (.inl v2), some (.inl 0)]) dd_rests_39 rfl rfl (cw_v cw_12_347 io_182 rfl rfl (Nat.le_of_ble_eq_true rfl) (Nat.le_of_ble_eq_true rfl)) mt_doorOf rfl (c := e - 1) (by omega) rfl ?_
                  refine R_ld (v := .inr (.inr 182)) dd_doorOf_0 rfl rfl rfl rfl ?_
                  refine R_gf (v := .inr (.inr 188)) dd_doorOf_1 fd_12_95 io_182 (congrArg (fun z : Int => (Sum.inr (Sum.inr z) : LV)) ((rdw_nei (by omega)).trans (rf_182_10 hF))) rfl ?_
                  refine R_ic dd_doorOf_4 (by decide) rfl ?_
                  refine R_bi dd_doorOf_5 (by decide) rfl ?_
                  refine R_ld (v := .inl v2) dd_doorOf_7 rfl rfl rfl rfl ?_
                  obtain ⟨s5, k⟩ := k
                  refine R_imul (c := 8 * v2) dd_doorOf_8 (by omega) s5 rfl ?_
                  obtain ⟨s6, k⟩ := k
                  refine R_iadd (c := 8 * v2 + 4) dd_doorOf_9 (by omega) s6 rfl ?_
                  refine R_ld (v := .inl 0) dd_doorOf_10 rfl rfl rfl rfl ?_
                  obtain ⟨s7, k⟩ := k
                  refine R_iadd (c := 8 * v2 + 4) dd_doorOf_11 (by omega) s7 rfl ?_
                  obtain ⟨s8, k⟩ := k
                  refine R_iald (v := (rd h 188 (8 * v2 + 4))) (n := 300) dd_doorOf_12 ia_188 la_188 s8 (rdw_ne (by decide)) rfl ?_
                  refine R_iret dd_doorOf_13 rfl ?_
                  change Rn xs xl e mm_rests 42 [some (.inr (.inr 182)), some (.inl v1), some (.inl v2), some (.inl v3), none, none, none, none] [.inl (rd h 188 (8 * v2 + 4))] (wr h 182 0 0) _
                  refine R_ic dd_rests_42 (by decide) rfl ?_
                  refine R_icmp dd_rests_43 rfl rfl (fun (c21 : (rd h 188 (8 * v2 + 4)) ≠ 2) => ?_) (fun (c21 : (rd h 188 (8 * v2 + 4)) = 2) => ?_)
                  · replace k := k.1 c21
                    refine R_ic dd_rests_51 (by decide) rfl ?_
                    exact R_iret dd_rests_52 rfl k
                  · replace k := k.2 c21
                    refine R_ld (v := .inl v3) dd_rests_46 rfl rfl rfl rfl ?_
                    refine R_ic dd_rests_47 (by decide) rfl ?_
                    refine R_icmp dd_rests_48 rfl rfl (fun (c22 : (-1) ≤ v3) => ?_) (fun (c22 : v3 < (-1)) => ?_)
                    · replace k := k.1 c22
                      refine R_ld (v := .inr (.inr 182)) dd_rests_53 rfl rfl rfl rfl ?_
                      refine R_ld (v := .inl v1) dd_rests_54 rfl rfl rfl rfl ?_
                      refine R_pf (z := v1) dd_rests_55 fd_12_135 io_182 fn_12_28 rfl rfl ?_
                      refine R_ld (v := .inr (.inr 182)) dd_rests_58 rfl rfl rfl rfl ?_
                      refine R_ld (v := .inl v2) dd_rests_59 rfl rfl rfl rfl ?_
                      refine R_pf (z := v2) dd_rests_60 fd_12_138 io_182 fn_12_29 rfl rfl ?_
                      refine R_ic dd_rests_63 (by decide) rfl ?_
                      refine R_st (ls' := [some (.inr (.inr 182)), some (.inl v1), some (.inl v2), some (.inl v3), some (.inl 0), none, none, none]) dd_rests_64 rfl rfl rfl (Nat.le_of_ble_eq_true rfl) rfl rfl ?_
                      exact k
                    · replace k := k.2 c22
                      refine R_ic dd_rests_51 (by decide) rfl ?_
                      exact R_iret dd_rests_52 rfl k
theorem B_rests_66 {xs : Nat → Int} {xl e : Nat} {h : LH} {Q : Option LV → LH → Prop} {v1 v2 v3 v4 : Int} {o5 : Option LV} {o6 : Option LV} {o7 : Option LV} (hF : RF h) (r_v4 : 0 ≤ v4 ∧ v4 ≤ 100)
    (k : (100 ≤ v4 →
        Rn xs xl e mm_rests 221 [some (.inr (.inr 182)), some (.inl v1), some (.inl v2), some (.inl v3), some (.inl 0), some (.inl 0), o6, o7] [] (wr (wr h 182 28 (-1)) 182 29 (-1)) Q) ∧
      (v4 < 100 →
        (0 ≤ 2 * v4 ∧ 2 * v4 < 200) ∧
        (0 ≤ 2 * v4 + 1 ∧ 2 * v4 + 1 < 200) ∧
        Rn xs xl e mm_rests 116 [some (.inr (.inr 182)), some (.inl v1), some (.inl v2), some (.inl v3), some (.inl v4), some (.inl 0), o6, o7] [] (wr (wr (wr (wr h 182 30 (v4 / 10)) 182 31 (v4 % 10)) 211 (2 * v4) 0) 211 (2 * v4 + 1) 0) Q)) :
    Rn xs xl e mm_rests 66 [some (.inr (.inr 182)), some (.inl v1), some (.inl v2), some (.inl v3), some (.inl v4), o5, o6, o7] [] h Q := by
  refine R_ld (v := .inl v4) dd_rests_66 rfl rfl rfl rfl ?_
  refine R_bi dd_rests_68 (by decide) rfl ?_
  refine R_icmp dd_rests_70 rfl rfl (fun (c3 : 100 ≤ v4) => ?_) (fun (c3 : v4 < 100) => ?_)
  · replace k := k.1 c3
    refine R_ld (v := .inr (.inr 182)) dd_rests_205 rfl rfl rfl rfl ?_
    refine R_ic dd_rests_206 (by decide) rfl ?_
    refine R_pf (z := (-1)) dd_rests_207 fd_12_135 io_182 fn_12_28 rfl rfl ?_
    refine R_ld (v := .inr (.inr 182)) dd_rests_210 rfl rfl rfl rfl ?_
    refine R_ic dd_rests_211 (by decide) rfl ?_
    refine R_pf (z := (-1)) dd_rests_212 fd_12_138 io_182 fn_12_29 rfl rfl ?_
    refine R_ic dd_rests_215 (by decide) rfl ?_
    refine R_st (ls' := [some (.inr (.inr 182)), some (.inl v1), some (.inl v2), some (.inl v3), some (.inl 0), o5, o6, o7]) dd_rests_216 rfl rfl rfl (Nat.le_of_ble_eq_true rfl) rfl rfl ?_
    refine R_ic dd_rests_218 (by decide) rfl ?_
    refine R_st (ls' := [some (.inr (.inr 182)), some (.inl v1), some (.inl v2), some (.inl v3), some (.inl 0), some (.inl 0), o6, o7]) dd_rests_219 rfl rfl rfl (Nat.le_of_ble_eq_true rfl) rfl rfl ?_
    exact k
  · replace k := k.2 c3
    refine R_ld (v := .inr (.inr 182)) dd_rests_73 rfl rfl rfl rfl ?_
    refine R_ld (v := .inl v4) dd_rests_74 rfl rfl rfl rfl ?_
    refine R_bi dd_rests_76 (by decide) rfl ?_
    refine R_idiv dd_rests_78 (by omega) (by decide) rfl ?_
    refine R_pf (z := (v4 / 10)) dd_rests_79 fd_12_341 io_182 fn_12_30 rfl rfl ?_
    refine R_ld (v := .inr (.inr 182)) dd_rests_82 rfl rfl rfl rfl ?_
    refine R_ld (v := .inl v4) dd_rests_83 rfl rfl rfl rfl ?_
    refine R_bi dd_rests_85 (by decide) rfl ?_
    refine R_irem dd_rests_87 (by omega) (by decide) rfl ?_
    refine R_pf (z := (v4 % 10)) dd_rests_88 fd_12_344 io_182 fn_12_31 rfl rfl ?_
    refine R_ld (v := .inr (.inr 182)) dd_rests_91 rfl rfl rfl rfl ?_
    refine R_gf (v := .inr (.inr 211)) dd_rests_92 fd_12_171 io_182 (congrArg (fun z : Int => (Sum.inr (Sum.inr z) : LV)) ((rdw_nei (by omega)).trans ((rdw_nei (by omega)).trans (rf_182_50 hF)))) rfl ?_
    refine R_ic dd_rests_95 (by decide) rfl ?_
    refine R_ld (v := .inl v4) dd_rests_96 rfl rfl rfl rfl ?_
    refine R_imul (c := 2 * v4) dd_rests_98 (by omega) (by omega) rfl ?_
    refine R_ic dd_rests_99 (by decide) rfl ?_
    obtain ⟨s1, k⟩ := k
    refine R_iast (n := 200) dd_rests_100 ia_211 la_211 s1 rfl ?_
    refine R_ld (v := .inr (.inr 182)) dd_rests_101 rfl rfl rfl rfl ?_
    refine R_gf (v := .inr (.inr 211)) dd_rests_102 fd_12_171 io_182 (congrArg (fun z : Int => (Sum.inr (Sum.inr z) : LV)) ((rdw_ne (by decide)).trans ((rdw_nei (by omega)).trans ((rdw_nei (by omega)).trans (rf_182_50 hF))))) rfl ?_
    refine R_ic dd_rests_105 (by decide) rfl ?_
    refine R_ld (v := .inl v4) dd_rests_106 rfl rfl rfl rfl ?_
    refine R_imul (c := 2 * v4) dd_rests_108 (by omega) (by omega) rfl ?_
    refine R_ic dd_rests_109 (by decide) rfl ?_
    refine R_iadd (c := 2 * v4 + 1) dd_rests_110 (by omega) (by omega) rfl ?_
    refine R_ic dd_rests_111 (by decide) rfl ?_
    obtain ⟨s2, k⟩ := k
    refine R_iast (n := 200) dd_rests_112 ia_211 la_211 s2 rfl ?_
    refine R_ic dd_rests_113 (by decide) rfl ?_
    refine R_st (ls' := [some (.inr (.inr 182)), some (.inl v1), some (.inl v2), some (.inl v3), some (.inl v4), some (.inl 0), o6, o7]) dd_rests_114 rfl rfl rfl (Nat.le_of_ble_eq_true rfl) rfl rfl ?_
    exact k
theorem B_rests_116 {xs : Nat → Int} {xl e : Nat} {h : LH} {Q : Option LV → LH → Prop} {v1 v2 v3 v4 v5 : Int} {o6 : Option LV} {o7 : Option LV} (hF : RF h) (r_v4 : 0 ≤ v4 ∧ v4 ≤ 99) (r_v5 : 0 ≤ v5 ∧ v5 ≤ 6) (he : 1 ≤ e)
    (k : ((rd h 188 2) ≤ v5 →
        Rn xs xl e mm_rests 66 [some (.inr (.inr 182)), some (.inl v1), some (.inl v2), some (.inl v3), some (.inl (v4 + 1)), some (.inl v5), o6, o7] [] h Q) ∧
      (v5 < (rd h 188 2) →
        (∃ c, c < e ∧ Rn xs xl c mm_goesBy 0 [some (.inr (.inr 182)), some (.inl v5), none, none, none, none, none, none] [] h (fun r h' => Rn xs xl e mm_rests 131 [some (.inr (.inr 182)), some (.inl v1), some (.inl v2), some (.inl v3), some (.inl v4), some (.inl v5), o6, o7] (r.toList ++ []) h' Q)))) :
    Rn xs xl e mm_rests 116 [some (.inr (.inr 182)), some (.inl v1), some (.inl v2), some (.inl v3), some (.inl v4), some (.inl v5), o6, o7] [] h Q := by
  refine R_ld (v := .inl v5) dd_rests_116 rfl rfl rfl rfl ?_
  refine R_ld (v := .inr (.inr 182)) dd_rests_118 rfl rfl rfl rfl ?_
  refine R_call (as := [.inr (.inr 182)]) (rest := [.inl v5]) (M' := mm_people) (ls0 := [some (.inr (.inr 182))]) dd_rests_119 rfl rfl (cw_v cw_12_338 io_182 rfl rfl (Nat.le_of_ble_eq_true rfl) (Nat.le_of_ble_eq_true rfl)) mt_people rfl (c := e - 1) (by omega) rfl ?_
  refine R_ld (v := .inr (.inr 182)) dd_people_0 rfl rfl rfl rfl ?_
  refine R_gf (v := .inr (.inr 188)) dd_people_1 fd_12_95 io_182 (congrArg (fun z : Int => (Sum.inr (Sum.inr z) : LV)) (rf_182_10 hF)) rfl ?_
  refine R_ic dd_people_4 (by decide) rfl ?_
  refine R_iald (v := (rd h 188 2)) (n := 300) dd_people_5 ia_188 la_188 (by decide) (rfl) rfl ?_
  refine R_iret dd_people_6 rfl ?_
  change Rn xs xl e mm_rests 122 [some (.inr (.inr 182)), some (.inl v1), some (.inl v2), some (.inl v3), some (.inl v4), some (.inl v5), o6, o7] [.inl (rd h 188 2), .inl v5] h _
  refine R_icmp dd_rests_122 rfl rfl (fun (c2 : (rd h 188 2) ≤ v5) => ?_) (fun (c2 : v5 < (rd h 188 2)) => ?_)
  · replace k := k.1 c2
    refine R_inc (y := v4 + 1) (ls' := [some (.inr (.inr 182)), some (.inl v1), some (.inl v2), some (.inl v3), some (.inl (v4 + 1)), some (.inl v5), o6, o7]) dd_rests_199 rfl (by decide) (by omega) (by omega) rfl rfl ?_
    refine R_goto dd_rests_202 rfl ?_
    exact k
  · replace k := k.2 c2
    refine R_ld (v := .inr (.inr 182)) dd_rests_125 rfl rfl rfl rfl ?_
    refine R_ld (v := .inl v5) dd_rests_126 rfl rfl rfl rfl ?_
    obtain ⟨c, hc, k⟩ := k
    exact R_call (as := [.inr (.inr 182), .inl v5]) (rest := []) (M' := mm_goesBy) (ls0 := [some (.inr (.inr 182)), some (.inl v5), none, none, none, none, none, none]) dd_rests_128 rfl rfl (cw_v cw_12_477 io_182 rfl rfl (Nat.le_of_ble_eq_true rfl) (Nat.le_of_ble_eq_true rfl)) mt_goesBy rfl hc rfl k
theorem B_rests_131 {xs : Nat → Int} {xl e : Nat} {h : LH} {Q : Option LV → LH → Prop} {v1 v2 v3 v4 v5 w0 : Int} {o6 : Option LV} {o7 : Option LV} (hF : RF h) (r_v4 : 0 ≤ v4 ∧ v4 ≤ 99) (r_v5 : 0 ≤ v5 ∧ v5 ≤ 5) (he : 1 ≤ e)
    (k : ((zand (zshr w0 v1) 1) ≠ 1 →
        (-2147483648 ≤ (rd h 211 (2 * v4)) ∧ (rd h 211 (2 * v4)) ≤ 2147483647) ∧
        ((zand (zshr w0 v2) 1) ≠ 1 →
          (-2147483648 ≤ (rd h 211 (2 * v4 + 1)) ∧ (rd h 211 (2 * v4 + 1)) ≤ 2147483647) ∧
          Rn xs xl e mm_rests 116 [some (.inr (.inr 182)), some (.inl v1), some (.inl v2), some (.inl v3), some (.inl v4), some (.inl (v5 + 1)), some (.inl w0), o7] [] (wr (wr h 211 (2 * v4) (rd h 211 (2 * v4))) 211 (2 * v4 + 1) (rd h 211 (2 * v4 + 1))) Q) ∧
        ((zand (zshr w0 v2) 1) = 1 →
          (-2147483648 ≤ (rd h 211 (2 * v4 + 1)) + (rd h 182 31) ∧ (rd h 211 (2 * v4 + 1)) + (rd h 182 31) ≤ 2147483647) ∧
          Rn xs xl e mm_rests 116 [some (.inr (.inr 182)), some (.inl v1), some (.inl v2), some (.inl v3), some (.inl v4), some (.inl (v5 + 1)), some (.inl w0), o7] [] (wr (wr h 211 (2 * v4) (rd h 211 (2 * v4))) 211 (2 * v4 + 1) ((rd h 211 (2 * v4 + 1)) + (rd h 182 31))) Q)) ∧
      ((zand (zshr w0 v1) 1) = 1 →
        (-2147483648 ≤ (rd h 211 (2 * v4)) + (rd h 182 30) ∧ (rd h 211 (2 * v4)) + (rd h 182 30) ≤ 2147483647) ∧
        ((zand (zshr w0 v2) 1) ≠ 1 →
          (-2147483648 ≤ (rd h 211 (2 * v4 + 1)) ∧ (rd h 211 (2 * v4 + 1)) ≤ 2147483647) ∧
          Rn xs xl e mm_rests 116 [some (.inr (.inr 182)), some (.inl v1), some (.inl v2), some (.inl v3), some (.inl v4), some (.inl (v5 + 1)), some (.inl w0), o7] [] (wr (wr h 211 (2 * v4) ((rd h 211 (2 * v4)) + (rd h 182 30))) 211 (2 * v4 + 1) (rd h 211 (2 * v4 + 1))) Q) ∧
        ((zand (zshr w0 v2) 1) = 1 →
          (-2147483648 ≤ (rd h 211 (2 * v4 + 1)) + (rd h 182 31) ∧ (rd h 211 (2 * v4 + 1)) + (rd h 182 31) ≤ 2147483647) ∧
          Rn xs xl e mm_rests 116 [some (.inr (.inr 182)), some (.inl v1), some (.inl v2), some (.inl v3), some (.inl v4), some (.inl (v5 + 1)), some (.inl w0), o7] [] (wr (wr h 211 (2 * v4) ((rd h 211 (2 * v4)) + (rd h 182 30))) 211 (2 * v4 + 1) ((rd h 211 (2 * v4 + 1)) + (rd h 182 31))) Q))) :
    Rn xs xl e mm_rests 131 [some (.inr (.inr 182)), some (.inl v1), some (.inl v2), some (.inl v3), some (.inl v4), some (.inl v5), o6, o7] [.inl w0] h Q := by
  refine R_st (ls' := [some (.inr (.inr 182)), some (.inl v1), some (.inl v2), some (.inl v3), some (.inl v4), some (.inl v5), some (.inl w0), o7]) dd_rests_131 rfl rfl rfl (Nat.le_of_ble_eq_true rfl) rfl rfl ?_
  refine R_ld (v := .inr (.inr 182)) dd_rests_133 rfl rfl rfl rfl ?_
  refine R_gf (v := .inr (.inr 211)) dd_rests_134 fd_12_171 io_182 (congrArg (fun z : Int => (Sum.inr (Sum.inr z) : LV)) (rf_182_50 hF)) rfl ?_
  refine R_ic dd_rests_137 (by decide) rfl ?_
  refine R_ld (v := .inl v4) dd_rests_138 rfl rfl rfl rfl ?_
  refine R_imul (c := 2 * v4) dd_rests_140 (by omega) (by omega) rfl ?_
  refine R_A dd_rests_141 rfl rfl rfl rfl ?_
  refine R_iald (v := (rd h 211 (2 * v4))) (n := 200) dd_rests_142 ia_211 la_211 (by omega) (rfl) rfl ?_
  refine R_ld (v := .inl w0) dd_rests_143 rfl rfl rfl rfl ?_
  refine R_ld (v := .inl v1) dd_rests_145 rfl rfl rfl rfl ?_
  refine R_call (as := [.inl w0, .inl v1]) (rest := [.inl (rd h 211 (2 * v4)), .inl (2 * v4), .inr (.inr 211)]) (M' := mm_isIn) (ls0 := [some (.inl w0), some (.inl v1)]) dd_rests_146 rfl rfl (cw_s cw_12_350 rfl rfl (Nat.le_of_ble_eq_true rfl) (Nat.le_of_ble_eq_true rfl)) mt_isIn rfl (c := e - 1) (by omega) rfl ?_
  refine R_ld (v := .inl w0) dd_isIn_0 rfl rfl rfl rfl ?_
  refine R_ld (v := .inl v1) dd_isIn_1 rfl rfl rfl rfl ?_
  refine R_A dd_isIn_2 rfl rfl rfl rfl ?_
  refine R_ic dd_isIn_3 (by decide) rfl ?_
  refine R_A dd_isIn_4 rfl rfl rfl rfl ?_
  refine R_ic dd_isIn_5 (by decide) rfl ?_
  refine R_icmp dd_isIn_6 rfl rfl (fun (c7 : (zand (zshr w0 v1) 1) ≠ 1) => ?_) (fun (c7 : (zand (zshr w0 v1) 1) = 1) => ?_)
  · replace k := k.1 c7
    refine R_ic dd_isIn_13 (by decide) rfl ?_
    refine R_zret dd_isIn_14 rfl (by decide) ?_
    change Rn xs xl e mm_rests 149 [some (.inr (.inr 182)), some (.inl v1), some (.inl v2), some (.inl v3), some (.inl v4), some (.inl v5), some (.inl w0), o7] [.inl 0, .inl (rd h 211 (2 * v4)), .inl (2 * v4), .inr (.inr 211)] h _
    refine R_if dd_rests_149 rfl rfl (fun (c8 : 0 = 0) => ?_) (fun (c8 : 0 ≠ 0) => ?_)
    · skip
      refine R_ic dd_rests_159 (by decide) rfl ?_
      obtain ⟨s1, k⟩ := k
      refine R_iadd (c := (rd h 211 (2 * v4))) dd_rests_160 (by omega) s1 rfl ?_
      refine R_iast (n := 200) dd_rests_161 ia_211 la_211 (by omega) rfl ?_
      refine R_ld (v := .inr (.inr 182)) dd_rests_162 rfl rfl rfl rfl ?_
      refine R_gf (v := .inr (.inr 211)) dd_rests_163 fd_12_171 io_182 (congrArg (fun z : Int => (Sum.inr (Sum.inr z) : LV)) ((rdw_ne (by decide)).trans (rf_182_50 hF))) rfl ?_
      refine R_ic dd_rests_166 (by decide) rfl ?_
      refine R_ld (v := .inl v4) dd_rests_167 rfl rfl rfl rfl ?_
      refine R_imul (c := 2 * v4) dd_rests_169 (by omega) (by omega) rfl ?_
      refine R_ic dd_rests_170 (by decide) rfl ?_
      refine R_iadd (c := 2 * v4 + 1) dd_rests_171 (by omega) (by omega) rfl ?_
      refine R_A dd_rests_172 rfl rfl rfl rfl ?_
      refine R_iald (v := (rd h 211 (2 * v4 + 1))) (n := 200) dd_rests_173 ia_211 la_211 (by omega) (rdw_nei (by omega)) rfl ?_
      refine R_ld (v := .inl w0) dd_rests_174 rfl rfl rfl rfl ?_
      refine R_ld (v := .inl v2) dd_rests_176 rfl rfl rfl rfl ?_
      refine R_call (as := [.inl w0, .inl v2]) (rest := [.inl (rd h 211 (2 * v4 + 1)), .inl (2 * v4 + 1), .inr (.inr 211)]) (M' := mm_isIn) (ls0 := [some (.inl w0), some (.inl v2)]) dd_rests_177 rfl rfl (cw_s cw_12_350 rfl rfl (Nat.le_of_ble_eq_true rfl) (Nat.le_of_ble_eq_true rfl)) mt_isIn rfl (c := e - 1) (by omega) rfl ?_
      refine R_ld (v := .inl w0) dd_isIn_0 rfl rfl rfl rfl ?_
      refine R_ld (v := .inl v2) dd_isIn_1 rfl rfl rfl rfl ?_
      refine R_A dd_isIn_2 rfl rfl rfl rfl ?_
      refine R_ic dd_isIn_3 (by decide) rfl ?_
      refine R_A dd_isIn_4 rfl rfl rfl rfl ?_
      refine R_ic dd_isIn_5 (by decide) rfl ?_
      refine R_icmp dd_isIn_6 rfl rfl (fun (c9 : (zand (zshr w0 v2) 1) ≠ 1) => ?_) (fun (c9 : (zand (zshr w0 v2) 1) = 1) => ?_)
      · replace k := k.1 c9
        refine R_ic dd_isIn_13 (by decide) rfl ?_
        refine R_zret dd_isIn_14 rfl (by decide) ?_
        change Rn xs xl e mm_rests 180 [some (.inr (.inr 182)), some (.inl v1), some (.inl v2), some (.inl v3), some (.inl v4), some (.inl v5), some (.inl w0), o7] [.inl 0, .inl (rd h 211 (2 * v4 + 1)), .inl (2 * v4 + 1), .inr (.inr 211)] (wr h 211 (2 * v4) (rd h 211 (2 * v4))) _
        refine R_if dd_rests_180 rfl rfl (fun (c10 : 0 = 0) => ?_) (fun (c10 : 0 ≠ 0) => ?_)
        · skip
          refine R_ic dd_rests_190 (by decide) rfl ?_
          obtain ⟨s2, k⟩ := k
          refine R_iadd (c := (rd h 211 (2 * v4 + 1))) dd_rests_191 (by omega) s2 rfl ?_
          refine R_iast (n := 200) dd_rests_192 ia_211 la_211 (by omega) rfl ?_
          refine R_inc (y := v5 + 1) (ls' := [some (.inr (.inr 182)), some (.inl v1), some (.inl v2), some (.inl v3), some (.inl v4), some (.inl (v5 + 1)), some (.inl w0), o7]) dd_rests_193 rfl (by decide) (by omega) (by omega) rfl rfl ?_
          refine R_goto dd_rests_196 rfl ?_
          exact k
        · exact absurd c10 (by omega)
      · replace k := k.2 c9
        refine R_ic dd_isIn_9 (by decide) rfl ?_
        refine R_goto dd_isIn_10 rfl ?_
        refine R_zret dd_isIn_14 rfl (by decide) ?_
        change Rn xs xl e mm_rests 180 [some (.inr (.inr 182)), some (.inl v1), some (.inl v2), some (.inl v3), some (.inl v4), some (.inl v5), some (.inl w0), o7] [.inl 1, .inl (rd h 211 (2 * v4 + 1)), .inl (2 * v4 + 1), .inr (.inr 211)] (wr h 211 (2 * v4) (rd h 211 (2 * v4))) _
        refine R_if dd_rests_180 rfl rfl (fun (c11 : 1 = 0) => ?_) (fun (c11 : 1 ≠ 0) => ?_)
        · exact absurd c11 (by omega)
        · skip
          refine R_ld (v := .inr (.inr 182)) dd_rests_183 rfl rfl rfl rfl ?_
          refine R_gf (v := .inl (rd h 182 31)) dd_rests_184 fd_12_344 io_182 (congrArg (fun z : Int => (Sum.inl z : LV)) (rdw_ne (by decide))) rfl ?_
          refine R_goto dd_rests_187 rfl ?_
          obtain ⟨s3, k⟩ := k
          refine R_iadd (c := (rd h 211 (2 * v4 + 1)) + (rd h 182 31)) dd_rests_191 (by omega) s3 rfl ?_
          refine R_iast (n := 200) dd_rests_192 ia_211 la_211 (by omega) rfl ?_
          refine R_inc (y := v5 + 1) (ls' := [some (.inr (.inr 182)), some (.inl v1), some (.inl v2), some (.inl v3), some (.inl v4), some (.inl (v5 + 1)), some (.inl w0), o7]) dd_rests_193 rfl (by decide) (by omega) (by omega) rfl rfl ?_
          refine R_goto dd_rests_196 rfl ?_
          exact k
    · exact absurd c8 (by omega)
  · replace k := k.2 c7
    refine R_ic dd_isIn_9 (by decide) rfl ?_
    refine R_goto dd_isIn_10 rfl ?_
    refine R_zret dd_isIn_14 rfl (by decide) ?_
    change Rn xs xl e mm_rests 149 [some (.inr (.inr 182)), some (.inl v1), some (.inl v2), some (.inl v3), some (.inl v4), some (.inl v5), some (.inl w0), o7] [.inl 1, .inl (rd h 211 (2 * v4)), .inl (2 * v4), .inr (.inr 211)] h _
    refine R_if dd_rests_149 rfl rfl (fun (c12 : 1 = 0) => ?_) (fun (c12 : 1 ≠ 0) => ?_)
    · exact absurd c12 (by omega)
    · skip
      refine R_ld (v := .inr (.inr 182)) dd_rests_152 rfl rfl rfl rfl ?_
      refine R_gf (v := .inl (rd h 182 30)) dd_rests_153 fd_12_341 io_182 (congrArg (fun z : Int => (Sum.inl z : LV)) (rfl)) rfl ?_
      refine R_goto dd_rests_156 rfl ?_
      obtain ⟨s4, k⟩ := k
      refine R_iadd (c := (rd h 211 (2 * v4)) + (rd h 182 30)) dd_rests_160 (by omega) s4 rfl ?_
      refine R_iast (n := 200) dd_rests_161 ia_211 la_211 (by omega) rfl ?_
      refine R_ld (v := .inr (.inr 182)) dd_rests_162 rfl rfl rfl rfl ?_
      refine R_gf (v := .inr (.inr 211)) dd_rests_163 fd_12_171 io_182 (congrArg (fun z : Int => (Sum.inr (Sum.inr z) : LV)) ((rdw_ne (by decide)).trans (rf_182_50 hF))) rfl ?_
      refine R_ic dd_rests_166 (by decide) rfl ?_
      refine R_ld (v := .inl v4) dd_rests_167 rfl rfl rfl rfl ?_
      refine R_imul (c := 2 * v4) dd_rests_169 (by omega) (by omega) rfl ?_
      refine R_ic dd_rests_170 (by decide) rfl ?_
      refine R_iadd (c := 2 * v4 + 1) dd_rests_171 (by omega) (by omega) rfl ?_
      refine R_A dd_rests_172 rfl rfl rfl rfl ?_
      refine R_iald (v := (rd h 211 (2 * v4 + 1))) (n := 200) dd_rests_173 ia_211 la_211 (by omega) (rdw_nei (by omega)) rfl ?_
      refine R_ld (v := .inl w0) dd_rests_174 rfl rfl rfl rfl ?_
      refine R_ld (v := .inl v2) dd_rests_176 rfl rfl rfl rfl ?_
      refine R_call (as := [.inl w0, .inl v2]) (rest := [.inl (rd h 211 (2 * v4 + 1)), .inl (2 * v4 + 1), .inr (.inr 211)]) (M' := mm_isIn) (ls0 := [some (.inl w0), some (.inl v2)]) dd_rests_177 rfl rfl (cw_s cw_12_350 rfl rfl (Nat.le_of_ble_eq_true rfl) (Nat.le_of_ble_eq_true rfl)) mt_isIn rfl (c := e - 1) (by omega) rfl ?_
      refine R_ld (v := .inl w0) dd_isIn_0 rfl rfl rfl rfl ?_
      refine R_ld (v := .inl v2) dd_isIn_1 rfl rfl rfl rfl ?_
      refine R_A dd_isIn_2 rfl rfl rfl rfl ?_
      refine R_ic dd_isIn_3 (by decide) rfl ?_
      refine R_A dd_isIn_4 rfl rfl rfl rfl ?_
      refine R_ic dd_isIn_5 (by decide) rfl ?_
      refine R_icmp dd_isIn_6 rfl rfl (fun (c13 : (zand (zshr w0 v2) 1) ≠ 1) => ?_) (fun (c13 : (zand (zshr w0 v2) 1) = 1) => ?_)
      · replace k := k.1 c13
        refine R_ic dd_isIn_13 (by decide) rfl ?_
        refine R_zret dd_isIn_14 rfl (by decide) ?_
        change Rn xs xl e mm_rests 180 [some (.inr (.inr 182)), some (.inl v1), some (.inl v2), some (.inl v3), some (.inl v4), some (.inl v5), some (.inl w0), o7] [.inl 0, .inl (rd h 211 (2 * v4 + 1)), .inl (2 * v4 + 1), .inr (.inr 211)] (wr h 211 (2 * v4) ((rd h 211 (2 * v4)) + (rd h 182 30))) _
        refine R_if dd_rests_180 rfl rfl (fun (c14 : 0 = 0) => ?_) (fun (c14 : 0 ≠ 0) => ?_)
        · skip
          refine R_ic dd_rests_190 (by decide) rfl ?_
          obtain ⟨s5, k⟩ := k
          refine R_iadd (c := (rd h 211 (2 * v4 + 1))) dd_rests_191 (by omega) s5 rfl ?_
          refine R_iast (n := 200) dd_rests_192 ia_211 la_211 (by omega) rfl ?_
          refine R_inc (y := v5 + 1) (ls' := [some (.inr (.inr 182)), some (.inl v1), some (.inl v2), some (.inl v3), some (.inl v4), some (.inl (v5 + 1)), some (.inl w0), o7]) dd_rests_193 rfl (by decide) (by omega) (by omega) rfl rfl ?_
          refine R_goto dd_rests_196 rfl ?_
          exact k
        · exact absurd c14 (by omega)
      · replace k := k.2 c13
        refine R_ic dd_isIn_9 (by decide) rfl ?_
        refine R_goto dd_isIn_10 rfl ?_
        refine R_zret dd_isIn_14 rfl (by decide) ?_
        change Rn xs xl e mm_rests 180 [some (.inr (.inr 182)), some (.inl v1), some (.inl v2), some (.inl v3), some (.inl v4), some (.inl v5), some (.inl w0), o7] [.inl 1, .inl (rd h 211 (2 * v4 + 1)), .inl (2 * v4 + 1), .inr (.inr 211)] (wr h 211 (2 * v4) ((rd h 211 (2 * v4)) + (rd h 182 30))) _
        refine R_if dd_rests_180 rfl rfl (fun (c15 : 1 = 0) => ?_) (fun (c15 : 1 ≠ 0) => ?_)
        · exact absurd c15 (by omega)
        · skip
          refine R_ld (v := .inr (.inr 182)) dd_rests_183 rfl rfl rfl rfl ?_
          refine R_gf (v := .inl (rd h 182 31)) dd_rests_184 fd_12_344 io_182 (congrArg (fun z : Int => (Sum.inl z : LV)) (rdw_ne (by decide))) rfl ?_
          refine R_goto dd_rests_187 rfl ?_
          obtain ⟨s6, k⟩ := k
          refine R_iadd (c := (rd h 211 (2 * v4 + 1)) + (rd h 182 31)) dd_rests_191 (by omega) s6 rfl ?_
          refine R_iast (n := 200) dd_rests_192 ia_211 la_211 (by omega) rfl ?_
          refine R_inc (y := v5 + 1) (ls' := [some (.inr (.inr 182)), some (.inl v1), some (.inl v2), some (.inl v3), some (.inl v4), some (.inl (v5 + 1)), some (.inl w0), o7]) dd_rests_193 rfl (by decide) (by omega) (by omega) rfl rfl ?_
          refine R_goto dd_rests_196 rfl ?_
          exact k
theorem B_rests_221 {xs : Nat → Int} {xl e : Nat} {h : LH} {Q : Option LV → LH → Prop} {v1 v2 v3 v4 v5 : Int} {o6 : Option LV} {o7 : Option LV} (hF : RF h) (r_v5 : 0 ≤ v5 ∧ v5 ≤ 100)
    (k : (100 ≤ v5 →
        (0 ≤ v3 →
          Q (some (.inl (-1))) h) ∧
        (v3 < 0 →
          Q (some (.inl v4)) h)) ∧
      (v5 < 100 →
        Rn xs xl e mm_rests 234 [some (.inr (.inr 182)), some (.inl v1), some (.inl v2), some (.inl v3), some (.inl v4), some (.inl v5), some (.inl 1), some (.inl 0)] [] h Q)) :
    Rn xs xl e mm_rests 221 [some (.inr (.inr 182)), some (.inl v1), some (.inl v2), some (.inl v3), some (.inl v4), some (.inl v5), o6, o7] [] h Q := by
  refine R_ld (v := .inl v5) dd_rests_221 rfl rfl rfl rfl ?_
  refine R_bi dd_rests_223 (by decide) rfl ?_
  refine R_icmp dd_rests_225 rfl rfl (fun (c1 : 100 ≤ v5) => ?_) (fun (c1 : v5 < 100) => ?_)
  · replace k := k.1 c1
    refine R_ld (v := .inl v3) dd_rests_358 rfl rfl rfl rfl ?_
    refine R_if dd_rests_359 rfl rfl (fun (c2 : 0 ≤ v3) => ?_) (fun (c2 : v3 < 0) => ?_)
    · replace k := k.1 c2
      refine R_ic dd_rests_367 (by decide) rfl ?_
      exact R_iret dd_rests_368 rfl k
    · replace k := k.2 c2
      refine R_ld (v := .inl v4) dd_rests_362 rfl rfl rfl rfl ?_
      refine R_goto dd_rests_364 rfl ?_
      exact R_iret dd_rests_368 rfl k
  · replace k := k.2 c1
    refine R_ic dd_rests_228 (by decide) rfl ?_
    refine R_st (ls' := [some (.inr (.inr 182)), some (.inl v1), some (.inl v2), some (.inl v3), some (.inl v4), some (.inl v5), some (.inl 1), o7]) dd_rests_229 rfl rfl rfl (Nat.le_of_ble_eq_true rfl) rfl rfl ?_
    refine R_ic dd_rests_231 (by decide) rfl ?_
    refine R_st (ls' := [some (.inr (.inr 182)), some (.inl v1), some (.inl v2), some (.inl v3), some (.inl v4), some (.inl v5), some (.inl 1), some (.inl 0)]) dd_rests_232 rfl rfl rfl (Nat.le_of_ble_eq_true rfl) rfl rfl ?_
    exact k
theorem B_rests_234 {xs : Nat → Int} {xl e : Nat} {h : LH} {Q : Option LV → LH → Prop} {v1 v2 v3 v4 v5 v6 v7 : Int} (hF : RF h) (r_v5 : 0 ≤ v5 ∧ v5 ≤ 99) (r_v7 : 0 ≤ v7 ∧ v7 ≤ 10)
    (k : (10 ≤ v7 →
        Rn xs xl e mm_rests 323 [some (.inr (.inr 182)), some (.inl v1), some (.inl v2), some (.inl v3), some (.inl v4), some (.inl v5), some (.inl v6), some (.inl v7)] [] h Q) ∧
      (v7 < 10 →
        (v6 = 0 →
          Rn xs xl e mm_rests 234 [some (.inr (.inr 182)), some (.inl v1), some (.inl v2), some (.inl v3), some (.inl v4), some (.inl v5), some (.inl 0), some (.inl (v7 + 1))] [] h Q) ∧
        (v6 ≠ 0 →
          (-2147483648 ≤ 10 * v7 + (v5 % 10) ∧ 10 * v7 + (v5 % 10) ≤ 2147483647) ∧
          (-2147483648 ≤ 20 * v7 + 2 * (v5 % 10) ∧ 20 * v7 + 2 * (v5 % 10) ≤ 2147483647) ∧
          (0 ≤ 20 * v7 + 2 * (v5 % 10) ∧ 20 * v7 + 2 * (v5 % 10) < 200) ∧
          ((rd h 211 (2 * v5)) < (rd h 211 (20 * v7 + 2 * (v5 % 10))) →
            Rn xs xl e mm_rests 234 [some (.inr (.inr 182)), some (.inl v1), some (.inl v2), some (.inl v3), some (.inl v4), some (.inl v5), some (.inl 0), some (.inl (v7 + 1))] [] h Q) ∧
          ((rd h 211 (20 * v7 + 2 * (v5 % 10))) ≤ (rd h 211 (2 * v5)) →
            (-2147483648 ≤ 10 * (v5 / 10) ∧ 10 * (v5 / 10) ≤ 2147483647) ∧
            (-2147483648 ≤ 10 * (v5 / 10) + v7 ∧ 10 * (v5 / 10) + v7 ≤ 2147483647) ∧
            (-2147483648 ≤ 20 * (v5 / 10) + 2 * v7 ∧ 20 * (v5 / 10) + 2 * v7 ≤ 2147483647) ∧
            (-2147483648 ≤ 20 * (v5 / 10) + 2 * v7 + 1 ∧ 20 * (v5 / 10) + 2 * v7 + 1 ≤ 2147483647) ∧
            (0 ≤ 20 * (v5 / 10) + 2 * v7 + 1 ∧ 20 * (v5 / 10) + 2 * v7 + 1 < 200) ∧
            ((rd h 211 (2 * v5 + 1)) < (rd h 211 (20 * (v5 / 10) + 2 * v7 + 1)) →
              Rn xs xl e mm_rests 234 [some (.inr (.inr 182)), some (.inl v1), some (.inl v2), some (.inl v3), some (.inl v4), some (.inl v5), some (.inl 0), some (.inl (v7 + 1))] [] h Q) ∧
            ((rd h 211 (20 * (v5 / 10) + 2 * v7 + 1)) ≤ (rd h 211 (2 * v5 + 1)) →
              Rn xs xl e mm_rests 234 [some (.inr (.inr 182)), some (.inl v1), some (.inl v2), some (.inl v3), some (.inl v4), some (.inl v5), some (.inl 1), some (.inl (v7 + 1))] [] h Q))))) :
    Rn xs xl e mm_rests 234 [some (.inr (.inr 182)), some (.inl v1), some (.inl v2), some (.inl v3), some (.inl v4), some (.inl v5), some (.inl v6), some (.inl v7)] [] h Q := by
  refine R_ld (v := .inl v7) dd_rests_234 rfl rfl rfl rfl ?_
  refine R_bi dd_rests_236 (by decide) rfl ?_
  refine R_icmp dd_rests_238 rfl rfl (fun (c9 : 10 ≤ v7) => ?_) (fun (c9 : v7 < 10) => ?_)
  · replace k := k.1 c9
    exact k
  · replace k := k.2 c9
    refine R_ld (v := .inl v6) dd_rests_241 rfl rfl rfl rfl ?_
    refine R_if dd_rests_243 rfl rfl (fun (c10 : v6 = 0) => ?_) (fun (c10 : v6 ≠ 0) => ?_)
    · replace k := k.1 c10
      refine R_ic dd_rests_314 (by decide) rfl ?_
      refine R_st (ls' := [some (.inr (.inr 182)), some (.inl v1), some (.inl v2), some (.inl v3), some (.inl v4), some (.inl v5), some (.inl 0), some (.inl v7)]) dd_rests_315 rfl rfl rfl (Nat.le_of_ble_eq_true rfl) rfl rfl ?_
      refine R_inc (y := v7 + 1) (ls' := [some (.inr (.inr 182)), some (.inl v1), some (.inl v2), some (.inl v3), some (.inl v4), some (.inl v5), some (.inl 0), some (.inl (v7 + 1))]) dd_rests_317 rfl (by decide) (by omega) (by omega) rfl rfl ?_
      refine R_goto dd_rests_320 rfl ?_
      exact k
    · replace k := k.2 c10
      refine R_ld (v := .inr (.inr 182)) dd_rests_246 rfl rfl rfl rfl ?_
      refine R_gf (v := .inr (.inr 211)) dd_rests_247 fd_12_171 io_182 (congrArg (fun z : Int => (Sum.inr (Sum.inr z) : LV)) (rf_182_50 hF)) rfl ?_
      refine R_ic dd_rests_250 (by decide) rfl ?_
      refine R_bi dd_rests_251 (by decide) rfl ?_
      refine R_ld (v := .inl v7) dd_rests_253 rfl rfl rfl rfl ?_
      refine R_imul (c := 10 * v7) dd_rests_255 (by omega) (by omega) rfl ?_
      refine R_ld (v := .inl v5) dd_rests_256 rfl rfl rfl rfl ?_
      refine R_bi dd_rests_258 (by decide) rfl ?_
      refine R_irem dd_rests_260 (by omega) (by decide) rfl ?_
      obtain ⟨s1, k⟩ := k
      refine R_iadd (c := 10 * v7 + (v5 % 10)) dd_rests_261 (by omega) s1 rfl ?_
      obtain ⟨s2, k⟩ := k
      refine R_imul (c := 20 * v7 + 2 * (v5 % 10)) dd_rests_262 (by omega) s2 rfl ?_
      obtain ⟨s3, k⟩ := k
      refine R_iald (v := (rd h 211 (20 * v7 + 2 * (v5 % 10)))) (n := 200) dd_rests_263 ia_211 la_211 s3 (rfl) rfl ?_
      refine R_ld (v := .inr (.inr 182)) dd_rests_264 rfl rfl rfl rfl ?_
      refine R_gf (v := .inr (.inr 211)) dd_rests_265 fd_12_171 io_182 (congrArg (fun z : Int => (Sum.inr (Sum.inr z) : LV)) (rf_182_50 hF)) rfl ?_
      refine R_ic dd_rests_268 (by decide) rfl ?_
      refine R_ld (v := .inl v5) dd_rests_269 rfl rfl rfl rfl ?_
      refine R_imul (c := 2 * v5) dd_rests_271 (by omega) (by omega) rfl ?_
      refine R_iald (v := (rd h 211 (2 * v5))) (n := 200) dd_rests_272 ia_211 la_211 (by omega) (rfl) rfl ?_
      refine R_icmp dd_rests_273 rfl rfl (fun (c11 : (rd h 211 (2 * v5)) < (rd h 211 (20 * v7 + 2 * (v5 % 10)))) => ?_) (fun (c11 : (rd h 211 (20 * v7 + 2 * (v5 % 10))) ≤ (rd h 211 (2 * v5))) => ?_)
      · replace k := k.1 c11
        refine R_ic dd_rests_314 (by decide) rfl ?_
        refine R_st (ls' := [some (.inr (.inr 182)), some (.inl v1), some (.inl v2), some (.inl v3), some (.inl v4), some (.inl v5), some (.inl 0), some (.inl v7)]) dd_rests_315 rfl rfl rfl (Nat.le_of_ble_eq_true rfl) rfl rfl ?_
        refine R_inc (y := v7 + 1) (ls' := [some (.inr (.inr 182)), some (.inl v1), some (.inl v2), some (.inl v3), some (.inl v4), some (.inl v5), some (.inl 0), some (.inl (v7 + 1))]) dd_rests_317 rfl (by decide) (by omega) (by omega) rfl rfl ?_
        refine R_goto dd_rests_320 rfl ?_
        exact k
      · replace k := k.2 c11
        refine R_ld (v := .inr (.inr 182)) dd_rests_276 rfl rfl rfl rfl ?_
        refine R_gf (v := .inr (.inr 211)) dd_rests_277 fd_12_171 io_182 (congrArg (fun z : Int => (Sum.inr (Sum.inr z) : LV)) (rf_182_50 hF)) rfl ?_
        refine R_ic dd_rests_280 (by decide) rfl ?_
        refine R_ld (v := .inl v5) dd_rests_281 rfl rfl rfl rfl ?_
        refine R_bi dd_rests_283 (by decide) rfl ?_
        refine R_idiv dd_rests_285 (by omega) (by decide) rfl ?_
        refine R_bi dd_rests_286 (by decide) rfl ?_
        obtain ⟨s4, k⟩ := k
        refine R_imul (c := 10 * (v5 / 10)) dd_rests_288 (by omega) s4 rfl ?_
        refine R_ld (v := .inl v7) dd_rests_289 rfl rfl rfl rfl ?_
        obtain ⟨s5, k⟩ := k
        refine R_iadd (c := 10 * (v5 / 10) + v7) dd_rests_291 (by omega) s5 rfl ?_
        obtain ⟨s6, k⟩ := k
        refine R_imul (c := 20 * (v5 / 10) + 2 * v7) dd_rests_292 (by omega) s6 rfl ?_
        refine R_ic dd_rests_293 (by decide) rfl ?_
        obtain ⟨s7, k⟩ := k
        refine R_iadd (c := 20 * (v5 / 10) + 2 * v7 + 1) dd_rests_294 (by omega) s7 rfl ?_
        obtain ⟨s8, k⟩ := k
        refine R_iald (v := (rd h 211 (20 * (v5 / 10) + 2 * v7 + 1))) (n := 200) dd_rests_295 ia_211 la_211 s8 (rfl) rfl ?_
        refine R_ld (v := .inr (.inr 182)) dd_rests_296 rfl rfl rfl rfl ?_
        refine R_gf (v := .inr (.inr 211)) dd_rests_297 fd_12_171 io_182 (congrArg (fun z : Int => (Sum.inr (Sum.inr z) : LV)) (rf_182_50 hF)) rfl ?_
        refine R_ic dd_rests_300 (by decide) rfl ?_
        refine R_ld (v := .inl v5) dd_rests_301 rfl rfl rfl rfl ?_
        refine R_imul (c := 2 * v5) dd_rests_303 (by omega) (by omega) rfl ?_
        refine R_ic dd_rests_304 (by decide) rfl ?_
        refine R_iadd (c := 2 * v5 + 1) dd_rests_305 (by omega) (by omega) rfl ?_
        refine R_iald (v := (rd h 211 (2 * v5 + 1))) (n := 200) dd_rests_306 ia_211 la_211 (by omega) (rfl) rfl ?_
        refine R_icmp dd_rests_307 rfl rfl (fun (c12 : (rd h 211 (2 * v5 + 1)) < (rd h 211 (20 * (v5 / 10) + 2 * v7 + 1))) => ?_) (fun (c12 : (rd h 211 (20 * (v5 / 10) + 2 * v7 + 1)) ≤ (rd h 211 (2 * v5 + 1))) => ?_)
        · replace k := k.1 c12
          refine R_ic dd_rests_314 (by decide) rfl ?_
          refine R_st (ls' := [some (.inr (.inr 182)), some (.inl v1), some (.inl v2), some (.inl v3), some (.inl v4), some (.inl v5), some (.inl 0), some (.inl v7)]) dd_rests_315 rfl rfl rfl (Nat.le_of_ble_eq_true rfl) rfl rfl ?_
          refine R_inc (y := v7 + 1) (ls' := [some (.inr (.inr 182)), some (.inl v1), some (.inl v2), some (.inl v3), some (.inl v4), some (.inl v5), some (.inl 0), some (.inl (v7 + 1))]) dd_rests_317 rfl (by decide) (by omega) (by omega) rfl rfl ?_
          refine R_goto dd_rests_320 rfl ?_
          exact k
        · replace k := k.2 c12
          refine R_ic dd_rests_310 (by decide) rfl ?_
          refine R_goto dd_rests_311 rfl ?_
          refine R_st (ls' := [some (.inr (.inr 182)), some (.inl v1), some (.inl v2), some (.inl v3), some (.inl v4), some (.inl v5), some (.inl 1), some (.inl v7)]) dd_rests_315 rfl rfl rfl (Nat.le_of_ble_eq_true rfl) rfl rfl ?_
          refine R_inc (y := v7 + 1) (ls' := [some (.inr (.inr 182)), some (.inl v1), some (.inl v2), some (.inl v3), some (.inl v4), some (.inl v5), some (.inl 1), some (.inl (v7 + 1))]) dd_rests_317 rfl (by decide) (by omega) (by omega) rfl rfl ?_
          refine R_goto dd_rests_320 rfl ?_
          exact k
theorem B_rests_323 {xs : Nat → Int} {xl e : Nat} {h : LH} {Q : Option LV → LH → Prop} {v1 v2 v3 v4 v5 v6 v7 : Int} (hF : RF h) (r_v5 : 0 ≤ v5 ∧ v5 ≤ 99)
    (k : (v6 = 0 →
        (-2147483648 ≤ v4 ∧ v4 ≤ 2147483647) ∧
        Rn xs xl e mm_rests 221 [some (.inr (.inr 182)), some (.inl v1), some (.inl v2), some (.inl v3), some (.inl v4), some (.inl (v5 + 1)), some (.inl v6), some (.inl v7)] [] h Q) ∧
      (v6 ≠ 0 →
        (v4 ≠ v3 →
          (-2147483648 ≤ v4 + 1 ∧ v4 + 1 ≤ 2147483647) ∧
          Rn xs xl e mm_rests 221 [some (.inr (.inr 182)), some (.inl v1), some (.inl v2), some (.inl v3), some (.inl (v4 + 1)), some (.inl (v5 + 1)), some (.inl v6), some (.inl v7)] [] h Q) ∧
        (v4 = v3 →
          Q (some (.inl v5)) h))) :
    Rn xs xl e mm_rests 323 [some (.inr (.inr 182)), some (.inl v1), some (.inl v2), some (.inl v3), some (.inl v4), some (.inl v5), some (.inl v6), some (.inl v7)] [] h Q := by
  refine R_ld (v := .inl v6) dd_rests_323 rfl rfl rfl rfl ?_
  refine R_if dd_rests_325 rfl rfl (fun (c3 : v6 = 0) => ?_) (fun (c3 : v6 ≠ 0) => ?_)
  · replace k := k.1 c3
    refine R_ld (v := .inl v4) dd_rests_337 rfl rfl rfl rfl ?_
    refine R_ld (v := .inl v6) dd_rests_339 rfl rfl rfl rfl ?_
    refine R_if dd_rests_341 rfl rfl (fun (c4 : v6 = 0) => ?_) (fun (c4 : v6 ≠ 0) => ?_)
    · skip
      refine R_ic dd_rests_348 (by decide) rfl ?_
      obtain ⟨s1, k⟩ := k
      refine R_iadd (c := v4) dd_rests_349 (by omega) s1 rfl ?_
      refine R_st (ls' := [some (.inr (.inr 182)), some (.inl v1), some (.inl v2), some (.inl v3), some (.inl v4), some (.inl v5), some (.inl v6), some (.inl v7)]) dd_rests_350 rfl rfl rfl (Nat.le_of_ble_eq_true rfl) rfl rfl ?_
      refine R_inc (y := v5 + 1) (ls' := [some (.inr (.inr 182)), some (.inl v1), some (.inl v2), some (.inl v3), some (.inl v4), some (.inl (v5 + 1)), some (.inl v6), some (.inl v7)]) dd_rests_352 rfl (by decide) (by omega) (by omega) rfl rfl ?_
      refine R_goto dd_rests_355 rfl ?_
      exact k
    · exact absurd c4 (by omega)
  · replace k := k.2 c3
    refine R_ld (v := .inl v4) dd_rests_328 rfl rfl rfl rfl ?_
    refine R_ld (v := .inl v3) dd_rests_330 rfl rfl rfl rfl ?_
    refine R_icmp dd_rests_331 rfl rfl (fun (c5 : v4 ≠ v3) => ?_) (fun (c5 : v4 = v3) => ?_)
    · replace k := k.1 c5
      refine R_ld (v := .inl v4) dd_rests_337 rfl rfl rfl rfl ?_
      refine R_ld (v := .inl v6) dd_rests_339 rfl rfl rfl rfl ?_
      refine R_if dd_rests_341 rfl rfl (fun (c6 : v6 = 0) => ?_) (fun (c6 : v6 ≠ 0) => ?_)
      · exact absurd c6 (by omega)
      · skip
        refine R_ic dd_rests_344 (by decide) rfl ?_
        refine R_goto dd_rests_345 rfl ?_
        obtain ⟨s2, k⟩ := k
        refine R_iadd (c := v4 + 1) dd_rests_349 (by omega) s2 rfl ?_
        refine R_st (ls' := [some (.inr (.inr 182)), some (.inl v1), some (.inl v2), some (.inl v3), some (.inl (v4 + 1)), some (.inl v5), some (.inl v6), some (.inl v7)]) dd_rests_350 rfl rfl rfl (Nat.le_of_ble_eq_true rfl) rfl rfl ?_
        refine R_inc (y := v5 + 1) (ls' := [some (.inr (.inr 182)), some (.inl v1), some (.inl v2), some (.inl v3), some (.inl (v4 + 1)), some (.inl (v5 + 1)), some (.inl v6), some (.inl v7)]) dd_rests_352 rfl (by decide) (by omega) (by omega) rfl rfl ?_
        refine R_goto dd_rests_355 rfl ?_
        exact k
    · replace k := k.2 c5
      refine R_ld (v := .inl v5) dd_rests_334 rfl rfl rfl rfl ?_
      exact R_iret dd_rests_336 rfl k
