/-! LM, by program (wip/p2/hand.py): rows of found -/
def mm_Finder_search : LM_M := (⟨"OneSided$Finder", "search", "(LOneSided$Quarter;LOneSided$Memory;Z)V"⟩, prog_4_method_2_code, 5, none, 2, 4, 0, 1034, 1032, 1033)
def mm_Finder_listArcs : LM_M := (⟨"OneSided$Finder", "listArcs", "(LOneSided$Quarter;LOneSided$Scene;)V"⟩, prog_4_method_3_code, 8, none, 2, 3, 0, 1039, 1038, 1000045)
def mm_Finder_grow : LM_M := (⟨"OneSided$Finder", "grow", "(LOneSided$Memory;II)V"⟩, prog_4_method_4_code, 8, none, 2, 4, 0, 1046, 1045, 1000046)
def mm_Finder_weigh : LM_M := (⟨"OneSided$Finder", "weigh", "(LOneSided$Memory;I)V"⟩, prog_4_method_5_code, 6, none, 2, 3, 0, 1050, 1049, 1000047)
def mm_Finder_countComers : LM_M := (⟨"OneSided$Finder", "countComers", "(I)V"⟩, prog_4_method_6_code, 5, none, 2, 2, 0, 1054, 1053, 1000048)
def mm_Finder_tellingPair : LM_M := (⟨"OneSided$Finder", "tellingPair", "(I)I"⟩, prog_4_method_7_code, 8, (some .int), 2, 2, 0, 1059, 1057, 1058)
def mm_looks : LM_M := (⟨"OneSidedModel", "looks", "(I)V"⟩, prog_14_method_98_code, 5, none, 12, 2, 0, 1769, 1768, 1000124)
def mm_tellsMost : LM_M := (⟨"OneSidedModel", "tellsMost", "()I"⟩, prog_14_method_99_code, 6, (some .int), 12, 1, 0, 1777, 1776, 1000126)
theorem ia_95 : isA NC 95 1 = true := by decide +kernel
theorem la_95 : (lay (95 : Int).toNat).2.2 = 100 := by decide +kernel
theorem dd_Finder_search_0 : decode mm_Finder_search.2.1 0 = .ok (.aload_n 0, 1) := by decide +kernel
theorem dd_Finder_search_1 : decode mm_Finder_search.2.1 1 = .ok (.iconst 0, 1) := by decide +kernel
theorem dd_Finder_search_2 : decode mm_Finder_search.2.1 2 = .ok (.putfield 27, 3) := by decide +kernel
theorem fd_2_27 : fld 2 27 = some (2, 0) := by decide +kernel
theorem fn_2_0 : fin 2 0 = false := by decide +kernel
theorem io_90 : isO NC 90 2 = true := by decide +kernel
theorem dd_Finder_search_5 : decode mm_Finder_search.2.1 5 = .ok (.aload_n 0, 1) := by decide +kernel
theorem dd_Finder_search_6 : decode mm_Finder_search.2.1 6 = .ok (.sipush 16383, 3) := by decide +kernel
theorem dd_Finder_search_9 : decode mm_Finder_search.2.1 9 = .ok (.putfield 31, 3) := by decide +kernel
theorem fd_2_31 : fld 2 31 = some (2, 1) := by decide +kernel
theorem fn_2_1 : fin 2 1 = false := by decide +kernel
theorem dd_Finder_search_12 : decode mm_Finder_search.2.1 12 = .ok (.aload_n 0, 1) := by decide +kernel
theorem dd_Finder_search_13 : decode mm_Finder_search.2.1 13 = .ok (.iconst 0, 1) := by decide +kernel
theorem dd_Finder_search_14 : decode mm_Finder_search.2.1 14 = .ok (.putfield 34, 3) := by decide +kernel
theorem fd_2_34 : fld 2 34 = some (2, 2) := by decide +kernel
theorem fn_2_2 : fin 2 2 = false := by decide +kernel
theorem dd_Finder_search_17 : decode mm_Finder_search.2.1 17 = .ok (.aload_n 0, 1) := by decide +kernel
theorem dd_Finder_search_18 : decode mm_Finder_search.2.1 18 = .ok (.iconst (-1), 1) := by decide +kernel
theorem dd_Finder_search_19 : decode mm_Finder_search.2.1 19 = .ok (.putfield 37, 3) := by decide +kernel
theorem fd_2_37 : fld 2 37 = some (2, 3) := by decide +kernel
theorem fn_2_3 : fin 2 3 = false := by decide +kernel
theorem dd_Finder_search_22 : decode mm_Finder_search.2.1 22 = .ok (.aload_n 0, 1) := by decide +kernel
theorem dd_Finder_search_23 : decode mm_Finder_search.2.1 23 = .ok (.iload_n 3, 1) := by decide +kernel
theorem dd_Finder_search_24 : decode mm_Finder_search.2.1 24 = .ok (.putfield 40, 3) := by decide +kernel
theorem fd_2_40 : fld 2 40 = some (2, 6) := by decide +kernel
theorem fn_2_6 : fin 2 6 = false := by decide +kernel
theorem dd_Finder_search_27 : decode mm_Finder_search.2.1 27 = .ok (.aload_n 0, 1) := by decide +kernel
theorem dd_Finder_search_28 : decode mm_Finder_search.2.1 28 = .ok (.getfield 24, 3) := by decide +kernel
theorem fd_2_24 : fld 2 24 = some (2, 12) := by decide +kernel
theorem rf_90_12 {h : LH} (hF : RF h) : rd h 90 12 = 95 := hF 90 12 95 (by decide +kernel) (by decide +kernel)
theorem dd_Finder_search_31 : decode mm_Finder_search.2.1 31 = .ok (.iconst 0, 1) := by decide +kernel
theorem dd_Finder_search_32 : decode mm_Finder_search.2.1 32 = .ok (.invokestatic 44, 3) := by decide +kernel
theorem cw_2_44 : cwOk 2 44 1 53 2 4 16 = true := by decide +kernel
theorem dd_Finder_search_35 : decode mm_Finder_search.2.1 35 = .ok (.aload_n 0, 1) := by decide +kernel
theorem dd_Finder_search_36 : decode mm_Finder_search.2.1 36 = .ok (.aload_n 1, 1) := by decide +kernel
theorem dd_Finder_search_37 : decode mm_Finder_search.2.1 37 = .ok (.aload_n 2, 1) := by decide +kernel
theorem dd_Finder_search_38 : decode mm_Finder_search.2.1 38 = .ok (.getfield 50, 3) := by decide +kernel
theorem fd_2_50 : fld 2 50 = some (3, 0) := by decide +kernel
theorem dd_Finder_search_41 : decode mm_Finder_search.2.1 41 = .ok (.invokevirtual 56, 3) := by decide +kernel
theorem cw_2_56 : cwOk 2 56 0 122 3 8 2 = true := by decide +kernel
theorem mt_Finder_listArcs : MTB 122 = some mm_Finder_listArcs := rfl
theorem dd_Finder_search_44 : decode mm_Finder_search.2.1 44 = .ok (.iconst 0, 1) := by decide +kernel
theorem dd_Finder_search_45 : decode mm_Finder_search.2.1 45 = .ok (.istore 4, 2) := by decide +kernel
theorem dd_Finder_search_47 : decode mm_Finder_search.2.1 47 = .ok (.iload 4, 2) := by decide +kernel
theorem dd_Finder_search_49 : decode mm_Finder_search.2.1 49 = .ok (.bipush 10, 2) := by decide +kernel
theorem dd_Finder_search_51 : decode mm_Finder_search.2.1 51 = .ok (.if_icmp .ge (20), 3) := by decide +kernel
theorem dd_Finder_search_71 : decode mm_Finder_search.2.1 71 = .ok (.aload_n 0, 1) := by decide +kernel
theorem dd_Finder_search_72 : decode mm_Finder_search.2.1 72 = .ok (.aload_n 2, 1) := by decide +kernel
theorem dd_Finder_search_73 : decode mm_Finder_search.2.1 73 = .ok (.iconst 0, 1) := by decide +kernel
theorem dd_Finder_search_74 : decode mm_Finder_search.2.1 74 = .ok (.iconst 0, 1) := by decide +kernel
theorem dd_Finder_search_75 : decode mm_Finder_search.2.1 75 = .ok (.invokevirtual 60, 3) := by decide +kernel
theorem cw_2_60 : cwOk 2 60 0 123 4 8 2 = true := by decide +kernel
theorem mt_Finder_grow : MTB 123 = some mm_Finder_grow := rfl
theorem dd_Finder_search_54 : decode mm_Finder_search.2.1 54 = .ok (.aload_n 0, 1) := by decide +kernel
theorem dd_Finder_search_55 : decode mm_Finder_search.2.1 55 = .ok (.getfield 21, 3) := by decide +kernel
theorem fd_2_21 : fld 2 21 = some (2, 11) := by decide +kernel
theorem rf_90_11 {h : LH} (hF : RF h) : rd h 90 11 = 94 := hF 90 11 94 (by decide +kernel) (by decide +kernel)
theorem dd_Finder_search_58 : decode mm_Finder_search.2.1 58 = .ok (.iload 4, 2) := by decide +kernel
theorem dd_Finder_search_60 : decode mm_Finder_search.2.1 60 = .ok (.iconst 1, 1) := by decide +kernel
theorem dd_Finder_search_61 : decode mm_Finder_search.2.1 61 = .ok (.iload 4, 2) := by decide +kernel
theorem dd_Finder_search_63 : decode mm_Finder_search.2.1 63 = .ok (.ishl, 1) := by decide +kernel
theorem dd_Finder_search_64 : decode mm_Finder_search.2.1 64 = .ok (.iastore, 1) := by decide +kernel
theorem ia_94 : isA NC 94 1 = true := by decide +kernel
theorem la_94 : (lay (94 : Int).toNat).2.2 = 150 := by decide +kernel
theorem dd_Finder_search_65 : decode mm_Finder_search.2.1 65 = .ok (.iinc 4 1, 3) := by decide +kernel
theorem dd_Finder_search_68 : decode mm_Finder_search.2.1 68 = .ok (.goto (-21), 3) := by decide +kernel
theorem dd_Finder_search_78 : decode mm_Finder_search.2.1 78 = .ok (.return_, 1) := by decide +kernel
theorem dd_Finder_listArcs_0 : decode mm_Finder_listArcs.2.1 0 = .ok (.aload_n 1, 1) := by decide +kernel
theorem dd_Finder_listArcs_1 : decode mm_Finder_listArcs.2.1 1 = .ok (.iconst 0, 1) := by decide +kernel
theorem dd_Finder_listArcs_2 : decode mm_Finder_listArcs.2.1 2 = .ok (.aload_n 2, 1) := by decide +kernel
theorem dd_Finder_listArcs_3 : decode mm_Finder_listArcs.2.1 3 = .ok (.getfield 64, 3) := by decide +kernel
theorem fd_2_64 : fld 2 64 = some (9, 0) := by decide +kernel
theorem dd_Finder_listArcs_6 : decode mm_Finder_listArcs.2.1 6 = .ok (.aload_n 2, 1) := by decide +kernel
theorem dd_Finder_listArcs_7 : decode mm_Finder_listArcs.2.1 7 = .ok (.getfield 69, 3) := by decide +kernel
theorem fd_2_69 : fld 2 69 = some (9, 1) := by decide +kernel
theorem dd_Finder_listArcs_10 : decode mm_Finder_listArcs.2.1 10 = .ok (.invokevirtual 72, 3) := by decide +kernel
theorem cw_2_72 : cwOk 2 72 0 68 4 4 6 = true := by decide +kernel
theorem dd_Finder_listArcs_13 : decode mm_Finder_listArcs.2.1 13 = .ok (.istore_n 3, 1) := by decide +kernel
theorem dd_Finder_listArcs_14 : decode mm_Finder_listArcs.2.1 14 = .ok (.aload_n 1, 1) := by decide +kernel
theorem dd_Finder_listArcs_15 : decode mm_Finder_listArcs.2.1 15 = .ok (.iconst 0, 1) := by decide +kernel
theorem dd_Finder_listArcs_16 : decode mm_Finder_listArcs.2.1 16 = .ok (.aload_n 2, 1) := by decide +kernel
theorem dd_Finder_listArcs_17 : decode mm_Finder_listArcs.2.1 17 = .ok (.getfield 64, 3) := by decide +kernel
theorem dd_Finder_listArcs_20 : decode mm_Finder_listArcs.2.1 20 = .ok (.aload_n 2, 1) := by decide +kernel
theorem dd_Finder_listArcs_21 : decode mm_Finder_listArcs.2.1 21 = .ok (.getfield 69, 3) := by decide +kernel
theorem dd_Finder_listArcs_24 : decode mm_Finder_listArcs.2.1 24 = .ok (.invokevirtual 78, 3) := by decide +kernel
theorem cw_2_78 : cwOk 2 78 0 69 4 4 6 = true := by decide +kernel
theorem dd_Finder_listArcs_27 : decode mm_Finder_listArcs.2.1 27 = .ok (.istore 4, 2) := by decide +kernel
theorem dd_Finder_listArcs_29 : decode mm_Finder_listArcs.2.1 29 = .ok (.aload_n 0, 1) := by decide +kernel
theorem dd_Finder_listArcs_30 : decode mm_Finder_listArcs.2.1 30 = .ok (.iconst 0, 1) := by decide +kernel
theorem dd_Finder_listArcs_31 : decode mm_Finder_listArcs.2.1 31 = .ok (.putfield 81, 3) := by decide +kernel
theorem fd_2_81 : fld 2 81 = some (2, 7) := by decide +kernel
theorem fn_2_7 : fin 2 7 = false := by decide +kernel
theorem dd_Finder_listArcs_34 : decode mm_Finder_listArcs.2.1 34 = .ok (.aload_n 0, 1) := by decide +kernel
theorem dd_Finder_listArcs_35 : decode mm_Finder_listArcs.2.1 35 = .ok (.iconst 0, 1) := by decide +kernel
theorem dd_Finder_listArcs_36 : decode mm_Finder_listArcs.2.1 36 = .ok (.putfield 84, 3) := by decide +kernel
theorem fd_2_84 : fld 2 84 = some (2, 4) := by decide +kernel
theorem fn_2_4 : fin 2 4 = false := by decide +kernel
theorem dd_Finder_listArcs_39 : decode mm_Finder_listArcs.2.1 39 = .ok (.iconst 0, 1) := by decide +kernel
theorem dd_Finder_listArcs_40 : decode mm_Finder_listArcs.2.1 40 = .ok (.istore 5, 2) := by decide +kernel
theorem dd_Finder_listArcs_208 : decode mm_Finder_listArcs.2.1 208 = .ok (.putfield 108, 3) := by decide +kernel
theorem fd_2_108 : fld 2 108 = some (2, 5) := by decide +kernel
theorem fn_2_5 : fin 2 5 = false := by decide +kernel
theorem dd_Finder_listArcs_211 : decode mm_Finder_listArcs.2.1 211 = .ok (.return_, 1) := by decide +kernel
theorem dd_Finder_listArcs_42 : decode mm_Finder_listArcs.2.1 42 = .ok (.iload 5, 2) := by decide +kernel
theorem dd_Finder_listArcs_44 : decode mm_Finder_listArcs.2.1 44 = .ok (.aload_n 1, 1) := by decide +kernel
theorem dd_Finder_listArcs_45 : decode mm_Finder_listArcs.2.1 45 = .ok (.getfield 87, 3) := by decide +kernel
theorem fd_2_87 : fld 2 87 = some (6, 2) := by decide +kernel
theorem dd_Finder_listArcs_48 : decode mm_Finder_listArcs.2.1 48 = .ok (.if_icmp .ge (152), 3) := by decide +kernel
theorem dd_Finder_listArcs_200 : decode mm_Finder_listArcs.2.1 200 = .ok (.aload_n 0, 1) := by decide +kernel
theorem dd_Finder_listArcs_201 : decode mm_Finder_listArcs.2.1 201 = .ok (.aload_n 0, 1) := by decide +kernel
theorem dd_Finder_listArcs_202 : decode mm_Finder_listArcs.2.1 202 = .ok (.getfield 84, 3) := by decide +kernel
theorem dd_Finder_listArcs_205 : decode mm_Finder_listArcs.2.1 205 = .ok (.invokestatic 102, 3) := by decide +kernel
theorem cw_2_102 : cwOk 2 102 1 107 1 1 14 = true := by decide +kernel
theorem dd_Finder_listArcs_51 : decode mm_Finder_listArcs.2.1 51 = .ok (.aload_n 1, 1) := by decide +kernel
theorem dd_Finder_listArcs_52 : decode mm_Finder_listArcs.2.1 52 = .ok (.getfield 90, 3) := by decide +kernel
theorem fd_2_90 : fld 2 90 = some (6, 1) := by decide +kernel
theorem dd_Finder_listArcs_55 : decode mm_Finder_listArcs.2.1 55 = .ok (.iload 5, 2) := by decide +kernel
theorem dd_Finder_listArcs_57 : decode mm_Finder_listArcs.2.1 57 = .ok (.aaload, 1) := by decide +kernel
theorem dd_Finder_listArcs_58 : decode mm_Finder_listArcs.2.1 58 = .ok (.astore 6, 2) := by decide +kernel
theorem dd_Finder_listArcs_60 : decode mm_Finder_listArcs.2.1 60 = .ok (.iload_n 3, 1) := by decide +kernel
theorem dd_Finder_listArcs_61 : decode mm_Finder_listArcs.2.1 61 = .ok (.iload 5, 2) := by decide +kernel
theorem dd_Finder_listArcs_63 : decode mm_Finder_listArcs.2.1 63 = .ok (.ishr, 1) := by decide +kernel
theorem dd_Finder_listArcs_64 : decode mm_Finder_listArcs.2.1 64 = .ok (.iconst 1, 1) := by decide +kernel
theorem dd_Finder_listArcs_65 : decode mm_Finder_listArcs.2.1 65 = .ok (.iand, 1) := by decide +kernel
theorem dd_Finder_listArcs_66 : decode mm_Finder_listArcs.2.1 66 = .ok (.ifCond .eq (7), 3) := by decide +kernel
theorem dd_Finder_listArcs_73 : decode mm_Finder_listArcs.2.1 73 = .ok (.iconst 0, 1) := by decide +kernel
theorem dd_Finder_listArcs_74 : decode mm_Finder_listArcs.2.1 74 = .ok (.istore 7, 2) := by decide +kernel
theorem dd_Finder_listArcs_76 : decode mm_Finder_listArcs.2.1 76 = .ok (.iload 7, 2) := by decide +kernel
theorem dd_Finder_listArcs_78 : decode mm_Finder_listArcs.2.1 78 = .ok (.ifCond .ne (13), 3) := by decide +kernel
theorem dd_Finder_listArcs_81 : decode mm_Finder_listArcs.2.1 81 = .ok (.iload 4, 2) := by decide +kernel
theorem dd_Finder_listArcs_83 : decode mm_Finder_listArcs.2.1 83 = .ok (.iload 5, 2) := by decide +kernel
theorem dd_Finder_listArcs_85 : decode mm_Finder_listArcs.2.1 85 = .ok (.ishr, 1) := by decide +kernel
theorem dd_Finder_listArcs_86 : decode mm_Finder_listArcs.2.1 86 = .ok (.iconst 1, 1) := by decide +kernel
theorem dd_Finder_listArcs_87 : decode mm_Finder_listArcs.2.1 87 = .ok (.iand, 1) := by decide +kernel
theorem dd_Finder_listArcs_88 : decode mm_Finder_listArcs.2.1 88 = .ok (.ifCond .eq (81), 3) := by decide +kernel
theorem dd_Finder_listArcs_169 : decode mm_Finder_listArcs.2.1 169 = .ok (.aload_n 2, 1) := by decide +kernel
theorem dd_Finder_listArcs_170 : decode mm_Finder_listArcs.2.1 170 = .ok (.getfield 69, 3) := by decide +kernel
theorem dd_Finder_listArcs_173 : decode mm_Finder_listArcs.2.1 173 = .ok (.iload 5, 2) := by decide +kernel
theorem dd_Finder_listArcs_175 : decode mm_Finder_listArcs.2.1 175 = .ok (.ishr, 1) := by decide +kernel
theorem dd_Finder_listArcs_176 : decode mm_Finder_listArcs.2.1 176 = .ok (.iconst 1, 1) := by decide +kernel
theorem dd_Finder_listArcs_177 : decode mm_Finder_listArcs.2.1 177 = .ok (.iand, 1) := by decide +kernel
theorem dd_Finder_listArcs_178 : decode mm_Finder_listArcs.2.1 178 = .ok (.ifCond .ne (16), 3) := by decide +kernel
theorem dd_Finder_listArcs_194 : decode mm_Finder_listArcs.2.1 194 = .ok (.iinc 5 1, 3) := by decide +kernel
theorem dd_Finder_listArcs_197 : decode mm_Finder_listArcs.2.1 197 = .ok (.goto (-155), 3) := by decide +kernel
theorem dd_Finder_listArcs_181 : decode mm_Finder_listArcs.2.1 181 = .ok (.aload_n 0, 1) := by decide +kernel
theorem dd_Finder_listArcs_182 : decode mm_Finder_listArcs.2.1 182 = .ok (.dup, 1) := by decide +kernel
theorem dd_Finder_listArcs_183 : decode mm_Finder_listArcs.2.1 183 = .ok (.getfield 84, 3) := by decide +kernel
theorem dd_Finder_listArcs_186 : decode mm_Finder_listArcs.2.1 186 = .ok (.iconst 1, 1) := by decide +kernel
theorem dd_Finder_listArcs_187 : decode mm_Finder_listArcs.2.1 187 = .ok (.iload 5, 2) := by decide +kernel
theorem dd_Finder_listArcs_189 : decode mm_Finder_listArcs.2.1 189 = .ok (.ishl, 1) := by decide +kernel
theorem dd_Finder_listArcs_190 : decode mm_Finder_listArcs.2.1 190 = .ok (.ior, 1) := by decide +kernel
theorem dd_Finder_listArcs_191 : decode mm_Finder_listArcs.2.1 191 = .ok (.putfield 84, 3) := by decide +kernel
theorem dd_Finder_listArcs_91 : decode mm_Finder_listArcs.2.1 91 = .ok (.aload_n 0, 1) := by decide +kernel
theorem dd_Finder_listArcs_92 : decode mm_Finder_listArcs.2.1 92 = .ok (.getfield 9, 3) := by decide +kernel
theorem fd_2_9 : fld 2 9 = some (2, 8) := by decide +kernel
theorem rf_90_8 {h : LH} (hF : RF h) : rd h 90 8 = 91 := hF 90 8 91 (by decide +kernel) (by decide +kernel)
theorem dd_Finder_listArcs_95 : decode mm_Finder_listArcs.2.1 95 = .ok (.aload_n 0, 1) := by decide +kernel
theorem dd_Finder_listArcs_96 : decode mm_Finder_listArcs.2.1 96 = .ok (.getfield 81, 3) := by decide +kernel
theorem dd_Finder_listArcs_99 : decode mm_Finder_listArcs.2.1 99 = .ok (.iload 5, 2) := by decide +kernel
theorem dd_Finder_listArcs_101 : decode mm_Finder_listArcs.2.1 101 = .ok (.iastore, 1) := by decide +kernel
theorem ia_91 : isA NC 91 1 = true := by decide +kernel
theorem la_91 : (lay (91 : Int).toNat).2.2 = 14 := by decide +kernel
theorem dd_Finder_listArcs_102 : decode mm_Finder_listArcs.2.1 102 = .ok (.aload_n 0, 1) := by decide +kernel
theorem dd_Finder_listArcs_103 : decode mm_Finder_listArcs.2.1 103 = .ok (.getfield 15, 3) := by decide +kernel
theorem fd_2_15 : fld 2 15 = some (2, 9) := by decide +kernel
theorem rf_90_9 {h : LH} (hF : RF h) : rd h 90 9 = 92 := hF 90 9 92 (by decide +kernel) (by decide +kernel)
theorem dd_Finder_listArcs_106 : decode mm_Finder_listArcs.2.1 106 = .ok (.aload_n 0, 1) := by decide +kernel
theorem dd_Finder_listArcs_107 : decode mm_Finder_listArcs.2.1 107 = .ok (.getfield 81, 3) := by decide +kernel
theorem dd_Finder_listArcs_110 : decode mm_Finder_listArcs.2.1 110 = .ok (.iload 7, 2) := by decide +kernel
theorem dd_Finder_listArcs_112 : decode mm_Finder_listArcs.2.1 112 = .ok (.ifCond .eq (11), 3) := by decide +kernel
theorem dd_Finder_listArcs_123 : decode mm_Finder_listArcs.2.1 123 = .ok (.aload 6, 2) := by decide +kernel
theorem dd_Finder_listArcs_125 : decode mm_Finder_listArcs.2.1 125 = .ok (.getfield 99, 3) := by decide +kernel
theorem fd_2_99 : fld 2 99 = some (1, 3) := by decide +kernel
theorem dd_Finder_listArcs_128 : decode mm_Finder_listArcs.2.1 128 = .ok (.iastore, 1) := by decide +kernel
theorem ia_92 : isA NC 92 1 = true := by decide +kernel
theorem la_92 : (lay (92 : Int).toNat).2.2 = 14 := by decide +kernel
theorem dd_Finder_listArcs_129 : decode mm_Finder_listArcs.2.1 129 = .ok (.aload_n 0, 1) := by decide +kernel
theorem dd_Finder_listArcs_130 : decode mm_Finder_listArcs.2.1 130 = .ok (.getfield 18, 3) := by decide +kernel
theorem fd_2_18 : fld 2 18 = some (2, 10) := by decide +kernel
theorem rf_90_10 {h : LH} (hF : RF h) : rd h 90 10 = 93 := hF 90 10 93 (by decide +kernel) (by decide +kernel)
theorem dd_Finder_listArcs_133 : decode mm_Finder_listArcs.2.1 133 = .ok (.aload_n 0, 1) := by decide +kernel
theorem dd_Finder_listArcs_134 : decode mm_Finder_listArcs.2.1 134 = .ok (.getfield 81, 3) := by decide +kernel
theorem dd_Finder_listArcs_137 : decode mm_Finder_listArcs.2.1 137 = .ok (.iload 7, 2) := by decide +kernel
theorem dd_Finder_listArcs_139 : decode mm_Finder_listArcs.2.1 139 = .ok (.ifCond .eq (11), 3) := by decide +kernel
theorem dd_Finder_listArcs_150 : decode mm_Finder_listArcs.2.1 150 = .ok (.aload 6, 2) := by decide +kernel
theorem dd_Finder_listArcs_152 : decode mm_Finder_listArcs.2.1 152 = .ok (.getfield 94, 3) := by decide +kernel
theorem fd_2_94 : fld 2 94 = some (1, 2) := by decide +kernel
theorem dd_Finder_listArcs_155 : decode mm_Finder_listArcs.2.1 155 = .ok (.iastore, 1) := by decide +kernel
theorem ia_93 : isA NC 93 1 = true := by decide +kernel
theorem la_93 : (lay (93 : Int).toNat).2.2 = 14 := by decide +kernel
theorem dd_Finder_listArcs_156 : decode mm_Finder_listArcs.2.1 156 = .ok (.aload_n 0, 1) := by decide +kernel
theorem dd_Finder_listArcs_157 : decode mm_Finder_listArcs.2.1 157 = .ok (.dup, 1) := by decide +kernel
theorem dd_Finder_listArcs_158 : decode mm_Finder_listArcs.2.1 158 = .ok (.getfield 81, 3) := by decide +kernel
theorem dd_Finder_listArcs_161 : decode mm_Finder_listArcs.2.1 161 = .ok (.iconst 1, 1) := by decide +kernel
theorem dd_Finder_listArcs_162 : decode mm_Finder_listArcs.2.1 162 = .ok (.iadd, 1) := by decide +kernel
theorem dd_Finder_listArcs_163 : decode mm_Finder_listArcs.2.1 163 = .ok (.putfield 81, 3) := by decide +kernel
theorem dd_Finder_listArcs_166 : decode mm_Finder_listArcs.2.1 166 = .ok (.goto 28, 3) := by decide +kernel
theorem dd_Finder_listArcs_69 : decode mm_Finder_listArcs.2.1 69 = .ok (.iconst 1, 1) := by decide +kernel
theorem dd_Finder_listArcs_70 : decode mm_Finder_listArcs.2.1 70 = .ok (.goto 4, 3) := by decide +kernel
theorem dd_Finder_listArcs_115 : decode mm_Finder_listArcs.2.1 115 = .ok (.aload 6, 2) := by decide +kernel
theorem dd_Finder_listArcs_117 : decode mm_Finder_listArcs.2.1 117 = .ok (.getfield 94, 3) := by decide +kernel
theorem dd_Finder_listArcs_120 : decode mm_Finder_listArcs.2.1 120 = .ok (.goto 8, 3) := by decide +kernel
theorem dd_Finder_listArcs_142 : decode mm_Finder_listArcs.2.1 142 = .ok (.aload 6, 2) := by decide +kernel
theorem dd_Finder_listArcs_144 : decode mm_Finder_listArcs.2.1 144 = .ok (.getfield 99, 3) := by decide +kernel
theorem dd_Finder_listArcs_147 : decode mm_Finder_listArcs.2.1 147 = .ok (.goto 8, 3) := by decide +kernel
theorem dd_Finder_grow_0 : decode mm_Finder_grow.2.1 0 = .ok (.iload_n 2, 1) := by decide +kernel
theorem dd_Finder_grow_1 : decode mm_Finder_grow.2.1 1 = .ok (.aload_n 0, 1) := by decide +kernel
theorem dd_Finder_grow_2 : decode mm_Finder_grow.2.1 2 = .ok (.getfield 81, 3) := by decide +kernel
theorem dd_Finder_grow_5 : decode mm_Finder_grow.2.1 5 = .ok (.if_icmp .lt (10), 3) := by decide +kernel
theorem dd_Finder_grow_8 : decode mm_Finder_grow.2.1 8 = .ok (.aload_n 0, 1) := by decide +kernel
theorem dd_Finder_grow_9 : decode mm_Finder_grow.2.1 9 = .ok (.aload_n 1, 1) := by decide +kernel
theorem dd_Finder_grow_10 : decode mm_Finder_grow.2.1 10 = .ok (.iload_n 3, 1) := by decide +kernel
theorem dd_Finder_grow_11 : decode mm_Finder_grow.2.1 11 = .ok (.invokevirtual 111, 3) := by decide +kernel
theorem cw_2_111 : cwOk 2 111 0 124 3 6 2 = true := by decide +kernel
theorem mt_Finder_weigh : MTB 124 = some mm_Finder_weigh := rfl
theorem dd_Finder_grow_15 : decode mm_Finder_grow.2.1 15 = .ok (.iload_n 2, 1) := by decide +kernel
theorem dd_Finder_grow_16 : decode mm_Finder_grow.2.1 16 = .ok (.bipush 10, 2) := by decide +kernel
theorem dd_Finder_grow_18 : decode mm_Finder_grow.2.1 18 = .ok (.imul, 1) := by decide +kernel
theorem dd_Finder_grow_19 : decode mm_Finder_grow.2.1 19 = .ok (.istore 4, 2) := by decide +kernel
theorem dd_Finder_grow_21 : decode mm_Finder_grow.2.1 21 = .ok (.iload 4, 2) := by decide +kernel
theorem dd_Finder_grow_23 : decode mm_Finder_grow.2.1 23 = .ok (.bipush 10, 2) := by decide +kernel
theorem dd_Finder_grow_25 : decode mm_Finder_grow.2.1 25 = .ok (.iadd, 1) := by decide +kernel
theorem dd_Finder_grow_26 : decode mm_Finder_grow.2.1 26 = .ok (.istore 5, 2) := by decide +kernel
theorem dd_Finder_grow_28 : decode mm_Finder_grow.2.1 28 = .ok (.aload_n 0, 1) := by decide +kernel
theorem dd_Finder_grow_29 : decode mm_Finder_grow.2.1 29 = .ok (.getfield 21, 3) := by decide +kernel
theorem dd_Finder_grow_32 : decode mm_Finder_grow.2.1 32 = .ok (.iload 4, 2) := by decide +kernel
theorem dd_Finder_grow_34 : decode mm_Finder_grow.2.1 34 = .ok (.aload_n 0, 1) := by decide +kernel
theorem dd_Finder_grow_35 : decode mm_Finder_grow.2.1 35 = .ok (.getfield 21, 3) := by decide +kernel
theorem dd_Finder_grow_38 : decode mm_Finder_grow.2.1 38 = .ok (.iload 5, 2) := by decide +kernel
theorem dd_Finder_grow_40 : decode mm_Finder_grow.2.1 40 = .ok (.bipush 10, 2) := by decide +kernel
theorem dd_Finder_grow_42 : decode mm_Finder_grow.2.1 42 = .ok (.invokestatic 115, 3) := by decide +kernel
theorem dd_Finder_grow_14 : decode mm_Finder_grow.2.1 14 = .ok (.return_, 1) := by decide +kernel
theorem dd_Finder_grow_45 : decode mm_Finder_grow.2.1 45 = .ok (.aload_n 0, 1) := by decide +kernel
theorem dd_Finder_grow_46 : decode mm_Finder_grow.2.1 46 = .ok (.aload_n 1, 1) := by decide +kernel
theorem dd_Finder_grow_47 : decode mm_Finder_grow.2.1 47 = .ok (.iload_n 2, 1) := by decide +kernel
theorem dd_Finder_grow_48 : decode mm_Finder_grow.2.1 48 = .ok (.iconst 1, 1) := by decide +kernel
theorem dd_Finder_grow_49 : decode mm_Finder_grow.2.1 49 = .ok (.iadd, 1) := by decide +kernel
theorem dd_Finder_grow_50 : decode mm_Finder_grow.2.1 50 = .ok (.iload_n 3, 1) := by decide +kernel
theorem dd_Finder_grow_51 : decode mm_Finder_grow.2.1 51 = .ok (.invokevirtual 60, 3) := by decide +kernel
theorem dd_Finder_grow_54 : decode mm_Finder_grow.2.1 54 = .ok (.iconst 0, 1) := by decide +kernel
theorem dd_Finder_grow_55 : decode mm_Finder_grow.2.1 55 = .ok (.istore 6, 2) := by decide +kernel
theorem dd_Finder_grow_57 : decode mm_Finder_grow.2.1 57 = .ok (.iload 6, 2) := by decide +kernel
theorem dd_Finder_grow_59 : decode mm_Finder_grow.2.1 59 = .ok (.bipush 10, 2) := by decide +kernel
theorem dd_Finder_grow_61 : decode mm_Finder_grow.2.1 61 = .ok (.if_icmp .ge (82), 3) := by decide +kernel
theorem dd_Finder_grow_64 : decode mm_Finder_grow.2.1 64 = .ok (.aload_n 0, 1) := by decide +kernel
theorem dd_Finder_grow_65 : decode mm_Finder_grow.2.1 65 = .ok (.getfield 21, 3) := by decide +kernel
theorem dd_Finder_grow_68 : decode mm_Finder_grow.2.1 68 = .ok (.iload 4, 2) := by decide +kernel
theorem dd_Finder_grow_70 : decode mm_Finder_grow.2.1 70 = .ok (.iload 6, 2) := by decide +kernel
theorem dd_Finder_grow_72 : decode mm_Finder_grow.2.1 72 = .ok (.iadd, 1) := by decide +kernel
theorem dd_Finder_grow_73 : decode mm_Finder_grow.2.1 73 = .ok (.iaload, 1) := by decide +kernel
theorem dd_Finder_grow_74 : decode mm_Finder_grow.2.1 74 = .ok (.aload_n 0, 1) := by decide +kernel
theorem dd_Finder_grow_75 : decode mm_Finder_grow.2.1 75 = .ok (.getfield 15, 3) := by decide +kernel
theorem dd_Finder_grow_78 : decode mm_Finder_grow.2.1 78 = .ok (.iload_n 2, 1) := by decide +kernel
theorem dd_Finder_grow_79 : decode mm_Finder_grow.2.1 79 = .ok (.iaload, 1) := by decide +kernel
theorem dd_Finder_grow_80 : decode mm_Finder_grow.2.1 80 = .ok (.ishr, 1) := by decide +kernel
theorem dd_Finder_grow_81 : decode mm_Finder_grow.2.1 81 = .ok (.iconst 1, 1) := by decide +kernel
theorem dd_Finder_grow_82 : decode mm_Finder_grow.2.1 82 = .ok (.iand, 1) := by decide +kernel
theorem dd_Finder_grow_83 : decode mm_Finder_grow.2.1 83 = .ok (.ifCond .eq (7), 3) := by decide +kernel
theorem dd_Finder_grow_90 : decode mm_Finder_grow.2.1 90 = .ok (.iconst 0, 1) := by decide +kernel
theorem dd_Finder_grow_91 : decode mm_Finder_grow.2.1 91 = .ok (.istore 7, 2) := by decide +kernel
theorem dd_Finder_grow_93 : decode mm_Finder_grow.2.1 93 = .ok (.aload_n 0, 1) := by decide +kernel
theorem dd_Finder_grow_94 : decode mm_Finder_grow.2.1 94 = .ok (.getfield 21, 3) := by decide +kernel
theorem dd_Finder_grow_97 : decode mm_Finder_grow.2.1 97 = .ok (.iload 5, 2) := by decide +kernel
theorem dd_Finder_grow_99 : decode mm_Finder_grow.2.1 99 = .ok (.iload 6, 2) := by decide +kernel
theorem dd_Finder_grow_101 : decode mm_Finder_grow.2.1 101 = .ok (.iadd, 1) := by decide +kernel
theorem dd_Finder_grow_102 : decode mm_Finder_grow.2.1 102 = .ok (.aload_n 0, 1) := by decide +kernel
theorem dd_Finder_grow_103 : decode mm_Finder_grow.2.1 103 = .ok (.getfield 21, 3) := by decide +kernel
theorem dd_Finder_grow_106 : decode mm_Finder_grow.2.1 106 = .ok (.iload 4, 2) := by decide +kernel
theorem dd_Finder_grow_108 : decode mm_Finder_grow.2.1 108 = .ok (.iload 6, 2) := by decide +kernel
theorem dd_Finder_grow_110 : decode mm_Finder_grow.2.1 110 = .ok (.iadd, 1) := by decide +kernel
theorem dd_Finder_grow_111 : decode mm_Finder_grow.2.1 111 = .ok (.iaload, 1) := by decide +kernel
theorem dd_Finder_grow_112 : decode mm_Finder_grow.2.1 112 = .ok (.iload 7, 2) := by decide +kernel
theorem dd_Finder_grow_114 : decode mm_Finder_grow.2.1 114 = .ok (.ifCond .eq (20), 3) := by decide +kernel
theorem dd_Finder_grow_134 : decode mm_Finder_grow.2.1 134 = .ok (.iconst 0, 1) := by decide +kernel
theorem dd_Finder_grow_135 : decode mm_Finder_grow.2.1 135 = .ok (.ior, 1) := by decide +kernel
theorem dd_Finder_grow_136 : decode mm_Finder_grow.2.1 136 = .ok (.iastore, 1) := by decide +kernel
theorem dd_Finder_grow_137 : decode mm_Finder_grow.2.1 137 = .ok (.iinc 6 1, 3) := by decide +kernel
theorem dd_Finder_grow_140 : decode mm_Finder_grow.2.1 140 = .ok (.goto (-83), 3) := by decide +kernel
theorem dd_Finder_grow_86 : decode mm_Finder_grow.2.1 86 = .ok (.iconst 1, 1) := by decide +kernel
theorem dd_Finder_grow_87 : decode mm_Finder_grow.2.1 87 = .ok (.goto 4, 3) := by decide +kernel
theorem dd_Finder_grow_117 : decode mm_Finder_grow.2.1 117 = .ok (.aload_n 0, 1) := by decide +kernel
theorem dd_Finder_grow_118 : decode mm_Finder_grow.2.1 118 = .ok (.getfield 21, 3) := by decide +kernel
theorem dd_Finder_grow_121 : decode mm_Finder_grow.2.1 121 = .ok (.iload 4, 2) := by decide +kernel
theorem dd_Finder_grow_123 : decode mm_Finder_grow.2.1 123 = .ok (.aload_n 0, 1) := by decide +kernel
theorem dd_Finder_grow_124 : decode mm_Finder_grow.2.1 124 = .ok (.getfield 18, 3) := by decide +kernel
theorem dd_Finder_grow_127 : decode mm_Finder_grow.2.1 127 = .ok (.iload_n 2, 1) := by decide +kernel
theorem dd_Finder_grow_128 : decode mm_Finder_grow.2.1 128 = .ok (.iaload, 1) := by decide +kernel
theorem dd_Finder_grow_129 : decode mm_Finder_grow.2.1 129 = .ok (.iadd, 1) := by decide +kernel
theorem dd_Finder_grow_130 : decode mm_Finder_grow.2.1 130 = .ok (.iaload, 1) := by decide +kernel
theorem dd_Finder_grow_131 : decode mm_Finder_grow.2.1 131 = .ok (.goto 4, 3) := by decide +kernel
theorem dd_Finder_grow_143 : decode mm_Finder_grow.2.1 143 = .ok (.aload_n 0, 1) := by decide +kernel
theorem dd_Finder_grow_144 : decode mm_Finder_grow.2.1 144 = .ok (.aload_n 1, 1) := by decide +kernel
theorem dd_Finder_grow_145 : decode mm_Finder_grow.2.1 145 = .ok (.iload_n 2, 1) := by decide +kernel
theorem dd_Finder_grow_146 : decode mm_Finder_grow.2.1 146 = .ok (.iconst 1, 1) := by decide +kernel
theorem dd_Finder_grow_147 : decode mm_Finder_grow.2.1 147 = .ok (.iadd, 1) := by decide +kernel
theorem dd_Finder_grow_148 : decode mm_Finder_grow.2.1 148 = .ok (.iload_n 3, 1) := by decide +kernel
theorem dd_Finder_grow_149 : decode mm_Finder_grow.2.1 149 = .ok (.iconst 1, 1) := by decide +kernel
theorem dd_Finder_grow_150 : decode mm_Finder_grow.2.1 150 = .ok (.aload_n 0, 1) := by decide +kernel
theorem dd_Finder_grow_151 : decode mm_Finder_grow.2.1 151 = .ok (.getfield 9, 3) := by decide +kernel
theorem dd_Finder_grow_154 : decode mm_Finder_grow.2.1 154 = .ok (.iload_n 2, 1) := by decide +kernel
theorem dd_Finder_grow_155 : decode mm_Finder_grow.2.1 155 = .ok (.iaload, 1) := by decide +kernel
theorem dd_Finder_grow_156 : decode mm_Finder_grow.2.1 156 = .ok (.ishl, 1) := by decide +kernel
theorem dd_Finder_grow_157 : decode mm_Finder_grow.2.1 157 = .ok (.ior, 1) := by decide +kernel
theorem dd_Finder_grow_158 : decode mm_Finder_grow.2.1 158 = .ok (.invokevirtual 60, 3) := by decide +kernel
theorem dd_Finder_grow_161 : decode mm_Finder_grow.2.1 161 = .ok (.return_, 1) := by decide +kernel
theorem dd_Finder_weigh_0 : decode mm_Finder_weigh.2.1 0 = .ok (.aload_n 0, 1) := by decide +kernel
theorem dd_Finder_weigh_1 : decode mm_Finder_weigh.2.1 1 = .ok (.getfield 81, 3) := by decide +kernel
theorem dd_Finder_weigh_4 : decode mm_Finder_weigh.2.1 4 = .ok (.bipush 10, 2) := by decide +kernel
theorem dd_Finder_weigh_6 : decode mm_Finder_weigh.2.1 6 = .ok (.imul, 1) := by decide +kernel
theorem dd_Finder_weigh_7 : decode mm_Finder_weigh.2.1 7 = .ok (.istore_n 3, 1) := by decide +kernel
theorem dd_Finder_weigh_8 : decode mm_Finder_weigh.2.1 8 = .ok (.iconst 0, 1) := by decide +kernel
theorem dd_Finder_weigh_9 : decode mm_Finder_weigh.2.1 9 = .ok (.istore 4, 2) := by decide +kernel
theorem dd_Finder_weigh_11 : decode mm_Finder_weigh.2.1 11 = .ok (.iload 4, 2) := by decide +kernel
theorem dd_Finder_weigh_13 : decode mm_Finder_weigh.2.1 13 = .ok (.aload_n 1, 1) := by decide +kernel
theorem dd_Finder_weigh_14 : decode mm_Finder_weigh.2.1 14 = .ok (.getfield 121, 3) := by decide +kernel
theorem fd_2_121 : fld 2 121 = some (3, 4) := by decide +kernel
theorem dd_Finder_weigh_17 : decode mm_Finder_weigh.2.1 17 = .ok (.if_icmp .ge (50), 3) := by decide +kernel
theorem dd_Finder_weigh_20 : decode mm_Finder_weigh.2.1 20 = .ok (.aload_n 0, 1) := by decide +kernel
theorem dd_Finder_weigh_21 : decode mm_Finder_weigh.2.1 21 = .ok (.getfield 21, 3) := by decide +kernel
theorem dd_Finder_weigh_24 : decode mm_Finder_weigh.2.1 24 = .ok (.iload_n 3, 1) := by decide +kernel
theorem dd_Finder_weigh_25 : decode mm_Finder_weigh.2.1 25 = .ok (.aload_n 1, 1) := by decide +kernel
theorem dd_Finder_weigh_26 : decode mm_Finder_weigh.2.1 26 = .ok (.getfield 124, 3) := by decide +kernel
theorem fd_2_124 : fld 2 124 = some (3, 5) := by decide +kernel
theorem dd_Finder_weigh_29 : decode mm_Finder_weigh.2.1 29 = .ok (.iload 4, 2) := by decide +kernel
theorem dd_Finder_weigh_31 : decode mm_Finder_weigh.2.1 31 = .ok (.iaload, 1) := by decide +kernel
theorem dd_Finder_weigh_32 : decode mm_Finder_weigh.2.1 32 = .ok (.iadd, 1) := by decide +kernel
theorem dd_Finder_weigh_33 : decode mm_Finder_weigh.2.1 33 = .ok (.iaload, 1) := by decide +kernel
theorem dd_Finder_weigh_34 : decode mm_Finder_weigh.2.1 34 = .ok (.aload_n 1, 1) := by decide +kernel
theorem dd_Finder_weigh_35 : decode mm_Finder_weigh.2.1 35 = .ok (.getfield 127, 3) := by decide +kernel
theorem fd_2_127 : fld 2 127 = some (3, 6) := by decide +kernel
theorem dd_Finder_weigh_38 : decode mm_Finder_weigh.2.1 38 = .ok (.iload 4, 2) := by decide +kernel
theorem dd_Finder_weigh_40 : decode mm_Finder_weigh.2.1 40 = .ok (.iaload, 1) := by decide +kernel
theorem dd_Finder_weigh_41 : decode mm_Finder_weigh.2.1 41 = .ok (.ishr, 1) := by decide +kernel
theorem dd_Finder_weigh_42 : decode mm_Finder_weigh.2.1 42 = .ok (.iconst 1, 1) := by decide +kernel
theorem dd_Finder_weigh_43 : decode mm_Finder_weigh.2.1 43 = .ok (.iand, 1) := by decide +kernel
theorem dd_Finder_weigh_44 : decode mm_Finder_weigh.2.1 44 = .ok (.istore 5, 2) := by decide +kernel
theorem dd_Finder_weigh_46 : decode mm_Finder_weigh.2.1 46 = .ok (.iload 5, 2) := by decide +kernel
theorem dd_Finder_weigh_48 : decode mm_Finder_weigh.2.1 48 = .ok (.aload_n 1, 1) := by decide +kernel
theorem dd_Finder_weigh_49 : decode mm_Finder_weigh.2.1 49 = .ok (.getfield 130, 3) := by decide +kernel
theorem fd_2_130 : fld 2 130 = some (3, 7) := by decide +kernel
theorem dd_Finder_weigh_52 : decode mm_Finder_weigh.2.1 52 = .ok (.iload 4, 2) := by decide +kernel
theorem dd_Finder_weigh_54 : decode mm_Finder_weigh.2.1 54 = .ok (.ishr, 1) := by decide +kernel
theorem dd_Finder_weigh_55 : decode mm_Finder_weigh.2.1 55 = .ok (.iconst 1, 1) := by decide +kernel
theorem dd_Finder_weigh_56 : decode mm_Finder_weigh.2.1 56 = .ok (.iand, 1) := by decide +kernel
theorem dd_Finder_weigh_57 : decode mm_Finder_weigh.2.1 57 = .ok (.if_icmp .eq (4), 3) := by decide +kernel
theorem dd_Finder_weigh_61 : decode mm_Finder_weigh.2.1 61 = .ok (.iinc 4 1, 3) := by decide +kernel
theorem dd_Finder_weigh_64 : decode mm_Finder_weigh.2.1 64 = .ok (.goto (-53), 3) := by decide +kernel
theorem dd_Finder_weigh_60 : decode mm_Finder_weigh.2.1 60 = .ok (.return_, 1) := by decide +kernel
theorem dd_Finder_weigh_67 : decode mm_Finder_weigh.2.1 67 = .ok (.aload_n 0, 1) := by decide +kernel
theorem dd_Finder_weigh_68 : decode mm_Finder_weigh.2.1 68 = .ok (.dup, 1) := by decide +kernel
theorem dd_Finder_weigh_69 : decode mm_Finder_weigh.2.1 69 = .ok (.getfield 27, 3) := by decide +kernel
theorem dd_Finder_weigh_72 : decode mm_Finder_weigh.2.1 72 = .ok (.iconst 1, 1) := by decide +kernel
theorem dd_Finder_weigh_73 : decode mm_Finder_weigh.2.1 73 = .ok (.iadd, 1) := by decide +kernel
theorem dd_Finder_weigh_74 : decode mm_Finder_weigh.2.1 74 = .ok (.putfield 27, 3) := by decide +kernel
theorem dd_Finder_weigh_77 : decode mm_Finder_weigh.2.1 77 = .ok (.aload_n 0, 1) := by decide +kernel
theorem dd_Finder_weigh_78 : decode mm_Finder_weigh.2.1 78 = .ok (.dup, 1) := by decide +kernel
theorem dd_Finder_weigh_79 : decode mm_Finder_weigh.2.1 79 = .ok (.getfield 31, 3) := by decide +kernel
theorem dd_Finder_weigh_82 : decode mm_Finder_weigh.2.1 82 = .ok (.iload_n 2, 1) := by decide +kernel
theorem dd_Finder_weigh_83 : decode mm_Finder_weigh.2.1 83 = .ok (.iand, 1) := by decide +kernel
theorem dd_Finder_weigh_84 : decode mm_Finder_weigh.2.1 84 = .ok (.putfield 31, 3) := by decide +kernel
theorem dd_Finder_weigh_87 : decode mm_Finder_weigh.2.1 87 = .ok (.aload_n 0, 1) := by decide +kernel
theorem dd_Finder_weigh_88 : decode mm_Finder_weigh.2.1 88 = .ok (.dup, 1) := by decide +kernel
theorem dd_Finder_weigh_89 : decode mm_Finder_weigh.2.1 89 = .ok (.getfield 34, 3) := by decide +kernel
theorem dd_Finder_weigh_92 : decode mm_Finder_weigh.2.1 92 = .ok (.iload_n 2, 1) := by decide +kernel
theorem dd_Finder_weigh_93 : decode mm_Finder_weigh.2.1 93 = .ok (.ior, 1) := by decide +kernel
theorem dd_Finder_weigh_94 : decode mm_Finder_weigh.2.1 94 = .ok (.putfield 34, 3) := by decide +kernel
theorem dd_Finder_weigh_97 : decode mm_Finder_weigh.2.1 97 = .ok (.iload_n 2, 1) := by decide +kernel
theorem dd_Finder_weigh_98 : decode mm_Finder_weigh.2.1 98 = .ok (.invokestatic 102, 3) := by decide +kernel
theorem dd_Finder_weigh_101 : decode mm_Finder_weigh.2.1 101 = .ok (.istore 4, 2) := by decide +kernel
theorem dd_Finder_weigh_103 : decode mm_Finder_weigh.2.1 103 = .ok (.aload_n 0, 1) := by decide +kernel
theorem dd_Finder_weigh_104 : decode mm_Finder_weigh.2.1 104 = .ok (.getfield 37, 3) := by decide +kernel
theorem dd_Finder_weigh_107 : decode mm_Finder_weigh.2.1 107 = .ok (.iconst (-1), 1) := by decide +kernel
theorem dd_Finder_weigh_108 : decode mm_Finder_weigh.2.1 108 = .ok (.if_icmp .ne (8), 3) := by decide +kernel
theorem dd_Finder_weigh_116 : decode mm_Finder_weigh.2.1 116 = .ok (.aload_n 0, 1) := by decide +kernel
theorem dd_Finder_weigh_117 : decode mm_Finder_weigh.2.1 117 = .ok (.getfield 37, 3) := by decide +kernel
theorem dd_Finder_weigh_120 : decode mm_Finder_weigh.2.1 120 = .ok (.invokestatic 102, 3) := by decide +kernel
theorem dd_Finder_weigh_111 : decode mm_Finder_weigh.2.1 111 = .ok (.bipush 15, 2) := by decide +kernel
theorem dd_Finder_weigh_113 : decode mm_Finder_weigh.2.1 113 = .ok (.goto 10, 3) := by decide +kernel
theorem dd_Finder_weigh_123 : decode mm_Finder_weigh.2.1 123 = .ok (.istore 5, 2) := by decide +kernel
theorem dd_Finder_weigh_125 : decode mm_Finder_weigh.2.1 125 = .ok (.iload 4, 2) := by decide +kernel
theorem dd_Finder_weigh_127 : decode mm_Finder_weigh.2.1 127 = .ok (.iload 5, 2) := by decide +kernel
theorem dd_Finder_weigh_129 : decode mm_Finder_weigh.2.1 129 = .ok (.if_icmp .lt (18), 3) := by decide +kernel
theorem dd_Finder_weigh_147 : decode mm_Finder_weigh.2.1 147 = .ok (.aload_n 0, 1) := by decide +kernel
theorem dd_Finder_weigh_148 : decode mm_Finder_weigh.2.1 148 = .ok (.iload_n 2, 1) := by decide +kernel
theorem dd_Finder_weigh_149 : decode mm_Finder_weigh.2.1 149 = .ok (.putfield 37, 3) := by decide +kernel
theorem dd_Finder_weigh_132 : decode mm_Finder_weigh.2.1 132 = .ok (.iload 4, 2) := by decide +kernel
theorem dd_Finder_weigh_134 : decode mm_Finder_weigh.2.1 134 = .ok (.iload 5, 2) := by decide +kernel
theorem dd_Finder_weigh_136 : decode mm_Finder_weigh.2.1 136 = .ok (.if_icmp .ne (16), 3) := by decide +kernel
theorem dd_Finder_weigh_139 : decode mm_Finder_weigh.2.1 139 = .ok (.iload_n 2, 1) := by decide +kernel
theorem dd_Finder_weigh_140 : decode mm_Finder_weigh.2.1 140 = .ok (.aload_n 0, 1) := by decide +kernel
theorem dd_Finder_weigh_141 : decode mm_Finder_weigh.2.1 141 = .ok (.getfield 37, 3) := by decide +kernel
theorem dd_Finder_weigh_144 : decode mm_Finder_weigh.2.1 144 = .ok (.if_icmp .ge (8), 3) := by decide +kernel
theorem dd_Finder_weigh_152 : decode mm_Finder_weigh.2.1 152 = .ok (.aload_n 0, 1) := by decide +kernel
theorem dd_Finder_weigh_153 : decode mm_Finder_weigh.2.1 153 = .ok (.getfield 40, 3) := by decide +kernel
theorem dd_Finder_weigh_156 : decode mm_Finder_weigh.2.1 156 = .ok (.ifCond .eq (8), 3) := by decide +kernel
theorem dd_Finder_weigh_164 : decode mm_Finder_weigh.2.1 164 = .ok (.return_, 1) := by decide +kernel
theorem dd_Finder_weigh_159 : decode mm_Finder_weigh.2.1 159 = .ok (.aload_n 0, 1) := by decide +kernel
theorem dd_Finder_weigh_160 : decode mm_Finder_weigh.2.1 160 = .ok (.iload_n 3, 1) := by decide +kernel
theorem dd_Finder_weigh_161 : decode mm_Finder_weigh.2.1 161 = .ok (.invokevirtual 133, 3) := by decide +kernel
theorem cw_2_133 : cwOk 2 133 0 125 2 5 2 = true := by decide +kernel
theorem mt_Finder_countComers : MTB 125 = some mm_Finder_countComers := rfl
theorem dd_Finder_countComers_0 : decode mm_Finder_countComers.2.1 0 = .ok (.iconst 0, 1) := by decide +kernel
theorem dd_Finder_countComers_1 : decode mm_Finder_countComers.2.1 1 = .ok (.istore_n 2, 1) := by decide +kernel
theorem dd_Finder_countComers_2 : decode mm_Finder_countComers.2.1 2 = .ok (.iload_n 2, 1) := by decide +kernel
theorem dd_Finder_countComers_3 : decode mm_Finder_countComers.2.1 3 = .ok (.bipush 10, 2) := by decide +kernel
theorem dd_Finder_countComers_5 : decode mm_Finder_countComers.2.1 5 = .ok (.if_icmp .ge (55), 3) := by decide +kernel
theorem dd_Finder_countComers_60 : decode mm_Finder_countComers.2.1 60 = .ok (.return_, 1) := by decide +kernel
theorem dd_Finder_countComers_8 : decode mm_Finder_countComers.2.1 8 = .ok (.aload_n 0, 1) := by decide +kernel
theorem dd_Finder_countComers_9 : decode mm_Finder_countComers.2.1 9 = .ok (.getfield 21, 3) := by decide +kernel
theorem dd_Finder_countComers_12 : decode mm_Finder_countComers.2.1 12 = .ok (.iload_n 1, 1) := by decide +kernel
theorem dd_Finder_countComers_13 : decode mm_Finder_countComers.2.1 13 = .ok (.iload_n 2, 1) := by decide +kernel
theorem dd_Finder_countComers_14 : decode mm_Finder_countComers.2.1 14 = .ok (.iadd, 1) := by decide +kernel
theorem dd_Finder_countComers_15 : decode mm_Finder_countComers.2.1 15 = .ok (.iaload, 1) := by decide +kernel
theorem dd_Finder_countComers_16 : decode mm_Finder_countComers.2.1 16 = .ok (.istore_n 3, 1) := by decide +kernel
theorem dd_Finder_countComers_17 : decode mm_Finder_countComers.2.1 17 = .ok (.iconst 0, 1) := by decide +kernel
theorem dd_Finder_countComers_18 : decode mm_Finder_countComers.2.1 18 = .ok (.istore 4, 2) := by decide +kernel
theorem dd_Finder_countComers_20 : decode mm_Finder_countComers.2.1 20 = .ok (.iload 4, 2) := by decide +kernel
theorem dd_Finder_countComers_22 : decode mm_Finder_countComers.2.1 22 = .ok (.bipush 10, 2) := by decide +kernel
theorem dd_Finder_countComers_24 : decode mm_Finder_countComers.2.1 24 = .ok (.if_icmp .ge (30), 3) := by decide +kernel
theorem dd_Finder_countComers_54 : decode mm_Finder_countComers.2.1 54 = .ok (.iinc 2 1, 3) := by decide +kernel
theorem dd_Finder_countComers_57 : decode mm_Finder_countComers.2.1 57 = .ok (.goto (-55), 3) := by decide +kernel
theorem dd_Finder_countComers_27 : decode mm_Finder_countComers.2.1 27 = .ok (.aload_n 0, 1) := by decide +kernel
theorem dd_Finder_countComers_28 : decode mm_Finder_countComers.2.1 28 = .ok (.getfield 24, 3) := by decide +kernel
theorem dd_Finder_countComers_31 : decode mm_Finder_countComers.2.1 31 = .ok (.iload_n 2, 1) := by decide +kernel
theorem dd_Finder_countComers_32 : decode mm_Finder_countComers.2.1 32 = .ok (.bipush 10, 2) := by decide +kernel
theorem dd_Finder_countComers_34 : decode mm_Finder_countComers.2.1 34 = .ok (.imul, 1) := by decide +kernel
theorem dd_Finder_countComers_35 : decode mm_Finder_countComers.2.1 35 = .ok (.iload 4, 2) := by decide +kernel
theorem dd_Finder_countComers_37 : decode mm_Finder_countComers.2.1 37 = .ok (.iadd, 1) := by decide +kernel
theorem dd_Finder_countComers_38 : decode mm_Finder_countComers.2.1 38 = .ok (.dup2, 1) := by decide +kernel
theorem dd_Finder_countComers_39 : decode mm_Finder_countComers.2.1 39 = .ok (.iaload, 1) := by decide +kernel
theorem dd_Finder_countComers_40 : decode mm_Finder_countComers.2.1 40 = .ok (.iload_n 3, 1) := by decide +kernel
theorem dd_Finder_countComers_41 : decode mm_Finder_countComers.2.1 41 = .ok (.iload 4, 2) := by decide +kernel
theorem dd_Finder_countComers_43 : decode mm_Finder_countComers.2.1 43 = .ok (.ishr, 1) := by decide +kernel
theorem dd_Finder_countComers_44 : decode mm_Finder_countComers.2.1 44 = .ok (.iconst 1, 1) := by decide +kernel
theorem dd_Finder_countComers_45 : decode mm_Finder_countComers.2.1 45 = .ok (.iand, 1) := by decide +kernel
theorem dd_Finder_countComers_46 : decode mm_Finder_countComers.2.1 46 = .ok (.iadd, 1) := by decide +kernel
theorem dd_Finder_countComers_47 : decode mm_Finder_countComers.2.1 47 = .ok (.iastore, 1) := by decide +kernel
theorem dd_Finder_countComers_48 : decode mm_Finder_countComers.2.1 48 = .ok (.iinc 4 1, 3) := by decide +kernel
theorem dd_Finder_countComers_51 : decode mm_Finder_countComers.2.1 51 = .ok (.goto (-31), 3) := by decide +kernel
theorem dd_Finder_tellingPair_0 : decode mm_Finder_tellingPair.2.1 0 = .ok (.iconst (-1), 1) := by decide +kernel
theorem dd_Finder_tellingPair_1 : decode mm_Finder_tellingPair.2.1 1 = .ok (.istore_n 2, 1) := by decide +kernel
theorem dd_Finder_tellingPair_2 : decode mm_Finder_tellingPair.2.1 2 = .ok (.iconst 0, 1) := by decide +kernel
theorem dd_Finder_tellingPair_3 : decode mm_Finder_tellingPair.2.1 3 = .ok (.istore_n 3, 1) := by decide +kernel
theorem dd_Finder_tellingPair_4 : decode mm_Finder_tellingPair.2.1 4 = .ok (.iconst 0, 1) := by decide +kernel
theorem dd_Finder_tellingPair_5 : decode mm_Finder_tellingPair.2.1 5 = .ok (.istore 4, 2) := by decide +kernel
theorem dd_Finder_tellingPair_7 : decode mm_Finder_tellingPair.2.1 7 = .ok (.iload 4, 2) := by decide +kernel
theorem dd_Finder_tellingPair_9 : decode mm_Finder_tellingPair.2.1 9 = .ok (.iload_n 1, 1) := by decide +kernel
theorem dd_Finder_tellingPair_10 : decode mm_Finder_tellingPair.2.1 10 = .ok (.if_icmp .ge (78), 3) := by decide +kernel
theorem dd_Finder_tellingPair_88 : decode mm_Finder_tellingPair.2.1 88 = .ok (.iload_n 2, 1) := by decide +kernel
theorem dd_Finder_tellingPair_89 : decode mm_Finder_tellingPair.2.1 89 = .ok (.ireturn, 1) := by decide +kernel
theorem dd_Finder_tellingPair_13 : decode mm_Finder_tellingPair.2.1 13 = .ok (.iconst 0, 1) := by decide +kernel
theorem dd_Finder_tellingPair_14 : decode mm_Finder_tellingPair.2.1 14 = .ok (.istore 5, 2) := by decide +kernel
theorem dd_Finder_tellingPair_16 : decode mm_Finder_tellingPair.2.1 16 = .ok (.iload 5, 2) := by decide +kernel
theorem dd_Finder_tellingPair_18 : decode mm_Finder_tellingPair.2.1 18 = .ok (.iload_n 1, 1) := by decide +kernel
theorem dd_Finder_tellingPair_19 : decode mm_Finder_tellingPair.2.1 19 = .ok (.if_icmp .ge (63), 3) := by decide +kernel
theorem dd_Finder_tellingPair_82 : decode mm_Finder_tellingPair.2.1 82 = .ok (.iinc 4 1, 3) := by decide +kernel
theorem dd_Finder_tellingPair_85 : decode mm_Finder_tellingPair.2.1 85 = .ok (.goto (-78), 3) := by decide +kernel
theorem dd_Finder_tellingPair_22 : decode mm_Finder_tellingPair.2.1 22 = .ok (.aload_n 0, 1) := by decide +kernel
theorem dd_Finder_tellingPair_23 : decode mm_Finder_tellingPair.2.1 23 = .ok (.getfield 24, 3) := by decide +kernel
theorem dd_Finder_tellingPair_26 : decode mm_Finder_tellingPair.2.1 26 = .ok (.iload 4, 2) := by decide +kernel
theorem dd_Finder_tellingPair_28 : decode mm_Finder_tellingPair.2.1 28 = .ok (.bipush 10, 2) := by decide +kernel
theorem dd_Finder_tellingPair_30 : decode mm_Finder_tellingPair.2.1 30 = .ok (.imul, 1) := by decide +kernel
theorem dd_Finder_tellingPair_31 : decode mm_Finder_tellingPair.2.1 31 = .ok (.iload 5, 2) := by decide +kernel
theorem dd_Finder_tellingPair_33 : decode mm_Finder_tellingPair.2.1 33 = .ok (.iadd, 1) := by decide +kernel
theorem dd_Finder_tellingPair_34 : decode mm_Finder_tellingPair.2.1 34 = .ok (.iaload, 1) := by decide +kernel
theorem dd_Finder_tellingPair_35 : decode mm_Finder_tellingPair.2.1 35 = .ok (.istore 6, 2) := by decide +kernel
theorem dd_Finder_tellingPair_37 : decode mm_Finder_tellingPair.2.1 37 = .ok (.iload 6, 2) := by decide +kernel
theorem dd_Finder_tellingPair_39 : decode mm_Finder_tellingPair.2.1 39 = .ok (.aload_n 0, 1) := by decide +kernel
theorem dd_Finder_tellingPair_40 : decode mm_Finder_tellingPair.2.1 40 = .ok (.getfield 27, 3) := by decide +kernel
theorem dd_Finder_tellingPair_43 : decode mm_Finder_tellingPair.2.1 43 = .ok (.iload 6, 2) := by decide +kernel
theorem dd_Finder_tellingPair_45 : decode mm_Finder_tellingPair.2.1 45 = .ok (.isub, 1) := by decide +kernel
theorem dd_Finder_tellingPair_46 : decode mm_Finder_tellingPair.2.1 46 = .ok (.invokestatic 137, 3) := by decide +kernel
theorem dd_Finder_tellingPair_49 : decode mm_Finder_tellingPair.2.1 49 = .ok (.istore 7, 2) := by decide +kernel
theorem dd_Finder_tellingPair_51 : decode mm_Finder_tellingPair.2.1 51 = .ok (.iload 4, 2) := by decide +kernel
theorem dd_Finder_tellingPair_53 : decode mm_Finder_tellingPair.2.1 53 = .ok (.iload 5, 2) := by decide +kernel
theorem dd_Finder_tellingPair_55 : decode mm_Finder_tellingPair.2.1 55 = .ok (.if_icmp .eq (21), 3) := by decide +kernel
theorem dd_Finder_tellingPair_76 : decode mm_Finder_tellingPair.2.1 76 = .ok (.iinc 5 1, 3) := by decide +kernel
theorem dd_Finder_tellingPair_79 : decode mm_Finder_tellingPair.2.1 79 = .ok (.goto (-63), 3) := by decide +kernel
theorem dd_Finder_tellingPair_58 : decode mm_Finder_tellingPair.2.1 58 = .ok (.iload 7, 2) := by decide +kernel
theorem dd_Finder_tellingPair_60 : decode mm_Finder_tellingPair.2.1 60 = .ok (.iload_n 3, 1) := by decide +kernel
theorem dd_Finder_tellingPair_61 : decode mm_Finder_tellingPair.2.1 61 = .ok (.if_icmp .le (15), 3) := by decide +kernel
theorem dd_Finder_tellingPair_64 : decode mm_Finder_tellingPair.2.1 64 = .ok (.iload 7, 2) := by decide +kernel
theorem dd_Finder_tellingPair_66 : decode mm_Finder_tellingPair.2.1 66 = .ok (.istore_n 3, 1) := by decide +kernel
theorem dd_Finder_tellingPair_67 : decode mm_Finder_tellingPair.2.1 67 = .ok (.iload 4, 2) := by decide +kernel
theorem dd_Finder_tellingPair_69 : decode mm_Finder_tellingPair.2.1 69 = .ok (.bipush 10, 2) := by decide +kernel
theorem dd_Finder_tellingPair_71 : decode mm_Finder_tellingPair.2.1 71 = .ok (.imul, 1) := by decide +kernel
theorem dd_Finder_tellingPair_72 : decode mm_Finder_tellingPair.2.1 72 = .ok (.iload 5, 2) := by decide +kernel
theorem dd_Finder_tellingPair_74 : decode mm_Finder_tellingPair.2.1 74 = .ok (.iadd, 1) := by decide +kernel
theorem dd_Finder_tellingPair_75 : decode mm_Finder_tellingPair.2.1 75 = .ok (.istore_n 2, 1) := by decide +kernel
theorem dd_OneSided_found_0 : decode mm_OneSided_found.2.1 0 = .ok (.iload_n 1, 1) := by decide +kernel
theorem dd_OneSided_found_1 : decode mm_OneSided_found.2.1 1 = .ok (.ifCond .lt (8), 3) := by decide +kernel
theorem dd_OneSided_found_9 : decode mm_OneSided_found.2.1 9 = .ok (.iconst (-1), 1) := by decide +kernel
theorem dd_OneSided_found_10 : decode mm_OneSided_found.2.1 10 = .ok (.ireturn, 1) := by decide +kernel
theorem dd_OneSided_found_4 : decode mm_OneSided_found.2.1 4 = .ok (.iload_n 1, 1) := by decide +kernel
theorem dd_OneSided_found_5 : decode mm_OneSided_found.2.1 5 = .ok (.iconst 4, 1) := by decide +kernel
theorem dd_OneSided_found_6 : decode mm_OneSided_found.2.1 6 = .ok (.if_icmp .le (5), 3) := by decide +kernel
theorem dd_OneSided_found_11 : decode mm_OneSided_found.2.1 11 = .ok (.aload_n 0, 1) := by decide +kernel
theorem dd_OneSided_found_12 : decode mm_OneSided_found.2.1 12 = .ok (.getfield 70, 3) := by decide +kernel
theorem fd_11_70 : fld 11 70 = some (11, 13) := by decide +kernel
theorem rf_1_13 {h : LH} (hF : RF h) : rd h 1 13 = 90 := hF 1 13 90 (by decide +kernel) (by decide +kernel)
theorem dd_OneSided_found_15 : decode mm_OneSided_found.2.1 15 = .ok (.aload_n 0, 1) := by decide +kernel
theorem dd_OneSided_found_16 : decode mm_OneSided_found.2.1 16 = .ok (.getfield 19, 3) := by decide +kernel
theorem dd_OneSided_found_19 : decode mm_OneSided_found.2.1 19 = .ok (.aload_n 0, 1) := by decide +kernel
theorem dd_OneSided_found_20 : decode mm_OneSided_found.2.1 20 = .ok (.getfield 29, 3) := by decide +kernel
theorem dd_OneSided_found_23 : decode mm_OneSided_found.2.1 23 = .ok (.iload_n 1, 1) := by decide +kernel
theorem dd_OneSided_found_24 : decode mm_OneSided_found.2.1 24 = .ok (.iconst 3, 1) := by decide +kernel
theorem dd_OneSided_found_25 : decode mm_OneSided_found.2.1 25 = .ok (.if_icmp .ne (7), 3) := by decide +kernel
theorem dd_OneSided_found_32 : decode mm_OneSided_found.2.1 32 = .ok (.iconst 0, 1) := by decide +kernel
theorem dd_OneSided_found_33 : decode mm_OneSided_found.2.1 33 = .ok (.invokevirtual 292, 3) := by decide +kernel
theorem cw_11_292 : cwOk 11 292 0 121 4 5 2 = true := by decide +kernel
theorem mt_Finder_search : MTB 121 = some mm_Finder_search := rfl
theorem dd_OneSided_found_28 : decode mm_OneSided_found.2.1 28 = .ok (.iconst 1, 1) := by decide +kernel
theorem dd_OneSided_found_29 : decode mm_OneSided_found.2.1 29 = .ok (.goto 4, 3) := by decide +kernel
theorem dd_OneSided_found_36 : decode mm_OneSided_found.2.1 36 = .ok (.aload_n 0, 1) := by decide +kernel
theorem dd_OneSided_found_37 : decode mm_OneSided_found.2.1 37 = .ok (.getfield 70, 3) := by decide +kernel
theorem dd_OneSided_found_40 : decode mm_OneSided_found.2.1 40 = .ok (.getfield 296, 3) := by decide +kernel
theorem fd_11_296 : fld 11 296 = some (2, 0) := by decide +kernel
theorem dd_OneSided_found_43 : decode mm_OneSided_found.2.1 43 = .ok (.ifCond .ne (5), 3) := by decide +kernel
theorem dd_OneSided_found_48 : decode mm_OneSided_found.2.1 48 = .ok (.iload_n 1, 1) := by decide +kernel
theorem dd_OneSided_found_49 : decode mm_OneSided_found.2.1 49 = .ok (.tableswitch (86) (0) (3) #[31, 47, 55, 71], 31) := by decide +kernel
theorem dd_OneSided_found_80 : decode mm_OneSided_found.2.1 80 = .ok (.aload_n 0, 1) := by decide +kernel
theorem dd_OneSided_found_81 : decode mm_OneSided_found.2.1 81 = .ok (.getfield 70, 3) := by decide +kernel
theorem dd_OneSided_found_84 : decode mm_OneSided_found.2.1 84 = .ok (.getfield 296, 3) := by decide +kernel
theorem dd_OneSided_found_87 : decode mm_OneSided_found.2.1 87 = .ok (.aload_n 0, 1) := by decide +kernel
theorem dd_OneSided_found_88 : decode mm_OneSided_found.2.1 88 = .ok (.getfield 70, 3) := by decide +kernel
theorem dd_OneSided_found_91 : decode mm_OneSided_found.2.1 91 = .ok (.getfield 299, 3) := by decide +kernel
theorem fd_11_299 : fld 11 299 = some (2, 5) := by decide +kernel
theorem dd_OneSided_found_94 : decode mm_OneSided_found.2.1 94 = .ok (.ishl, 1) := by decide +kernel
theorem dd_OneSided_found_95 : decode mm_OneSided_found.2.1 95 = .ok (.ireturn, 1) := by decide +kernel
theorem dd_OneSided_found_96 : decode mm_OneSided_found.2.1 96 = .ok (.aload_n 0, 1) := by decide +kernel
theorem dd_OneSided_found_97 : decode mm_OneSided_found.2.1 97 = .ok (.getfield 70, 3) := by decide +kernel
theorem dd_OneSided_found_100 : decode mm_OneSided_found.2.1 100 = .ok (.getfield 302, 3) := by decide +kernel
theorem fd_11_302 : fld 11 302 = some (2, 1) := by decide +kernel
theorem dd_OneSided_found_103 : decode mm_OneSided_found.2.1 103 = .ok (.ireturn, 1) := by decide +kernel
theorem dd_OneSided_found_104 : decode mm_OneSided_found.2.1 104 = .ok (.aload_n 0, 1) := by decide +kernel
theorem dd_OneSided_found_105 : decode mm_OneSided_found.2.1 105 = .ok (.getfield 70, 3) := by decide +kernel
theorem dd_OneSided_found_108 : decode mm_OneSided_found.2.1 108 = .ok (.getfield 305, 3) := by decide +kernel
theorem fd_11_305 : fld 11 305 = some (2, 2) := by decide +kernel
theorem dd_OneSided_found_111 : decode mm_OneSided_found.2.1 111 = .ok (.aload_n 0, 1) := by decide +kernel
theorem dd_OneSided_found_112 : decode mm_OneSided_found.2.1 112 = .ok (.getfield 70, 3) := by decide +kernel
theorem dd_OneSided_found_115 : decode mm_OneSided_found.2.1 115 = .ok (.getfield 308, 3) := by decide +kernel
theorem fd_11_308 : fld 11 308 = some (2, 4) := by decide +kernel
theorem dd_OneSided_found_118 : decode mm_OneSided_found.2.1 118 = .ok (.ior, 1) := by decide +kernel
theorem dd_OneSided_found_119 : decode mm_OneSided_found.2.1 119 = .ok (.ireturn, 1) := by decide +kernel
theorem dd_OneSided_found_120 : decode mm_OneSided_found.2.1 120 = .ok (.aload_n 0, 1) := by decide +kernel
theorem dd_OneSided_found_121 : decode mm_OneSided_found.2.1 121 = .ok (.getfield 70, 3) := by decide +kernel
theorem dd_OneSided_found_124 : decode mm_OneSided_found.2.1 124 = .ok (.aload_n 0, 1) := by decide +kernel
theorem dd_OneSided_found_125 : decode mm_OneSided_found.2.1 125 = .ok (.getfield 19, 3) := by decide +kernel
theorem dd_OneSided_found_128 : decode mm_OneSided_found.2.1 128 = .ok (.getfield 267, 3) := by decide +kernel
theorem dd_OneSided_found_131 : decode mm_OneSided_found.2.1 131 = .ok (.invokevirtual 311, 3) := by decide +kernel
theorem cw_11_311 : cwOk 11 311 0 126 2 8 2 = true := by decide +kernel
theorem mt_Finder_tellingPair : MTB 126 = some mm_Finder_tellingPair := rfl
theorem dd_OneSided_found_135 : decode mm_OneSided_found.2.1 135 = .ok (.aload_n 0, 1) := by decide +kernel
theorem dd_OneSided_found_136 : decode mm_OneSided_found.2.1 136 = .ok (.getfield 70, 3) := by decide +kernel
theorem dd_OneSided_found_139 : decode mm_OneSided_found.2.1 139 = .ok (.getfield 315, 3) := by decide +kernel
theorem fd_11_315 : fld 11 315 = some (2, 3) := by decide +kernel
theorem dd_OneSided_found_142 : decode mm_OneSided_found.2.1 142 = .ok (.ireturn, 1) := by decide +kernel
theorem dd_OneSided_found_46 : decode mm_OneSided_found.2.1 46 = .ok (.iconst (-1), 1) := by decide +kernel
theorem dd_OneSided_found_47 : decode mm_OneSided_found.2.1 47 = .ok (.ireturn, 1) := by decide +kernel
theorem dd_OneSided_found_134 : decode mm_OneSided_found.2.1 134 = .ok (.ireturn, 1) := by decide +kernel
theorem dd_looks_0 : decode mm_looks.2.1 0 = .ok (.aload_n 0, 1) := by decide +kernel
theorem dd_looks_1 : decode mm_looks.2.1 1 = .ok (.aload_n 0, 1) := by decide +kernel
theorem dd_looks_2 : decode mm_looks.2.1 2 = .ok (.getfield 125, 3) := by decide +kernel
theorem dd_looks_5 : decode mm_looks.2.1 5 = .ok (.iconst 1, 1) := by decide +kernel
theorem dd_looks_6 : decode mm_looks.2.1 6 = .ok (.iaload, 1) := by decide +kernel
theorem dd_looks_7 : decode mm_looks.2.1 7 = .ok (.iload_n 1, 1) := by decide +kernel
theorem dd_looks_8 : decode mm_looks.2.1 8 = .ok (.iconst (-1), 1) := by decide +kernel
theorem dd_looks_9 : decode mm_looks.2.1 9 = .ok (.ixor, 1) := by decide +kernel
theorem dd_looks_10 : decode mm_looks.2.1 10 = .ok (.ior, 1) := by decide +kernel
theorem dd_looks_11 : decode mm_looks.2.1 11 = .ok (.invokevirtual 456, 3) := by decide +kernel
theorem dd_looks_14 : decode mm_looks.2.1 14 = .ok (.iconst 1, 1) := by decide +kernel
theorem dd_looks_15 : decode mm_looks.2.1 15 = .ok (.istore_n 2, 1) := by decide +kernel
theorem dd_looks_16 : decode mm_looks.2.1 16 = .ok (.iconst 0, 1) := by decide +kernel
theorem dd_looks_17 : decode mm_looks.2.1 17 = .ok (.istore_n 3, 1) := by decide +kernel
theorem dd_looks_18 : decode mm_looks.2.1 18 = .ok (.iload_n 3, 1) := by decide +kernel
theorem dd_looks_19 : decode mm_looks.2.1 19 = .ok (.aload_n 0, 1) := by decide +kernel
theorem dd_looks_20 : decode mm_looks.2.1 20 = .ok (.invokevirtual 332, 3) := by decide +kernel
theorem dd_looks_23 : decode mm_looks.2.1 23 = .ok (.if_icmp .ge (20), 3) := by decide +kernel
theorem dd_looks_43 : decode mm_looks.2.1 43 = .ok (.iconst 0, 1) := by decide +kernel
theorem dd_looks_44 : decode mm_looks.2.1 44 = .ok (.istore_n 3, 1) := by decide +kernel
theorem dd_looks_26 : decode mm_looks.2.1 26 = .ok (.aload_n 0, 1) := by decide +kernel
theorem dd_looks_27 : decode mm_looks.2.1 27 = .ok (.getfield 165, 3) := by decide +kernel
theorem fd_12_165 : fld 12 165 = some (12, 44) := by decide +kernel
theorem rf_182_44 {h : LH} (hF : RF h) : rd h 182 44 = 209 := hF 182 44 209 (by decide +kernel) (by decide +kernel)
theorem dd_looks_30 : decode mm_looks.2.1 30 = .ok (.iload_n 3, 1) := by decide +kernel
theorem dd_looks_31 : decode mm_looks.2.1 31 = .ok (.aload_n 0, 1) := by decide +kernel
theorem dd_looks_32 : decode mm_looks.2.1 32 = .ok (.iload_n 3, 1) := by decide +kernel
theorem dd_looks_33 : decode mm_looks.2.1 33 = .ok (.invokevirtual 419, 3) := by decide +kernel
theorem dd_looks_36 : decode mm_looks.2.1 36 = .ok (.iastore, 1) := by decide +kernel
theorem ia_209 : isA NC 209 1 = true := by decide +kernel
theorem la_209 : (lay (209 : Int).toNat).2.2 = 10 := by decide +kernel
theorem dd_looks_37 : decode mm_looks.2.1 37 = .ok (.iinc 3 1, 3) := by decide +kernel
theorem dd_looks_40 : decode mm_looks.2.1 40 = .ok (.goto (-22), 3) := by decide +kernel
theorem dd_looks_45 : decode mm_looks.2.1 45 = .ok (.iload_n 3, 1) := by decide +kernel
theorem dd_looks_46 : decode mm_looks.2.1 46 = .ok (.aload_n 0, 1) := by decide +kernel
theorem dd_looks_47 : decode mm_looks.2.1 47 = .ok (.getfield 125, 3) := by decide +kernel
theorem dd_looks_50 : decode mm_looks.2.1 50 = .ok (.bipush 34, 2) := by decide +kernel
theorem dd_looks_52 : decode mm_looks.2.1 52 = .ok (.iaload, 1) := by decide +kernel
theorem dd_looks_53 : decode mm_looks.2.1 53 = .ok (.if_icmp .ge (72), 3) := by decide +kernel
theorem dd_looks_56 : decode mm_looks.2.1 56 = .ok (.bipush 35, 2) := by decide +kernel
theorem dd_looks_58 : decode mm_looks.2.1 58 = .ok (.iconst 3, 1) := by decide +kernel
theorem dd_looks_59 : decode mm_looks.2.1 59 = .ok (.iload_n 3, 1) := by decide +kernel
theorem dd_looks_60 : decode mm_looks.2.1 60 = .ok (.imul, 1) := by decide +kernel
theorem dd_looks_61 : decode mm_looks.2.1 61 = .ok (.iadd, 1) := by decide +kernel
theorem dd_looks_62 : decode mm_looks.2.1 62 = .ok (.istore 4, 2) := by decide +kernel
theorem dd_looks_64 : decode mm_looks.2.1 64 = .ok (.iload_n 2, 1) := by decide +kernel
theorem dd_looks_65 : decode mm_looks.2.1 65 = .ok (.ifCond .eq (52), 3) := by decide +kernel
theorem dd_looks_117 : decode mm_looks.2.1 117 = .ok (.iconst 0, 1) := by decide +kernel
theorem dd_looks_118 : decode mm_looks.2.1 118 = .ok (.istore_n 2, 1) := by decide +kernel
theorem dd_looks_68 : decode mm_looks.2.1 68 = .ok (.aload_n 0, 1) := by decide +kernel
theorem dd_looks_69 : decode mm_looks.2.1 69 = .ok (.getfield 165, 3) := by decide +kernel
theorem dd_looks_72 : decode mm_looks.2.1 72 = .ok (.aload_n 0, 1) := by decide +kernel
theorem dd_looks_73 : decode mm_looks.2.1 73 = .ok (.getfield 125, 3) := by decide +kernel
theorem dd_looks_76 : decode mm_looks.2.1 76 = .ok (.iload 4, 2) := by decide +kernel
theorem dd_looks_78 : decode mm_looks.2.1 78 = .ok (.iaload, 1) := by decide +kernel
theorem dd_looks_79 : decode mm_looks.2.1 79 = .ok (.iaload, 1) := by decide +kernel
theorem dd_looks_80 : decode mm_looks.2.1 80 = .ok (.aload_n 0, 1) := by decide +kernel
theorem dd_looks_81 : decode mm_looks.2.1 81 = .ok (.getfield 125, 3) := by decide +kernel
theorem dd_looks_84 : decode mm_looks.2.1 84 = .ok (.iload 4, 2) := by decide +kernel
theorem dd_looks_86 : decode mm_looks.2.1 86 = .ok (.iconst 1, 1) := by decide +kernel
theorem dd_looks_87 : decode mm_looks.2.1 87 = .ok (.iadd, 1) := by decide +kernel
theorem dd_looks_88 : decode mm_looks.2.1 88 = .ok (.iaload, 1) := by decide +kernel
theorem dd_looks_89 : decode mm_looks.2.1 89 = .ok (.invokestatic 350, 3) := by decide +kernel
theorem dd_looks_92 : decode mm_looks.2.1 92 = .ok (.aload_n 0, 1) := by decide +kernel
theorem dd_looks_93 : decode mm_looks.2.1 93 = .ok (.getfield 125, 3) := by decide +kernel
theorem dd_looks_96 : decode mm_looks.2.1 96 = .ok (.iload 4, 2) := by decide +kernel
theorem dd_looks_98 : decode mm_looks.2.1 98 = .ok (.iconst 2, 1) := by decide +kernel
theorem dd_looks_99 : decode mm_looks.2.1 99 = .ok (.iadd, 1) := by decide +kernel
theorem dd_looks_100 : decode mm_looks.2.1 100 = .ok (.iaload, 1) := by decide +kernel
theorem dd_looks_101 : decode mm_looks.2.1 101 = .ok (.iconst 1, 1) := by decide +kernel
theorem dd_looks_102 : decode mm_looks.2.1 102 = .ok (.if_icmp .ne (7), 3) := by decide +kernel
theorem dd_looks_109 : decode mm_looks.2.1 109 = .ok (.iconst 0, 1) := by decide +kernel
theorem dd_looks_110 : decode mm_looks.2.1 110 = .ok (.if_icmp .ne (7), 3) := by decide +kernel
theorem dd_looks_113 : decode mm_looks.2.1 113 = .ok (.iconst 1, 1) := by decide +kernel
theorem dd_looks_114 : decode mm_looks.2.1 114 = .ok (.goto 4, 3) := by decide +kernel
theorem dd_looks_105 : decode mm_looks.2.1 105 = .ok (.iconst 1, 1) := by decide +kernel
theorem dd_looks_106 : decode mm_looks.2.1 106 = .ok (.goto 4, 3) := by decide +kernel
theorem dd_looks_119 : decode mm_looks.2.1 119 = .ok (.iinc 3 1, 3) := by decide +kernel
theorem dd_looks_122 : decode mm_looks.2.1 122 = .ok (.goto (-77), 3) := by decide +kernel
theorem dd_looks_125 : decode mm_looks.2.1 125 = .ok (.iload_n 2, 1) := by decide +kernel
theorem dd_looks_126 : decode mm_looks.2.1 126 = .ok (.ifCond .eq (124), 3) := by decide +kernel
theorem dd_looks_250 : decode mm_looks.2.1 250 = .ok (.return_, 1) := by decide +kernel
theorem dd_looks_129 : decode mm_looks.2.1 129 = .ok (.aload_n 0, 1) := by decide +kernel
theorem dd_looks_130 : decode mm_looks.2.1 130 = .ok (.dup, 1) := by decide +kernel
theorem dd_looks_131 : decode mm_looks.2.1 131 = .ok (.getfield 459, 3) := by decide +kernel
theorem fd_12_459 : fld 12 459 = some (12, 45) := by decide +kernel
theorem dd_looks_134 : decode mm_looks.2.1 134 = .ok (.iconst 1, 1) := by decide +kernel
theorem dd_looks_135 : decode mm_looks.2.1 135 = .ok (.iadd, 1) := by decide +kernel
theorem dd_looks_136 : decode mm_looks.2.1 136 = .ok (.putfield 459, 3) := by decide +kernel
theorem fn_12_45 : fin 12 45 = false := by decide +kernel
theorem dd_looks_139 : decode mm_looks.2.1 139 = .ok (.aload_n 0, 1) := by decide +kernel
theorem dd_looks_140 : decode mm_looks.2.1 140 = .ok (.dup, 1) := by decide +kernel
theorem dd_looks_141 : decode mm_looks.2.1 141 = .ok (.getfield 462, 3) := by decide +kernel
theorem fd_12_462 : fld 12 462 = some (12, 46) := by decide +kernel
theorem dd_looks_144 : decode mm_looks.2.1 144 = .ok (.iload_n 1, 1) := by decide +kernel
theorem dd_looks_145 : decode mm_looks.2.1 145 = .ok (.iand, 1) := by decide +kernel
theorem dd_looks_146 : decode mm_looks.2.1 146 = .ok (.putfield 462, 3) := by decide +kernel
theorem fn_12_46 : fin 12 46 = false := by decide +kernel
theorem dd_looks_149 : decode mm_looks.2.1 149 = .ok (.aload_n 0, 1) := by decide +kernel
theorem dd_looks_150 : decode mm_looks.2.1 150 = .ok (.dup, 1) := by decide +kernel
theorem dd_looks_151 : decode mm_looks.2.1 151 = .ok (.getfield 465, 3) := by decide +kernel
theorem fd_12_465 : fld 12 465 = some (12, 47) := by decide +kernel
theorem dd_looks_154 : decode mm_looks.2.1 154 = .ok (.iload_n 1, 1) := by decide +kernel
theorem dd_looks_155 : decode mm_looks.2.1 155 = .ok (.ior, 1) := by decide +kernel
theorem dd_looks_156 : decode mm_looks.2.1 156 = .ok (.putfield 465, 3) := by decide +kernel
theorem fn_12_47 : fin 12 47 = false := by decide +kernel
theorem dd_looks_159 : decode mm_looks.2.1 159 = .ok (.aload_n 0, 1) := by decide +kernel
theorem dd_looks_160 : decode mm_looks.2.1 160 = .ok (.aload_n 0, 1) := by decide +kernel
theorem dd_looks_161 : decode mm_looks.2.1 161 = .ok (.getfield 468, 3) := by decide +kernel
theorem fd_12_468 : fld 12 468 = some (12, 48) := by decide +kernel
theorem dd_looks_164 : decode mm_looks.2.1 164 = .ok (.ifCond .lt (17), 3) := by decide +kernel
theorem dd_looks_181 : decode mm_looks.2.1 181 = .ok (.iload_n 1, 1) := by decide +kernel
theorem dd_looks_182 : decode mm_looks.2.1 182 = .ok (.goto 7, 3) := by decide +kernel
theorem dd_looks_189 : decode mm_looks.2.1 189 = .ok (.putfield 468, 3) := by decide +kernel
theorem fn_12_48 : fin 12 48 = false := by decide +kernel
theorem dd_looks_192 : decode mm_looks.2.1 192 = .ok (.iconst 0, 1) := by decide +kernel
theorem dd_looks_193 : decode mm_looks.2.1 193 = .ok (.istore_n 3, 1) := by decide +kernel
theorem dd_looks_167 : decode mm_looks.2.1 167 = .ok (.iload_n 1, 1) := by decide +kernel
theorem dd_looks_168 : decode mm_looks.2.1 168 = .ok (.invokestatic 435, 3) := by decide +kernel
theorem dd_looks_171 : decode mm_looks.2.1 171 = .ok (.aload_n 0, 1) := by decide +kernel
theorem dd_looks_172 : decode mm_looks.2.1 172 = .ok (.getfield 468, 3) := by decide +kernel
theorem dd_looks_175 : decode mm_looks.2.1 175 = .ok (.invokestatic 435, 3) := by decide +kernel
theorem dd_looks_178 : decode mm_looks.2.1 178 = .ok (.if_icmp .ge (7), 3) := by decide +kernel
theorem dd_looks_185 : decode mm_looks.2.1 185 = .ok (.aload_n 0, 1) := by decide +kernel
theorem dd_looks_186 : decode mm_looks.2.1 186 = .ok (.getfield 468, 3) := by decide +kernel
theorem dd_looks_194 : decode mm_looks.2.1 194 = .ok (.iload_n 3, 1) := by decide +kernel
theorem dd_looks_195 : decode mm_looks.2.1 195 = .ok (.bipush 100, 2) := by decide +kernel
theorem dd_looks_197 : decode mm_looks.2.1 197 = .ok (.if_icmp .ge (53), 3) := by decide +kernel
theorem dd_looks_200 : decode mm_looks.2.1 200 = .ok (.aload_n 0, 1) := by decide +kernel
theorem dd_looks_201 : decode mm_looks.2.1 201 = .ok (.getfield 162, 3) := by decide +kernel
theorem fd_12_162 : fld 12 162 = some (12, 43) := by decide +kernel
theorem rf_182_43 {h : LH} (hF : RF h) : rd h 182 43 = 208 := hF 182 43 208 (by decide +kernel) (by decide +kernel)
theorem dd_looks_204 : decode mm_looks.2.1 204 = .ok (.iload_n 3, 1) := by decide +kernel
theorem dd_looks_205 : decode mm_looks.2.1 205 = .ok (.dup2, 1) := by decide +kernel
theorem dd_looks_206 : decode mm_looks.2.1 206 = .ok (.iaload, 1) := by decide +kernel
theorem ia_208 : isA NC 208 1 = true := by decide +kernel
theorem la_208 : (lay (208 : Int).toNat).2.2 = 100 := by decide +kernel
theorem dd_looks_207 : decode mm_looks.2.1 207 = .ok (.iload_n 3, 1) := by decide +kernel
theorem dd_looks_208 : decode mm_looks.2.1 208 = .ok (.bipush 10, 2) := by decide +kernel
theorem dd_looks_210 : decode mm_looks.2.1 210 = .ok (.idiv, 1) := by decide +kernel
theorem dd_looks_211 : decode mm_looks.2.1 211 = .ok (.aload_n 0, 1) := by decide +kernel
theorem dd_looks_212 : decode mm_looks.2.1 212 = .ok (.invokevirtual 332, 3) := by decide +kernel
theorem dd_looks_215 : decode mm_looks.2.1 215 = .ok (.if_icmp .ge (26), 3) := by decide +kernel
theorem dd_looks_241 : decode mm_looks.2.1 241 = .ok (.iconst 0, 1) := by decide +kernel
theorem dd_looks_242 : decode mm_looks.2.1 242 = .ok (.iadd, 1) := by decide +kernel
theorem dd_looks_243 : decode mm_looks.2.1 243 = .ok (.iastore, 1) := by decide +kernel
theorem dd_looks_244 : decode mm_looks.2.1 244 = .ok (.iinc 3 1, 3) := by decide +kernel
theorem dd_looks_247 : decode mm_looks.2.1 247 = .ok (.goto (-53), 3) := by decide +kernel
theorem dd_looks_218 : decode mm_looks.2.1 218 = .ok (.aload_n 0, 1) := by decide +kernel
theorem dd_looks_219 : decode mm_looks.2.1 219 = .ok (.getfield 165, 3) := by decide +kernel
theorem dd_looks_222 : decode mm_looks.2.1 222 = .ok (.iload_n 3, 1) := by decide +kernel
theorem dd_looks_223 : decode mm_looks.2.1 223 = .ok (.bipush 10, 2) := by decide +kernel
theorem dd_looks_225 : decode mm_looks.2.1 225 = .ok (.idiv, 1) := by decide +kernel
theorem dd_looks_226 : decode mm_looks.2.1 226 = .ok (.iaload, 1) := by decide +kernel
theorem dd_looks_227 : decode mm_looks.2.1 227 = .ok (.iload_n 3, 1) := by decide +kernel
theorem dd_looks_228 : decode mm_looks.2.1 228 = .ok (.bipush 10, 2) := by decide +kernel
theorem dd_looks_230 : decode mm_looks.2.1 230 = .ok (.irem, 1) := by decide +kernel
theorem dd_looks_231 : decode mm_looks.2.1 231 = .ok (.invokestatic 350, 3) := by decide +kernel
theorem dd_looks_234 : decode mm_looks.2.1 234 = .ok (.ifCond .eq (7), 3) := by decide +kernel
theorem dd_looks_237 : decode mm_looks.2.1 237 = .ok (.iconst 1, 1) := by decide +kernel
theorem dd_looks_238 : decode mm_looks.2.1 238 = .ok (.goto 4, 3) := by decide +kernel
theorem dd_tellsMost_0 : decode mm_tellsMost.2.1 0 = .ok (.iconst (-1), 1) := by decide +kernel
theorem dd_tellsMost_1 : decode mm_tellsMost.2.1 1 = .ok (.istore_n 1, 1) := by decide +kernel
theorem dd_tellsMost_2 : decode mm_tellsMost.2.1 2 = .ok (.iconst 0, 1) := by decide +kernel
theorem dd_tellsMost_3 : decode mm_tellsMost.2.1 3 = .ok (.istore_n 2, 1) := by decide +kernel
theorem dd_tellsMost_4 : decode mm_tellsMost.2.1 4 = .ok (.iconst 0, 1) := by decide +kernel
theorem dd_tellsMost_5 : decode mm_tellsMost.2.1 5 = .ok (.istore_n 3, 1) := by decide +kernel
theorem dd_tellsMost_6 : decode mm_tellsMost.2.1 6 = .ok (.iload_n 3, 1) := by decide +kernel
theorem dd_tellsMost_7 : decode mm_tellsMost.2.1 7 = .ok (.bipush 100, 2) := by decide +kernel
theorem dd_tellsMost_9 : decode mm_tellsMost.2.1 9 = .ok (.if_icmp .ge (107), 3) := by decide +kernel
theorem dd_tellsMost_116 : decode mm_tellsMost.2.1 116 = .ok (.iload_n 1, 1) := by decide +kernel
theorem dd_tellsMost_117 : decode mm_tellsMost.2.1 117 = .ok (.ireturn, 1) := by decide +kernel
theorem dd_tellsMost_12 : decode mm_tellsMost.2.1 12 = .ok (.iload_n 3, 1) := by decide +kernel
theorem dd_tellsMost_13 : decode mm_tellsMost.2.1 13 = .ok (.bipush 10, 2) := by decide +kernel
theorem dd_tellsMost_15 : decode mm_tellsMost.2.1 15 = .ok (.idiv, 1) := by decide +kernel
theorem dd_tellsMost_16 : decode mm_tellsMost.2.1 16 = .ok (.aload_n 0, 1) := by decide +kernel
theorem dd_tellsMost_17 : decode mm_tellsMost.2.1 17 = .ok (.invokevirtual 332, 3) := by decide +kernel
theorem dd_tellsMost_20 : decode mm_tellsMost.2.1 20 = .ok (.if_icmp .ge (29), 3) := by decide +kernel
theorem dd_tellsMost_49 : decode mm_tellsMost.2.1 49 = .ok (.iconst 0, 1) := by decide +kernel
theorem dd_tellsMost_50 : decode mm_tellsMost.2.1 50 = .ok (.istore 4, 2) := by decide +kernel
theorem dd_tellsMost_52 : decode mm_tellsMost.2.1 52 = .ok (.aload_n 0, 1) := by decide +kernel
theorem dd_tellsMost_53 : decode mm_tellsMost.2.1 53 = .ok (.getfield 162, 3) := by decide +kernel
theorem dd_tellsMost_56 : decode mm_tellsMost.2.1 56 = .ok (.iload_n 3, 1) := by decide +kernel
theorem dd_tellsMost_57 : decode mm_tellsMost.2.1 57 = .ok (.iaload, 1) := by decide +kernel
theorem dd_tellsMost_58 : decode mm_tellsMost.2.1 58 = .ok (.aload_n 0, 1) := by decide +kernel
theorem dd_tellsMost_59 : decode mm_tellsMost.2.1 59 = .ok (.getfield 459, 3) := by decide +kernel
theorem dd_tellsMost_62 : decode mm_tellsMost.2.1 62 = .ok (.aload_n 0, 1) := by decide +kernel
theorem dd_tellsMost_63 : decode mm_tellsMost.2.1 63 = .ok (.getfield 162, 3) := by decide +kernel
theorem dd_tellsMost_66 : decode mm_tellsMost.2.1 66 = .ok (.iload_n 3, 1) := by decide +kernel
theorem dd_tellsMost_67 : decode mm_tellsMost.2.1 67 = .ok (.iaload, 1) := by decide +kernel
theorem dd_tellsMost_68 : decode mm_tellsMost.2.1 68 = .ok (.isub, 1) := by decide +kernel
theorem dd_tellsMost_69 : decode mm_tellsMost.2.1 69 = .ok (.if_icmp .ge (12), 3) := by decide +kernel
theorem dd_tellsMost_81 : decode mm_tellsMost.2.1 81 = .ok (.aload_n 0, 1) := by decide +kernel
theorem dd_tellsMost_82 : decode mm_tellsMost.2.1 82 = .ok (.getfield 459, 3) := by decide +kernel
theorem dd_tellsMost_85 : decode mm_tellsMost.2.1 85 = .ok (.aload_n 0, 1) := by decide +kernel
theorem dd_tellsMost_86 : decode mm_tellsMost.2.1 86 = .ok (.getfield 162, 3) := by decide +kernel
theorem dd_tellsMost_89 : decode mm_tellsMost.2.1 89 = .ok (.iload_n 3, 1) := by decide +kernel
theorem dd_tellsMost_90 : decode mm_tellsMost.2.1 90 = .ok (.iaload, 1) := by decide +kernel
theorem dd_tellsMost_91 : decode mm_tellsMost.2.1 91 = .ok (.isub, 1) := by decide +kernel
theorem dd_tellsMost_92 : decode mm_tellsMost.2.1 92 = .ok (.istore 5, 2) := by decide +kernel
theorem dd_tellsMost_94 : decode mm_tellsMost.2.1 94 = .ok (.iload 4, 2) := by decide +kernel
theorem dd_tellsMost_96 : decode mm_tellsMost.2.1 96 = .ok (.ifCond .eq (14), 3) := by decide +kernel
theorem dd_tellsMost_72 : decode mm_tellsMost.2.1 72 = .ok (.aload_n 0, 1) := by decide +kernel
theorem dd_tellsMost_73 : decode mm_tellsMost.2.1 73 = .ok (.getfield 162, 3) := by decide +kernel
theorem dd_tellsMost_76 : decode mm_tellsMost.2.1 76 = .ok (.iload_n 3, 1) := by decide +kernel
theorem dd_tellsMost_77 : decode mm_tellsMost.2.1 77 = .ok (.iaload, 1) := by decide +kernel
theorem dd_tellsMost_78 : decode mm_tellsMost.2.1 78 = .ok (.goto 14, 3) := by decide +kernel
theorem dd_tellsMost_23 : decode mm_tellsMost.2.1 23 = .ok (.iload_n 3, 1) := by decide +kernel
theorem dd_tellsMost_24 : decode mm_tellsMost.2.1 24 = .ok (.bipush 10, 2) := by decide +kernel
theorem dd_tellsMost_26 : decode mm_tellsMost.2.1 26 = .ok (.irem, 1) := by decide +kernel
theorem dd_tellsMost_27 : decode mm_tellsMost.2.1 27 = .ok (.aload_n 0, 1) := by decide +kernel
theorem dd_tellsMost_28 : decode mm_tellsMost.2.1 28 = .ok (.invokevirtual 332, 3) := by decide +kernel
theorem dd_tellsMost_31 : decode mm_tellsMost.2.1 31 = .ok (.if_icmp .ge (18), 3) := by decide +kernel
theorem dd_tellsMost_34 : decode mm_tellsMost.2.1 34 = .ok (.iload_n 3, 1) := by decide +kernel
theorem dd_tellsMost_35 : decode mm_tellsMost.2.1 35 = .ok (.bipush 10, 2) := by decide +kernel
theorem dd_tellsMost_37 : decode mm_tellsMost.2.1 37 = .ok (.idiv, 1) := by decide +kernel
theorem dd_tellsMost_38 : decode mm_tellsMost.2.1 38 = .ok (.iload_n 3, 1) := by decide +kernel
theorem dd_tellsMost_39 : decode mm_tellsMost.2.1 39 = .ok (.bipush 10, 2) := by decide +kernel
theorem dd_tellsMost_41 : decode mm_tellsMost.2.1 41 = .ok (.irem, 1) := by decide +kernel
theorem dd_tellsMost_42 : decode mm_tellsMost.2.1 42 = .ok (.if_icmp .eq (7), 3) := by decide +kernel
theorem dd_tellsMost_45 : decode mm_tellsMost.2.1 45 = .ok (.iconst 1, 1) := by decide +kernel
theorem dd_tellsMost_46 : decode mm_tellsMost.2.1 46 = .ok (.goto 4, 3) := by decide +kernel
theorem dd_tellsMost_99 : decode mm_tellsMost.2.1 99 = .ok (.iload 5, 2) := by decide +kernel
theorem dd_tellsMost_101 : decode mm_tellsMost.2.1 101 = .ok (.iload_n 2, 1) := by decide +kernel
theorem dd_tellsMost_102 : decode mm_tellsMost.2.1 102 = .ok (.if_icmp .le (8), 3) := by decide +kernel
theorem dd_tellsMost_105 : decode mm_tellsMost.2.1 105 = .ok (.iload_n 3, 1) := by decide +kernel
theorem dd_tellsMost_106 : decode mm_tellsMost.2.1 106 = .ok (.istore_n 1, 1) := by decide +kernel
theorem dd_tellsMost_107 : decode mm_tellsMost.2.1 107 = .ok (.iload 5, 2) := by decide +kernel
theorem dd_tellsMost_109 : decode mm_tellsMost.2.1 109 = .ok (.istore_n 2, 1) := by decide +kernel
theorem dd_tellsMost_110 : decode mm_tellsMost.2.1 110 = .ok (.iinc 3 1, 3) := by decide +kernel
theorem dd_tellsMost_113 : decode mm_tellsMost.2.1 113 = .ok (.goto (-107), 3) := by decide +kernel
theorem dd_found_0 : decode mm_found.2.1 0 = .ok (.aload_n 0, 1) := by decide +kernel
theorem dd_found_1 : decode mm_found.2.1 1 = .ok (.iconst 0, 1) := by decide +kernel
theorem dd_found_2 : decode mm_found.2.1 2 = .ok (.putfield 1, 3) := by decide +kernel
theorem dd_found_5 : decode mm_found.2.1 5 = .ok (.iload_n 1, 1) := by decide +kernel
theorem dd_found_6 : decode mm_found.2.1 6 = .ok (.iconst 0, 1) := by decide +kernel
theorem dd_found_7 : decode mm_found.2.1 7 = .ok (.iconst 4, 1) := by decide +kernel
theorem dd_found_8 : decode mm_found.2.1 8 = .ok (.invokestatic 297, 3) := by decide +kernel
theorem dd_found_11 : decode mm_found.2.1 11 = .ok (.ifCond .ne (5), 3) := by decide +kernel
theorem dd_found_14 : decode mm_found.2.1 14 = .ok (.iconst (-1), 1) := by decide +kernel
theorem dd_found_15 : decode mm_found.2.1 15 = .ok (.ireturn, 1) := by decide +kernel
theorem dd_found_16 : decode mm_found.2.1 16 = .ok (.aload_n 0, 1) := by decide +kernel
theorem dd_found_17 : decode mm_found.2.1 17 = .ok (.iconst 0, 1) := by decide +kernel
theorem dd_found_18 : decode mm_found.2.1 18 = .ok (.putfield 459, 3) := by decide +kernel
theorem dd_found_21 : decode mm_found.2.1 21 = .ok (.aload_n 0, 1) := by decide +kernel
theorem dd_found_22 : decode mm_found.2.1 22 = .ok (.iconst 1, 1) := by decide +kernel
theorem dd_found_23 : decode mm_found.2.1 23 = .ok (.aload_n 0, 1) := by decide +kernel
theorem dd_found_24 : decode mm_found.2.1 24 = .ok (.invokevirtual 335, 3) := by decide +kernel
theorem dd_found_27 : decode mm_found.2.1 27 = .ok (.ishl, 1) := by decide +kernel
theorem dd_found_28 : decode mm_found.2.1 28 = .ok (.iconst 1, 1) := by decide +kernel
theorem dd_found_29 : decode mm_found.2.1 29 = .ok (.isub, 1) := by decide +kernel
theorem dd_found_30 : decode mm_found.2.1 30 = .ok (.putfield 462, 3) := by decide +kernel
theorem dd_found_33 : decode mm_found.2.1 33 = .ok (.aload_n 0, 1) := by decide +kernel
theorem dd_found_34 : decode mm_found.2.1 34 = .ok (.iconst 0, 1) := by decide +kernel
theorem dd_found_35 : decode mm_found.2.1 35 = .ok (.putfield 465, 3) := by decide +kernel
theorem dd_found_38 : decode mm_found.2.1 38 = .ok (.aload_n 0, 1) := by decide +kernel
theorem dd_found_39 : decode mm_found.2.1 39 = .ok (.iconst (-1), 1) := by decide +kernel
theorem dd_found_40 : decode mm_found.2.1 40 = .ok (.putfield 468, 3) := by decide +kernel
theorem dd_found_43 : decode mm_found.2.1 43 = .ok (.iconst 0, 1) := by decide +kernel
theorem dd_found_44 : decode mm_found.2.1 44 = .ok (.istore_n 2, 1) := by decide +kernel
theorem dd_found_45 : decode mm_found.2.1 45 = .ok (.iload_n 2, 1) := by decide +kernel
theorem dd_found_46 : decode mm_found.2.1 46 = .ok (.bipush 100, 2) := by decide +kernel
theorem dd_found_48 : decode mm_found.2.1 48 = .ok (.if_icmp .ge (16), 3) := by decide +kernel
theorem dd_found_64 : decode mm_found.2.1 64 = .ok (.iconst 0, 1) := by decide +kernel
theorem dd_found_65 : decode mm_found.2.1 65 = .ok (.istore_n 2, 1) := by decide +kernel
theorem dd_found_51 : decode mm_found.2.1 51 = .ok (.aload_n 0, 1) := by decide +kernel
theorem dd_found_52 : decode mm_found.2.1 52 = .ok (.getfield 162, 3) := by decide +kernel
theorem dd_found_55 : decode mm_found.2.1 55 = .ok (.iload_n 2, 1) := by decide +kernel
theorem dd_found_56 : decode mm_found.2.1 56 = .ok (.iconst 0, 1) := by decide +kernel
theorem dd_found_57 : decode mm_found.2.1 57 = .ok (.iastore, 1) := by decide +kernel
theorem dd_found_58 : decode mm_found.2.1 58 = .ok (.iinc 2 1, 3) := by decide +kernel
theorem dd_found_61 : decode mm_found.2.1 61 = .ok (.goto (-16), 3) := by decide +kernel
theorem dd_found_66 : decode mm_found.2.1 66 = .ok (.iload_n 2, 1) := by decide +kernel
theorem dd_found_67 : decode mm_found.2.1 67 = .ok (.iconst 1, 1) := by decide +kernel
theorem dd_found_68 : decode mm_found.2.1 68 = .ok (.aload_n 0, 1) := by decide +kernel
theorem dd_found_69 : decode mm_found.2.1 69 = .ok (.invokevirtual 335, 3) := by decide +kernel
theorem dd_found_72 : decode mm_found.2.1 72 = .ok (.ishl, 1) := by decide +kernel
theorem dd_found_73 : decode mm_found.2.1 73 = .ok (.if_icmp .ge (25), 3) := by decide +kernel
theorem dd_found_76 : decode mm_found.2.1 76 = .ok (.iload_n 2, 1) := by decide +kernel
theorem dd_found_77 : decode mm_found.2.1 77 = .ok (.aload_n 0, 1) := by decide +kernel
theorem dd_found_78 : decode mm_found.2.1 78 = .ok (.getfield 125, 3) := by decide +kernel
theorem dd_found_81 : decode mm_found.2.1 81 = .ok (.iconst 1, 1) := by decide +kernel
theorem dd_found_82 : decode mm_found.2.1 82 = .ok (.iaload, 1) := by decide +kernel
theorem dd_found_83 : decode mm_found.2.1 83 = .ok (.iand, 1) := by decide +kernel
theorem dd_found_84 : decode mm_found.2.1 84 = .ok (.ifCond .ne (8), 3) := by decide +kernel
theorem dd_found_92 : decode mm_found.2.1 92 = .ok (.iinc 2 1, 3) := by decide +kernel
theorem dd_found_95 : decode mm_found.2.1 95 = .ok (.goto (-29), 3) := by decide +kernel
theorem dd_found_87 : decode mm_found.2.1 87 = .ok (.aload_n 0, 1) := by decide +kernel
theorem dd_found_88 : decode mm_found.2.1 88 = .ok (.iload_n 2, 1) := by decide +kernel
theorem dd_found_89 : decode mm_found.2.1 89 = .ok (.invokevirtual 471, 3) := by decide +kernel
theorem cw_12_471 : cwOk 12 471 0 251 2 5 12 = true := by decide +kernel
theorem mt_looks : MTB 251 = some mm_looks := rfl
theorem dd_found_98 : decode mm_found.2.1 98 = .ok (.aload_n 0, 1) := by decide +kernel
theorem dd_found_99 : decode mm_found.2.1 99 = .ok (.getfield 459, 3) := by decide +kernel
theorem dd_found_102 : decode mm_found.2.1 102 = .ok (.ifCond .ne (5), 3) := by decide +kernel
theorem dd_found_107 : decode mm_found.2.1 107 = .ok (.iload_n 1, 1) := by decide +kernel
theorem dd_found_108 : decode mm_found.2.1 108 = .ok (.ifCond .ne (10), 3) := by decide +kernel
theorem dd_found_118 : decode mm_found.2.1 118 = .ok (.iload_n 1, 1) := by decide +kernel
theorem dd_found_119 : decode mm_found.2.1 119 = .ok (.iconst 1, 1) := by decide +kernel
theorem dd_found_120 : decode mm_found.2.1 120 = .ok (.if_icmp .ne (10), 3) := by decide +kernel
theorem dd_found_130 : decode mm_found.2.1 130 = .ok (.iload_n 1, 1) := by decide +kernel
theorem dd_found_131 : decode mm_found.2.1 131 = .ok (.iconst 2, 1) := by decide +kernel
theorem dd_found_132 : decode mm_found.2.1 132 = .ok (.if_icmp .ne (10), 3) := by decide +kernel
theorem dd_found_142 : decode mm_found.2.1 142 = .ok (.iload_n 1, 1) := by decide +kernel
theorem dd_found_143 : decode mm_found.2.1 143 = .ok (.iconst 3, 1) := by decide +kernel
theorem dd_found_144 : decode mm_found.2.1 144 = .ok (.if_icmp .ne (10), 3) := by decide +kernel
theorem dd_found_154 : decode mm_found.2.1 154 = .ok (.aload_n 0, 1) := by decide +kernel
theorem dd_found_155 : decode mm_found.2.1 155 = .ok (.getfield 468, 3) := by decide +kernel
theorem dd_found_158 : decode mm_found.2.1 158 = .ok (.ireturn, 1) := by decide +kernel
theorem dd_found_147 : decode mm_found.2.1 147 = .ok (.aload_n 0, 1) := by decide +kernel
theorem dd_found_148 : decode mm_found.2.1 148 = .ok (.invokevirtual 474, 3) := by decide +kernel
theorem cw_12_474 : cwOk 12 474 0 253 1 6 12 = true := by decide +kernel
theorem mt_tellsMost : MTB 253 = some mm_tellsMost := rfl
theorem dd_found_135 : decode mm_found.2.1 135 = .ok (.aload_n 0, 1) := by decide +kernel
theorem dd_found_136 : decode mm_found.2.1 136 = .ok (.getfield 465, 3) := by decide +kernel
theorem dd_found_139 : decode mm_found.2.1 139 = .ok (.goto 19, 3) := by decide +kernel
theorem dd_found_123 : decode mm_found.2.1 123 = .ok (.aload_n 0, 1) := by decide +kernel
theorem dd_found_124 : decode mm_found.2.1 124 = .ok (.getfield 462, 3) := by decide +kernel
theorem dd_found_127 : decode mm_found.2.1 127 = .ok (.goto 31, 3) := by decide +kernel
theorem dd_found_111 : decode mm_found.2.1 111 = .ok (.aload_n 0, 1) := by decide +kernel
theorem dd_found_112 : decode mm_found.2.1 112 = .ok (.getfield 459, 3) := by decide +kernel
theorem dd_found_115 : decode mm_found.2.1 115 = .ok (.goto 43, 3) := by decide +kernel
theorem dd_found_105 : decode mm_found.2.1 105 = .ok (.iconst (-1), 1) := by decide +kernel
theorem dd_found_106 : decode mm_found.2.1 106 = .ok (.ireturn, 1) := by decide +kernel
theorem dd_found_151 : decode mm_found.2.1 151 = .ok (.goto 7, 3) := by decide +kernel
theorem B_fill95_0 {xs : Nat → Int} {xl e : Nat} {h : LH} {Q : Option LV → LH → Prop} {v1 : Int} (hF : RF h)
    (k : Rn xs xl e mm_java_util_Arrays_fill 5 [some (.inr (.inr 95)), some (.inl v1), some (.inl 0), some (.inl 100)] [] h Q) :
    Rn xs xl e mm_java_util_Arrays_fill 0 [some (.inr (.inr 95)), some (.inl v1), none, none] [] h Q := by
  refine R_ic dd_java_util_Arrays_fill_0 (by decide) rfl ?_
  refine R_st (ls' := [some (.inr (.inr 95)), some (.inl v1), some (.inl 0), none]) dd_java_util_Arrays_fill_1 rfl rfl rfl (Nat.le_of_ble_eq_true rfl) rfl rfl ?_
  refine R_ld (v := .inr (.inr 95)) dd_java_util_Arrays_fill_2 rfl rfl rfl rfl ?_
  refine R_alen (n := 100) dd_java_util_Arrays_fill_3 ia_95 la_95 rfl ?_
  refine R_st (ls' := [some (.inr (.inr 95)), some (.inl v1), some (.inl 0), some (.inl 100)]) dd_java_util_Arrays_fill_4 rfl rfl rfl (Nat.le_of_ble_eq_true rfl) rfl rfl ?_
  exact k
theorem B_fill95_5 {xs : Nat → Int} {xl e : Nat} {h : LH} {Q : Option LV → LH → Prop} {v1 v2 : Int} (hF : RF h) (r_v2 : 0 ≤ v2 ∧ v2 ≤ 100)
    (k : (100 ≤ v2 →
        Q none h) ∧
      (v2 < 100 →
        (0 ≤ v2 ∧ v2 < 100) ∧
        Rn xs xl e mm_java_util_Arrays_fill 5 [some (.inr (.inr 95)), some (.inl v1), some (.inl (v2 + 1)), some (.inl 100)] [] (wr h 95 v2 v1) Q)) :
    Rn xs xl e mm_java_util_Arrays_fill 5 [some (.inr (.inr 95)), some (.inl v1), some (.inl v2), some (.inl 100)] [] h Q := by
  refine R_ld (v := .inl v2) dd_java_util_Arrays_fill_5 rfl rfl rfl rfl ?_
  refine R_ld (v := .inl 100) dd_java_util_Arrays_fill_6 rfl rfl rfl rfl ?_
  refine R_icmp dd_java_util_Arrays_fill_7 rfl rfl (fun (c2 : 100 ≤ v2) => ?_) (fun (c2 : v2 < 100) => ?_)
  · replace k := k.1 c2
    exact R_vret dd_java_util_Arrays_fill_20 rfl k
  · replace k := k.2 c2
    refine R_ld (v := .inr (.inr 95)) dd_java_util_Arrays_fill_10 rfl rfl rfl rfl ?_
    refine R_ld (v := .inl v2) dd_java_util_Arrays_fill_11 rfl rfl rfl rfl ?_
    refine R_ld (v := .inl v1) dd_java_util_Arrays_fill_12 rfl rfl rfl rfl ?_
    obtain ⟨s1, k⟩ := k
    refine R_iast (n := 100) dd_java_util_Arrays_fill_13 ia_95 la_95 s1 rfl ?_
    refine R_inc (y := v2 + 1) (ls' := [some (.inr (.inr 95)), some (.inl v1), some (.inl (v2 + 1)), some (.inl 100)]) dd_java_util_Arrays_fill_14 rfl (by decide) (by omega) (by omega) rfl rfl ?_
    refine R_goto dd_java_util_Arrays_fill_17 rfl ?_
    exact k
theorem B_Finder_search_0_0 {xs : Nat → Int} {xl e : Nat} {h : LH} {Q : Option LV → LH → Prop} {q : Int} (hq : q = 5 ∨ q = 32) (hF : RF h)
    (k : (∃ c, c < e ∧ Rn xs xl c mm_java_util_Arrays_fill 0 [some (.inr (.inr 95)), some (.inl 0), none, none] [] (wr (wr (wr (wr (wr h 90 0 0) 90 1 16383) 90 2 0) 90 3 (-1)) 90 6 0) (fun r h' => Rn xs xl e mm_Finder_search 35 [some (.inr (.inr 90)), some (.inr (.inr q)), some (.inr (.inr 59)), some (.inl 0), none] (r.toList ++ []) h' Q))) :
    Rn xs xl e mm_Finder_search 0 [some (.inr (.inr 90)), some (.inr (.inr q)), some (.inr (.inr 59)), some (.inl 0), none] [] h Q := by
  refine R_ld (v := .inr (.inr 90)) dd_Finder_search_0 rfl rfl rfl rfl ?_
  refine R_ic dd_Finder_search_1 (by decide) rfl ?_
  refine R_pf (z := 0) dd_Finder_search_2 fd_2_27 io_90 fn_2_0 rfl rfl ?_
  refine R_ld (v := .inr (.inr 90)) dd_Finder_search_5 rfl rfl rfl rfl ?_
  refine R_si dd_Finder_search_6 (by decide) rfl ?_
  refine R_pf (z := 16383) dd_Finder_search_9 fd_2_31 io_90 fn_2_1 rfl rfl ?_
  refine R_ld (v := .inr (.inr 90)) dd_Finder_search_12 rfl rfl rfl rfl ?_
  refine R_ic dd_Finder_search_13 (by decide) rfl ?_
  refine R_pf (z := 0) dd_Finder_search_14 fd_2_34 io_90 fn_2_2 rfl rfl ?_
  refine R_ld (v := .inr (.inr 90)) dd_Finder_search_17 rfl rfl rfl rfl ?_
  refine R_ic dd_Finder_search_18 (by decide) rfl ?_
  refine R_pf (z := (-1)) dd_Finder_search_19 fd_2_37 io_90 fn_2_3 rfl rfl ?_
  refine R_ld (v := .inr (.inr 90)) dd_Finder_search_22 rfl rfl rfl rfl ?_
  refine R_ld (v := .inl 0) dd_Finder_search_23 rfl rfl rfl rfl ?_
  refine R_pf (z := 0) dd_Finder_search_24 fd_2_40 io_90 fn_2_6 rfl rfl ?_
  refine R_ld (v := .inr (.inr 90)) dd_Finder_search_27 rfl rfl rfl rfl ?_
  refine R_gf (v := .inr (.inr 95)) dd_Finder_search_28 fd_2_24 io_90 (congrArg (fun z : Int => (Sum.inr (Sum.inr z) : LV)) ((rdw_nei (by omega)).trans ((rdw_nei (by omega)).trans ((rdw_nei (by omega)).trans ((rdw_nei (by omega)).trans ((rdw_nei (by omega)).trans (rf_90_12 hF))))))) rfl ?_
  refine R_ic dd_Finder_search_31 (by decide) rfl ?_
  obtain ⟨c, hc, k⟩ := k
  exact R_call (as := [.inr (.inr 95), .inl 0]) (rest := []) (M' := mm_java_util_Arrays_fill) (ls0 := [some (.inr (.inr 95)), some (.inl 0), none, none]) dd_Finder_search_32 rfl rfl (cw_s cw_2_44 rfl rfl (Nat.le_of_ble_eq_true rfl) (Nat.le_of_ble_eq_true rfl)) mt_java_util_Arrays_fill rfl hc rfl k
theorem B_Finder_search_0_1 {xs : Nat → Int} {xl e : Nat} {h : LH} {Q : Option LV → LH → Prop} {q : Int} (hq : q = 5 ∨ q = 32) (hF : RF h)
    (k : (∃ c, c < e ∧ Rn xs xl c mm_java_util_Arrays_fill 0 [some (.inr (.inr 95)), some (.inl 0), none, none] [] (wr (wr (wr (wr (wr h 90 0 0) 90 1 16383) 90 2 0) 90 3 (-1)) 90 6 1) (fun r h' => Rn xs xl e mm_Finder_search 35 [some (.inr (.inr 90)), some (.inr (.inr q)), some (.inr (.inr 59)), some (.inl 1), none] (r.toList ++ []) h' Q))) :
    Rn xs xl e mm_Finder_search 0 [some (.inr (.inr 90)), some (.inr (.inr q)), some (.inr (.inr 59)), some (.inl 1), none] [] h Q := by
  refine R_ld (v := .inr (.inr 90)) dd_Finder_search_0 rfl rfl rfl rfl ?_
  refine R_ic dd_Finder_search_1 (by decide) rfl ?_
  refine R_pf (z := 0) dd_Finder_search_2 fd_2_27 io_90 fn_2_0 rfl rfl ?_
  refine R_ld (v := .inr (.inr 90)) dd_Finder_search_5 rfl rfl rfl rfl ?_
  refine R_si dd_Finder_search_6 (by decide) rfl ?_
  refine R_pf (z := 16383) dd_Finder_search_9 fd_2_31 io_90 fn_2_1 rfl rfl ?_
  refine R_ld (v := .inr (.inr 90)) dd_Finder_search_12 rfl rfl rfl rfl ?_
  refine R_ic dd_Finder_search_13 (by decide) rfl ?_
  refine R_pf (z := 0) dd_Finder_search_14 fd_2_34 io_90 fn_2_2 rfl rfl ?_
  refine R_ld (v := .inr (.inr 90)) dd_Finder_search_17 rfl rfl rfl rfl ?_
  refine R_ic dd_Finder_search_18 (by decide) rfl ?_
  refine R_pf (z := (-1)) dd_Finder_search_19 fd_2_37 io_90 fn_2_3 rfl rfl ?_
  refine R_ld (v := .inr (.inr 90)) dd_Finder_search_22 rfl rfl rfl rfl ?_
  refine R_ld (v := .inl 1) dd_Finder_search_23 rfl rfl rfl rfl ?_
  refine R_pf (z := 1) dd_Finder_search_24 fd_2_40 io_90 fn_2_6 rfl rfl ?_
  refine R_ld (v := .inr (.inr 90)) dd_Finder_search_27 rfl rfl rfl rfl ?_
  refine R_gf (v := .inr (.inr 95)) dd_Finder_search_28 fd_2_24 io_90 (congrArg (fun z : Int => (Sum.inr (Sum.inr z) : LV)) ((rdw_nei (by omega)).trans ((rdw_nei (by omega)).trans ((rdw_nei (by omega)).trans ((rdw_nei (by omega)).trans ((rdw_nei (by omega)).trans (rf_90_12 hF))))))) rfl ?_
  refine R_ic dd_Finder_search_31 (by decide) rfl ?_
  obtain ⟨c, hc, k⟩ := k
  exact R_call (as := [.inr (.inr 95), .inl 0]) (rest := []) (M' := mm_java_util_Arrays_fill) (ls0 := [some (.inr (.inr 95)), some (.inl 0), none, none]) dd_Finder_search_32 rfl rfl (cw_s cw_2_44 rfl rfl (Nat.le_of_ble_eq_true rfl) (Nat.le_of_ble_eq_true rfl)) mt_java_util_Arrays_fill rfl hc rfl k
theorem B_Finder_search_35 {xs : Nat → Int} {xl e : Nat} {h : LH} {Q : Option LV → LH → Prop} {v3 : Int} {q : Int} (hq : q = 5 ∨ q = 32) (hF : RF h)
    (k : (∃ c, c < e ∧ Rn xs xl c mm_Finder_listArcs 0 [some (.inr (.inr 90)), some (.inr (.inr q)), some (.inr (.inr 60)), none, none, none, none, none] [] h (fun r h' => Rn xs xl e mm_Finder_search 44 [some (.inr (.inr 90)), some (.inr (.inr q)), some (.inr (.inr 59)), some (.inl v3), none] (r.toList ++ []) h' Q))) :
    Rn xs xl e mm_Finder_search 35 [some (.inr (.inr 90)), some (.inr (.inr q)), some (.inr (.inr 59)), some (.inl v3), none] [] h Q := by
  refine R_ld (v := .inr (.inr 90)) dd_Finder_search_35 rfl rfl rfl rfl ?_
  refine R_ld (v := .inr (.inr q)) dd_Finder_search_36 rfl rfl rfl rfl ?_
  refine R_ld (v := .inr (.inr 59)) dd_Finder_search_37 rfl rfl rfl rfl ?_
  refine R_gf (v := .inr (.inr 60)) dd_Finder_search_38 fd_2_50 io_59 (congrArg (fun z : Int => (Sum.inr (Sum.inr z) : LV)) (rf_59_0 hF)) rfl ?_
  obtain ⟨c, hc, k⟩ := k
  exact R_call (as := [.inr (.inr 90), .inr (.inr q), .inr (.inr 60)]) (rest := []) (M' := mm_Finder_listArcs) (ls0 := [some (.inr (.inr 90)), some (.inr (.inr q)), some (.inr (.inr 60)), none, none, none, none, none]) dd_Finder_search_41 rfl rfl (cw_v cw_2_56 io_90 rfl rfl (Nat.le_of_ble_eq_true rfl) (Nat.le_of_ble_eq_true rfl)) mt_Finder_listArcs rfl hc rfl k
theorem B_Finder_search_44 {xs : Nat → Int} {xl e : Nat} {h : LH} {Q : Option LV → LH → Prop} {v3 : Int} {q : Int} (hq : q = 5 ∨ q = 32) (hF : RF h)
    (k : Rn xs xl e mm_Finder_search 47 [some (.inr (.inr 90)), some (.inr (.inr q)), some (.inr (.inr 59)), some (.inl v3), some (.inl 0)] [] h Q) :
    Rn xs xl e mm_Finder_search 44 [some (.inr (.inr 90)), some (.inr (.inr q)), some (.inr (.inr 59)), some (.inl v3), none] [] h Q := by
  refine R_ic dd_Finder_search_44 (by decide) rfl ?_
  refine R_st (ls' := [some (.inr (.inr 90)), some (.inr (.inr q)), some (.inr (.inr 59)), some (.inl v3), some (.inl 0)]) dd_Finder_search_45 rfl rfl rfl (Nat.le_of_ble_eq_true rfl) rfl rfl ?_
  exact k
theorem B_Finder_search_47 {xs : Nat → Int} {xl e : Nat} {h : LH} {Q : Option LV → LH → Prop} {v3 v4 : Int} {q : Int} (hq : q = 5 ∨ q = 32) (hF : RF h) (r_v4 : 0 ≤ v4 ∧ v4 ≤ 10)
    (k : (10 ≤ v4 →
        (∃ c, c < e ∧ Rn xs xl c mm_Finder_grow 0 [some (.inr (.inr 90)), some (.inr (.inr 59)), some (.inl 0), some (.inl 0), none, none, none, none] [] h (fun r h' => Rn xs xl e mm_Finder_search 78 [some (.inr (.inr 90)), some (.inr (.inr q)), some (.inr (.inr 59)), some (.inl v3), some (.inl v4)] (r.toList ++ []) h' Q))) ∧
      (v4 < 10 →
        Rn xs xl e mm_Finder_search 47 [some (.inr (.inr 90)), some (.inr (.inr q)), some (.inr (.inr 59)), some (.inl v3), some (.inl (v4 + 1))] [] (wr h 94 v4 (zshl 1 v4)) Q)) :
    Rn xs xl e mm_Finder_search 47 [some (.inr (.inr 90)), some (.inr (.inr q)), some (.inr (.inr 59)), some (.inl v3), some (.inl v4)] [] h Q := by
  refine R_ld (v := .inl v4) dd_Finder_search_47 rfl rfl rfl rfl ?_
  refine R_bi dd_Finder_search_49 (by decide) rfl ?_
  refine R_icmp dd_Finder_search_51 rfl rfl (fun (c2 : 10 ≤ v4) => ?_) (fun (c2 : v4 < 10) => ?_)
  · replace k := k.1 c2
    refine R_ld (v := .inr (.inr 90)) dd_Finder_search_71 rfl rfl rfl rfl ?_
    refine R_ld (v := .inr (.inr 59)) dd_Finder_search_72 rfl rfl rfl rfl ?_
    refine R_ic dd_Finder_search_73 (by decide) rfl ?_
    refine R_ic dd_Finder_search_74 (by decide) rfl ?_
    obtain ⟨c, hc, k⟩ := k
    exact R_call (as := [.inr (.inr 90), .inr (.inr 59), .inl 0, .inl 0]) (rest := []) (M' := mm_Finder_grow) (ls0 := [some (.inr (.inr 90)), some (.inr (.inr 59)), some (.inl 0), some (.inl 0), none, none, none, none]) dd_Finder_search_75 rfl rfl (cw_v cw_2_60 io_90 rfl rfl (Nat.le_of_ble_eq_true rfl) (Nat.le_of_ble_eq_true rfl)) mt_Finder_grow rfl hc rfl k
  · replace k := k.2 c2
    refine R_ld (v := .inr (.inr 90)) dd_Finder_search_54 rfl rfl rfl rfl ?_
    refine R_gf (v := .inr (.inr 94)) dd_Finder_search_55 fd_2_21 io_90 (congrArg (fun z : Int => (Sum.inr (Sum.inr z) : LV)) (rf_90_11 hF)) rfl ?_
    refine R_ld (v := .inl v4) dd_Finder_search_58 rfl rfl rfl rfl ?_
    refine R_ic dd_Finder_search_60 (by decide) rfl ?_
    refine R_ld (v := .inl v4) dd_Finder_search_61 rfl rfl rfl rfl ?_
    refine R_A dd_Finder_search_63 rfl rfl rfl rfl ?_
    refine R_iast (n := 150) dd_Finder_search_64 ia_94 la_94 (by omega) rfl ?_
    refine R_inc (y := v4 + 1) (ls' := [some (.inr (.inr 90)), some (.inr (.inr q)), some (.inr (.inr 59)), some (.inl v3), some (.inl (v4 + 1))]) dd_Finder_search_65 rfl (by decide) (by omega) (by omega) rfl rfl ?_
    refine R_goto dd_Finder_search_68 rfl ?_
    exact k
theorem B_Finder_search_78 {xs : Nat → Int} {xl e : Nat} {h : LH} {Q : Option LV → LH → Prop} {v3 v4 : Int} {q : Int} (hq : q = 5 ∨ q = 32) (hF : RF h)
    (k : Q none h) :
    Rn xs xl e mm_Finder_search 78 [some (.inr (.inr 90)), some (.inr (.inr q)), some (.inr (.inr 59)), some (.inl v3), some (.inl v4)] [] h Q := by
  exact R_vret dd_Finder_search_78 rfl k
theorem B_Finder_listArcs_0 {xs : Nat → Int} {xl e : Nat} {h : LH} {Q : Option LV → LH → Prop} {q : Int} (hq : q = 5 ∨ q = 32) (hF : RF h) (he : 1 ≤ e)
    (k : (24 ≤ (rd h 60 0) →
        Rn xs xl e mm_Finder_listArcs 42 [some (.inr (.inr 90)), some (.inr (.inr q)), some (.inr (.inr 60)), some (.inl 0), some (.inl 0), some (.inl 0), none, none] [] (wr (wr h 90 7 0) 90 4 0) Q) ∧
      ((rd h 60 0) < 24 →
        (-2147483648 ≤ (rd h 60 0) ∧ (rd h 60 0) ≤ 2147483647) ∧
        (0 ≤ (rd h 60 0) ∧ (rd h 60 0) < 96) ∧
        (-2147483648 ≤ (rd h 60 0) ∧ (rd h 60 0) ≤ 2147483647) ∧
        (0 ≤ (rd h 60 0) ∧ (rd h 60 0) < 96) ∧
        Rn xs xl e mm_Finder_listArcs 42 [some (.inr (.inr 90)), some (.inr (.inr q)), some (.inr (.inr 60)), some (.inl (zand (rd h (q + 5) (rd h 60 0)) (zxor (rd h 60 1) (-1)))), some (.inl (zand (rd h (q + 6) (rd h 60 0)) (zxor (rd h 60 1) (-1)))), some (.inl 0), none, none] [] (wr (wr h 90 7 0) 90 4 0) Q)) :
    Rn xs xl e mm_Finder_listArcs 0 [some (.inr (.inr 90)), some (.inr (.inr q)), some (.inr (.inr 60)), none, none, none, none, none] [] h Q := by
  refine R_ld (v := .inr (.inr q)) dd_Finder_listArcs_0 rfl rfl rfl rfl ?_
  refine R_ic dd_Finder_listArcs_1 (by decide) rfl ?_
  refine R_ld (v := .inr (.inr 60)) dd_Finder_listArcs_2 rfl rfl rfl rfl ?_
  refine R_gf (v := .inl (rd h 60 0)) dd_Finder_listArcs_3 fd_2_64 io_60 (congrArg (fun z : Int => (Sum.inl z : LV)) (rfl)) rfl ?_
  refine R_ld (v := .inr (.inr 60)) dd_Finder_listArcs_6 rfl rfl rfl rfl ?_
  refine R_gf (v := .inl (rd h 60 1)) dd_Finder_listArcs_7 fd_2_69 io_60 (congrArg (fun z : Int => (Sum.inl z : LV)) (rfl)) rfl ?_
  refine R_call (as := [.inr (.inr q), .inl 0, .inl (rd h 60 0), .inl (rd h 60 1)]) (rest := []) (M' := mm_Quarter_aheadIn) (ls0 := [some (.inr (.inr q)), some (.inl 0), some (.inl (rd h 60 0)), some (.inl (rd h 60 1))]) dd_Finder_listArcs_10 rfl rfl (cw_v cw_2_72 (io_q hq) rfl rfl (Nat.le_of_ble_eq_true rfl) (Nat.le_of_ble_eq_true rfl)) mt_Quarter_aheadIn rfl (c := e - 1) (by omega) rfl ?_
  refine R_ld (v := .inl (rd h 60 0)) dd_Quarter_aheadIn_0 rfl rfl rfl rfl ?_
  refine R_bi dd_Quarter_aheadIn_1 (by decide) rfl ?_
  refine R_icmp dd_Quarter_aheadIn_3 rfl rfl (fun (c5 : 24 ≤ (rd h 60 0)) => ?_) (fun (c5 : (rd h 60 0) < 24) => ?_)
  · replace k := k.1 c5
    refine R_ic dd_Quarter_aheadIn_24 (by decide) rfl ?_
    refine R_iret dd_Quarter_aheadIn_25 rfl ?_
    change Rn xs xl e mm_Finder_listArcs 13 [some (.inr (.inr 90)), some (.inr (.inr q)), some (.inr (.inr 60)), none, none, none, none, none] [.inl 0] h _
    refine R_st (ls' := [some (.inr (.inr 90)), some (.inr (.inr q)), some (.inr (.inr 60)), some (.inl 0), none, none, none, none]) dd_Finder_listArcs_13 rfl rfl rfl (Nat.le_of_ble_eq_true rfl) rfl rfl ?_
    refine R_ld (v := .inr (.inr q)) dd_Finder_listArcs_14 rfl rfl rfl rfl ?_
    refine R_ic dd_Finder_listArcs_15 (by decide) rfl ?_
    refine R_ld (v := .inr (.inr 60)) dd_Finder_listArcs_16 rfl rfl rfl rfl ?_
    refine R_gf (v := .inl (rd h 60 0)) dd_Finder_listArcs_17 fd_2_64 io_60 (congrArg (fun z : Int => (Sum.inl z : LV)) (rfl)) rfl ?_
    refine R_ld (v := .inr (.inr 60)) dd_Finder_listArcs_20 rfl rfl rfl rfl ?_
    refine R_gf (v := .inl (rd h 60 1)) dd_Finder_listArcs_21 fd_2_69 io_60 (congrArg (fun z : Int => (Sum.inl z : LV)) (rfl)) rfl ?_
    refine R_call (as := [.inr (.inr q), .inl 0, .inl (rd h 60 0), .inl (rd h 60 1)]) (rest := []) (M' := mm_Quarter_backIn) (ls0 := [some (.inr (.inr q)), some (.inl 0), some (.inl (rd h 60 0)), some (.inl (rd h 60 1))]) dd_Finder_listArcs_24 rfl rfl (cw_v cw_2_78 (io_q hq) rfl rfl (Nat.le_of_ble_eq_true rfl) (Nat.le_of_ble_eq_true rfl)) mt_Quarter_backIn rfl (c := e - 1) (by omega) rfl ?_
    refine R_ld (v := .inl (rd h 60 0)) dd_Quarter_backIn_0 rfl rfl rfl rfl ?_
    refine R_bi dd_Quarter_backIn_1 (by decide) rfl ?_
    refine R_icmp dd_Quarter_backIn_3 rfl rfl (fun (c6 : 24 ≤ (rd h 60 0)) => ?_) (fun (c6 : (rd h 60 0) < 24) => ?_)
    · skip
      refine R_ic dd_Quarter_backIn_24 (by decide) rfl ?_
      refine R_iret dd_Quarter_backIn_25 rfl ?_
      change Rn xs xl e mm_Finder_listArcs 27 [some (.inr (.inr 90)), some (.inr (.inr q)), some (.inr (.inr 60)), some (.inl 0), none, none, none, none] [.inl 0] h _
      refine R_st (ls' := [some (.inr (.inr 90)), some (.inr (.inr q)), some (.inr (.inr 60)), some (.inl 0), some (.inl 0), none, none, none]) dd_Finder_listArcs_27 rfl rfl rfl (Nat.le_of_ble_eq_true rfl) rfl rfl ?_
      refine R_ld (v := .inr (.inr 90)) dd_Finder_listArcs_29 rfl rfl rfl rfl ?_
      refine R_ic dd_Finder_listArcs_30 (by decide) rfl ?_
      refine R_pf (z := 0) dd_Finder_listArcs_31 fd_2_81 io_90 fn_2_7 rfl rfl ?_
      refine R_ld (v := .inr (.inr 90)) dd_Finder_listArcs_34 rfl rfl rfl rfl ?_
      refine R_ic dd_Finder_listArcs_35 (by decide) rfl ?_
      refine R_pf (z := 0) dd_Finder_listArcs_36 fd_2_84 io_90 fn_2_4 rfl rfl ?_
      refine R_ic dd_Finder_listArcs_39 (by decide) rfl ?_
      refine R_st (ls' := [some (.inr (.inr 90)), some (.inr (.inr q)), some (.inr (.inr 60)), some (.inl 0), some (.inl 0), some (.inl 0), none, none]) dd_Finder_listArcs_40 rfl rfl rfl (Nat.le_of_ble_eq_true rfl) rfl rfl ?_
      exact k
    · exact absurd c6 (by omega)
  · replace k := k.2 c5
    refine R_ld (v := .inr (.inr q)) dd_Quarter_aheadIn_6 rfl rfl rfl rfl ?_
    refine R_gf (v := .inr (.inr (q + 5))) dd_Quarter_aheadIn_7 fd_6_34 (io_q hq) (congrArg (fun z : Int => (Sum.inr (Sum.inr z) : LV)) (rq_ahd hF hq)) rfl ?_
    refine R_ld (v := .inl 0) dd_Quarter_aheadIn_10 rfl rfl rfl rfl ?_
    refine R_bi dd_Quarter_aheadIn_11 (by decide) rfl ?_
    refine R_imul (c := 0) dd_Quarter_aheadIn_13 (by omega) (by decide) rfl ?_
    refine R_ld (v := .inl (rd h 60 0)) dd_Quarter_aheadIn_14 rfl rfl rfl rfl ?_
    obtain ⟨s1, k⟩ := k
    refine R_iadd (c := (rd h 60 0)) dd_Quarter_aheadIn_15 (by omega) s1 rfl ?_
    obtain ⟨s2, k⟩ := k
    refine R_iald (v := (rd h (q + 5) (rd h 60 0))) (n := 96) dd_Quarter_aheadIn_16 (ia_aq hq) (la_aq hq) s2 (rfl) rfl ?_
    refine R_ld (v := .inl (rd h 60 1)) dd_Quarter_aheadIn_17 rfl rfl rfl rfl ?_
    refine R_ic dd_Quarter_aheadIn_18 (by decide) rfl ?_
    refine R_A dd_Quarter_aheadIn_19 rfl rfl rfl rfl ?_
    refine R_A dd_Quarter_aheadIn_20 rfl rfl rfl rfl ?_
    refine R_goto dd_Quarter_aheadIn_21 rfl ?_
    refine R_iret dd_Quarter_aheadIn_25 rfl ?_
    change Rn xs xl e mm_Finder_listArcs 13 [some (.inr (.inr 90)), some (.inr (.inr q)), some (.inr (.inr 60)), none, none, none, none, none] [.inl (zand (rd h (q + 5) (rd h 60 0)) (zxor (rd h 60 1) (-1)))] h _
    refine R_st (ls' := [some (.inr (.inr 90)), some (.inr (.inr q)), some (.inr (.inr 60)), some (.inl (zand (rd h (q + 5) (rd h 60 0)) (zxor (rd h 60 1) (-1)))), none, none, none, none]) dd_Finder_listArcs_13 rfl rfl rfl (Nat.le_of_ble_eq_true rfl) rfl rfl ?_
    refine R_ld (v := .inr (.inr q)) dd_Finder_listArcs_14 rfl rfl rfl rfl ?_
    refine R_ic dd_Finder_listArcs_15 (by decide) rfl ?_
    refine R_ld (v := .inr (.inr 60)) dd_Finder_listArcs_16 rfl rfl rfl rfl ?_
    refine R_gf (v := .inl (rd h 60 0)) dd_Finder_listArcs_17 fd_2_64 io_60 (congrArg (fun z : Int => (Sum.inl z : LV)) (rfl)) rfl ?_
    refine R_ld (v := .inr (.inr 60)) dd_Finder_listArcs_20 rfl rfl rfl rfl ?_
    refine R_gf (v := .inl (rd h 60 1)) dd_Finder_listArcs_21 fd_2_69 io_60 (congrArg (fun z : Int => (Sum.inl z : LV)) (rfl)) rfl ?_
    refine R_call (as := [.inr (.inr q), .inl 0, .inl (rd h 60 0), .inl (rd h 60 1)]) (rest := []) (M' := mm_Quarter_backIn) (ls0 := [some (.inr (.inr q)), some (.inl 0), some (.inl (rd h 60 0)), some (.inl (rd h 60 1))]) dd_Finder_listArcs_24 rfl rfl (cw_v cw_2_78 (io_q hq) rfl rfl (Nat.le_of_ble_eq_true rfl) (Nat.le_of_ble_eq_true rfl)) mt_Quarter_backIn rfl (c := e - 1) (by omega) rfl ?_
    refine R_ld (v := .inl (rd h 60 0)) dd_Quarter_backIn_0 rfl rfl rfl rfl ?_
    refine R_bi dd_Quarter_backIn_1 (by decide) rfl ?_
    refine R_icmp dd_Quarter_backIn_3 rfl rfl (fun (c7 : 24 ≤ (rd h 60 0)) => ?_) (fun (c7 : (rd h 60 0) < 24) => ?_)
    · exact absurd c7 (by omega)
    · skip
      refine R_ld (v := .inr (.inr q)) dd_Quarter_backIn_6 rfl rfl rfl rfl ?_
      refine R_gf (v := .inr (.inr (q + 6))) dd_Quarter_backIn_7 fd_6_37 (io_q hq) (congrArg (fun z : Int => (Sum.inr (Sum.inr z) : LV)) (rq_bck hF hq)) rfl ?_
      refine R_ld (v := .inl 0) dd_Quarter_backIn_10 rfl rfl rfl rfl ?_
      refine R_bi dd_Quarter_backIn_11 (by decide) rfl ?_
      refine R_imul (c := 0) dd_Quarter_backIn_13 (by omega) (by decide) rfl ?_
      refine R_ld (v := .inl (rd h 60 0)) dd_Quarter_backIn_14 rfl rfl rfl rfl ?_
      obtain ⟨s3, k⟩ := k
      refine R_iadd (c := (rd h 60 0)) dd_Quarter_backIn_15 (by omega) s3 rfl ?_
      obtain ⟨s4, k⟩ := k
      refine R_iald (v := (rd h (q + 6) (rd h 60 0))) (n := 96) dd_Quarter_backIn_16 (ia_bq hq) (la_bq hq) s4 (rfl) rfl ?_
      refine R_ld (v := .inl (rd h 60 1)) dd_Quarter_backIn_17 rfl rfl rfl rfl ?_
      refine R_ic dd_Quarter_backIn_18 (by decide) rfl ?_
      refine R_A dd_Quarter_backIn_19 rfl rfl rfl rfl ?_
      refine R_A dd_Quarter_backIn_20 rfl rfl rfl rfl ?_
      refine R_goto dd_Quarter_backIn_21 rfl ?_
      refine R_iret dd_Quarter_backIn_25 rfl ?_
      change Rn xs xl e mm_Finder_listArcs 27 [some (.inr (.inr 90)), some (.inr (.inr q)), some (.inr (.inr 60)), some (.inl (zand (rd h (q + 5) (rd h 60 0)) (zxor (rd h 60 1) (-1)))), none, none, none, none] [.inl (zand (rd h (q + 6) (rd h 60 0)) (zxor (rd h 60 1) (-1)))] h _
      refine R_st (ls' := [some (.inr (.inr 90)), some (.inr (.inr q)), some (.inr (.inr 60)), some (.inl (zand (rd h (q + 5) (rd h 60 0)) (zxor (rd h 60 1) (-1)))), some (.inl (zand (rd h (q + 6) (rd h 60 0)) (zxor (rd h 60 1) (-1)))), none, none, none]) dd_Finder_listArcs_27 rfl rfl rfl (Nat.le_of_ble_eq_true rfl) rfl rfl ?_
      refine R_ld (v := .inr (.inr 90)) dd_Finder_listArcs_29 rfl rfl rfl rfl ?_
      refine R_ic dd_Finder_listArcs_30 (by decide) rfl ?_
      refine R_pf (z := 0) dd_Finder_listArcs_31 fd_2_81 io_90 fn_2_7 rfl rfl ?_
      refine R_ld (v := .inr (.inr 90)) dd_Finder_listArcs_34 rfl rfl rfl rfl ?_
      refine R_ic dd_Finder_listArcs_35 (by decide) rfl ?_
      refine R_pf (z := 0) dd_Finder_listArcs_36 fd_2_84 io_90 fn_2_4 rfl rfl ?_
      refine R_ic dd_Finder_listArcs_39 (by decide) rfl ?_
      refine R_st (ls' := [some (.inr (.inr 90)), some (.inr (.inr q)), some (.inr (.inr 60)), some (.inl (zand (rd h (q + 5) (rd h 60 0)) (zxor (rd h 60 1) (-1)))), some (.inl (zand (rd h (q + 6) (rd h 60 0)) (zxor (rd h 60 1) (-1)))), some (.inl 0), none, none]) dd_Finder_listArcs_40 rfl rfl rfl (Nat.le_of_ble_eq_true rfl) rfl rfl ?_
      exact k
theorem B_Finder_listArcs_208 {xs : Nat → Int} {xl e : Nat} {h : LH} {Q : Option LV → LH → Prop} {v3 v4 v5 w1 : Int} {q : Int} (hq : q = 5 ∨ q = 32) {o6 : Option LV} {o7 : Option LV} (hF : RF h)
    (k : Q none (wr h 90 5 w1)) :
    Rn xs xl e mm_Finder_listArcs 208 [some (.inr (.inr 90)), some (.inr (.inr q)), some (.inr (.inr 60)), some (.inl v3), some (.inl v4), some (.inl v5), o6, o7] [.inl w1, .inr (.inr 90)] h Q := by
  refine R_pf (z := w1) dd_Finder_listArcs_208 fd_2_108 io_90 fn_2_5 rfl rfl ?_
  exact R_vret dd_Finder_listArcs_211 rfl k
theorem B_Finder_listArcs_42 {xs : Nat → Int} {xl e : Nat} {h : LH} {Q : Option LV → LH → Prop} {v3 v4 v5 : Int} {q : Int} (hq : q = 5 ∨ q = 32) {o6 : Option LV} {o7 : Option LV} (hF : RF h) (hP : PT h) (r_v5 : 0 ≤ v5 ∧ v5 ≤ 14)
    (k : ((rd h q 2) ≤ v5 →
        (∃ c, c < e ∧ Rn xs xl c mm_java_lang_Integer_bitCount 0 [some (.inl (rd h 90 4))] [] h (fun r h' => Rn xs xl e mm_Finder_listArcs 208 [some (.inr (.inr 90)), some (.inr (.inr q)), some (.inr (.inr 60)), some (.inl v3), some (.inl v4), some (.inl v5), o6, o7] (r.toList ++ [.inr (.inr 90)]) h' Q))) ∧
      (v5 < (rd h q 2) →
        (0 ≤ v5 ∧ v5 < 14) ∧
        ((zand (zshr v3 v5) 1) = 0 →
          ((zand (zshr v4 v5) 1) = 0 →
            ((zand (zshr (rd h 60 1) v5) 1) ≠ 0 →
              Rn xs xl e mm_Finder_listArcs 42 [some (.inr (.inr 90)), some (.inr (.inr q)), some (.inr (.inr 60)), some (.inl v3), some (.inl v4), some (.inl (v5 + 1)), some (.inr (.inr (q + 7 + v5))), some (.inl 0)] [] h Q) ∧
            ((zand (zshr (rd h 60 1) v5) 1) = 0 →
              Rn xs xl e mm_Finder_listArcs 42 [some (.inr (.inr 90)), some (.inr (.inr q)), some (.inr (.inr 60)), some (.inl v3), some (.inl v4), some (.inl (v5 + 1)), some (.inr (.inr (q + 7 + v5))), some (.inl 0)] [] (wr h 90 4 (zor (rd h 90 4) (zshl 1 v5))) Q)) ∧
          ((zand (zshr v4 v5) 1) ≠ 0 →
            (0 ≤ (rd h 90 7) ∧ (rd h 90 7) < 14) ∧
            (0 ≤ (rd h 90 7) ∧ (rd h 90 7) < 14) ∧
            (0 ≤ (rd h 90 7) ∧ (rd h 90 7) < 14) ∧
            (-2147483648 ≤ (rd h 90 7) + 1 ∧ (rd h 90 7) + 1 ≤ 2147483647) ∧
            Rn xs xl e mm_Finder_listArcs 42 [some (.inr (.inr 90)), some (.inr (.inr q)), some (.inr (.inr 60)), some (.inl v3), some (.inl v4), some (.inl (v5 + 1)), some (.inr (.inr (q + 7 + v5))), some (.inl 0)] [] (wr (wr (wr (wr h 91 (rd h 90 7) v5) 92 (rd h 90 7) (rd h (q + 7 + v5) 3)) 93 (rd h 90 7) (rd h (q + 7 + v5) 2)) 90 7 ((rd h 90 7) + 1)) Q)) ∧
        ((zand (zshr v3 v5) 1) ≠ 0 →
          (0 ≤ (rd h 90 7) ∧ (rd h 90 7) < 14) ∧
          (0 ≤ (rd h 90 7) ∧ (rd h 90 7) < 14) ∧
          (0 ≤ (rd h 90 7) ∧ (rd h 90 7) < 14) ∧
          (-2147483648 ≤ (rd h 90 7) + 1 ∧ (rd h 90 7) + 1 ≤ 2147483647) ∧
          Rn xs xl e mm_Finder_listArcs 42 [some (.inr (.inr 90)), some (.inr (.inr q)), some (.inr (.inr 60)), some (.inl v3), some (.inl v4), some (.inl (v5 + 1)), some (.inr (.inr (q + 7 + v5))), some (.inl 1)] [] (wr (wr (wr (wr h 91 (rd h 90 7) v5) 92 (rd h 90 7) (rd h (q + 7 + v5) 2)) 93 (rd h 90 7) (rd h (q + 7 + v5) 3)) 90 7 ((rd h 90 7) + 1)) Q))) :
    Rn xs xl e mm_Finder_listArcs 42 [some (.inr (.inr 90)), some (.inr (.inr q)), some (.inr (.inr 60)), some (.inl v3), some (.inl v4), some (.inl v5), o6, o7] [] h Q := by
  refine R_ld (v := .inl v5) dd_Finder_listArcs_42 rfl rfl rfl rfl ?_
  refine R_ld (v := .inr (.inr q)) dd_Finder_listArcs_44 rfl rfl rfl rfl ?_
  refine R_gf (v := .inl (rd h q 2)) dd_Finder_listArcs_45 fd_2_87 (io_q hq) (congrArg (fun z : Int => (Sum.inl z : LV)) (rfl)) rfl ?_
  refine R_icmp dd_Finder_listArcs_48 rfl rfl (fun (c11 : (rd h q 2) ≤ v5) => ?_) (fun (c11 : v5 < (rd h q 2)) => ?_)
  · replace k := k.1 c11
    refine R_ld (v := .inr (.inr 90)) dd_Finder_listArcs_200 rfl rfl rfl rfl ?_
    refine R_ld (v := .inr (.inr 90)) dd_Finder_listArcs_201 rfl rfl rfl rfl ?_
    refine R_gf (v := .inl (rd h 90 4)) dd_Finder_listArcs_202 fd_2_84 io_90 (congrArg (fun z : Int => (Sum.inl z : LV)) (rfl)) rfl ?_
    obtain ⟨c, hc, k⟩ := k
    exact R_call (as := [.inl (rd h 90 4)]) (rest := [.inr (.inr 90)]) (M' := mm_java_lang_Integer_bitCount) (ls0 := [some (.inl (rd h 90 4))]) dd_Finder_listArcs_205 rfl rfl (cw_s cw_2_102 rfl rfl (Nat.le_of_ble_eq_true rfl) (Nat.le_of_ble_eq_true rfl)) mt_java_lang_Integer_bitCount rfl hc rfl k
  · replace k := k.2 c11
    refine R_ld (v := .inr (.inr q)) dd_Finder_listArcs_51 rfl rfl rfl rfl ?_
    refine R_gf (v := .inr (.inr (q + 1))) dd_Finder_listArcs_52 fd_2_90 (io_q hq) (congrArg (fun z : Int => (Sum.inr (Sum.inr z) : LV)) (rq_arr hF hq)) rfl ?_
    refine R_ld (v := .inl v5) dd_Finder_listArcs_55 rfl rfl rfl rfl ?_
    obtain ⟨s2, k⟩ := k
    refine R_aald (v := (q + 7 + v5)) (n := 14) dd_Finder_listArcs_57 (ia_dq hq) (la_dq hq) s2 (rq_d hP hq s2) rfl ?_
    refine R_st (ls' := [some (.inr (.inr 90)), some (.inr (.inr q)), some (.inr (.inr 60)), some (.inl v3), some (.inl v4), some (.inl v5), some (.inr (.inr (q + 7 + v5))), o7]) dd_Finder_listArcs_58 rfl rfl rfl (Nat.le_of_ble_eq_true rfl) rfl rfl ?_
    refine R_ld (v := .inl v3) dd_Finder_listArcs_60 rfl rfl rfl rfl ?_
    refine R_ld (v := .inl v5) dd_Finder_listArcs_61 rfl rfl rfl rfl ?_
    refine R_A dd_Finder_listArcs_63 rfl rfl rfl rfl ?_
    refine R_ic dd_Finder_listArcs_64 (by decide) rfl ?_
    refine R_A dd_Finder_listArcs_65 rfl rfl rfl rfl ?_
    refine R_if dd_Finder_listArcs_66 rfl rfl (fun (c12 : (zand (zshr v3 v5) 1) = 0) => ?_) (fun (c12 : (zand (zshr v3 v5) 1) ≠ 0) => ?_)
    · replace k := k.1 c12
      refine R_ic dd_Finder_listArcs_73 (by decide) rfl ?_
      refine R_st (ls' := [some (.inr (.inr 90)), some (.inr (.inr q)), some (.inr (.inr 60)), some (.inl v3), some (.inl v4), some (.inl v5), some (.inr (.inr (q + 7 + v5))), some (.inl 0)]) dd_Finder_listArcs_74 rfl rfl rfl (Nat.le_of_ble_eq_true rfl) rfl rfl ?_
      refine R_ld (v := .inl 0) dd_Finder_listArcs_76 rfl rfl rfl rfl ?_
      refine R_if dd_Finder_listArcs_78 rfl rfl (fun (c13 : 0 ≠ 0) => ?_) (fun (c13 : 0 = 0) => ?_)
      · exact absurd c13 (by omega)
      · skip
        refine R_ld (v := .inl v4) dd_Finder_listArcs_81 rfl rfl rfl rfl ?_
        refine R_ld (v := .inl v5) dd_Finder_listArcs_83 rfl rfl rfl rfl ?_
        refine R_A dd_Finder_listArcs_85 rfl rfl rfl rfl ?_
        refine R_ic dd_Finder_listArcs_86 (by decide) rfl ?_
        refine R_A dd_Finder_listArcs_87 rfl rfl rfl rfl ?_
        refine R_if dd_Finder_listArcs_88 rfl rfl (fun (c14 : (zand (zshr v4 v5) 1) = 0) => ?_) (fun (c14 : (zand (zshr v4 v5) 1) ≠ 0) => ?_)
        · replace k := k.1 c14
          refine R_ld (v := .inr (.inr 60)) dd_Finder_listArcs_169 rfl rfl rfl rfl ?_
          refine R_gf (v := .inl (rd h 60 1)) dd_Finder_listArcs_170 fd_2_69 io_60 (congrArg (fun z : Int => (Sum.inl z : LV)) (rfl)) rfl ?_
          refine R_ld (v := .inl v5) dd_Finder_listArcs_173 rfl rfl rfl rfl ?_
          refine R_A dd_Finder_listArcs_175 rfl rfl rfl rfl ?_
          refine R_ic dd_Finder_listArcs_176 (by decide) rfl ?_
          refine R_A dd_Finder_listArcs_177 rfl rfl rfl rfl ?_
          refine R_if dd_Finder_listArcs_178 rfl rfl (fun (c15 : (zand (zshr (rd h 60 1) v5) 1) ≠ 0) => ?_) (fun (c15 : (zand (zshr (rd h 60 1) v5) 1) = 0) => ?_)
          · replace k := k.1 c15
            refine R_inc (y := v5 + 1) (ls' := [some (.inr (.inr 90)), some (.inr (.inr q)), some (.inr (.inr 60)), some (.inl v3), some (.inl v4), some (.inl (v5 + 1)), some (.inr (.inr (q + 7 + v5))), some (.inl 0)]) dd_Finder_listArcs_194 rfl (by decide) (by omega) (by omega) rfl rfl ?_
            refine R_goto dd_Finder_listArcs_197 rfl ?_
            exact k
          · replace k := k.2 c15
            refine R_ld (v := .inr (.inr 90)) dd_Finder_listArcs_181 rfl rfl rfl rfl ?_
            refine R_A dd_Finder_listArcs_182 rfl rfl rfl rfl ?_
            refine R_gf (v := .inl (rd h 90 4)) dd_Finder_listArcs_183 fd_2_84 io_90 (congrArg (fun z : Int => (Sum.inl z : LV)) (rfl)) rfl ?_
            refine R_ic dd_Finder_listArcs_186 (by decide) rfl ?_
            refine R_ld (v := .inl v5) dd_Finder_listArcs_187 rfl rfl rfl rfl ?_
            refine R_A dd_Finder_listArcs_189 rfl rfl rfl rfl ?_
            refine R_A dd_Finder_listArcs_190 rfl rfl rfl rfl ?_
            refine R_pf (z := (zor (rd h 90 4) (zshl 1 v5))) dd_Finder_listArcs_191 fd_2_84 io_90 fn_2_4 rfl rfl ?_
            refine R_inc (y := v5 + 1) (ls' := [some (.inr (.inr 90)), some (.inr (.inr q)), some (.inr (.inr 60)), some (.inl v3), some (.inl v4), some (.inl (v5 + 1)), some (.inr (.inr (q + 7 + v5))), some (.inl 0)]) dd_Finder_listArcs_194 rfl (by decide) (by omega) (by omega) rfl rfl ?_
            refine R_goto dd_Finder_listArcs_197 rfl ?_
            exact k
        · replace k := k.2 c14
          refine R_ld (v := .inr (.inr 90)) dd_Finder_listArcs_91 rfl rfl rfl rfl ?_
          refine R_gf (v := .inr (.inr 91)) dd_Finder_listArcs_92 fd_2_9 io_90 (congrArg (fun z : Int => (Sum.inr (Sum.inr z) : LV)) (rf_90_8 hF)) rfl ?_
          refine R_ld (v := .inr (.inr 90)) dd_Finder_listArcs_95 rfl rfl rfl rfl ?_
          refine R_gf (v := .inl (rd h 90 7)) dd_Finder_listArcs_96 fd_2_81 io_90 (congrArg (fun z : Int => (Sum.inl z : LV)) (rfl)) rfl ?_
          refine R_ld (v := .inl v5) dd_Finder_listArcs_99 rfl rfl rfl rfl ?_
          obtain ⟨s3, k⟩ := k
          refine R_iast (n := 14) dd_Finder_listArcs_101 ia_91 la_91 s3 rfl ?_
          refine R_ld (v := .inr (.inr 90)) dd_Finder_listArcs_102 rfl rfl rfl rfl ?_
          refine R_gf (v := .inr (.inr 92)) dd_Finder_listArcs_103 fd_2_15 io_90 (congrArg (fun z : Int => (Sum.inr (Sum.inr z) : LV)) ((rdw_ne (by decide)).trans (rf_90_9 hF))) rfl ?_
          refine R_ld (v := .inr (.inr 90)) dd_Finder_listArcs_106 rfl rfl rfl rfl ?_
          refine R_gf (v := .inl (rd h 90 7)) dd_Finder_listArcs_107 fd_2_81 io_90 (congrArg (fun z : Int => (Sum.inl z : LV)) (rdw_ne (by decide))) rfl ?_
          refine R_ld (v := .inl 0) dd_Finder_listArcs_110 rfl rfl rfl rfl ?_
          refine R_if dd_Finder_listArcs_112 rfl rfl (fun (c16 : 0 = 0) => ?_) (fun (c16 : 0 ≠ 0) => ?_)
          · skip
            refine R_ld (v := .inr (.inr (q + 7 + v5))) dd_Finder_listArcs_123 rfl rfl rfl rfl ?_
            refine R_gf (v := .inl (rd h (q + 7 + v5) 3)) dd_Finder_listArcs_125 fd_2_99 (io_d hq (by omega)) (congrArg (fun z : Int => (Sum.inl z : LV)) (rdw_ne (by omega))) rfl ?_
            obtain ⟨s4, k⟩ := k
            refine R_iast (n := 14) dd_Finder_listArcs_128 ia_92 la_92 s4 rfl ?_
            refine R_ld (v := .inr (.inr 90)) dd_Finder_listArcs_129 rfl rfl rfl rfl ?_
            refine R_gf (v := .inr (.inr 93)) dd_Finder_listArcs_130 fd_2_18 io_90 (congrArg (fun z : Int => (Sum.inr (Sum.inr z) : LV)) ((rdw_ne (by decide)).trans ((rdw_ne (by decide)).trans (rf_90_10 hF)))) rfl ?_
            refine R_ld (v := .inr (.inr 90)) dd_Finder_listArcs_133 rfl rfl rfl rfl ?_
            refine R_gf (v := .inl (rd h 90 7)) dd_Finder_listArcs_134 fd_2_81 io_90 (congrArg (fun z : Int => (Sum.inl z : LV)) ((rdw_ne (by decide)).trans (rdw_ne (by decide)))) rfl ?_
            refine R_ld (v := .inl 0) dd_Finder_listArcs_137 rfl rfl rfl rfl ?_
            refine R_if dd_Finder_listArcs_139 rfl rfl (fun (c17 : 0 = 0) => ?_) (fun (c17 : 0 ≠ 0) => ?_)
            · skip
              refine R_ld (v := .inr (.inr (q + 7 + v5))) dd_Finder_listArcs_150 rfl rfl rfl rfl ?_
              refine R_gf (v := .inl (rd h (q + 7 + v5) 2)) dd_Finder_listArcs_152 fd_2_94 (io_d hq (by omega)) (congrArg (fun z : Int => (Sum.inl z : LV)) ((rdw_ne (by omega)).trans (rdw_ne (by omega)))) rfl ?_
              obtain ⟨s5, k⟩ := k
              refine R_iast (n := 14) dd_Finder_listArcs_155 ia_93 la_93 s5 rfl ?_
              refine R_ld (v := .inr (.inr 90)) dd_Finder_listArcs_156 rfl rfl rfl rfl ?_
              refine R_A dd_Finder_listArcs_157 rfl rfl rfl rfl ?_
              refine R_gf (v := .inl (rd h 90 7)) dd_Finder_listArcs_158 fd_2_81 io_90 (congrArg (fun z : Int => (Sum.inl z : LV)) ((rdw_ne (by decide)).trans ((rdw_ne (by decide)).trans (rdw_ne (by decide))))) rfl ?_
              refine R_ic dd_Finder_listArcs_161 (by decide) rfl ?_
              obtain ⟨s6, k⟩ := k
              refine R_iadd (c := (rd h 90 7) + 1) dd_Finder_listArcs_162 (by omega) s6 rfl ?_
              refine R_pf (z := ((rd h 90 7) + 1)) dd_Finder_listArcs_163 fd_2_81 io_90 fn_2_7 rfl rfl ?_
              refine R_goto dd_Finder_listArcs_166 rfl ?_
              refine R_inc (y := v5 + 1) (ls' := [some (.inr (.inr 90)), some (.inr (.inr q)), some (.inr (.inr 60)), some (.inl v3), some (.inl v4), some (.inl (v5 + 1)), some (.inr (.inr (q + 7 + v5))), some (.inl 0)]) dd_Finder_listArcs_194 rfl (by decide) (by omega) (by omega) rfl rfl ?_
              refine R_goto dd_Finder_listArcs_197 rfl ?_
              exact k
            · exact absurd c17 (by omega)
          · exact absurd c16 (by omega)
    · replace k := k.2 c12
      refine R_ic dd_Finder_listArcs_69 (by decide) rfl ?_
      refine R_goto dd_Finder_listArcs_70 rfl ?_
      refine R_st (ls' := [some (.inr (.inr 90)), some (.inr (.inr q)), some (.inr (.inr 60)), some (.inl v3), some (.inl v4), some (.inl v5), some (.inr (.inr (q + 7 + v5))), some (.inl 1)]) dd_Finder_listArcs_74 rfl rfl rfl (Nat.le_of_ble_eq_true rfl) rfl rfl ?_
      refine R_ld (v := .inl 1) dd_Finder_listArcs_76 rfl rfl rfl rfl ?_
      refine R_if dd_Finder_listArcs_78 rfl rfl (fun (c18 : 1 ≠ 0) => ?_) (fun (c18 : 1 = 0) => ?_)
      · skip
        refine R_ld (v := .inr (.inr 90)) dd_Finder_listArcs_91 rfl rfl rfl rfl ?_
        refine R_gf (v := .inr (.inr 91)) dd_Finder_listArcs_92 fd_2_9 io_90 (congrArg (fun z : Int => (Sum.inr (Sum.inr z) : LV)) (rf_90_8 hF)) rfl ?_
        refine R_ld (v := .inr (.inr 90)) dd_Finder_listArcs_95 rfl rfl rfl rfl ?_
        refine R_gf (v := .inl (rd h 90 7)) dd_Finder_listArcs_96 fd_2_81 io_90 (congrArg (fun z : Int => (Sum.inl z : LV)) (rfl)) rfl ?_
        refine R_ld (v := .inl v5) dd_Finder_listArcs_99 rfl rfl rfl rfl ?_
        obtain ⟨s7, k⟩ := k
        refine R_iast (n := 14) dd_Finder_listArcs_101 ia_91 la_91 s7 rfl ?_
        refine R_ld (v := .inr (.inr 90)) dd_Finder_listArcs_102 rfl rfl rfl rfl ?_
        refine R_gf (v := .inr (.inr 92)) dd_Finder_listArcs_103 fd_2_15 io_90 (congrArg (fun z : Int => (Sum.inr (Sum.inr z) : LV)) ((rdw_ne (by decide)).trans (rf_90_9 hF))) rfl ?_
        refine R_ld (v := .inr (.inr 90)) dd_Finder_listArcs_106 rfl rfl rfl rfl ?_
        refine R_gf (v := .inl (rd h 90 7)) dd_Finder_listArcs_107 fd_2_81 io_90 (congrArg (fun z : Int => (Sum.inl z : LV)) (rdw_ne (by decide))) rfl ?_
        refine R_ld (v := .inl 1) dd_Finder_listArcs_110 rfl rfl rfl rfl ?_
        refine R_if dd_Finder_listArcs_112 rfl rfl (fun (c19 : 1 = 0) => ?_) (fun (c19 : 1 ≠ 0) => ?_)
        · exact absurd c19 (by omega)
        · skip
          refine R_ld (v := .inr (.inr (q + 7 + v5))) dd_Finder_listArcs_115 rfl rfl rfl rfl ?_
          refine R_gf (v := .inl (rd h (q + 7 + v5) 2)) dd_Finder_listArcs_117 fd_2_94 (io_d hq (by omega)) (congrArg (fun z : Int => (Sum.inl z : LV)) (rdw_ne (by omega))) rfl ?_
          refine R_goto dd_Finder_listArcs_120 rfl ?_
          obtain ⟨s8, k⟩ := k
          refine R_iast (n := 14) dd_Finder_listArcs_128 ia_92 la_92 s8 rfl ?_
          refine R_ld (v := .inr (.inr 90)) dd_Finder_listArcs_129 rfl rfl rfl rfl ?_
          refine R_gf (v := .inr (.inr 93)) dd_Finder_listArcs_130 fd_2_18 io_90 (congrArg (fun z : Int => (Sum.inr (Sum.inr z) : LV)) ((rdw_ne (by decide)).trans ((rdw_ne (by decide)).trans (rf_90_10 hF)))) rfl ?_
          refine R_ld (v := .inr (.inr 90)) dd_Finder_listArcs_133 rfl rfl rfl rfl ?_
          refine R_gf (v := .inl (rd h 90 7)) dd_Finder_listArcs_134 fd_2_81 io_90 (congrArg (fun z : Int => (Sum.inl z : LV)) ((rdw_ne (by decide)).trans (rdw_ne (by decide)))) rfl ?_
          refine R_ld (v := .inl 1) dd_Finder_listArcs_137 rfl rfl rfl rfl ?_
          refine R_if dd_Finder_listArcs_139 rfl rfl (fun (c20 : 1 = 0) => ?_) (fun (c20 : 1 ≠ 0) => ?_)
          · exact absurd c20 (by omega)
          · skip
            refine R_ld (v := .inr (.inr (q + 7 + v5))) dd_Finder_listArcs_142 rfl rfl rfl rfl ?_
            refine R_gf (v := .inl (rd h (q + 7 + v5) 3)) dd_Finder_listArcs_144 fd_2_99 (io_d hq (by omega)) (congrArg (fun z : Int => (Sum.inl z : LV)) ((rdw_ne (by omega)).trans (rdw_ne (by omega)))) rfl ?_
            refine R_goto dd_Finder_listArcs_147 rfl ?_
            obtain ⟨s9, k⟩ := k
            refine R_iast (n := 14) dd_Finder_listArcs_155 ia_93 la_93 s9 rfl ?_
            refine R_ld (v := .inr (.inr 90)) dd_Finder_listArcs_156 rfl rfl rfl rfl ?_
            refine R_A dd_Finder_listArcs_157 rfl rfl rfl rfl ?_
            refine R_gf (v := .inl (rd h 90 7)) dd_Finder_listArcs_158 fd_2_81 io_90 (congrArg (fun z : Int => (Sum.inl z : LV)) ((rdw_ne (by decide)).trans ((rdw_ne (by decide)).trans (rdw_ne (by decide))))) rfl ?_
            refine R_ic dd_Finder_listArcs_161 (by decide) rfl ?_
            obtain ⟨s10, k⟩ := k
            refine R_iadd (c := (rd h 90 7) + 1) dd_Finder_listArcs_162 (by omega) s10 rfl ?_
            refine R_pf (z := ((rd h 90 7) + 1)) dd_Finder_listArcs_163 fd_2_81 io_90 fn_2_7 rfl rfl ?_
            refine R_goto dd_Finder_listArcs_166 rfl ?_
            refine R_inc (y := v5 + 1) (ls' := [some (.inr (.inr 90)), some (.inr (.inr q)), some (.inr (.inr 60)), some (.inl v3), some (.inl v4), some (.inl (v5 + 1)), some (.inr (.inr (q + 7 + v5))), some (.inl 1)]) dd_Finder_listArcs_194 rfl (by decide) (by omega) (by omega) rfl rfl ?_
            refine R_goto dd_Finder_listArcs_197 rfl ?_
            exact k
      · exact absurd c18 (by omega)
theorem B_Finder_grow_0 {xs : Nat → Int} {xl e : Nat} {h : LH} {Q : Option LV → LH → Prop} {v2 v3 : Int} (hF : RF h) (r_v2 : 0 ≤ v2 ∧ v2 ≤ 14)
    (k : (v2 < (rd h 90 7) →
        Rn xs xl e mm_Finder_grow 15 [some (.inr (.inr 90)), some (.inr (.inr 59)), some (.inl v2), some (.inl v3), none, none, none, none] [] h Q) ∧
      ((rd h 90 7) ≤ v2 →
        (∃ c, c < e ∧ Rn xs xl c mm_Finder_weigh 0 [some (.inr (.inr 90)), some (.inr (.inr 59)), some (.inl v3), none, none, none] [] h (fun r h' => Rn xs xl e mm_Finder_grow 14 [some (.inr (.inr 90)), some (.inr (.inr 59)), some (.inl v2), some (.inl v3), none, none, none, none] (r.toList ++ []) h' Q)))) :
    Rn xs xl e mm_Finder_grow 0 [some (.inr (.inr 90)), some (.inr (.inr 59)), some (.inl v2), some (.inl v3), none, none, none, none] [] h Q := by
  refine R_ld (v := .inl v2) dd_Finder_grow_0 rfl rfl rfl rfl ?_
  refine R_ld (v := .inr (.inr 90)) dd_Finder_grow_1 rfl rfl rfl rfl ?_
  refine R_gf (v := .inl (rd h 90 7)) dd_Finder_grow_2 fd_2_81 io_90 (congrArg (fun z : Int => (Sum.inl z : LV)) (rfl)) rfl ?_
  refine R_icmp dd_Finder_grow_5 rfl rfl (fun (c2 : v2 < (rd h 90 7)) => ?_) (fun (c2 : (rd h 90 7) ≤ v2) => ?_)
  · replace k := k.1 c2
    exact k
  · replace k := k.2 c2
    refine R_ld (v := .inr (.inr 90)) dd_Finder_grow_8 rfl rfl rfl rfl ?_
    refine R_ld (v := .inr (.inr 59)) dd_Finder_grow_9 rfl rfl rfl rfl ?_
    refine R_ld (v := .inl v3) dd_Finder_grow_10 rfl rfl rfl rfl ?_
    obtain ⟨c, hc, k⟩ := k
    exact R_call (as := [.inr (.inr 90), .inr (.inr 59), .inl v3]) (rest := []) (M' := mm_Finder_weigh) (ls0 := [some (.inr (.inr 90)), some (.inr (.inr 59)), some (.inl v3), none, none, none]) dd_Finder_grow_11 rfl rfl (cw_v cw_2_111 io_90 rfl rfl (Nat.le_of_ble_eq_true rfl) (Nat.le_of_ble_eq_true rfl)) mt_Finder_weigh rfl hc rfl k
theorem B_Finder_grow_15 {xs : Nat → Int} {xl e : Nat} {h : LH} {Q : Option LV → LH → Prop} {v2 v3 : Int} (hF : RF h) (r_v2 : 0 ≤ v2 ∧ v2 ≤ 13)
    (k : Rn xs xl e mm_Finder_grow 45 [some (.inr (.inr 90)), some (.inr (.inr 59)), some (.inl v2), some (.inl v3), some (.inl (10 * v2)), some (.inl (10 * v2 + 10)), none, none] [] (cpyL h 94 (10 * v2) 94 (10 * v2 + 10) 10 ++ h) Q) :
    Rn xs xl e mm_Finder_grow 15 [some (.inr (.inr 90)), some (.inr (.inr 59)), some (.inl v2), some (.inl v3), none, none, none, none] [] h Q := by
  refine R_ld (v := .inl v2) dd_Finder_grow_15 rfl rfl rfl rfl ?_
  refine R_bi dd_Finder_grow_16 (by decide) rfl ?_
  refine R_imul (c := 10 * v2) dd_Finder_grow_18 (by omega) (by omega) rfl ?_
  refine R_st (ls' := [some (.inr (.inr 90)), some (.inr (.inr 59)), some (.inl v2), some (.inl v3), some (.inl (10 * v2)), none, none, none]) dd_Finder_grow_19 rfl rfl rfl (Nat.le_of_ble_eq_true rfl) rfl rfl ?_
  refine R_ld (v := .inl (10 * v2)) dd_Finder_grow_21 rfl rfl rfl rfl ?_
  refine R_bi dd_Finder_grow_23 (by decide) rfl ?_
  refine R_iadd (c := 10 * v2 + 10) dd_Finder_grow_25 (by omega) (by omega) rfl ?_
  refine R_st (ls' := [some (.inr (.inr 90)), some (.inr (.inr 59)), some (.inl v2), some (.inl v3), some (.inl (10 * v2)), some (.inl (10 * v2 + 10)), none, none]) dd_Finder_grow_26 rfl rfl rfl (Nat.le_of_ble_eq_true rfl) rfl rfl ?_
  refine R_ld (v := .inr (.inr 90)) dd_Finder_grow_28 rfl rfl rfl rfl ?_
  refine R_gf (v := .inr (.inr 94)) dd_Finder_grow_29 fd_2_21 io_90 (congrArg (fun z : Int => (Sum.inr (Sum.inr z) : LV)) (rf_90_11 hF)) rfl ?_
  refine R_ld (v := .inl (10 * v2)) dd_Finder_grow_32 rfl rfl rfl rfl ?_
  refine R_ld (v := .inr (.inr 90)) dd_Finder_grow_34 rfl rfl rfl rfl ?_
  refine R_gf (v := .inr (.inr 94)) dd_Finder_grow_35 fd_2_21 io_90 (congrArg (fun z : Int => (Sum.inr (Sum.inr z) : LV)) (rf_90_11 hF)) rfl ?_
  refine R_ld (v := .inl (10 * v2 + 10)) dd_Finder_grow_38 rfl rfl rfl rfl ?_
  refine R_bi dd_Finder_grow_40 (by decide) rfl ?_
  refine R_acopy (n := 150) (m := 150) dd_Finder_grow_42 (by decide +kernel) (by decide +kernel) ia_94 ia_94 la_94 la_94 (by omega) (Nat.le_of_ble_eq_true rfl) rfl ?_
  exact k
theorem B_Finder_grow_14 {xs : Nat → Int} {xl e : Nat} {h : LH} {Q : Option LV → LH → Prop} {v2 v3 : Int} (hF : RF h)
    (k : Q none h) :
    Rn xs xl e mm_Finder_grow 14 [some (.inr (.inr 90)), some (.inr (.inr 59)), some (.inl v2), some (.inl v3), none, none, none, none] [] h Q := by
  exact R_vret dd_Finder_grow_14 rfl k
theorem B_Finder_grow_45 {xs : Nat → Int} {xl e : Nat} {h : LH} {Q : Option LV → LH → Prop} {v2 v3 v4 v5 : Int} (hF : RF h) (r_v2 : 0 ≤ v2 ∧ v2 ≤ 13)
    (k : (∃ c, c < e ∧ Rn xs xl c mm_Finder_grow 0 [some (.inr (.inr 90)), some (.inr (.inr 59)), some (.inl (v2 + 1)), some (.inl v3), none, none, none, none] [] h (fun r h' => Rn xs xl e mm_Finder_grow 54 [some (.inr (.inr 90)), some (.inr (.inr 59)), some (.inl v2), some (.inl v3), some (.inl v4), some (.inl v5), none, none] (r.toList ++ []) h' Q))) :
    Rn xs xl e mm_Finder_grow 45 [some (.inr (.inr 90)), some (.inr (.inr 59)), some (.inl v2), some (.inl v3), some (.inl v4), some (.inl v5), none, none] [] h Q := by
  refine R_ld (v := .inr (.inr 90)) dd_Finder_grow_45 rfl rfl rfl rfl ?_
  refine R_ld (v := .inr (.inr 59)) dd_Finder_grow_46 rfl rfl rfl rfl ?_
  refine R_ld (v := .inl v2) dd_Finder_grow_47 rfl rfl rfl rfl ?_
  refine R_ic dd_Finder_grow_48 (by decide) rfl ?_
  refine R_iadd (c := v2 + 1) dd_Finder_grow_49 (by omega) (by omega) rfl ?_
  refine R_ld (v := .inl v3) dd_Finder_grow_50 rfl rfl rfl rfl ?_
  obtain ⟨c, hc, k⟩ := k
  exact R_call (as := [.inr (.inr 90), .inr (.inr 59), .inl (v2 + 1), .inl v3]) (rest := []) (M' := mm_Finder_grow) (ls0 := [some (.inr (.inr 90)), some (.inr (.inr 59)), some (.inl (v2 + 1)), some (.inl v3), none, none, none, none]) dd_Finder_grow_51 rfl rfl (cw_v cw_2_60 io_90 rfl rfl (Nat.le_of_ble_eq_true rfl) (Nat.le_of_ble_eq_true rfl)) mt_Finder_grow rfl hc rfl k
theorem B_Finder_grow_54 {xs : Nat → Int} {xl e : Nat} {h : LH} {Q : Option LV → LH → Prop} {v2 v3 v4 v5 : Int} (hF : RF h)
    (k : Rn xs xl e mm_Finder_grow 57 [some (.inr (.inr 90)), some (.inr (.inr 59)), some (.inl v2), some (.inl v3), some (.inl v4), some (.inl v5), some (.inl 0), none] [] h Q) :
    Rn xs xl e mm_Finder_grow 54 [some (.inr (.inr 90)), some (.inr (.inr 59)), some (.inl v2), some (.inl v3), some (.inl v4), some (.inl v5), none, none] [] h Q := by
  refine R_ic dd_Finder_grow_54 (by decide) rfl ?_
  refine R_st (ls' := [some (.inr (.inr 90)), some (.inr (.inr 59)), some (.inl v2), some (.inl v3), some (.inl v4), some (.inl v5), some (.inl 0), none]) dd_Finder_grow_55 rfl rfl rfl (Nat.le_of_ble_eq_true rfl) rfl rfl ?_
  exact k
theorem B_Finder_grow_57 {xs : Nat → Int} {xl e : Nat} {h : LH} {Q : Option LV → LH → Prop} {v2 v3 v4 v5 v6 : Int} {o7 : Option LV} (hF : RF h) (r_v2 : 0 ≤ v2 ∧ v2 ≤ 13) (r_v6 : 0 ≤ v6 ∧ v6 ≤ 10)
    (k : (10 ≤ v6 →
        Rn xs xl e mm_Finder_grow 143 [some (.inr (.inr 90)), some (.inr (.inr 59)), some (.inl v2), some (.inl v3), some (.inl v4), some (.inl v5), some (.inl v6), o7] [] h Q) ∧
      (v6 < 10 →
        (-2147483648 ≤ v4 + v6 ∧ v4 + v6 ≤ 2147483647) ∧
        (0 ≤ v4 + v6 ∧ v4 + v6 < 150) ∧
        ((zand (zshr (rd h 94 (v4 + v6)) (rd h 92 v2)) 1) = 0 →
          (-2147483648 ≤ v5 + v6 ∧ v5 + v6 ≤ 2147483647) ∧
          (-2147483648 ≤ v4 + v6 ∧ v4 + v6 ≤ 2147483647) ∧
          (0 ≤ v4 + v6 ∧ v4 + v6 < 150) ∧
          (0 ≤ v5 + v6 ∧ v5 + v6 < 150) ∧
          Rn xs xl e mm_Finder_grow 57 [some (.inr (.inr 90)), some (.inr (.inr 59)), some (.inl v2), some (.inl v3), some (.inl v4), some (.inl v5), some (.inl (v6 + 1)), some (.inl 0)] [] (wr h 94 (v5 + v6) (zor (rd h 94 (v4 + v6)) 0)) Q) ∧
        ((zand (zshr (rd h 94 (v4 + v6)) (rd h 92 v2)) 1) ≠ 0 →
          (-2147483648 ≤ v5 + v6 ∧ v5 + v6 ≤ 2147483647) ∧
          (-2147483648 ≤ v4 + v6 ∧ v4 + v6 ≤ 2147483647) ∧
          (0 ≤ v4 + v6 ∧ v4 + v6 < 150) ∧
          (-2147483648 ≤ v4 + (rd h 93 v2) ∧ v4 + (rd h 93 v2) ≤ 2147483647) ∧
          (0 ≤ v4 + (rd h 93 v2) ∧ v4 + (rd h 93 v2) < 150) ∧
          (0 ≤ v5 + v6 ∧ v5 + v6 < 150) ∧
          Rn xs xl e mm_Finder_grow 57 [some (.inr (.inr 90)), some (.inr (.inr 59)), some (.inl v2), some (.inl v3), some (.inl v4), some (.inl v5), some (.inl (v6 + 1)), some (.inl 1)] [] (wr h 94 (v5 + v6) (zor (rd h 94 (v4 + v6)) (rd h 94 (v4 + (rd h 93 v2))))) Q))) :
    Rn xs xl e mm_Finder_grow 57 [some (.inr (.inr 90)), some (.inr (.inr 59)), some (.inl v2), some (.inl v3), some (.inl v4), some (.inl v5), some (.inl v6), o7] [] h Q := by
  refine R_ld (v := .inl v6) dd_Finder_grow_57 rfl rfl rfl rfl ?_
  refine R_bi dd_Finder_grow_59 (by decide) rfl ?_
  refine R_icmp dd_Finder_grow_61 rfl rfl (fun (c13 : 10 ≤ v6) => ?_) (fun (c13 : v6 < 10) => ?_)
  · replace k := k.1 c13
    exact k
  · replace k := k.2 c13
    refine R_ld (v := .inr (.inr 90)) dd_Finder_grow_64 rfl rfl rfl rfl ?_
    refine R_gf (v := .inr (.inr 94)) dd_Finder_grow_65 fd_2_21 io_90 (congrArg (fun z : Int => (Sum.inr (Sum.inr z) : LV)) (rf_90_11 hF)) rfl ?_
    refine R_ld (v := .inl v4) dd_Finder_grow_68 rfl rfl rfl rfl ?_
    refine R_ld (v := .inl v6) dd_Finder_grow_70 rfl rfl rfl rfl ?_
    obtain ⟨s1, k⟩ := k
    refine R_iadd (c := v4 + v6) dd_Finder_grow_72 (by omega) s1 rfl ?_
    obtain ⟨s2, k⟩ := k
    refine R_iald (v := (rd h 94 (v4 + v6))) (n := 150) dd_Finder_grow_73 ia_94 la_94 s2 (rfl) rfl ?_
    refine R_ld (v := .inr (.inr 90)) dd_Finder_grow_74 rfl rfl rfl rfl ?_
    refine R_gf (v := .inr (.inr 92)) dd_Finder_grow_75 fd_2_15 io_90 (congrArg (fun z : Int => (Sum.inr (Sum.inr z) : LV)) (rf_90_9 hF)) rfl ?_
    refine R_ld (v := .inl v2) dd_Finder_grow_78 rfl rfl rfl rfl ?_
    refine R_iald (v := (rd h 92 v2)) (n := 14) dd_Finder_grow_79 ia_92 la_92 (by omega) (rfl) rfl ?_
    refine R_A dd_Finder_grow_80 rfl rfl rfl rfl ?_
    refine R_ic dd_Finder_grow_81 (by decide) rfl ?_
    refine R_A dd_Finder_grow_82 rfl rfl rfl rfl ?_
    refine R_if dd_Finder_grow_83 rfl rfl (fun (c14 : (zand (zshr (rd h 94 (v4 + v6)) (rd h 92 v2)) 1) = 0) => ?_) (fun (c14 : (zand (zshr (rd h 94 (v4 + v6)) (rd h 92 v2)) 1) ≠ 0) => ?_)
    · replace k := k.1 c14
      refine R_ic dd_Finder_grow_90 (by decide) rfl ?_
      refine R_st (ls' := [some (.inr (.inr 90)), some (.inr (.inr 59)), some (.inl v2), some (.inl v3), some (.inl v4), some (.inl v5), some (.inl v6), some (.inl 0)]) dd_Finder_grow_91 rfl rfl rfl (Nat.le_of_ble_eq_true rfl) rfl rfl ?_
      refine R_ld (v := .inr (.inr 90)) dd_Finder_grow_93 rfl rfl rfl rfl ?_
      refine R_gf (v := .inr (.inr 94)) dd_Finder_grow_94 fd_2_21 io_90 (congrArg (fun z : Int => (Sum.inr (Sum.inr z) : LV)) (rf_90_11 hF)) rfl ?_
      refine R_ld (v := .inl v5) dd_Finder_grow_97 rfl rfl rfl rfl ?_
      refine R_ld (v := .inl v6) dd_Finder_grow_99 rfl rfl rfl rfl ?_
      obtain ⟨s3, k⟩ := k
      refine R_iadd (c := v5 + v6) dd_Finder_grow_101 (by omega) s3 rfl ?_
      refine R_ld (v := .inr (.inr 90)) dd_Finder_grow_102 rfl rfl rfl rfl ?_
      refine R_gf (v := .inr (.inr 94)) dd_Finder_grow_103 fd_2_21 io_90 (congrArg (fun z : Int => (Sum.inr (Sum.inr z) : LV)) (rf_90_11 hF)) rfl ?_
      refine R_ld (v := .inl v4) dd_Finder_grow_106 rfl rfl rfl rfl ?_
      refine R_ld (v := .inl v6) dd_Finder_grow_108 rfl rfl rfl rfl ?_
      obtain ⟨s4, k⟩ := k
      refine R_iadd (c := v4 + v6) dd_Finder_grow_110 (by omega) s4 rfl ?_
      obtain ⟨s5, k⟩ := k
      refine R_iald (v := (rd h 94 (v4 + v6))) (n := 150) dd_Finder_grow_111 ia_94 la_94 s5 (rfl) rfl ?_
      refine R_ld (v := .inl 0) dd_Finder_grow_112 rfl rfl rfl rfl ?_
      refine R_if dd_Finder_grow_114 rfl rfl (fun (c15 : 0 = 0) => ?_) (fun (c15 : 0 ≠ 0) => ?_)
      · skip
        refine R_ic dd_Finder_grow_134 (by decide) rfl ?_
        refine R_A dd_Finder_grow_135 rfl rfl rfl rfl ?_
        obtain ⟨s6, k⟩ := k
        refine R_iast (n := 150) dd_Finder_grow_136 ia_94 la_94 s6 rfl ?_
        refine R_inc (y := v6 + 1) (ls' := [some (.inr (.inr 90)), some (.inr (.inr 59)), some (.inl v2), some (.inl v3), some (.inl v4), some (.inl v5), some (.inl (v6 + 1)), some (.inl 0)]) dd_Finder_grow_137 rfl (by decide) (by omega) (by omega) rfl rfl ?_
        refine R_goto dd_Finder_grow_140 rfl ?_
        exact k
      · exact absurd c15 (by omega)
    · replace k := k.2 c14
      refine R_ic dd_Finder_grow_86 (by decide) rfl ?_
      refine R_goto dd_Finder_grow_87 rfl ?_
      refine R_st (ls' := [some (.inr (.inr 90)), some (.inr (.inr 59)), some (.inl v2), some (.inl v3), some (.inl v4), some (.inl v5), some (.inl v6), some (.inl 1)]) dd_Finder_grow_91 rfl rfl rfl (Nat.le_of_ble_eq_true rfl) rfl rfl ?_
      refine R_ld (v := .inr (.inr 90)) dd_Finder_grow_93 rfl rfl rfl rfl ?_
      refine R_gf (v := .inr (.inr 94)) dd_Finder_grow_94 fd_2_21 io_90 (congrArg (fun z : Int => (Sum.inr (Sum.inr z) : LV)) (rf_90_11 hF)) rfl ?_
      refine R_ld (v := .inl v5) dd_Finder_grow_97 rfl rfl rfl rfl ?_
      refine R_ld (v := .inl v6) dd_Finder_grow_99 rfl rfl rfl rfl ?_
      obtain ⟨s7, k⟩ := k
      refine R_iadd (c := v5 + v6) dd_Finder_grow_101 (by omega) s7 rfl ?_
      refine R_ld (v := .inr (.inr 90)) dd_Finder_grow_102 rfl rfl rfl rfl ?_
      refine R_gf (v := .inr (.inr 94)) dd_Finder_grow_103 fd_2_21 io_90 (congrArg (fun z : Int => (Sum.inr (Sum.inr z) : LV)) (rf_90_11 hF)) rfl ?_
      refine R_ld (v := .inl v4) dd_Finder_grow_106 rfl rfl rfl rfl ?_
      refine R_ld (v := .inl v6) dd_Finder_grow_108 rfl rfl rfl rfl ?_
      obtain ⟨s8, k⟩ := k
      refine R_iadd (c := v4 + v6) dd_Finder_grow_110 (by omega) s8 rfl ?_
      obtain ⟨s9, k⟩ := k
      refine R_iald (v := (rd h 94 (v4 + v6))) (n := 150) dd_Finder_grow_111 ia_94 la_94 s9 (rfl) rfl ?_
      refine R_ld (v := .inl 1) dd_Finder_grow_112 rfl rfl rfl rfl ?_
      refine R_if dd_Finder_grow_114 rfl rfl (fun (c16 : 1 = 0) => ?_) (fun (c16 : 1 ≠ 0) => ?_)
      · exact absurd c16 (by omega)
      · skip
        refine R_ld (v := .inr (.inr 90)) dd_Finder_grow_117 rfl rfl rfl rfl ?_
        refine R_gf (v := .inr (.inr 94)) dd_Finder_grow_118 fd_2_21 io_90 (congrArg (fun z : Int => (Sum.inr (Sum.inr z) : LV)) (rf_90_11 hF)) rfl ?_
        refine R_ld (v := .inl v4) dd_Finder_grow_121 rfl rfl rfl rfl ?_
        refine R_ld (v := .inr (.inr 90)) dd_Finder_grow_123 rfl rfl rfl rfl ?_
        refine R_gf (v := .inr (.inr 93)) dd_Finder_grow_124 fd_2_18 io_90 (congrArg (fun z : Int => (Sum.inr (Sum.inr z) : LV)) (rf_90_10 hF)) rfl ?_
        refine R_ld (v := .inl v2) dd_Finder_grow_127 rfl rfl rfl rfl ?_
        refine R_iald (v := (rd h 93 v2)) (n := 14) dd_Finder_grow_128 ia_93 la_93 (by omega) (rfl) rfl ?_
        obtain ⟨s10, k⟩ := k
        refine R_iadd (c := v4 + (rd h 93 v2)) dd_Finder_grow_129 (by omega) s10 rfl ?_
        obtain ⟨s11, k⟩ := k
        refine R_iald (v := (rd h 94 (v4 + (rd h 93 v2)))) (n := 150) dd_Finder_grow_130 ia_94 la_94 s11 (rfl) rfl ?_
        refine R_goto dd_Finder_grow_131 rfl ?_
        refine R_A dd_Finder_grow_135 rfl rfl rfl rfl ?_
        obtain ⟨s12, k⟩ := k
        refine R_iast (n := 150) dd_Finder_grow_136 ia_94 la_94 s12 rfl ?_
        refine R_inc (y := v6 + 1) (ls' := [some (.inr (.inr 90)), some (.inr (.inr 59)), some (.inl v2), some (.inl v3), some (.inl v4), some (.inl v5), some (.inl (v6 + 1)), some (.inl 1)]) dd_Finder_grow_137 rfl (by decide) (by omega) (by omega) rfl rfl ?_
        refine R_goto dd_Finder_grow_140 rfl ?_
        exact k
theorem B_Finder_grow_143 {xs : Nat → Int} {xl e : Nat} {h : LH} {Q : Option LV → LH → Prop} {v2 v3 v4 v5 v6 : Int} {o7 : Option LV} (hF : RF h) (r_v2 : 0 ≤ v2 ∧ v2 ≤ 13)
    (k : (∃ c, c < e ∧ Rn xs xl c mm_Finder_grow 0 [some (.inr (.inr 90)), some (.inr (.inr 59)), some (.inl (v2 + 1)), some (.inl (zor v3 (zshl 1 (rd h 91 v2)))), none, none, none, none] [] h (fun r h' => Rn xs xl e mm_Finder_grow 161 [some (.inr (.inr 90)), some (.inr (.inr 59)), some (.inl v2), some (.inl v3), some (.inl v4), some (.inl v5), some (.inl v6), o7] (r.toList ++ []) h' Q))) :
    Rn xs xl e mm_Finder_grow 143 [some (.inr (.inr 90)), some (.inr (.inr 59)), some (.inl v2), some (.inl v3), some (.inl v4), some (.inl v5), some (.inl v6), o7] [] h Q := by
  refine R_ld (v := .inr (.inr 90)) dd_Finder_grow_143 rfl rfl rfl rfl ?_
  refine R_ld (v := .inr (.inr 59)) dd_Finder_grow_144 rfl rfl rfl rfl ?_
  refine R_ld (v := .inl v2) dd_Finder_grow_145 rfl rfl rfl rfl ?_
  refine R_ic dd_Finder_grow_146 (by decide) rfl ?_
  refine R_iadd (c := v2 + 1) dd_Finder_grow_147 (by omega) (by omega) rfl ?_
  refine R_ld (v := .inl v3) dd_Finder_grow_148 rfl rfl rfl rfl ?_
  refine R_ic dd_Finder_grow_149 (by decide) rfl ?_
  refine R_ld (v := .inr (.inr 90)) dd_Finder_grow_150 rfl rfl rfl rfl ?_
  refine R_gf (v := .inr (.inr 91)) dd_Finder_grow_151 fd_2_9 io_90 (congrArg (fun z : Int => (Sum.inr (Sum.inr z) : LV)) (rf_90_8 hF)) rfl ?_
  refine R_ld (v := .inl v2) dd_Finder_grow_154 rfl rfl rfl rfl ?_
  refine R_iald (v := (rd h 91 v2)) (n := 14) dd_Finder_grow_155 ia_91 la_91 (by omega) (rfl) rfl ?_
  refine R_A dd_Finder_grow_156 rfl rfl rfl rfl ?_
  refine R_A dd_Finder_grow_157 rfl rfl rfl rfl ?_
  obtain ⟨c, hc, k⟩ := k
  exact R_call (as := [.inr (.inr 90), .inr (.inr 59), .inl (v2 + 1), .inl (zor v3 (zshl 1 (rd h 91 v2)))]) (rest := []) (M' := mm_Finder_grow) (ls0 := [some (.inr (.inr 90)), some (.inr (.inr 59)), some (.inl (v2 + 1)), some (.inl (zor v3 (zshl 1 (rd h 91 v2)))), none, none, none, none]) dd_Finder_grow_158 rfl rfl (cw_v cw_2_60 io_90 rfl rfl (Nat.le_of_ble_eq_true rfl) (Nat.le_of_ble_eq_true rfl)) mt_Finder_grow rfl hc rfl k
theorem B_Finder_grow_161 {xs : Nat → Int} {xl e : Nat} {h : LH} {Q : Option LV → LH → Prop} {v2 v3 v4 v5 v6 : Int} {o7 : Option LV} (hF : RF h)
    (k : Q none h) :
    Rn xs xl e mm_Finder_grow 161 [some (.inr (.inr 90)), some (.inr (.inr 59)), some (.inl v2), some (.inl v3), some (.inl v4), some (.inl v5), some (.inl v6), o7] [] h Q := by
  exact R_vret dd_Finder_grow_161 rfl k
theorem B_Finder_weigh_0 {xs : Nat → Int} {xl e : Nat} {h : LH} {Q : Option LV → LH → Prop} {v2 : Int} (hF : RF h)
    (k : (-2147483648 ≤ 10 * (rd h 90 7) ∧ 10 * (rd h 90 7) ≤ 2147483647) ∧
      Rn xs xl e mm_Finder_weigh 11 [some (.inr (.inr 90)), some (.inr (.inr 59)), some (.inl v2), some (.inl (10 * (rd h 90 7))), some (.inl 0), none] [] h Q) :
    Rn xs xl e mm_Finder_weigh 0 [some (.inr (.inr 90)), some (.inr (.inr 59)), some (.inl v2), none, none, none] [] h Q := by
  refine R_ld (v := .inr (.inr 90)) dd_Finder_weigh_0 rfl rfl rfl rfl ?_
  refine R_gf (v := .inl (rd h 90 7)) dd_Finder_weigh_1 fd_2_81 io_90 (congrArg (fun z : Int => (Sum.inl z : LV)) (rfl)) rfl ?_
  refine R_bi dd_Finder_weigh_4 (by decide) rfl ?_
  obtain ⟨s1, k⟩ := k
  refine R_imul (c := 10 * (rd h 90 7)) dd_Finder_weigh_6 (by omega) s1 rfl ?_
  refine R_st (ls' := [some (.inr (.inr 90)), some (.inr (.inr 59)), some (.inl v2), some (.inl (10 * (rd h 90 7))), none, none]) dd_Finder_weigh_7 rfl rfl rfl (Nat.le_of_ble_eq_true rfl) rfl rfl ?_
  refine R_ic dd_Finder_weigh_8 (by decide) rfl ?_
  refine R_st (ls' := [some (.inr (.inr 90)), some (.inr (.inr 59)), some (.inl v2), some (.inl (10 * (rd h 90 7))), some (.inl 0), none]) dd_Finder_weigh_9 rfl rfl rfl (Nat.le_of_ble_eq_true rfl) rfl rfl ?_
  exact k
theorem B_Finder_weigh_11 {xs : Nat → Int} {xl e : Nat} {h : LH} {Q : Option LV → LH → Prop} {v2 v3 v4 : Int} {o5 : Option LV} (hF : RF h) (r_v4 : 0 ≤ v4 ∧ v4 ≤ 10)
    (k : ((rd h 59 4) ≤ v4 →
        Rn xs xl e mm_Finder_weigh 67 [some (.inr (.inr 90)), some (.inr (.inr 59)), some (.inl v2), some (.inl v3), some (.inl v4), o5] [] h Q) ∧
      (v4 < (rd h 59 4) →
        (0 ≤ v4 ∧ v4 < 10) ∧
        (-2147483648 ≤ v3 + (rd h 65 v4) ∧ v3 + (rd h 65 v4) ≤ 2147483647) ∧
        (0 ≤ v3 + (rd h 65 v4) ∧ v3 + (rd h 65 v4) < 150) ∧
        (0 ≤ v4 ∧ v4 < 10) ∧
        ((zand (zshr (rd h 94 (v3 + (rd h 65 v4))) (rd h 66 v4)) 1) = (zand (zshr (rd h 59 7) v4) 1) →
          Rn xs xl e mm_Finder_weigh 11 [some (.inr (.inr 90)), some (.inr (.inr 59)), some (.inl v2), some (.inl v3), some (.inl (v4 + 1)), some (.inl (zand (zshr (rd h 94 (v3 + (rd h 65 v4))) (rd h 66 v4)) 1))] [] h Q) ∧
        ((zand (zshr (rd h 94 (v3 + (rd h 65 v4))) (rd h 66 v4)) 1) ≠ (zand (zshr (rd h 59 7) v4) 1) →
          Q none h))) :
    Rn xs xl e mm_Finder_weigh 11 [some (.inr (.inr 90)), some (.inr (.inr 59)), some (.inl v2), some (.inl v3), some (.inl v4), o5] [] h Q := by
  refine R_ld (v := .inl v4) dd_Finder_weigh_11 rfl rfl rfl rfl ?_
  refine R_ld (v := .inr (.inr 59)) dd_Finder_weigh_13 rfl rfl rfl rfl ?_
  refine R_gf (v := .inl (rd h 59 4)) dd_Finder_weigh_14 fd_2_121 io_59 (congrArg (fun z : Int => (Sum.inl z : LV)) (rfl)) rfl ?_
  refine R_icmp dd_Finder_weigh_17 rfl rfl (fun (c5 : (rd h 59 4) ≤ v4) => ?_) (fun (c5 : v4 < (rd h 59 4)) => ?_)
  · replace k := k.1 c5
    exact k
  · replace k := k.2 c5
    refine R_ld (v := .inr (.inr 90)) dd_Finder_weigh_20 rfl rfl rfl rfl ?_
    refine R_gf (v := .inr (.inr 94)) dd_Finder_weigh_21 fd_2_21 io_90 (congrArg (fun z : Int => (Sum.inr (Sum.inr z) : LV)) (rf_90_11 hF)) rfl ?_
    refine R_ld (v := .inl v3) dd_Finder_weigh_24 rfl rfl rfl rfl ?_
    refine R_ld (v := .inr (.inr 59)) dd_Finder_weigh_25 rfl rfl rfl rfl ?_
    refine R_gf (v := .inr (.inr 65)) dd_Finder_weigh_26 fd_2_124 io_59 (congrArg (fun z : Int => (Sum.inr (Sum.inr z) : LV)) (rf_59_5 hF)) rfl ?_
    refine R_ld (v := .inl v4) dd_Finder_weigh_29 rfl rfl rfl rfl ?_
    obtain ⟨s1, k⟩ := k
    refine R_iald (v := (rd h 65 v4)) (n := 10) dd_Finder_weigh_31 ia_65 la_65 s1 (rfl) rfl ?_
    obtain ⟨s2, k⟩ := k
    refine R_iadd (c := v3 + (rd h 65 v4)) dd_Finder_weigh_32 (by omega) s2 rfl ?_
    obtain ⟨s3, k⟩ := k
    refine R_iald (v := (rd h 94 (v3 + (rd h 65 v4)))) (n := 150) dd_Finder_weigh_33 ia_94 la_94 s3 (rfl) rfl ?_
    refine R_ld (v := .inr (.inr 59)) dd_Finder_weigh_34 rfl rfl rfl rfl ?_
    refine R_gf (v := .inr (.inr 66)) dd_Finder_weigh_35 fd_2_127 io_59 (congrArg (fun z : Int => (Sum.inr (Sum.inr z) : LV)) (rf_59_6 hF)) rfl ?_
    refine R_ld (v := .inl v4) dd_Finder_weigh_38 rfl rfl rfl rfl ?_
    obtain ⟨s4, k⟩ := k
    refine R_iald (v := (rd h 66 v4)) (n := 10) dd_Finder_weigh_40 ia_66 la_66 s4 (rfl) rfl ?_
    refine R_A dd_Finder_weigh_41 rfl rfl rfl rfl ?_
    refine R_ic dd_Finder_weigh_42 (by decide) rfl ?_
    refine R_A dd_Finder_weigh_43 rfl rfl rfl rfl ?_
    refine R_st (ls' := [some (.inr (.inr 90)), some (.inr (.inr 59)), some (.inl v2), some (.inl v3), some (.inl v4), some (.inl (zand (zshr (rd h 94 (v3 + (rd h 65 v4))) (rd h 66 v4)) 1))]) dd_Finder_weigh_44 rfl rfl rfl (Nat.le_of_ble_eq_true rfl) rfl rfl ?_
    refine R_ld (v := .inl (zand (zshr (rd h 94 (v3 + (rd h 65 v4))) (rd h 66 v4)) 1)) dd_Finder_weigh_46 rfl rfl rfl rfl ?_
    refine R_ld (v := .inr (.inr 59)) dd_Finder_weigh_48 rfl rfl rfl rfl ?_
    refine R_gf (v := .inl (rd h 59 7)) dd_Finder_weigh_49 fd_2_130 io_59 (congrArg (fun z : Int => (Sum.inl z : LV)) (rfl)) rfl ?_
    refine R_ld (v := .inl v4) dd_Finder_weigh_52 rfl rfl rfl rfl ?_
    refine R_A dd_Finder_weigh_54 rfl rfl rfl rfl ?_
    refine R_ic dd_Finder_weigh_55 (by decide) rfl ?_
    refine R_A dd_Finder_weigh_56 rfl rfl rfl rfl ?_
    refine R_icmp dd_Finder_weigh_57 rfl rfl (fun (c6 : (zand (zshr (rd h 94 (v3 + (rd h 65 v4))) (rd h 66 v4)) 1) = (zand (zshr (rd h 59 7) v4) 1)) => ?_) (fun (c6 : (zand (zshr (rd h 94 (v3 + (rd h 65 v4))) (rd h 66 v4)) 1) ≠ (zand (zshr (rd h 59 7) v4) 1)) => ?_)
    · replace k := k.1 c6
      refine R_inc (y := v4 + 1) (ls' := [some (.inr (.inr 90)), some (.inr (.inr 59)), some (.inl v2), some (.inl v3), some (.inl (v4 + 1)), some (.inl (zand (zshr (rd h 94 (v3 + (rd h 65 v4))) (rd h 66 v4)) 1))]) dd_Finder_weigh_61 rfl (by decide) (by omega) (by omega) rfl rfl ?_
      refine R_goto dd_Finder_weigh_64 rfl ?_
      exact k
    · replace k := k.2 c6
      exact R_vret dd_Finder_weigh_60 rfl k
theorem B_Finder_weigh_67 {xs : Nat → Int} {xl e : Nat} {h : LH} {Q : Option LV → LH → Prop} {v2 v3 v4 : Int} {o5 : Option LV} (hF : RF h)
    (k : (-2147483648 ≤ (rd h 90 0) + 1 ∧ (rd h 90 0) + 1 ≤ 2147483647) ∧
      (∃ c, c < e ∧ Rn xs xl c mm_java_lang_Integer_bitCount 0 [some (.inl v2)] [] (wr (wr (wr h 90 0 ((rd h 90 0) + 1)) 90 1 (zand (rd h 90 1) v2)) 90 2 (zor (rd h 90 2) v2)) (fun r h' => Rn xs xl e mm_Finder_weigh 101 [some (.inr (.inr 90)), some (.inr (.inr 59)), some (.inl v2), some (.inl v3), some (.inl v4), o5] (r.toList ++ []) h' Q))) :
    Rn xs xl e mm_Finder_weigh 67 [some (.inr (.inr 90)), some (.inr (.inr 59)), some (.inl v2), some (.inl v3), some (.inl v4), o5] [] h Q := by
  refine R_ld (v := .inr (.inr 90)) dd_Finder_weigh_67 rfl rfl rfl rfl ?_
  refine R_A dd_Finder_weigh_68 rfl rfl rfl rfl ?_
  refine R_gf (v := .inl (rd h 90 0)) dd_Finder_weigh_69 fd_2_27 io_90 (congrArg (fun z : Int => (Sum.inl z : LV)) (rfl)) rfl ?_
  refine R_ic dd_Finder_weigh_72 (by decide) rfl ?_
  obtain ⟨s1, k⟩ := k
  refine R_iadd (c := (rd h 90 0) + 1) dd_Finder_weigh_73 (by omega) s1 rfl ?_
  refine R_pf (z := ((rd h 90 0) + 1)) dd_Finder_weigh_74 fd_2_27 io_90 fn_2_0 rfl rfl ?_
  refine R_ld (v := .inr (.inr 90)) dd_Finder_weigh_77 rfl rfl rfl rfl ?_
  refine R_A dd_Finder_weigh_78 rfl rfl rfl rfl ?_
  refine R_gf (v := .inl (rd h 90 1)) dd_Finder_weigh_79 fd_2_31 io_90 (congrArg (fun z : Int => (Sum.inl z : LV)) (rdw_nei (by omega))) rfl ?_
  refine R_ld (v := .inl v2) dd_Finder_weigh_82 rfl rfl rfl rfl ?_
  refine R_A dd_Finder_weigh_83 rfl rfl rfl rfl ?_
  refine R_pf (z := (zand (rd h 90 1) v2)) dd_Finder_weigh_84 fd_2_31 io_90 fn_2_1 rfl rfl ?_
  refine R_ld (v := .inr (.inr 90)) dd_Finder_weigh_87 rfl rfl rfl rfl ?_
  refine R_A dd_Finder_weigh_88 rfl rfl rfl rfl ?_
  refine R_gf (v := .inl (rd h 90 2)) dd_Finder_weigh_89 fd_2_34 io_90 (congrArg (fun z : Int => (Sum.inl z : LV)) ((rdw_nei (by omega)).trans (rdw_nei (by omega)))) rfl ?_
  refine R_ld (v := .inl v2) dd_Finder_weigh_92 rfl rfl rfl rfl ?_
  refine R_A dd_Finder_weigh_93 rfl rfl rfl rfl ?_
  refine R_pf (z := (zor (rd h 90 2) v2)) dd_Finder_weigh_94 fd_2_34 io_90 fn_2_2 rfl rfl ?_
  refine R_ld (v := .inl v2) dd_Finder_weigh_97 rfl rfl rfl rfl ?_
  obtain ⟨c, hc, k⟩ := k
  exact R_call (as := [.inl v2]) (rest := []) (M' := mm_java_lang_Integer_bitCount) (ls0 := [some (.inl v2)]) dd_Finder_weigh_98 rfl rfl (cw_s cw_2_102 rfl rfl (Nat.le_of_ble_eq_true rfl) (Nat.le_of_ble_eq_true rfl)) mt_java_lang_Integer_bitCount rfl hc rfl k
theorem B_Finder_weigh_101 {xs : Nat → Int} {xl e : Nat} {h : LH} {Q : Option LV → LH → Prop} {v2 v3 v4 w0 : Int} {o5 : Option LV} (hF : RF h)
    (k : ((rd h 90 3) ≠ (-1) →
        (∃ c, c < e ∧ Rn xs xl c mm_java_lang_Integer_bitCount 0 [some (.inl (rd h 90 3))] [] h (fun r h' => Rn xs xl e mm_Finder_weigh 123 [some (.inr (.inr 90)), some (.inr (.inr 59)), some (.inl v2), some (.inl v3), some (.inl w0), o5] (r.toList ++ []) h' Q))) ∧
      ((rd h 90 3) = (-1) →
        Rn xs xl e mm_Finder_weigh 125 [some (.inr (.inr 90)), some (.inr (.inr 59)), some (.inl v2), some (.inl v3), some (.inl w0), some (.inl 15)] [] h Q)) :
    Rn xs xl e mm_Finder_weigh 101 [some (.inr (.inr 90)), some (.inr (.inr 59)), some (.inl v2), some (.inl v3), some (.inl v4), o5] [.inl w0] h Q := by
  refine R_st (ls' := [some (.inr (.inr 90)), some (.inr (.inr 59)), some (.inl v2), some (.inl v3), some (.inl w0), o5]) dd_Finder_weigh_101 rfl rfl rfl (Nat.le_of_ble_eq_true rfl) rfl rfl ?_
  refine R_ld (v := .inr (.inr 90)) dd_Finder_weigh_103 rfl rfl rfl rfl ?_
  refine R_gf (v := .inl (rd h 90 3)) dd_Finder_weigh_104 fd_2_37 io_90 (congrArg (fun z : Int => (Sum.inl z : LV)) (rfl)) rfl ?_
  refine R_ic dd_Finder_weigh_107 (by decide) rfl ?_
  refine R_icmp dd_Finder_weigh_108 rfl rfl (fun (c2 : (rd h 90 3) ≠ (-1)) => ?_) (fun (c2 : (rd h 90 3) = (-1)) => ?_)
  · replace k := k.1 c2
    refine R_ld (v := .inr (.inr 90)) dd_Finder_weigh_116 rfl rfl rfl rfl ?_
    refine R_gf (v := .inl (rd h 90 3)) dd_Finder_weigh_117 fd_2_37 io_90 (congrArg (fun z : Int => (Sum.inl z : LV)) (rfl)) rfl ?_
    obtain ⟨c, hc, k⟩ := k
    exact R_call (as := [.inl (rd h 90 3)]) (rest := []) (M' := mm_java_lang_Integer_bitCount) (ls0 := [some (.inl (rd h 90 3))]) dd_Finder_weigh_120 rfl rfl (cw_s cw_2_102 rfl rfl (Nat.le_of_ble_eq_true rfl) (Nat.le_of_ble_eq_true rfl)) mt_java_lang_Integer_bitCount rfl hc rfl k
  · replace k := k.2 c2
    refine R_bi dd_Finder_weigh_111 (by decide) rfl ?_
    refine R_goto dd_Finder_weigh_113 rfl ?_
    refine R_st (ls' := [some (.inr (.inr 90)), some (.inr (.inr 59)), some (.inl v2), some (.inl v3), some (.inl w0), some (.inl 15)]) dd_Finder_weigh_123 rfl rfl rfl (Nat.le_of_ble_eq_true rfl) rfl rfl ?_
    exact k
theorem B_Finder_weigh_123 {xs : Nat → Int} {xl e : Nat} {h : LH} {Q : Option LV → LH → Prop} {v2 v3 v4 w0 : Int} {o5 : Option LV} (hF : RF h)
    (k : Rn xs xl e mm_Finder_weigh 125 [some (.inr (.inr 90)), some (.inr (.inr 59)), some (.inl v2), some (.inl v3), some (.inl v4), some (.inl w0)] [] h Q) :
    Rn xs xl e mm_Finder_weigh 123 [some (.inr (.inr 90)), some (.inr (.inr 59)), some (.inl v2), some (.inl v3), some (.inl v4), o5] [.inl w0] h Q := by
  refine R_st (ls' := [some (.inr (.inr 90)), some (.inr (.inr 59)), some (.inl v2), some (.inl v3), some (.inl v4), some (.inl w0)]) dd_Finder_weigh_123 rfl rfl rfl (Nat.le_of_ble_eq_true rfl) rfl rfl ?_
  exact k
theorem B_Finder_weigh_125 {xs : Nat → Int} {xl e : Nat} {h : LH} {Q : Option LV → LH → Prop} {v2 v3 v4 v5 : Int} (hF : RF h)
    (k : (v4 < v5 →
        Rn xs xl e mm_Finder_weigh 152 [some (.inr (.inr 90)), some (.inr (.inr 59)), some (.inl v2), some (.inl v3), some (.inl v4), some (.inl v5)] [] (wr h 90 3 v2) Q) ∧
      (v5 ≤ v4 →
        (v4 ≠ v5 →
          Rn xs xl e mm_Finder_weigh 152 [some (.inr (.inr 90)), some (.inr (.inr 59)), some (.inl v2), some (.inl v3), some (.inl v4), some (.inl v5)] [] h Q) ∧
        (v4 = v5 →
          ((rd h 90 3) ≤ v2 →
            Rn xs xl e mm_Finder_weigh 152 [some (.inr (.inr 90)), some (.inr (.inr 59)), some (.inl v2), some (.inl v3), some (.inl v4), some (.inl v5)] [] h Q) ∧
          (v2 < (rd h 90 3) →
            Rn xs xl e mm_Finder_weigh 152 [some (.inr (.inr 90)), some (.inr (.inr 59)), some (.inl v2), some (.inl v3), some (.inl v4), some (.inl v5)] [] (wr h 90 3 v2) Q)))) :
    Rn xs xl e mm_Finder_weigh 125 [some (.inr (.inr 90)), some (.inr (.inr 59)), some (.inl v2), some (.inl v3), some (.inl v4), some (.inl v5)] [] h Q := by
  refine R_ld (v := .inl v4) dd_Finder_weigh_125 rfl rfl rfl rfl ?_
  refine R_ld (v := .inl v5) dd_Finder_weigh_127 rfl rfl rfl rfl ?_
  refine R_icmp dd_Finder_weigh_129 rfl rfl (fun (c1 : v4 < v5) => ?_) (fun (c1 : v5 ≤ v4) => ?_)
  · replace k := k.1 c1
    refine R_ld (v := .inr (.inr 90)) dd_Finder_weigh_147 rfl rfl rfl rfl ?_
    refine R_ld (v := .inl v2) dd_Finder_weigh_148 rfl rfl rfl rfl ?_
    refine R_pf (z := v2) dd_Finder_weigh_149 fd_2_37 io_90 fn_2_3 rfl rfl ?_
    exact k
  · replace k := k.2 c1
    refine R_ld (v := .inl v4) dd_Finder_weigh_132 rfl rfl rfl rfl ?_
    refine R_ld (v := .inl v5) dd_Finder_weigh_134 rfl rfl rfl rfl ?_
    refine R_icmp dd_Finder_weigh_136 rfl rfl (fun (c2 : v4 ≠ v5) => ?_) (fun (c2 : v4 = v5) => ?_)
    · replace k := k.1 c2
      exact k
    · replace k := k.2 c2
      refine R_ld (v := .inl v2) dd_Finder_weigh_139 rfl rfl rfl rfl ?_
      refine R_ld (v := .inr (.inr 90)) dd_Finder_weigh_140 rfl rfl rfl rfl ?_
      refine R_gf (v := .inl (rd h 90 3)) dd_Finder_weigh_141 fd_2_37 io_90 (congrArg (fun z : Int => (Sum.inl z : LV)) (rfl)) rfl ?_
      refine R_icmp dd_Finder_weigh_144 rfl rfl (fun (c3 : (rd h 90 3) ≤ v2) => ?_) (fun (c3 : v2 < (rd h 90 3)) => ?_)
      · replace k := k.1 c3
        exact k
      · replace k := k.2 c3
        refine R_ld (v := .inr (.inr 90)) dd_Finder_weigh_147 rfl rfl rfl rfl ?_
        refine R_ld (v := .inl v2) dd_Finder_weigh_148 rfl rfl rfl rfl ?_
        refine R_pf (z := v2) dd_Finder_weigh_149 fd_2_37 io_90 fn_2_3 rfl rfl ?_
        exact k
theorem B_Finder_weigh_152 {xs : Nat → Int} {xl e : Nat} {h : LH} {Q : Option LV → LH → Prop} {v2 v3 v4 v5 : Int} (hF : RF h)
    (k : ((rd h 90 6) = 0 →
        Q none h) ∧
      ((rd h 90 6) ≠ 0 →
        (∃ c, c < e ∧ Rn xs xl c mm_Finder_countComers 0 [some (.inr (.inr 90)), some (.inl v3), none, none, none] [] h (fun r h' => Rn xs xl e mm_Finder_weigh 164 [some (.inr (.inr 90)), some (.inr (.inr 59)), some (.inl v2), some (.inl v3), some (.inl v4), some (.inl v5)] (r.toList ++ []) h' Q)))) :
    Rn xs xl e mm_Finder_weigh 152 [some (.inr (.inr 90)), some (.inr (.inr 59)), some (.inl v2), some (.inl v3), some (.inl v4), some (.inl v5)] [] h Q := by
  refine R_ld (v := .inr (.inr 90)) dd_Finder_weigh_152 rfl rfl rfl rfl ?_
  refine R_gf (v := .inl (rd h 90 6)) dd_Finder_weigh_153 fd_2_40 io_90 (congrArg (fun z : Int => (Sum.inl z : LV)) (rfl)) rfl ?_
  refine R_if dd_Finder_weigh_156 rfl rfl (fun (c2 : (rd h 90 6) = 0) => ?_) (fun (c2 : (rd h 90 6) ≠ 0) => ?_)
  · replace k := k.1 c2
    exact R_vret dd_Finder_weigh_164 rfl k
  · replace k := k.2 c2
    refine R_ld (v := .inr (.inr 90)) dd_Finder_weigh_159 rfl rfl rfl rfl ?_
    refine R_ld (v := .inl v3) dd_Finder_weigh_160 rfl rfl rfl rfl ?_
    obtain ⟨c, hc, k⟩ := k
    exact R_call (as := [.inr (.inr 90), .inl v3]) (rest := []) (M' := mm_Finder_countComers) (ls0 := [some (.inr (.inr 90)), some (.inl v3), none, none, none]) dd_Finder_weigh_161 rfl rfl (cw_v cw_2_133 io_90 rfl rfl (Nat.le_of_ble_eq_true rfl) (Nat.le_of_ble_eq_true rfl)) mt_Finder_countComers rfl hc rfl k
theorem B_Finder_weigh_164 {xs : Nat → Int} {xl e : Nat} {h : LH} {Q : Option LV → LH → Prop} {v2 v3 v4 v5 : Int} (hF : RF h)
    (k : Q none h) :
    Rn xs xl e mm_Finder_weigh 164 [some (.inr (.inr 90)), some (.inr (.inr 59)), some (.inl v2), some (.inl v3), some (.inl v4), some (.inl v5)] [] h Q := by
  exact R_vret dd_Finder_weigh_164 rfl k
theorem B_Finder_countComers_0 {xs : Nat → Int} {xl e : Nat} {h : LH} {Q : Option LV → LH → Prop} {v1 : Int} (hF : RF h)
    (k : Rn xs xl e mm_Finder_countComers 2 [some (.inr (.inr 90)), some (.inl v1), some (.inl 0), none, none] [] h Q) :
    Rn xs xl e mm_Finder_countComers 0 [some (.inr (.inr 90)), some (.inl v1), none, none, none] [] h Q := by
  refine R_ic dd_Finder_countComers_0 (by decide) rfl ?_
  refine R_st (ls' := [some (.inr (.inr 90)), some (.inl v1), some (.inl 0), none, none]) dd_Finder_countComers_1 rfl rfl rfl (Nat.le_of_ble_eq_true rfl) rfl rfl ?_
  exact k
theorem B_Finder_countComers_2 {xs : Nat → Int} {xl e : Nat} {h : LH} {Q : Option LV → LH → Prop} {v1 v2 : Int} {o3 : Option LV} {o4 : Option LV} (hF : RF h) (r_v2 : 0 ≤ v2 ∧ v2 ≤ 10)
    (k : (10 ≤ v2 →
        Q none h) ∧
      (v2 < 10 →
        (-2147483648 ≤ v1 + v2 ∧ v1 + v2 ≤ 2147483647) ∧
        (0 ≤ v1 + v2 ∧ v1 + v2 < 150) ∧
        Rn xs xl e mm_Finder_countComers 20 [some (.inr (.inr 90)), some (.inl v1), some (.inl v2), some (.inl (rd h 94 (v1 + v2))), some (.inl 0)] [] h Q)) :
    Rn xs xl e mm_Finder_countComers 2 [some (.inr (.inr 90)), some (.inl v1), some (.inl v2), o3, o4] [] h Q := by
  refine R_ld (v := .inl v2) dd_Finder_countComers_2 rfl rfl rfl rfl ?_
  refine R_bi dd_Finder_countComers_3 (by decide) rfl ?_
  refine R_icmp dd_Finder_countComers_5 rfl rfl (fun (c3 : 10 ≤ v2) => ?_) (fun (c3 : v2 < 10) => ?_)
  · replace k := k.1 c3
    exact R_vret dd_Finder_countComers_60 rfl k
  · replace k := k.2 c3
    refine R_ld (v := .inr (.inr 90)) dd_Finder_countComers_8 rfl rfl rfl rfl ?_
    refine R_gf (v := .inr (.inr 94)) dd_Finder_countComers_9 fd_2_21 io_90 (congrArg (fun z : Int => (Sum.inr (Sum.inr z) : LV)) (rf_90_11 hF)) rfl ?_
    refine R_ld (v := .inl v1) dd_Finder_countComers_12 rfl rfl rfl rfl ?_
    refine R_ld (v := .inl v2) dd_Finder_countComers_13 rfl rfl rfl rfl ?_
    obtain ⟨s1, k⟩ := k
    refine R_iadd (c := v1 + v2) dd_Finder_countComers_14 (by omega) s1 rfl ?_
    obtain ⟨s2, k⟩ := k
    refine R_iald (v := (rd h 94 (v1 + v2))) (n := 150) dd_Finder_countComers_15 ia_94 la_94 s2 (rfl) rfl ?_
    refine R_st (ls' := [some (.inr (.inr 90)), some (.inl v1), some (.inl v2), some (.inl (rd h 94 (v1 + v2))), o4]) dd_Finder_countComers_16 rfl rfl rfl (Nat.le_of_ble_eq_true rfl) rfl rfl ?_
    refine R_ic dd_Finder_countComers_17 (by decide) rfl ?_
    refine R_st (ls' := [some (.inr (.inr 90)), some (.inl v1), some (.inl v2), some (.inl (rd h 94 (v1 + v2))), some (.inl 0)]) dd_Finder_countComers_18 rfl rfl rfl (Nat.le_of_ble_eq_true rfl) rfl rfl ?_
    exact k
theorem B_Finder_countComers_20 {xs : Nat → Int} {xl e : Nat} {h : LH} {Q : Option LV → LH → Prop} {v1 v2 v3 v4 : Int} (hF : RF h) (r_v2 : 0 ≤ v2 ∧ v2 ≤ 9) (r_v4 : 0 ≤ v4 ∧ v4 ≤ 10)
    (k : (10 ≤ v4 →
        Rn xs xl e mm_Finder_countComers 2 [some (.inr (.inr 90)), some (.inl v1), some (.inl (v2 + 1)), some (.inl v3), some (.inl v4)] [] h Q) ∧
      (v4 < 10 →
        (0 ≤ 10 * v2 + v4 ∧ 10 * v2 + v4 < 100) ∧
        (-2147483648 ≤ (rd h 95 (10 * v2 + v4)) + (zand (zshr v3 v4) 1) ∧ (rd h 95 (10 * v2 + v4)) + (zand (zshr v3 v4) 1) ≤ 2147483647) ∧
        (0 ≤ 10 * v2 + v4 ∧ 10 * v2 + v4 < 100) ∧
        Rn xs xl e mm_Finder_countComers 20 [some (.inr (.inr 90)), some (.inl v1), some (.inl v2), some (.inl v3), some (.inl (v4 + 1))] [] (wr h 95 (10 * v2 + v4) ((rd h 95 (10 * v2 + v4)) + (zand (zshr v3 v4) 1))) Q)) :
    Rn xs xl e mm_Finder_countComers 20 [some (.inr (.inr 90)), some (.inl v1), some (.inl v2), some (.inl v3), some (.inl v4)] [] h Q := by
  refine R_ld (v := .inl v4) dd_Finder_countComers_20 rfl rfl rfl rfl ?_
  refine R_bi dd_Finder_countComers_22 (by decide) rfl ?_
  refine R_icmp dd_Finder_countComers_24 rfl rfl (fun (c4 : 10 ≤ v4) => ?_) (fun (c4 : v4 < 10) => ?_)
  · replace k := k.1 c4
    refine R_inc (y := v2 + 1) (ls' := [some (.inr (.inr 90)), some (.inl v1), some (.inl (v2 + 1)), some (.inl v3), some (.inl v4)]) dd_Finder_countComers_54 rfl (by decide) (by omega) (by omega) rfl rfl ?_
    refine R_goto dd_Finder_countComers_57 rfl ?_
    exact k
  · replace k := k.2 c4
    refine R_ld (v := .inr (.inr 90)) dd_Finder_countComers_27 rfl rfl rfl rfl ?_
    refine R_gf (v := .inr (.inr 95)) dd_Finder_countComers_28 fd_2_24 io_90 (congrArg (fun z : Int => (Sum.inr (Sum.inr z) : LV)) (rf_90_12 hF)) rfl ?_
    refine R_ld (v := .inl v2) dd_Finder_countComers_31 rfl rfl rfl rfl ?_
    refine R_bi dd_Finder_countComers_32 (by decide) rfl ?_
    refine R_imul (c := 10 * v2) dd_Finder_countComers_34 (by omega) (by omega) rfl ?_
    refine R_ld (v := .inl v4) dd_Finder_countComers_35 rfl rfl rfl rfl ?_
    refine R_iadd (c := 10 * v2 + v4) dd_Finder_countComers_37 (by omega) (by omega) rfl ?_
    refine R_A dd_Finder_countComers_38 rfl rfl rfl rfl ?_
    obtain ⟨s1, k⟩ := k
    refine R_iald (v := (rd h 95 (10 * v2 + v4))) (n := 100) dd_Finder_countComers_39 ia_95 la_95 s1 (rfl) rfl ?_
    refine R_ld (v := .inl v3) dd_Finder_countComers_40 rfl rfl rfl rfl ?_
    refine R_ld (v := .inl v4) dd_Finder_countComers_41 rfl rfl rfl rfl ?_
    refine R_A dd_Finder_countComers_43 rfl rfl rfl rfl ?_
    refine R_ic dd_Finder_countComers_44 (by decide) rfl ?_
    refine R_A dd_Finder_countComers_45 rfl rfl rfl rfl ?_
    obtain ⟨s2, k⟩ := k
    refine R_iadd (c := (rd h 95 (10 * v2 + v4)) + (zand (zshr v3 v4) 1)) dd_Finder_countComers_46 (by omega) s2 rfl ?_
    obtain ⟨s3, k⟩ := k
    refine R_iast (n := 100) dd_Finder_countComers_47 ia_95 la_95 s3 rfl ?_
    refine R_inc (y := v4 + 1) (ls' := [some (.inr (.inr 90)), some (.inl v1), some (.inl v2), some (.inl v3), some (.inl (v4 + 1))]) dd_Finder_countComers_48 rfl (by decide) (by omega) (by omega) rfl rfl ?_
    refine R_goto dd_Finder_countComers_51 rfl ?_
    exact k
theorem B_Finder_tellingPair_0 {xs : Nat → Int} {xl e : Nat} {h : LH} {Q : Option LV → LH → Prop} {v1 : Int} (hF : RF h)
    (k : Rn xs xl e mm_Finder_tellingPair 7 [some (.inr (.inr 90)), some (.inl v1), some (.inl (-1)), some (.inl 0), some (.inl 0), none, none, none] [] h Q) :
    Rn xs xl e mm_Finder_tellingPair 0 [some (.inr (.inr 90)), some (.inl v1), none, none, none, none, none, none] [] h Q := by
  refine R_ic dd_Finder_tellingPair_0 (by decide) rfl ?_
  refine R_st (ls' := [some (.inr (.inr 90)), some (.inl v1), some (.inl (-1)), none, none, none, none, none]) dd_Finder_tellingPair_1 rfl rfl rfl (Nat.le_of_ble_eq_true rfl) rfl rfl ?_
  refine R_ic dd_Finder_tellingPair_2 (by decide) rfl ?_
  refine R_st (ls' := [some (.inr (.inr 90)), some (.inl v1), some (.inl (-1)), some (.inl 0), none, none, none, none]) dd_Finder_tellingPair_3 rfl rfl rfl (Nat.le_of_ble_eq_true rfl) rfl rfl ?_
  refine R_ic dd_Finder_tellingPair_4 (by decide) rfl ?_
  refine R_st (ls' := [some (.inr (.inr 90)), some (.inl v1), some (.inl (-1)), some (.inl 0), some (.inl 0), none, none, none]) dd_Finder_tellingPair_5 rfl rfl rfl (Nat.le_of_ble_eq_true rfl) rfl rfl ?_
  exact k
theorem B_Finder_tellingPair_7 {xs : Nat → Int} {xl e : Nat} {h : LH} {Q : Option LV → LH → Prop} {v1 v2 v3 v4 : Int} {o5 : Option LV} {o6 : Option LV} {o7 : Option LV} (hF : RF h) (r_v1 : 0 ≤ v1 ∧ v1 ≤ 10) (r_v4 : 0 ≤ v4 ∧ v4 ≤ 10)
    (k : (v1 ≤ v4 →
        Q (some (.inl v2)) h) ∧
      (v4 < v1 →
        Rn xs xl e mm_Finder_tellingPair 16 [some (.inr (.inr 90)), some (.inl v1), some (.inl v2), some (.inl v3), some (.inl v4), some (.inl 0), o6, o7] [] h Q)) :
    Rn xs xl e mm_Finder_tellingPair 7 [some (.inr (.inr 90)), some (.inl v1), some (.inl v2), some (.inl v3), some (.inl v4), o5, o6, o7] [] h Q := by
  refine R_ld (v := .inl v4) dd_Finder_tellingPair_7 rfl rfl rfl rfl ?_
  refine R_ld (v := .inl v1) dd_Finder_tellingPair_9 rfl rfl rfl rfl ?_
  refine R_icmp dd_Finder_tellingPair_10 rfl rfl (fun (c1 : v1 ≤ v4) => ?_) (fun (c1 : v4 < v1) => ?_)
  · replace k := k.1 c1
    refine R_ld (v := .inl v2) dd_Finder_tellingPair_88 rfl rfl rfl rfl ?_
    exact R_iret dd_Finder_tellingPair_89 rfl k
  · replace k := k.2 c1
    refine R_ic dd_Finder_tellingPair_13 (by decide) rfl ?_
    refine R_st (ls' := [some (.inr (.inr 90)), some (.inl v1), some (.inl v2), some (.inl v3), some (.inl v4), some (.inl 0), o6, o7]) dd_Finder_tellingPair_14 rfl rfl rfl (Nat.le_of_ble_eq_true rfl) rfl rfl ?_
    exact k
theorem B_Finder_tellingPair_16 {xs : Nat → Int} {xl e : Nat} {h : LH} {Q : Option LV → LH → Prop} {v1 v2 v3 v4 v5 : Int} {o6 : Option LV} {o7 : Option LV} (hF : RF h) (r_v1 : 0 ≤ v1 ∧ v1 ≤ 10) (r_v4 : 0 ≤ v4 ∧ v4 ≤ 9) (r_v5 : 0 ≤ v5 ∧ v5 ≤ 10)
    (k : (v1 ≤ v5 →
        Rn xs xl e mm_Finder_tellingPair 7 [some (.inr (.inr 90)), some (.inl v1), some (.inl v2), some (.inl v3), some (.inl (v4 + 1)), some (.inl v5), o6, o7] [] h Q) ∧
      (v5 < v1 →
        (0 ≤ 10 * v4 + v5 ∧ 10 * v4 + v5 < 100) ∧
        (-2147483648 ≤ (rd h 90 0) - (rd h 95 (10 * v4 + v5)) ∧ (rd h 90 0) - (rd h 95 (10 * v4 + v5)) ≤ 2147483647) ∧
        (∀ m3, m3 ≤ (rd h 95 (10 * v4 + v5)) ∧ m3 ≤ (rd h 90 0) - (rd h 95 (10 * v4 + v5)) ∧ (m3 = (rd h 95 (10 * v4 + v5)) ∨ m3 = (rd h 90 0) - (rd h 95 (10 * v4 + v5))) →
        (v4 = v5 →
            Rn xs xl e mm_Finder_tellingPair 16 [some (.inr (.inr 90)), some (.inl v1), some (.inl v2), some (.inl v3), some (.inl v4), some (.inl (v5 + 1)), some (.inl (rd h 95 (10 * v4 + v5))), some (.inl m3)] [] h Q) ∧
          (v4 ≠ v5 →
            (m3 ≤ v3 →
              Rn xs xl e mm_Finder_tellingPair 16 [some (.inr (.inr 90)), some (.inl v1), some (.inl v2), some (.inl v3), some (.inl v4), some (.inl (v5 + 1)), some (.inl (rd h 95 (10 * v4 + v5))), some (.inl m3)] [] h Q) ∧
            (v3 < m3 →
              Rn xs xl e mm_Finder_tellingPair 16 [some (.inr (.inr 90)), some (.inl v1), some (.inl (10 * v4 + v5)), some (.inl m3), some (.inl v4), some (.inl (v5 + 1)), some (.inl (rd h 95 (10 * v4 + v5))), some (.inl m3)] [] h Q))))) :
    Rn xs xl e mm_Finder_tellingPair 16 [some (.inr (.inr 90)), some (.inl v1), some (.inl v2), some (.inl v3), some (.inl v4), some (.inl v5), o6, o7] [] h Q := by
  refine R_ld (v := .inl v5) dd_Finder_tellingPair_16 rfl rfl rfl rfl ?_
  refine R_ld (v := .inl v1) dd_Finder_tellingPair_18 rfl rfl rfl rfl ?_
  refine R_icmp dd_Finder_tellingPair_19 rfl rfl (fun (c4 : v1 ≤ v5) => ?_) (fun (c4 : v5 < v1) => ?_)
  · replace k := k.1 c4
    refine R_inc (y := v4 + 1) (ls' := [some (.inr (.inr 90)), some (.inl v1), some (.inl v2), some (.inl v3), some (.inl (v4 + 1)), some (.inl v5), o6, o7]) dd_Finder_tellingPair_82 rfl (by decide) (by omega) (by omega) rfl rfl ?_
    refine R_goto dd_Finder_tellingPair_85 rfl ?_
    exact k
  · replace k := k.2 c4
    refine R_ld (v := .inr (.inr 90)) dd_Finder_tellingPair_22 rfl rfl rfl rfl ?_
    refine R_gf (v := .inr (.inr 95)) dd_Finder_tellingPair_23 fd_2_24 io_90 (congrArg (fun z : Int => (Sum.inr (Sum.inr z) : LV)) (rf_90_12 hF)) rfl ?_
    refine R_ld (v := .inl v4) dd_Finder_tellingPair_26 rfl rfl rfl rfl ?_
    refine R_bi dd_Finder_tellingPair_28 (by decide) rfl ?_
    refine R_imul (c := 10 * v4) dd_Finder_tellingPair_30 (by omega) (by omega) rfl ?_
    refine R_ld (v := .inl v5) dd_Finder_tellingPair_31 rfl rfl rfl rfl ?_
    refine R_iadd (c := 10 * v4 + v5) dd_Finder_tellingPair_33 (by omega) (by omega) rfl ?_
    obtain ⟨s1, k⟩ := k
    refine R_iald (v := (rd h 95 (10 * v4 + v5))) (n := 100) dd_Finder_tellingPair_34 ia_95 la_95 s1 (rfl) rfl ?_
    refine R_st (ls' := [some (.inr (.inr 90)), some (.inl v1), some (.inl v2), some (.inl v3), some (.inl v4), some (.inl v5), some (.inl (rd h 95 (10 * v4 + v5))), o7]) dd_Finder_tellingPair_35 rfl rfl rfl (Nat.le_of_ble_eq_true rfl) rfl rfl ?_
    refine R_ld (v := .inl (rd h 95 (10 * v4 + v5))) dd_Finder_tellingPair_37 rfl rfl rfl rfl ?_
    refine R_ld (v := .inr (.inr 90)) dd_Finder_tellingPair_39 rfl rfl rfl rfl ?_
    refine R_gf (v := .inl (rd h 90 0)) dd_Finder_tellingPair_40 fd_2_27 io_90 (congrArg (fun z : Int => (Sum.inl z : LV)) (rfl)) rfl ?_
    refine R_ld (v := .inl (rd h 95 (10 * v4 + v5))) dd_Finder_tellingPair_43 rfl rfl rfl rfl ?_
    obtain ⟨s2, k⟩ := k
    refine R_isub (c := (rd h 90 0) - (rd h 95 (10 * v4 + v5))) dd_Finder_tellingPair_45 (by omega) s2 rfl ?_
    refine R_minv dd_Finder_tellingPair_46 (by decide +kernel) (by decide +kernel) (Nat.le_of_ble_eq_true rfl) rfl (fun m3 hm3 => ?_)
    replace k := k m3 hm3
    refine R_st (ls' := [some (.inr (.inr 90)), some (.inl v1), some (.inl v2), some (.inl v3), some (.inl v4), some (.inl v5), some (.inl (rd h 95 (10 * v4 + v5))), some (.inl m3)]) dd_Finder_tellingPair_49 rfl rfl rfl (Nat.le_of_ble_eq_true rfl) rfl rfl ?_
    refine R_ld (v := .inl v4) dd_Finder_tellingPair_51 rfl rfl rfl rfl ?_
    refine R_ld (v := .inl v5) dd_Finder_tellingPair_53 rfl rfl rfl rfl ?_
    refine R_icmp dd_Finder_tellingPair_55 rfl rfl (fun (c5 : v4 = v5) => ?_) (fun (c5 : v4 ≠ v5) => ?_)
    · replace k := k.1 c5
      refine R_inc (y := v5 + 1) (ls' := [some (.inr (.inr 90)), some (.inl v1), some (.inl v2), some (.inl v3), some (.inl v4), some (.inl (v5 + 1)), some (.inl (rd h 95 (10 * v4 + v5))), some (.inl m3)]) dd_Finder_tellingPair_76 rfl (by decide) (by omega) (by omega) rfl rfl ?_
      refine R_goto dd_Finder_tellingPair_79 rfl ?_
      exact k
    · replace k := k.2 c5
      refine R_ld (v := .inl m3) dd_Finder_tellingPair_58 rfl rfl rfl rfl ?_
      refine R_ld (v := .inl v3) dd_Finder_tellingPair_60 rfl rfl rfl rfl ?_
      refine R_icmp dd_Finder_tellingPair_61 rfl rfl (fun (c6 : m3 ≤ v3) => ?_) (fun (c6 : v3 < m3) => ?_)
      · replace k := k.1 c6
        refine R_inc (y := v5 + 1) (ls' := [some (.inr (.inr 90)), some (.inl v1), some (.inl v2), some (.inl v3), some (.inl v4), some (.inl (v5 + 1)), some (.inl (rd h 95 (10 * v4 + v5))), some (.inl m3)]) dd_Finder_tellingPair_76 rfl (by decide) (by omega) (by omega) rfl rfl ?_
        refine R_goto dd_Finder_tellingPair_79 rfl ?_
        exact k
      · replace k := k.2 c6
        refine R_ld (v := .inl m3) dd_Finder_tellingPair_64 rfl rfl rfl rfl ?_
        refine R_st (ls' := [some (.inr (.inr 90)), some (.inl v1), some (.inl v2), some (.inl m3), some (.inl v4), some (.inl v5), some (.inl (rd h 95 (10 * v4 + v5))), some (.inl m3)]) dd_Finder_tellingPair_66 rfl rfl rfl (Nat.le_of_ble_eq_true rfl) rfl rfl ?_
        refine R_ld (v := .inl v4) dd_Finder_tellingPair_67 rfl rfl rfl rfl ?_
        refine R_bi dd_Finder_tellingPair_69 (by decide) rfl ?_
        refine R_imul (c := 10 * v4) dd_Finder_tellingPair_71 (by omega) (by omega) rfl ?_
        refine R_ld (v := .inl v5) dd_Finder_tellingPair_72 rfl rfl rfl rfl ?_
        refine R_iadd (c := 10 * v4 + v5) dd_Finder_tellingPair_74 (by omega) (by omega) rfl ?_
        refine R_st (ls' := [some (.inr (.inr 90)), some (.inl v1), some (.inl (10 * v4 + v5)), some (.inl m3), some (.inl v4), some (.inl v5), some (.inl (rd h 95 (10 * v4 + v5))), some (.inl m3)]) dd_Finder_tellingPair_75 rfl rfl rfl (Nat.le_of_ble_eq_true rfl) rfl rfl ?_
        refine R_inc (y := v5 + 1) (ls' := [some (.inr (.inr 90)), some (.inl v1), some (.inl (10 * v4 + v5)), some (.inl m3), some (.inl v4), some (.inl (v5 + 1)), some (.inl (rd h 95 (10 * v4 + v5))), some (.inl m3)]) dd_Finder_tellingPair_76 rfl (by decide) (by omega) (by omega) rfl rfl ?_
        refine R_goto dd_Finder_tellingPair_79 rfl ?_
        exact k
theorem B_OneSided_found_0 {xs : Nat → Int} {xl e : Nat} {h : LH} {Q : Option LV → LH → Prop} {v1 : Int} {q : Int} (hq : q = 5 ∨ q = 32) (hQ : rd h 1 ((1 : Nat) : Int) = q) (hF : RF h)
    (k : (v1 < 0 →
        Q (some (.inl (-1))) h) ∧
      (0 ≤ v1 →
        (v1 ≤ 4 →
          (v1 ≠ 3 →
            (∃ c, c < e ∧ Rn xs xl c mm_Finder_search 0 [some (.inr (.inr 90)), some (.inr (.inr q)), some (.inr (.inr 59)), some (.inl 0), none] [] h (fun r h' => Rn xs xl e mm_OneSided_found 36 [some (.inr (.inr 1)), some (.inl v1)] (r.toList ++ []) h' Q))) ∧
          (v1 = 3 →
            (∃ c, c < e ∧ Rn xs xl c mm_Finder_search 0 [some (.inr (.inr 90)), some (.inr (.inr q)), some (.inr (.inr 59)), some (.inl 1), none] [] h (fun r h' => Rn xs xl e mm_OneSided_found 36 [some (.inr (.inr 1)), some (.inl v1)] (r.toList ++ []) h' Q)))) ∧
        (4 < v1 →
          Q (some (.inl (-1))) h))) :
    Rn xs xl e mm_OneSided_found 0 [some (.inr (.inr 1)), some (.inl v1)] [] h Q := by
  refine R_ld (v := .inl v1) dd_OneSided_found_0 rfl rfl rfl rfl ?_
  refine R_if dd_OneSided_found_1 rfl rfl (fun (c3 : v1 < 0) => ?_) (fun (c3 : 0 ≤ v1) => ?_)
  · replace k := k.1 c3
    refine R_ic dd_OneSided_found_9 (by decide) rfl ?_
    exact R_iret dd_OneSided_found_10 rfl k
  · replace k := k.2 c3
    refine R_ld (v := .inl v1) dd_OneSided_found_4 rfl rfl rfl rfl ?_
    refine R_ic dd_OneSided_found_5 (by decide) rfl ?_
    refine R_icmp dd_OneSided_found_6 rfl rfl (fun (c4 : v1 ≤ 4) => ?_) (fun (c4 : 4 < v1) => ?_)
    · replace k := k.1 c4
      refine R_ld (v := .inr (.inr 1)) dd_OneSided_found_11 rfl rfl rfl rfl ?_
      refine R_gf (v := .inr (.inr 90)) dd_OneSided_found_12 fd_11_70 io_1 (congrArg (fun z : Int => (Sum.inr (Sum.inr z) : LV)) (rf_1_13 hF)) rfl ?_
      refine R_ld (v := .inr (.inr 1)) dd_OneSided_found_15 rfl rfl rfl rfl ?_
      refine R_gf (v := .inr (.inr q)) dd_OneSided_found_16 fd_11_19 io_1 (congrArg (fun z : Int => (Sum.inr (Sum.inr z) : LV)) hQ) rfl ?_
      refine R_ld (v := .inr (.inr 1)) dd_OneSided_found_19 rfl rfl rfl rfl ?_
      refine R_gf (v := .inr (.inr 59)) dd_OneSided_found_20 fd_11_29 io_1 (congrArg (fun z : Int => (Sum.inr (Sum.inr z) : LV)) (rf_1_3 hF)) rfl ?_
      refine R_ld (v := .inl v1) dd_OneSided_found_23 rfl rfl rfl rfl ?_
      refine R_ic dd_OneSided_found_24 (by decide) rfl ?_
      refine R_icmp dd_OneSided_found_25 rfl rfl (fun (c5 : v1 ≠ 3) => ?_) (fun (c5 : v1 = 3) => ?_)
      · replace k := k.1 c5
        refine R_ic dd_OneSided_found_32 (by decide) rfl ?_
        obtain ⟨c, hc, k⟩ := k
        exact R_call (as := [.inr (.inr 90), .inr (.inr q), .inr (.inr 59), .inl 0]) (rest := []) (M' := mm_Finder_search) (ls0 := [some (.inr (.inr 90)), some (.inr (.inr q)), some (.inr (.inr 59)), some (.inl 0), none]) dd_OneSided_found_33 rfl rfl (cw_v cw_11_292 io_90 rfl rfl (Nat.le_of_ble_eq_true rfl) (Nat.le_of_ble_eq_true rfl)) mt_Finder_search rfl hc rfl k
      · replace k := k.2 c5
        refine R_ic dd_OneSided_found_28 (by decide) rfl ?_
        refine R_goto dd_OneSided_found_29 rfl ?_
        obtain ⟨c, hc, k⟩ := k
        exact R_call (as := [.inr (.inr 90), .inr (.inr q), .inr (.inr 59), .inl 1]) (rest := []) (M' := mm_Finder_search) (ls0 := [some (.inr (.inr 90)), some (.inr (.inr q)), some (.inr (.inr 59)), some (.inl 1), none]) dd_OneSided_found_33 rfl rfl (cw_v cw_11_292 io_90 rfl rfl (Nat.le_of_ble_eq_true rfl) (Nat.le_of_ble_eq_true rfl)) mt_Finder_search rfl hc rfl k
    · replace k := k.2 c4
      refine R_ic dd_OneSided_found_9 (by decide) rfl ?_
      exact R_iret dd_OneSided_found_10 rfl k
theorem B_OneSided_found_36 {xs : Nat → Int} {xl e : Nat} {h : LH} {Q : Option LV → LH → Prop} {v1 : Int} {q : Int} (hq : q = 5 ∨ q = 32) (hQ : rd h 1 ((1 : Nat) : Int) = q) (hF : RF h)
    (k : ((rd h 90 0) ≠ 0 →
        (v1 = 0 →
          Q (some (.inl (zshl (rd h 90 0) (rd h 90 5)))) h) ∧
        (v1 = 1 →
          Q (some (.inl (rd h 90 1))) h) ∧
        (v1 = 2 →
          Q (some (.inl (zor (rd h 90 2) (rd h 90 4)))) h) ∧
        (v1 = 3 →
          (∃ c, c < e ∧ Rn xs xl c mm_Finder_tellingPair 0 [some (.inr (.inr 90)), some (.inl (rd h q 0)), none, none, none, none, none, none] [] h (fun r h' => Rn xs xl e mm_OneSided_found 134 [some (.inr (.inr 1)), some (.inl v1)] (r.toList ++ []) h' Q))) ∧
        (v1 < 0 ∨ 3 < v1 →
          Q (some (.inl (rd h 90 3))) h)) ∧
      ((rd h 90 0) = 0 →
        Q (some (.inl (-1))) h)) :
    Rn xs xl e mm_OneSided_found 36 [some (.inr (.inr 1)), some (.inl v1)] [] h Q := by
  refine R_ld (v := .inr (.inr 1)) dd_OneSided_found_36 rfl rfl rfl rfl ?_
  refine R_gf (v := .inr (.inr 90)) dd_OneSided_found_37 fd_11_70 io_1 (congrArg (fun z : Int => (Sum.inr (Sum.inr z) : LV)) (rf_1_13 hF)) rfl ?_
  refine R_gf (v := .inl (rd h 90 0)) dd_OneSided_found_40 fd_11_296 io_90 (congrArg (fun z : Int => (Sum.inl z : LV)) (rfl)) rfl ?_
  refine R_if dd_OneSided_found_43 rfl rfl (fun (c2 : (rd h 90 0) ≠ 0) => ?_) (fun (c2 : (rd h 90 0) = 0) => ?_)
  · replace k := k.1 c2
    refine R_ld (v := .inl v1) dd_OneSided_found_48 rfl rfl rfl rfl ?_
    rcases (show (v1 = 0) ∨ (v1 = 1) ∨ (v1 = 2) ∨ (v1 = 3) ∨ (v1 < 0 ∨ 3 < v1) by omega) with c3 | c3 | c3 | c3 | c3
    · replace k := k.1 c3
      refine R_swj (v := 0) dd_OneSided_found_49 c3 (by decide) rfl rfl ?_
      refine R_ld (v := .inr (.inr 1)) dd_OneSided_found_80 rfl rfl rfl rfl ?_
      refine R_gf (v := .inr (.inr 90)) dd_OneSided_found_81 fd_11_70 io_1 (congrArg (fun z : Int => (Sum.inr (Sum.inr z) : LV)) (rf_1_13 hF)) rfl ?_
      refine R_gf (v := .inl (rd h 90 0)) dd_OneSided_found_84 fd_11_296 io_90 (congrArg (fun z : Int => (Sum.inl z : LV)) (rfl)) rfl ?_
      refine R_ld (v := .inr (.inr 1)) dd_OneSided_found_87 rfl rfl rfl rfl ?_
      refine R_gf (v := .inr (.inr 90)) dd_OneSided_found_88 fd_11_70 io_1 (congrArg (fun z : Int => (Sum.inr (Sum.inr z) : LV)) (rf_1_13 hF)) rfl ?_
      refine R_gf (v := .inl (rd h 90 5)) dd_OneSided_found_91 fd_11_299 io_90 (congrArg (fun z : Int => (Sum.inl z : LV)) (rfl)) rfl ?_
      refine R_A dd_OneSided_found_94 rfl rfl rfl rfl ?_
      exact R_iret dd_OneSided_found_95 rfl k
    · replace k := k.2.1 c3
      refine R_swj (v := 1) dd_OneSided_found_49 c3 (by decide) rfl rfl ?_
      refine R_ld (v := .inr (.inr 1)) dd_OneSided_found_96 rfl rfl rfl rfl ?_
      refine R_gf (v := .inr (.inr 90)) dd_OneSided_found_97 fd_11_70 io_1 (congrArg (fun z : Int => (Sum.inr (Sum.inr z) : LV)) (rf_1_13 hF)) rfl ?_
      refine R_gf (v := .inl (rd h 90 1)) dd_OneSided_found_100 fd_11_302 io_90 (congrArg (fun z : Int => (Sum.inl z : LV)) (rfl)) rfl ?_
      exact R_iret dd_OneSided_found_103 rfl k
    · replace k := k.2.2.1 c3
      refine R_swj (v := 2) dd_OneSided_found_49 c3 (by decide) rfl rfl ?_
      refine R_ld (v := .inr (.inr 1)) dd_OneSided_found_104 rfl rfl rfl rfl ?_
      refine R_gf (v := .inr (.inr 90)) dd_OneSided_found_105 fd_11_70 io_1 (congrArg (fun z : Int => (Sum.inr (Sum.inr z) : LV)) (rf_1_13 hF)) rfl ?_
      refine R_gf (v := .inl (rd h 90 2)) dd_OneSided_found_108 fd_11_305 io_90 (congrArg (fun z : Int => (Sum.inl z : LV)) (rfl)) rfl ?_
      refine R_ld (v := .inr (.inr 1)) dd_OneSided_found_111 rfl rfl rfl rfl ?_
      refine R_gf (v := .inr (.inr 90)) dd_OneSided_found_112 fd_11_70 io_1 (congrArg (fun z : Int => (Sum.inr (Sum.inr z) : LV)) (rf_1_13 hF)) rfl ?_
      refine R_gf (v := .inl (rd h 90 4)) dd_OneSided_found_115 fd_11_308 io_90 (congrArg (fun z : Int => (Sum.inl z : LV)) (rfl)) rfl ?_
      refine R_A dd_OneSided_found_118 rfl rfl rfl rfl ?_
      exact R_iret dd_OneSided_found_119 rfl k
    · replace k := k.2.2.2.1 c3
      refine R_swj (v := 3) dd_OneSided_found_49 c3 (by decide) rfl rfl ?_
      refine R_ld (v := .inr (.inr 1)) dd_OneSided_found_120 rfl rfl rfl rfl ?_
      refine R_gf (v := .inr (.inr 90)) dd_OneSided_found_121 fd_11_70 io_1 (congrArg (fun z : Int => (Sum.inr (Sum.inr z) : LV)) (rf_1_13 hF)) rfl ?_
      refine R_ld (v := .inr (.inr 1)) dd_OneSided_found_124 rfl rfl rfl rfl ?_
      refine R_gf (v := .inr (.inr q)) dd_OneSided_found_125 fd_11_19 io_1 (congrArg (fun z : Int => (Sum.inr (Sum.inr z) : LV)) hQ) rfl ?_
      refine R_gf (v := .inl (rd h q 0)) dd_OneSided_found_128 fd_11_267 (io_q hq) (congrArg (fun z : Int => (Sum.inl z : LV)) (rfl)) rfl ?_
      obtain ⟨c, hc, k⟩ := k
      exact R_call (as := [.inr (.inr 90), .inl (rd h q 0)]) (rest := []) (M' := mm_Finder_tellingPair) (ls0 := [some (.inr (.inr 90)), some (.inl (rd h q 0)), none, none, none, none, none, none]) dd_OneSided_found_131 rfl rfl (cw_v cw_11_311 io_90 rfl rfl (Nat.le_of_ble_eq_true rfl) (Nat.le_of_ble_eq_true rfl)) mt_Finder_tellingPair rfl hc rfl k
    · replace k := k.2.2.2.2 c3
      refine R_swd dd_OneSided_found_49 c3 rfl ?_
      refine R_ld (v := .inr (.inr 1)) dd_OneSided_found_135 rfl rfl rfl rfl ?_
      refine R_gf (v := .inr (.inr 90)) dd_OneSided_found_136 fd_11_70 io_1 (congrArg (fun z : Int => (Sum.inr (Sum.inr z) : LV)) (rf_1_13 hF)) rfl ?_
      refine R_gf (v := .inl (rd h 90 3)) dd_OneSided_found_139 fd_11_315 io_90 (congrArg (fun z : Int => (Sum.inl z : LV)) (rfl)) rfl ?_
      exact R_iret dd_OneSided_found_142 rfl k
  · replace k := k.2 c2
    refine R_ic dd_OneSided_found_46 (by decide) rfl ?_
    exact R_iret dd_OneSided_found_47 rfl k
theorem B_OneSided_found_134 {xs : Nat → Int} {xl e : Nat} {h : LH} {Q : Option LV → LH → Prop} {v1 w0 : Int} {q : Int} (hq : q = 5 ∨ q = 32) (hQ : rd h 1 ((1 : Nat) : Int) = q) (hF : RF h)
    (k : Q (some (.inl w0)) h) :
    Rn xs xl e mm_OneSided_found 134 [some (.inr (.inr 1)), some (.inl v1)] [.inl w0] h Q := by
  exact R_iret dd_OneSided_found_134 rfl k
theorem B_looks_0 {xs : Nat → Int} {xl e : Nat} {h : LH} {Q : Option LV → LH → Prop} {v1 : Int} (hF : RF h)
    (k : (∃ c, c < e ∧ Rn xs xl c mm_laysNow 0 [some (.inr (.inr 182)), some (.inl (zor (rd h 198 1) (zxor v1 (-1)))), none] [] h (fun r h' => Rn xs xl e mm_looks 14 [some (.inr (.inr 182)), some (.inl v1), none, none, none] (r.toList ++ []) h' Q))) :
    Rn xs xl e mm_looks 0 [some (.inr (.inr 182)), some (.inl v1), none, none, none] [] h Q := by
  refine R_ld (v := .inr (.inr 182)) dd_looks_0 rfl rfl rfl rfl ?_
  refine R_ld (v := .inr (.inr 182)) dd_looks_1 rfl rfl rfl rfl ?_
  refine R_gf (v := .inr (.inr 198)) dd_looks_2 fd_12_125 io_182 (congrArg (fun z : Int => (Sum.inr (Sum.inr z) : LV)) (rf_182_24 hF)) rfl ?_
  refine R_ic dd_looks_5 (by decide) rfl ?_
  refine R_iald (v := (rd h 198 1)) (n := 1610) dd_looks_6 ia_198 la_198 (by decide) (rfl) rfl ?_
  refine R_ld (v := .inl v1) dd_looks_7 rfl rfl rfl rfl ?_
  refine R_ic dd_looks_8 (by decide) rfl ?_
  refine R_A dd_looks_9 rfl rfl rfl rfl ?_
  refine R_A dd_looks_10 rfl rfl rfl rfl ?_
  obtain ⟨c, hc, k⟩ := k
  exact R_call (as := [.inr (.inr 182), .inl (zor (rd h 198 1) (zxor v1 (-1)))]) (rest := []) (M' := mm_laysNow) (ls0 := [some (.inr (.inr 182)), some (.inl (zor (rd h 198 1) (zxor v1 (-1)))), none]) dd_looks_11 rfl rfl (cw_v cw_12_456 io_182 rfl rfl (Nat.le_of_ble_eq_true rfl) (Nat.le_of_ble_eq_true rfl)) mt_laysNow rfl hc rfl k
theorem B_looks_14 {xs : Nat → Int} {xl e : Nat} {h : LH} {Q : Option LV → LH → Prop} {v1 : Int} (hF : RF h)
    (k : Rn xs xl e mm_looks 18 [some (.inr (.inr 182)), some (.inl v1), some (.inl 1), some (.inl 0), none] [] h Q) :
    Rn xs xl e mm_looks 14 [some (.inr (.inr 182)), some (.inl v1), none, none, none] [] h Q := by
  refine R_ic dd_looks_14 (by decide) rfl ?_
  refine R_st (ls' := [some (.inr (.inr 182)), some (.inl v1), some (.inl 1), none, none]) dd_looks_15 rfl rfl rfl (Nat.le_of_ble_eq_true rfl) rfl rfl ?_
  refine R_ic dd_looks_16 (by decide) rfl ?_
  refine R_st (ls' := [some (.inr (.inr 182)), some (.inl v1), some (.inl 1), some (.inl 0), none]) dd_looks_17 rfl rfl rfl (Nat.le_of_ble_eq_true rfl) rfl rfl ?_
  exact k
theorem B_looks_18 {xs : Nat → Int} {xl e : Nat} {h : LH} {Q : Option LV → LH → Prop} {v1 v2 v3 : Int} {o4 : Option LV} (hF : RF h) (r_v3 : 0 ≤ v3 ∧ v3 ≤ 10) (he : 1 ≤ e)
    (k : ((rd h 188 0) ≤ v3 →
        Rn xs xl e mm_looks 45 [some (.inr (.inr 182)), some (.inl v1), some (.inl v2), some (.inl 0), o4] [] h Q) ∧
      (v3 < (rd h 188 0) →
        (∃ c, c < e ∧ Rn xs xl c mm_closure 0 [some (.inr (.inr 182)), some (.inl v3), none, none, none] [] h (fun r h' => Rn xs xl e mm_looks 36 [some (.inr (.inr 182)), some (.inl v1), some (.inl v2), some (.inl v3), o4] (r.toList ++ [.inl v3, .inr (.inr 209)]) h' Q)))) :
    Rn xs xl e mm_looks 18 [some (.inr (.inr 182)), some (.inl v1), some (.inl v2), some (.inl v3), o4] [] h Q := by
  refine R_ld (v := .inl v3) dd_looks_18 rfl rfl rfl rfl ?_
  refine R_ld (v := .inr (.inr 182)) dd_looks_19 rfl rfl rfl rfl ?_
  refine R_call (as := [.inr (.inr 182)]) (rest := [.inl v3]) (M' := mm_rooms) (ls0 := [some (.inr (.inr 182))]) dd_looks_20 rfl rfl (cw_v cw_12_332 io_182 rfl rfl (Nat.le_of_ble_eq_true rfl) (Nat.le_of_ble_eq_true rfl)) mt_rooms rfl (c := e - 1) (by omega) rfl ?_
  refine R_ld (v := .inr (.inr 182)) dd_rooms_0 rfl rfl rfl rfl ?_
  refine R_gf (v := .inr (.inr 188)) dd_rooms_1 fd_12_95 io_182 (congrArg (fun z : Int => (Sum.inr (Sum.inr z) : LV)) (rf_182_10 hF)) rfl ?_
  refine R_ic dd_rooms_4 (by decide) rfl ?_
  refine R_iald (v := (rd h 188 0)) (n := 300) dd_rooms_5 ia_188 la_188 (by decide) (rfl) rfl ?_
  refine R_iret dd_rooms_6 rfl ?_
  change Rn xs xl e mm_looks 23 [some (.inr (.inr 182)), some (.inl v1), some (.inl v2), some (.inl v3), o4] [.inl (rd h 188 0), .inl v3] h _
  refine R_icmp dd_looks_23 rfl rfl (fun (c2 : (rd h 188 0) ≤ v3) => ?_) (fun (c2 : v3 < (rd h 188 0)) => ?_)
  · replace k := k.1 c2
    refine R_ic dd_looks_43 (by decide) rfl ?_
    refine R_st (ls' := [some (.inr (.inr 182)), some (.inl v1), some (.inl v2), some (.inl 0), o4]) dd_looks_44 rfl rfl rfl (Nat.le_of_ble_eq_true rfl) rfl rfl ?_
    exact k
  · replace k := k.2 c2
    refine R_ld (v := .inr (.inr 182)) dd_looks_26 rfl rfl rfl rfl ?_
    refine R_gf (v := .inr (.inr 209)) dd_looks_27 fd_12_165 io_182 (congrArg (fun z : Int => (Sum.inr (Sum.inr z) : LV)) (rf_182_44 hF)) rfl ?_
    refine R_ld (v := .inl v3) dd_looks_30 rfl rfl rfl rfl ?_
    refine R_ld (v := .inr (.inr 182)) dd_looks_31 rfl rfl rfl rfl ?_
    refine R_ld (v := .inl v3) dd_looks_32 rfl rfl rfl rfl ?_
    obtain ⟨c, hc, k⟩ := k
    exact R_call (as := [.inr (.inr 182), .inl v3]) (rest := [.inl v3, .inr (.inr 209)]) (M' := mm_closure) (ls0 := [some (.inr (.inr 182)), some (.inl v3), none, none, none]) dd_looks_33 rfl rfl (cw_v cw_12_419 io_182 rfl rfl (Nat.le_of_ble_eq_true rfl) (Nat.le_of_ble_eq_true rfl)) mt_closure rfl hc rfl k
theorem B_looks_36 {xs : Nat → Int} {xl e : Nat} {h : LH} {Q : Option LV → LH → Prop} {v1 v2 v3 w1 w2 : Int} {o4 : Option LV} (hF : RF h) (r_v3 : 0 ≤ v3 ∧ v3 ≤ 9)
    (k : (0 ≤ w1 ∧ w1 < 10) ∧
      Rn xs xl e mm_looks 18 [some (.inr (.inr 182)), some (.inl v1), some (.inl v2), some (.inl (v3 + 1)), o4] [] (wr h 209 w1 w2) Q) :
    Rn xs xl e mm_looks 36 [some (.inr (.inr 182)), some (.inl v1), some (.inl v2), some (.inl v3), o4] [.inl w2, .inl w1, .inr (.inr 209)] h Q := by
  obtain ⟨s1, k⟩ := k
  refine R_iast (n := 10) dd_looks_36 ia_209 la_209 s1 rfl ?_
  refine R_inc (y := v3 + 1) (ls' := [some (.inr (.inr 182)), some (.inl v1), some (.inl v2), some (.inl (v3 + 1)), o4]) dd_looks_37 rfl (by decide) (by omega) (by omega) rfl rfl ?_
  refine R_goto dd_looks_40 rfl ?_
  exact k
theorem B_looks_45 {xs : Nat → Int} {xl e : Nat} {h : LH} {Q : Option LV → LH → Prop} {v1 v2 v3 : Int} {o4 : Option LV} (hF : RF h) (r_v3 : 0 ≤ v3 ∧ v3 ≤ 10) (he : 1 ≤ e)
    (k : ((rd h 198 34) ≤ v3 →
        Rn xs xl e mm_looks 125 [some (.inr (.inr 182)), some (.inl v1), some (.inl v2), some (.inl v3), o4] [] h Q) ∧
      (v3 < (rd h 198 34) →
        (v2 = 0 →
          Rn xs xl e mm_looks 119 [some (.inr (.inr 182)), some (.inl v1), some (.inl 0), some (.inl v3), some (.inl (3 * v3 + 35))] [] h Q) ∧
        (v2 ≠ 0 →
          (0 ≤ (rd h 198 (3 * v3 + 35)) ∧ (rd h 198 (3 * v3 + 35)) < 10) ∧
          ((zand (zshr (rd h 209 (rd h 198 (3 * v3 + 35))) (rd h 198 (3 * v3 + 36))) 1) ≠ 1 →
            ((rd h 198 (3 * v3 + 37)) ≠ 1 →
              Rn xs xl e mm_looks 119 [some (.inr (.inr 182)), some (.inl v1), some (.inl 1), some (.inl v3), some (.inl (3 * v3 + 35))] [] h Q) ∧
            ((rd h 198 (3 * v3 + 37)) = 1 →
              Rn xs xl e mm_looks 119 [some (.inr (.inr 182)), some (.inl v1), some (.inl 0), some (.inl v3), some (.inl (3 * v3 + 35))] [] h Q)) ∧
          ((zand (zshr (rd h 209 (rd h 198 (3 * v3 + 35))) (rd h 198 (3 * v3 + 36))) 1) = 1 →
            ((rd h 198 (3 * v3 + 37)) ≠ 1 →
              Rn xs xl e mm_looks 119 [some (.inr (.inr 182)), some (.inl v1), some (.inl 0), some (.inl v3), some (.inl (3 * v3 + 35))] [] h Q) ∧
            ((rd h 198 (3 * v3 + 37)) = 1 →
              Rn xs xl e mm_looks 119 [some (.inr (.inr 182)), some (.inl v1), some (.inl 1), some (.inl v3), some (.inl (3 * v3 + 35))] [] h Q))))) :
    Rn xs xl e mm_looks 45 [some (.inr (.inr 182)), some (.inl v1), some (.inl v2), some (.inl v3), o4] [] h Q := by
  refine R_ld (v := .inl v3) dd_looks_45 rfl rfl rfl rfl ?_
  refine R_ld (v := .inr (.inr 182)) dd_looks_46 rfl rfl rfl rfl ?_
  refine R_gf (v := .inr (.inr 198)) dd_looks_47 fd_12_125 io_182 (congrArg (fun z : Int => (Sum.inr (Sum.inr z) : LV)) (rf_182_24 hF)) rfl ?_
  refine R_bi dd_looks_50 (by decide) rfl ?_
  refine R_iald (v := (rd h 198 34)) (n := 1610) dd_looks_52 ia_198 la_198 (by decide) (rfl) rfl ?_
  refine R_icmp dd_looks_53 rfl rfl (fun (c2 : (rd h 198 34) ≤ v3) => ?_) (fun (c2 : v3 < (rd h 198 34)) => ?_)
  · replace k := k.1 c2
    exact k
  · replace k := k.2 c2
    refine R_bi dd_looks_56 (by decide) rfl ?_
    refine R_ic dd_looks_58 (by decide) rfl ?_
    refine R_ld (v := .inl v3) dd_looks_59 rfl rfl rfl rfl ?_
    refine R_imul (c := 3 * v3) dd_looks_60 (by omega) (by omega) rfl ?_
    refine R_iadd (c := 3 * v3 + 35) dd_looks_61 (by omega) (by omega) rfl ?_
    refine R_st (ls' := [some (.inr (.inr 182)), some (.inl v1), some (.inl v2), some (.inl v3), some (.inl (3 * v3 + 35))]) dd_looks_62 rfl rfl rfl (Nat.le_of_ble_eq_true rfl) rfl rfl ?_
    refine R_ld (v := .inl v2) dd_looks_64 rfl rfl rfl rfl ?_
    refine R_if dd_looks_65 rfl rfl (fun (c3 : v2 = 0) => ?_) (fun (c3 : v2 ≠ 0) => ?_)
    · replace k := k.1 c3
      refine R_ic dd_looks_117 (by decide) rfl ?_
      refine R_st (ls' := [some (.inr (.inr 182)), some (.inl v1), some (.inl 0), some (.inl v3), some (.inl (3 * v3 + 35))]) dd_looks_118 rfl rfl rfl (Nat.le_of_ble_eq_true rfl) rfl rfl ?_
      exact k
    · replace k := k.2 c3
      refine R_ld (v := .inr (.inr 182)) dd_looks_68 rfl rfl rfl rfl ?_
      refine R_gf (v := .inr (.inr 209)) dd_looks_69 fd_12_165 io_182 (congrArg (fun z : Int => (Sum.inr (Sum.inr z) : LV)) (rf_182_44 hF)) rfl ?_
      refine R_ld (v := .inr (.inr 182)) dd_looks_72 rfl rfl rfl rfl ?_
      refine R_gf (v := .inr (.inr 198)) dd_looks_73 fd_12_125 io_182 (congrArg (fun z : Int => (Sum.inr (Sum.inr z) : LV)) (rf_182_24 hF)) rfl ?_
      refine R_ld (v := .inl (3 * v3 + 35)) dd_looks_76 rfl rfl rfl rfl ?_
      refine R_iald (v := (rd h 198 (3 * v3 + 35))) (n := 1610) dd_looks_78 ia_198 la_198 (by omega) (rfl) rfl ?_
      obtain ⟨s1, k⟩ := k
      refine R_iald (v := (rd h 209 (rd h 198 (3 * v3 + 35)))) (n := 10) dd_looks_79 ia_209 la_209 s1 (rfl) rfl ?_
      refine R_ld (v := .inr (.inr 182)) dd_looks_80 rfl rfl rfl rfl ?_
      refine R_gf (v := .inr (.inr 198)) dd_looks_81 fd_12_125 io_182 (congrArg (fun z : Int => (Sum.inr (Sum.inr z) : LV)) (rf_182_24 hF)) rfl ?_
      refine R_ld (v := .inl (3 * v3 + 35)) dd_looks_84 rfl rfl rfl rfl ?_
      refine R_ic dd_looks_86 (by decide) rfl ?_
      refine R_iadd (c := 3 * v3 + 36) dd_looks_87 (by omega) (by omega) rfl ?_
      refine R_iald (v := (rd h 198 (3 * v3 + 36))) (n := 1610) dd_looks_88 ia_198 la_198 (by omega) (rfl) rfl ?_
      refine R_call (as := [.inl (rd h 209 (rd h 198 (3 * v3 + 35))), .inl (rd h 198 (3 * v3 + 36))]) (rest := []) (M' := mm_isIn) (ls0 := [some (.inl (rd h 209 (rd h 198 (3 * v3 + 35)))), some (.inl (rd h 198 (3 * v3 + 36)))]) dd_looks_89 rfl rfl (cw_s cw_12_350 rfl rfl (Nat.le_of_ble_eq_true rfl) (Nat.le_of_ble_eq_true rfl)) mt_isIn rfl (c := e - 1) (by omega) rfl ?_
      refine R_ld (v := .inl (rd h 209 (rd h 198 (3 * v3 + 35)))) dd_isIn_0 rfl rfl rfl rfl ?_
      refine R_ld (v := .inl (rd h 198 (3 * v3 + 36))) dd_isIn_1 rfl rfl rfl rfl ?_
      refine R_A dd_isIn_2 rfl rfl rfl rfl ?_
      refine R_ic dd_isIn_3 (by decide) rfl ?_
      refine R_A dd_isIn_4 rfl rfl rfl rfl ?_
      refine R_ic dd_isIn_5 (by decide) rfl ?_
      refine R_icmp dd_isIn_6 rfl rfl (fun (c4 : (zand (zshr (rd h 209 (rd h 198 (3 * v3 + 35))) (rd h 198 (3 * v3 + 36))) 1) ≠ 1) => ?_) (fun (c4 : (zand (zshr (rd h 209 (rd h 198 (3 * v3 + 35))) (rd h 198 (3 * v3 + 36))) 1) = 1) => ?_)
      · replace k := k.1 c4
        refine R_ic dd_isIn_13 (by decide) rfl ?_
        refine R_zret dd_isIn_14 rfl (by decide) ?_
        change Rn xs xl e mm_looks 92 [some (.inr (.inr 182)), some (.inl v1), some (.inl v2), some (.inl v3), some (.inl (3 * v3 + 35))] [.inl 0] h _
        refine R_ld (v := .inr (.inr 182)) dd_looks_92 rfl rfl rfl rfl ?_
        refine R_gf (v := .inr (.inr 198)) dd_looks_93 fd_12_125 io_182 (congrArg (fun z : Int => (Sum.inr (Sum.inr z) : LV)) (rf_182_24 hF)) rfl ?_
        refine R_ld (v := .inl (3 * v3 + 35)) dd_looks_96 rfl rfl rfl rfl ?_
        refine R_ic dd_looks_98 (by decide) rfl ?_
        refine R_iadd (c := 3 * v3 + 37) dd_looks_99 (by omega) (by omega) rfl ?_
        refine R_iald (v := (rd h 198 (3 * v3 + 37))) (n := 1610) dd_looks_100 ia_198 la_198 (by omega) (rfl) rfl ?_
        refine R_ic dd_looks_101 (by decide) rfl ?_
        refine R_icmp dd_looks_102 rfl rfl (fun (c5 : (rd h 198 (3 * v3 + 37)) ≠ 1) => ?_) (fun (c5 : (rd h 198 (3 * v3 + 37)) = 1) => ?_)
        · replace k := k.1 c5
          refine R_ic dd_looks_109 (by decide) rfl ?_
          refine R_icmp dd_looks_110 rfl rfl (fun (c6 : 0 ≠ 0) => ?_) (fun (c6 : 0 = 0) => ?_)
          · exact absurd c6 (by omega)
          · skip
            refine R_ic dd_looks_113 (by decide) rfl ?_
            refine R_goto dd_looks_114 rfl ?_
            refine R_st (ls' := [some (.inr (.inr 182)), some (.inl v1), some (.inl 1), some (.inl v3), some (.inl (3 * v3 + 35))]) dd_looks_118 rfl rfl rfl (Nat.le_of_ble_eq_true rfl) rfl rfl ?_
            exact k
        · replace k := k.2 c5
          refine R_ic dd_looks_105 (by decide) rfl ?_
          refine R_goto dd_looks_106 rfl ?_
          refine R_icmp dd_looks_110 rfl rfl (fun (c7 : 0 ≠ 1) => ?_) (fun (c7 : 0 = 1) => ?_)
          · skip
            refine R_ic dd_looks_117 (by decide) rfl ?_
            refine R_st (ls' := [some (.inr (.inr 182)), some (.inl v1), some (.inl 0), some (.inl v3), some (.inl (3 * v3 + 35))]) dd_looks_118 rfl rfl rfl (Nat.le_of_ble_eq_true rfl) rfl rfl ?_
            exact k
          · exact absurd c7 (by omega)
      · replace k := k.2 c4
        refine R_ic dd_isIn_9 (by decide) rfl ?_
        refine R_goto dd_isIn_10 rfl ?_
        refine R_zret dd_isIn_14 rfl (by decide) ?_
        change Rn xs xl e mm_looks 92 [some (.inr (.inr 182)), some (.inl v1), some (.inl v2), some (.inl v3), some (.inl (3 * v3 + 35))] [.inl 1] h _
        refine R_ld (v := .inr (.inr 182)) dd_looks_92 rfl rfl rfl rfl ?_
        refine R_gf (v := .inr (.inr 198)) dd_looks_93 fd_12_125 io_182 (congrArg (fun z : Int => (Sum.inr (Sum.inr z) : LV)) (rf_182_24 hF)) rfl ?_
        refine R_ld (v := .inl (3 * v3 + 35)) dd_looks_96 rfl rfl rfl rfl ?_
        refine R_ic dd_looks_98 (by decide) rfl ?_
        refine R_iadd (c := 3 * v3 + 37) dd_looks_99 (by omega) (by omega) rfl ?_
        refine R_iald (v := (rd h 198 (3 * v3 + 37))) (n := 1610) dd_looks_100 ia_198 la_198 (by omega) (rfl) rfl ?_
        refine R_ic dd_looks_101 (by decide) rfl ?_
        refine R_icmp dd_looks_102 rfl rfl (fun (c8 : (rd h 198 (3 * v3 + 37)) ≠ 1) => ?_) (fun (c8 : (rd h 198 (3 * v3 + 37)) = 1) => ?_)
        · replace k := k.1 c8
          refine R_ic dd_looks_109 (by decide) rfl ?_
          refine R_icmp dd_looks_110 rfl rfl (fun (c9 : 1 ≠ 0) => ?_) (fun (c9 : 1 = 0) => ?_)
          · skip
            refine R_ic dd_looks_117 (by decide) rfl ?_
            refine R_st (ls' := [some (.inr (.inr 182)), some (.inl v1), some (.inl 0), some (.inl v3), some (.inl (3 * v3 + 35))]) dd_looks_118 rfl rfl rfl (Nat.le_of_ble_eq_true rfl) rfl rfl ?_
            exact k
          · exact absurd c9 (by omega)
        · replace k := k.2 c8
          refine R_ic dd_looks_105 (by decide) rfl ?_
          refine R_goto dd_looks_106 rfl ?_
          refine R_icmp dd_looks_110 rfl rfl (fun (c10 : 1 ≠ 1) => ?_) (fun (c10 : 1 = 1) => ?_)
          · exact absurd c10 (by omega)
          · skip
            refine R_ic dd_looks_113 (by decide) rfl ?_
            refine R_goto dd_looks_114 rfl ?_
            refine R_st (ls' := [some (.inr (.inr 182)), some (.inl v1), some (.inl 1), some (.inl v3), some (.inl (3 * v3 + 35))]) dd_looks_118 rfl rfl rfl (Nat.le_of_ble_eq_true rfl) rfl rfl ?_
            exact k
theorem B_looks_119 {xs : Nat → Int} {xl e : Nat} {h : LH} {Q : Option LV → LH → Prop} {v1 v2 v3 : Int} {o4 : Option LV} (hF : RF h) (r_v3 : 0 ≤ v3 ∧ v3 ≤ 10)
    (k : Rn xs xl e mm_looks 45 [some (.inr (.inr 182)), some (.inl v1), some (.inl v2), some (.inl (v3 + 1)), o4] [] h Q) :
    Rn xs xl e mm_looks 119 [some (.inr (.inr 182)), some (.inl v1), some (.inl v2), some (.inl v3), o4] [] h Q := by
  refine R_inc (y := v3 + 1) (ls' := [some (.inr (.inr 182)), some (.inl v1), some (.inl v2), some (.inl (v3 + 1)), o4]) dd_looks_119 rfl (by decide) (by omega) (by omega) rfl rfl ?_
  refine R_goto dd_looks_122 rfl ?_
  exact k
theorem B_looks_125 {xs : Nat → Int} {xl e : Nat} {h : LH} {Q : Option LV → LH → Prop} {v1 v2 v3 : Int} {o4 : Option LV} (hF : RF h)
    (k : (v2 = 0 →
        Q none h) ∧
      (v2 ≠ 0 →
        (-2147483648 ≤ (rd h 182 45) + 1 ∧ (rd h 182 45) + 1 ≤ 2147483647) ∧
        Rn xs xl e mm_looks 159 [some (.inr (.inr 182)), some (.inl v1), some (.inl v2), some (.inl v3), o4] [] (wr (wr (wr h 182 45 ((rd h 182 45) + 1)) 182 46 (zand (rd h 182 46) v1)) 182 47 (zor (rd h 182 47) v1)) Q)) :
    Rn xs xl e mm_looks 125 [some (.inr (.inr 182)), some (.inl v1), some (.inl v2), some (.inl v3), o4] [] h Q := by
  refine R_ld (v := .inl v2) dd_looks_125 rfl rfl rfl rfl ?_
  refine R_if dd_looks_126 rfl rfl (fun (c2 : v2 = 0) => ?_) (fun (c2 : v2 ≠ 0) => ?_)
  · replace k := k.1 c2
    exact R_vret dd_looks_250 rfl k
  · replace k := k.2 c2
    refine R_ld (v := .inr (.inr 182)) dd_looks_129 rfl rfl rfl rfl ?_
    refine R_A dd_looks_130 rfl rfl rfl rfl ?_
    refine R_gf (v := .inl (rd h 182 45)) dd_looks_131 fd_12_459 io_182 (congrArg (fun z : Int => (Sum.inl z : LV)) (rfl)) rfl ?_
    refine R_ic dd_looks_134 (by decide) rfl ?_
    obtain ⟨s1, k⟩ := k
    refine R_iadd (c := (rd h 182 45) + 1) dd_looks_135 (by omega) s1 rfl ?_
    refine R_pf (z := ((rd h 182 45) + 1)) dd_looks_136 fd_12_459 io_182 fn_12_45 rfl rfl ?_
    refine R_ld (v := .inr (.inr 182)) dd_looks_139 rfl rfl rfl rfl ?_
    refine R_A dd_looks_140 rfl rfl rfl rfl ?_
    refine R_gf (v := .inl (rd h 182 46)) dd_looks_141 fd_12_462 io_182 (congrArg (fun z : Int => (Sum.inl z : LV)) (rdw_nei (by omega))) rfl ?_
    refine R_ld (v := .inl v1) dd_looks_144 rfl rfl rfl rfl ?_
    refine R_A dd_looks_145 rfl rfl rfl rfl ?_
    refine R_pf (z := (zand (rd h 182 46) v1)) dd_looks_146 fd_12_462 io_182 fn_12_46 rfl rfl ?_
    refine R_ld (v := .inr (.inr 182)) dd_looks_149 rfl rfl rfl rfl ?_
    refine R_A dd_looks_150 rfl rfl rfl rfl ?_
    refine R_gf (v := .inl (rd h 182 47)) dd_looks_151 fd_12_465 io_182 (congrArg (fun z : Int => (Sum.inl z : LV)) ((rdw_nei (by omega)).trans (rdw_nei (by omega)))) rfl ?_
    refine R_ld (v := .inl v1) dd_looks_154 rfl rfl rfl rfl ?_
    refine R_A dd_looks_155 rfl rfl rfl rfl ?_
    refine R_pf (z := (zor (rd h 182 47) v1)) dd_looks_156 fd_12_465 io_182 fn_12_47 rfl rfl ?_
    exact k
theorem B_looks_159 {xs : Nat → Int} {xl e : Nat} {h : LH} {Q : Option LV → LH → Prop} {v1 v2 v3 : Int} {o4 : Option LV} (hF : RF h)
    (k : ((rd h 182 48) < 0 →
        Rn xs xl e mm_looks 194 [some (.inr (.inr 182)), some (.inl v1), some (.inl v2), some (.inl 0), o4] [] (wr h 182 48 v1) Q) ∧
      (0 ≤ (rd h 182 48) →
        (∃ c, c < e ∧ Rn xs xl c mm_bits 0 [some (.inl v1), none, none] [] h (fun r h' => Rn xs xl e mm_looks 171 [some (.inr (.inr 182)), some (.inl v1), some (.inl v2), some (.inl v3), o4] (r.toList ++ [.inr (.inr 182)]) h' Q)))) :
    Rn xs xl e mm_looks 159 [some (.inr (.inr 182)), some (.inl v1), some (.inl v2), some (.inl v3), o4] [] h Q := by
  refine R_ld (v := .inr (.inr 182)) dd_looks_159 rfl rfl rfl rfl ?_
  refine R_ld (v := .inr (.inr 182)) dd_looks_160 rfl rfl rfl rfl ?_
  refine R_gf (v := .inl (rd h 182 48)) dd_looks_161 fd_12_468 io_182 (congrArg (fun z : Int => (Sum.inl z : LV)) (rfl)) rfl ?_
  refine R_if dd_looks_164 rfl rfl (fun (c2 : (rd h 182 48) < 0) => ?_) (fun (c2 : 0 ≤ (rd h 182 48)) => ?_)
  · replace k := k.1 c2
    refine R_ld (v := .inl v1) dd_looks_181 rfl rfl rfl rfl ?_
    refine R_goto dd_looks_182 rfl ?_
    refine R_pf (z := v1) dd_looks_189 fd_12_468 io_182 fn_12_48 rfl rfl ?_
    refine R_ic dd_looks_192 (by decide) rfl ?_
    refine R_st (ls' := [some (.inr (.inr 182)), some (.inl v1), some (.inl v2), some (.inl 0), o4]) dd_looks_193 rfl rfl rfl (Nat.le_of_ble_eq_true rfl) rfl rfl ?_
    exact k
  · replace k := k.2 c2
    refine R_ld (v := .inl v1) dd_looks_167 rfl rfl rfl rfl ?_
    obtain ⟨c, hc, k⟩ := k
    exact R_call (as := [.inl v1]) (rest := [.inr (.inr 182)]) (M' := mm_bits) (ls0 := [some (.inl v1), none, none]) dd_looks_168 rfl rfl (cw_s cw_12_435 rfl rfl (Nat.le_of_ble_eq_true rfl) (Nat.le_of_ble_eq_true rfl)) mt_bits rfl hc rfl k
theorem B_looks_171 {xs : Nat → Int} {xl e : Nat} {h : LH} {Q : Option LV → LH → Prop} {v1 v2 v3 w1 : Int} {o4 : Option LV} (hF : RF h)
    (k : (∃ c, c < e ∧ Rn xs xl c mm_bits 0 [some (.inl (rd h 182 48)), none, none] [] h (fun r h' => Rn xs xl e mm_looks 178 [some (.inr (.inr 182)), some (.inl v1), some (.inl v2), some (.inl v3), o4] (r.toList ++ [.inl w1, .inr (.inr 182)]) h' Q))) :
    Rn xs xl e mm_looks 171 [some (.inr (.inr 182)), some (.inl v1), some (.inl v2), some (.inl v3), o4] [.inl w1, .inr (.inr 182)] h Q := by
  refine R_ld (v := .inr (.inr 182)) dd_looks_171 rfl rfl rfl rfl ?_
  refine R_gf (v := .inl (rd h 182 48)) dd_looks_172 fd_12_468 io_182 (congrArg (fun z : Int => (Sum.inl z : LV)) (rfl)) rfl ?_
  obtain ⟨c, hc, k⟩ := k
  exact R_call (as := [.inl (rd h 182 48)]) (rest := [.inl w1, .inr (.inr 182)]) (M' := mm_bits) (ls0 := [some (.inl (rd h 182 48)), none, none]) dd_looks_175 rfl rfl (cw_s cw_12_435 rfl rfl (Nat.le_of_ble_eq_true rfl) (Nat.le_of_ble_eq_true rfl)) mt_bits rfl hc rfl k
theorem B_looks_178 {xs : Nat → Int} {xl e : Nat} {h : LH} {Q : Option LV → LH → Prop} {v1 v2 v3 w1 w2 : Int} {o4 : Option LV} (hF : RF h)
    (k : (w2 ≤ w1 →
        Rn xs xl e mm_looks 194 [some (.inr (.inr 182)), some (.inl v1), some (.inl v2), some (.inl 0), o4] [] (wr h 182 48 (rd h 182 48)) Q) ∧
      (w1 < w2 →
        Rn xs xl e mm_looks 194 [some (.inr (.inr 182)), some (.inl v1), some (.inl v2), some (.inl 0), o4] [] (wr h 182 48 v1) Q)) :
    Rn xs xl e mm_looks 178 [some (.inr (.inr 182)), some (.inl v1), some (.inl v2), some (.inl v3), o4] [.inl w2, .inl w1, .inr (.inr 182)] h Q := by
  refine R_icmp dd_looks_178 rfl rfl (fun (c1 : w2 ≤ w1) => ?_) (fun (c1 : w1 < w2) => ?_)
  · replace k := k.1 c1
    refine R_ld (v := .inr (.inr 182)) dd_looks_185 rfl rfl rfl rfl ?_
    refine R_gf (v := .inl (rd h 182 48)) dd_looks_186 fd_12_468 io_182 (congrArg (fun z : Int => (Sum.inl z : LV)) (rfl)) rfl ?_
    refine R_pf (z := (rd h 182 48)) dd_looks_189 fd_12_468 io_182 fn_12_48 rfl rfl ?_
    refine R_ic dd_looks_192 (by decide) rfl ?_
    refine R_st (ls' := [some (.inr (.inr 182)), some (.inl v1), some (.inl v2), some (.inl 0), o4]) dd_looks_193 rfl rfl rfl (Nat.le_of_ble_eq_true rfl) rfl rfl ?_
    exact k
  · replace k := k.2 c1
    refine R_ld (v := .inl v1) dd_looks_181 rfl rfl rfl rfl ?_
    refine R_goto dd_looks_182 rfl ?_
    refine R_pf (z := v1) dd_looks_189 fd_12_468 io_182 fn_12_48 rfl rfl ?_
    refine R_ic dd_looks_192 (by decide) rfl ?_
    refine R_st (ls' := [some (.inr (.inr 182)), some (.inl v1), some (.inl v2), some (.inl 0), o4]) dd_looks_193 rfl rfl rfl (Nat.le_of_ble_eq_true rfl) rfl rfl ?_
    exact k
theorem B_looks_194 {xs : Nat → Int} {xl e : Nat} {h : LH} {Q : Option LV → LH → Prop} {v1 v2 v3 : Int} {o4 : Option LV} (hF : RF h) (r_v3 : 0 ≤ v3 ∧ v3 ≤ 100) (he : 1 ≤ e)
    (k : (100 ≤ v3 →
        Q none h) ∧
      (v3 < 100 →
        (0 ≤ v3 ∧ v3 < 100) ∧
        ((rd h 188 0) ≤ (v3 / 10) →
          (-2147483648 ≤ (rd h 208 v3) ∧ (rd h 208 v3) ≤ 2147483647) ∧
          (0 ≤ v3 ∧ v3 < 100) ∧
          Rn xs xl e mm_looks 194 [some (.inr (.inr 182)), some (.inl v1), some (.inl v2), some (.inl (v3 + 1)), o4] [] (wr h 208 v3 (rd h 208 v3)) Q) ∧
        ((v3 / 10) < (rd h 188 0) →
          (0 ≤ (v3 / 10) ∧ (v3 / 10) < 10) ∧
          ((zand (zshr (rd h 209 (v3 / 10)) (v3 % 10)) 1) ≠ 1 →
            (-2147483648 ≤ (rd h 208 v3) ∧ (rd h 208 v3) ≤ 2147483647) ∧
            (0 ≤ v3 ∧ v3 < 100) ∧
            Rn xs xl e mm_looks 194 [some (.inr (.inr 182)), some (.inl v1), some (.inl v2), some (.inl (v3 + 1)), o4] [] (wr h 208 v3 (rd h 208 v3)) Q) ∧
          ((zand (zshr (rd h 209 (v3 / 10)) (v3 % 10)) 1) = 1 →
            (-2147483648 ≤ (rd h 208 v3) + 1 ∧ (rd h 208 v3) + 1 ≤ 2147483647) ∧
            (0 ≤ v3 ∧ v3 < 100) ∧
            Rn xs xl e mm_looks 194 [some (.inr (.inr 182)), some (.inl v1), some (.inl v2), some (.inl (v3 + 1)), o4] [] (wr h 208 v3 ((rd h 208 v3) + 1)) Q)))) :
    Rn xs xl e mm_looks 194 [some (.inr (.inr 182)), some (.inl v1), some (.inl v2), some (.inl v3), o4] [] h Q := by
  refine R_ld (v := .inl v3) dd_looks_194 rfl rfl rfl rfl ?_
  refine R_bi dd_looks_195 (by decide) rfl ?_
  refine R_icmp dd_looks_197 rfl rfl (fun (c9 : 100 ≤ v3) => ?_) (fun (c9 : v3 < 100) => ?_)
  · replace k := k.1 c9
    exact R_vret dd_looks_250 rfl k
  · replace k := k.2 c9
    refine R_ld (v := .inr (.inr 182)) dd_looks_200 rfl rfl rfl rfl ?_
    refine R_gf (v := .inr (.inr 208)) dd_looks_201 fd_12_162 io_182 (congrArg (fun z : Int => (Sum.inr (Sum.inr z) : LV)) (rf_182_43 hF)) rfl ?_
    refine R_ld (v := .inl v3) dd_looks_204 rfl rfl rfl rfl ?_
    refine R_A dd_looks_205 rfl rfl rfl rfl ?_
    obtain ⟨s1, k⟩ := k
    refine R_iald (v := (rd h 208 v3)) (n := 100) dd_looks_206 ia_208 la_208 s1 (rfl) rfl ?_
    refine R_ld (v := .inl v3) dd_looks_207 rfl rfl rfl rfl ?_
    refine R_bi dd_looks_208 (by decide) rfl ?_
    refine R_idiv dd_looks_210 (by omega) (by decide) rfl ?_
    refine R_ld (v := .inr (.inr 182)) dd_looks_211 rfl rfl rfl rfl ?_
    refine R_call (as := [.inr (.inr 182)]) (rest := [.inl (v3 / 10), .inl (rd h 208 v3), .inl v3, .inr (.inr 208)]) (M' := mm_rooms) (ls0 := [some (.inr (.inr 182))]) dd_looks_212 rfl rfl (cw_v cw_12_332 io_182 rfl rfl (Nat.le_of_ble_eq_true rfl) (Nat.le_of_ble_eq_true rfl)) mt_rooms rfl (c := e - 1) (by omega) rfl ?_
    refine R_ld (v := .inr (.inr 182)) dd_rooms_0 rfl rfl rfl rfl ?_
    refine R_gf (v := .inr (.inr 188)) dd_rooms_1 fd_12_95 io_182 (congrArg (fun z : Int => (Sum.inr (Sum.inr z) : LV)) (rf_182_10 hF)) rfl ?_
    refine R_ic dd_rooms_4 (by decide) rfl ?_
    refine R_iald (v := (rd h 188 0)) (n := 300) dd_rooms_5 ia_188 la_188 (by decide) (rfl) rfl ?_
    refine R_iret dd_rooms_6 rfl ?_
    change Rn xs xl e mm_looks 215 [some (.inr (.inr 182)), some (.inl v1), some (.inl v2), some (.inl v3), o4] [.inl (rd h 188 0), .inl (v3 / 10), .inl (rd h 208 v3), .inl v3, .inr (.inr 208)] h _
    refine R_icmp dd_looks_215 rfl rfl (fun (c10 : (rd h 188 0) ≤ (v3 / 10)) => ?_) (fun (c10 : (v3 / 10) < (rd h 188 0)) => ?_)
    · replace k := k.1 c10
      refine R_ic dd_looks_241 (by decide) rfl ?_
      obtain ⟨s2, k⟩ := k
      refine R_iadd (c := (rd h 208 v3)) dd_looks_242 (by omega) s2 rfl ?_
      obtain ⟨s3, k⟩ := k
      refine R_iast (n := 100) dd_looks_243 ia_208 la_208 s3 rfl ?_
      refine R_inc (y := v3 + 1) (ls' := [some (.inr (.inr 182)), some (.inl v1), some (.inl v2), some (.inl (v3 + 1)), o4]) dd_looks_244 rfl (by decide) (by omega) (by omega) rfl rfl ?_
      refine R_goto dd_looks_247 rfl ?_
      exact k
    · replace k := k.2 c10
      refine R_ld (v := .inr (.inr 182)) dd_looks_218 rfl rfl rfl rfl ?_
      refine R_gf (v := .inr (.inr 209)) dd_looks_219 fd_12_165 io_182 (congrArg (fun z : Int => (Sum.inr (Sum.inr z) : LV)) (rf_182_44 hF)) rfl ?_
      refine R_ld (v := .inl v3) dd_looks_222 rfl rfl rfl rfl ?_
      refine R_bi dd_looks_223 (by decide) rfl ?_
      refine R_idiv dd_looks_225 (by omega) (by decide) rfl ?_
      obtain ⟨s4, k⟩ := k
      refine R_iald (v := (rd h 209 (v3 / 10))) (n := 10) dd_looks_226 ia_209 la_209 s4 (rfl) rfl ?_
      refine R_ld (v := .inl v3) dd_looks_227 rfl rfl rfl rfl ?_
      refine R_bi dd_looks_228 (by decide) rfl ?_
      refine R_irem dd_looks_230 (by omega) (by decide) rfl ?_
      refine R_call (as := [.inl (rd h 209 (v3 / 10)), .inl (v3 % 10)]) (rest := [.inl (rd h 208 v3), .inl v3, .inr (.inr 208)]) (M' := mm_isIn) (ls0 := [some (.inl (rd h 209 (v3 / 10))), some (.inl (v3 % 10))]) dd_looks_231 rfl rfl (cw_s cw_12_350 rfl rfl (Nat.le_of_ble_eq_true rfl) (Nat.le_of_ble_eq_true rfl)) mt_isIn rfl (c := e - 1) (by omega) rfl ?_
      refine R_ld (v := .inl (rd h 209 (v3 / 10))) dd_isIn_0 rfl rfl rfl rfl ?_
      refine R_ld (v := .inl (v3 % 10)) dd_isIn_1 rfl rfl rfl rfl ?_
      refine R_A dd_isIn_2 rfl rfl rfl rfl ?_
      refine R_ic dd_isIn_3 (by decide) rfl ?_
      refine R_A dd_isIn_4 rfl rfl rfl rfl ?_
      refine R_ic dd_isIn_5 (by decide) rfl ?_
      refine R_icmp dd_isIn_6 rfl rfl (fun (c11 : (zand (zshr (rd h 209 (v3 / 10)) (v3 % 10)) 1) ≠ 1) => ?_) (fun (c11 : (zand (zshr (rd h 209 (v3 / 10)) (v3 % 10)) 1) = 1) => ?_)
      · replace k := k.1 c11
        refine R_ic dd_isIn_13 (by decide) rfl ?_
        refine R_zret dd_isIn_14 rfl (by decide) ?_
        change Rn xs xl e mm_looks 234 [some (.inr (.inr 182)), some (.inl v1), some (.inl v2), some (.inl v3), o4] [.inl 0, .inl (rd h 208 v3), .inl v3, .inr (.inr 208)] h _
        refine R_if dd_looks_234 rfl rfl (fun (c12 : 0 = 0) => ?_) (fun (c12 : 0 ≠ 0) => ?_)
        · skip
          refine R_ic dd_looks_241 (by decide) rfl ?_
          obtain ⟨s5, k⟩ := k
          refine R_iadd (c := (rd h 208 v3)) dd_looks_242 (by omega) s5 rfl ?_
          obtain ⟨s6, k⟩ := k
          refine R_iast (n := 100) dd_looks_243 ia_208 la_208 s6 rfl ?_
          refine R_inc (y := v3 + 1) (ls' := [some (.inr (.inr 182)), some (.inl v1), some (.inl v2), some (.inl (v3 + 1)), o4]) dd_looks_244 rfl (by decide) (by omega) (by omega) rfl rfl ?_
          refine R_goto dd_looks_247 rfl ?_
          exact k
        · exact absurd c12 (by omega)
      · replace k := k.2 c11
        refine R_ic dd_isIn_9 (by decide) rfl ?_
        refine R_goto dd_isIn_10 rfl ?_
        refine R_zret dd_isIn_14 rfl (by decide) ?_
        change Rn xs xl e mm_looks 234 [some (.inr (.inr 182)), some (.inl v1), some (.inl v2), some (.inl v3), o4] [.inl 1, .inl (rd h 208 v3), .inl v3, .inr (.inr 208)] h _
        refine R_if dd_looks_234 rfl rfl (fun (c13 : 1 = 0) => ?_) (fun (c13 : 1 ≠ 0) => ?_)
        · exact absurd c13 (by omega)
        · skip
          refine R_ic dd_looks_237 (by decide) rfl ?_
          refine R_goto dd_looks_238 rfl ?_
          obtain ⟨s7, k⟩ := k
          refine R_iadd (c := (rd h 208 v3) + 1) dd_looks_242 (by omega) s7 rfl ?_
          obtain ⟨s8, k⟩ := k
          refine R_iast (n := 100) dd_looks_243 ia_208 la_208 s8 rfl ?_
          refine R_inc (y := v3 + 1) (ls' := [some (.inr (.inr 182)), some (.inl v1), some (.inl v2), some (.inl (v3 + 1)), o4]) dd_looks_244 rfl (by decide) (by omega) (by omega) rfl rfl ?_
          refine R_goto dd_looks_247 rfl ?_
          exact k
theorem B_tellsMost_0 {xs : Nat → Int} {xl e : Nat} {h : LH} {Q : Option LV → LH → Prop} (hF : RF h)
    (k : Rn xs xl e mm_tellsMost 6 [some (.inr (.inr 182)), some (.inl (-1)), some (.inl 0), some (.inl 0), none, none] [] h Q) :
    Rn xs xl e mm_tellsMost 0 [some (.inr (.inr 182)), none, none, none, none, none] [] h Q := by
  refine R_ic dd_tellsMost_0 (by decide) rfl ?_
  refine R_st (ls' := [some (.inr (.inr 182)), some (.inl (-1)), none, none, none, none]) dd_tellsMost_1 rfl rfl rfl (Nat.le_of_ble_eq_true rfl) rfl rfl ?_
  refine R_ic dd_tellsMost_2 (by decide) rfl ?_
  refine R_st (ls' := [some (.inr (.inr 182)), some (.inl (-1)), some (.inl 0), none, none, none]) dd_tellsMost_3 rfl rfl rfl (Nat.le_of_ble_eq_true rfl) rfl rfl ?_
  refine R_ic dd_tellsMost_4 (by decide) rfl ?_
  refine R_st (ls' := [some (.inr (.inr 182)), some (.inl (-1)), some (.inl 0), some (.inl 0), none, none]) dd_tellsMost_5 rfl rfl rfl (Nat.le_of_ble_eq_true rfl) rfl rfl ?_
  exact k
theorem B_tellsMost_6 {xs : Nat → Int} {xl e : Nat} {h : LH} {Q : Option LV → LH → Prop} {v1 v2 v3 : Int} {o4 : Option LV} {o5 : Option LV} (hF : RF h) (r_v3 : 0 ≤ v3 ∧ v3 ≤ 100) (he : 1 ≤ e)
    (k : (100 ≤ v3 →
        Q (some (.inl v1)) h) ∧
      (v3 < 100 →
        ((rd h 188 0) ≤ (v3 / 10) →
          (0 ≤ v3 ∧ v3 < 100) ∧
          (0 ≤ v3 ∧ v3 < 100) ∧
          (-2147483648 ≤ (rd h 182 45) - (rd h 208 v3) ∧ (rd h 182 45) - (rd h 208 v3) ≤ 2147483647) ∧
          (((rd h 182 45) - (rd h 208 v3)) ≤ (rd h 208 v3) →
            (0 ≤ v3 ∧ v3 < 100) ∧
            (-2147483648 ≤ (rd h 182 45) - (rd h 208 v3) ∧ (rd h 182 45) - (rd h 208 v3) ≤ 2147483647) ∧
            Rn xs xl e mm_tellsMost 110 [some (.inr (.inr 182)), some (.inl v1), some (.inl v2), some (.inl v3), some (.inl 0), some (.inl ((rd h 182 45) - (rd h 208 v3)))] [] h Q) ∧
          ((rd h 208 v3) < ((rd h 182 45) - (rd h 208 v3)) →
            (0 ≤ v3 ∧ v3 < 100) ∧
            Rn xs xl e mm_tellsMost 110 [some (.inr (.inr 182)), some (.inl v1), some (.inl v2), some (.inl v3), some (.inl 0), some (.inl (rd h 208 v3))] [] h Q)) ∧
        ((v3 / 10) < (rd h 188 0) →
          ((rd h 188 0) ≤ (v3 % 10) →
            (0 ≤ v3 ∧ v3 < 100) ∧
            (0 ≤ v3 ∧ v3 < 100) ∧
            (-2147483648 ≤ (rd h 182 45) - (rd h 208 v3) ∧ (rd h 182 45) - (rd h 208 v3) ≤ 2147483647) ∧
            (((rd h 182 45) - (rd h 208 v3)) ≤ (rd h 208 v3) →
              (0 ≤ v3 ∧ v3 < 100) ∧
              (-2147483648 ≤ (rd h 182 45) - (rd h 208 v3) ∧ (rd h 182 45) - (rd h 208 v3) ≤ 2147483647) ∧
              Rn xs xl e mm_tellsMost 110 [some (.inr (.inr 182)), some (.inl v1), some (.inl v2), some (.inl v3), some (.inl 0), some (.inl ((rd h 182 45) - (rd h 208 v3)))] [] h Q) ∧
            ((rd h 208 v3) < ((rd h 182 45) - (rd h 208 v3)) →
              (0 ≤ v3 ∧ v3 < 100) ∧
              Rn xs xl e mm_tellsMost 110 [some (.inr (.inr 182)), some (.inl v1), some (.inl v2), some (.inl v3), some (.inl 0), some (.inl (rd h 208 v3))] [] h Q)) ∧
          ((v3 % 10) < (rd h 188 0) →
            ((v3 / 10) = (v3 % 10) →
              (0 ≤ v3 ∧ v3 < 100) ∧
              (0 ≤ v3 ∧ v3 < 100) ∧
              (-2147483648 ≤ (rd h 182 45) - (rd h 208 v3) ∧ (rd h 182 45) - (rd h 208 v3) ≤ 2147483647) ∧
              (((rd h 182 45) - (rd h 208 v3)) ≤ (rd h 208 v3) →
                (0 ≤ v3 ∧ v3 < 100) ∧
                (-2147483648 ≤ (rd h 182 45) - (rd h 208 v3) ∧ (rd h 182 45) - (rd h 208 v3) ≤ 2147483647) ∧
                Rn xs xl e mm_tellsMost 110 [some (.inr (.inr 182)), some (.inl v1), some (.inl v2), some (.inl v3), some (.inl 0), some (.inl ((rd h 182 45) - (rd h 208 v3)))] [] h Q) ∧
              ((rd h 208 v3) < ((rd h 182 45) - (rd h 208 v3)) →
                (0 ≤ v3 ∧ v3 < 100) ∧
                Rn xs xl e mm_tellsMost 110 [some (.inr (.inr 182)), some (.inl v1), some (.inl v2), some (.inl v3), some (.inl 0), some (.inl (rd h 208 v3))] [] h Q)) ∧
            ((v3 / 10) ≠ (v3 % 10) →
              (0 ≤ v3 ∧ v3 < 100) ∧
              (0 ≤ v3 ∧ v3 < 100) ∧
              (-2147483648 ≤ (rd h 182 45) - (rd h 208 v3) ∧ (rd h 182 45) - (rd h 208 v3) ≤ 2147483647) ∧
              (((rd h 182 45) - (rd h 208 v3)) ≤ (rd h 208 v3) →
                (0 ≤ v3 ∧ v3 < 100) ∧
                (-2147483648 ≤ (rd h 182 45) - (rd h 208 v3) ∧ (rd h 182 45) - (rd h 208 v3) ≤ 2147483647) ∧
                (((rd h 182 45) - (rd h 208 v3)) ≤ v2 →
                  Rn xs xl e mm_tellsMost 110 [some (.inr (.inr 182)), some (.inl v1), some (.inl v2), some (.inl v3), some (.inl 1), some (.inl ((rd h 182 45) - (rd h 208 v3)))] [] h Q) ∧
                (v2 < ((rd h 182 45) - (rd h 208 v3)) →
                  Rn xs xl e mm_tellsMost 110 [some (.inr (.inr 182)), some (.inl v3), some (.inl ((rd h 182 45) - (rd h 208 v3))), some (.inl v3), some (.inl 1), some (.inl ((rd h 182 45) - (rd h 208 v3)))] [] h Q)) ∧
              ((rd h 208 v3) < ((rd h 182 45) - (rd h 208 v3)) →
                (0 ≤ v3 ∧ v3 < 100) ∧
                ((rd h 208 v3) ≤ v2 →
                  Rn xs xl e mm_tellsMost 110 [some (.inr (.inr 182)), some (.inl v1), some (.inl v2), some (.inl v3), some (.inl 1), some (.inl (rd h 208 v3))] [] h Q) ∧
                (v2 < (rd h 208 v3) →
                  Rn xs xl e mm_tellsMost 110 [some (.inr (.inr 182)), some (.inl v3), some (.inl (rd h 208 v3)), some (.inl v3), some (.inl 1), some (.inl (rd h 208 v3))] [] h Q))))))) :
    Rn xs xl e mm_tellsMost 6 [some (.inr (.inr 182)), some (.inl v1), some (.inl v2), some (.inl v3), o4, o5] [] h Q := by
  refine R_ld (v := .inl v3) dd_tellsMost_6 rfl rfl rfl rfl ?_
  refine R_bi dd_tellsMost_7 (by decide) rfl ?_
  refine R_icmp dd_tellsMost_9 rfl rfl (fun (c25 : 100 ≤ v3) => ?_) (fun (c25 : v3 < 100) => ?_)
  · replace k := k.1 c25
    refine R_ld (v := .inl v1) dd_tellsMost_116 rfl rfl rfl rfl ?_
    exact R_iret dd_tellsMost_117 rfl k
  · replace k := k.2 c25
    refine R_ld (v := .inl v3) dd_tellsMost_12 rfl rfl rfl rfl ?_
    refine R_bi dd_tellsMost_13 (by decide) rfl ?_
    refine R_idiv dd_tellsMost_15 (by omega) (by decide) rfl ?_
    refine R_ld (v := .inr (.inr 182)) dd_tellsMost_16 rfl rfl rfl rfl ?_
    refine R_call (as := [.inr (.inr 182)]) (rest := [.inl (v3 / 10)]) (M' := mm_rooms) (ls0 := [some (.inr (.inr 182))]) dd_tellsMost_17 rfl rfl (cw_v cw_12_332 io_182 rfl rfl (Nat.le_of_ble_eq_true rfl) (Nat.le_of_ble_eq_true rfl)) mt_rooms rfl (c := e - 1) (by omega) rfl ?_
    refine R_ld (v := .inr (.inr 182)) dd_rooms_0 rfl rfl rfl rfl ?_
    refine R_gf (v := .inr (.inr 188)) dd_rooms_1 fd_12_95 io_182 (congrArg (fun z : Int => (Sum.inr (Sum.inr z) : LV)) (rf_182_10 hF)) rfl ?_
    refine R_ic dd_rooms_4 (by decide) rfl ?_
    refine R_iald (v := (rd h 188 0)) (n := 300) dd_rooms_5 ia_188 la_188 (by decide) (rfl) rfl ?_
    refine R_iret dd_rooms_6 rfl ?_
    change Rn xs xl e mm_tellsMost 20 [some (.inr (.inr 182)), some (.inl v1), some (.inl v2), some (.inl v3), o4, o5] [.inl (rd h 188 0), .inl (v3 / 10)] h _
    refine R_icmp dd_tellsMost_20 rfl rfl (fun (c26 : (rd h 188 0) ≤ (v3 / 10)) => ?_) (fun (c26 : (v3 / 10) < (rd h 188 0)) => ?_)
    · replace k := k.1 c26
      refine R_ic dd_tellsMost_49 (by decide) rfl ?_
      refine R_st (ls' := [some (.inr (.inr 182)), some (.inl v1), some (.inl v2), some (.inl v3), some (.inl 0), o5]) dd_tellsMost_50 rfl rfl rfl (Nat.le_of_ble_eq_true rfl) rfl rfl ?_
      refine R_ld (v := .inr (.inr 182)) dd_tellsMost_52 rfl rfl rfl rfl ?_
      refine R_gf (v := .inr (.inr 208)) dd_tellsMost_53 fd_12_162 io_182 (congrArg (fun z : Int => (Sum.inr (Sum.inr z) : LV)) (rf_182_43 hF)) rfl ?_
      refine R_ld (v := .inl v3) dd_tellsMost_56 rfl rfl rfl rfl ?_
      obtain ⟨s1, k⟩ := k
      refine R_iald (v := (rd h 208 v3)) (n := 100) dd_tellsMost_57 ia_208 la_208 s1 (rfl) rfl ?_
      refine R_ld (v := .inr (.inr 182)) dd_tellsMost_58 rfl rfl rfl rfl ?_
      refine R_gf (v := .inl (rd h 182 45)) dd_tellsMost_59 fd_12_459 io_182 (congrArg (fun z : Int => (Sum.inl z : LV)) (rfl)) rfl ?_
      refine R_ld (v := .inr (.inr 182)) dd_tellsMost_62 rfl rfl rfl rfl ?_
      refine R_gf (v := .inr (.inr 208)) dd_tellsMost_63 fd_12_162 io_182 (congrArg (fun z : Int => (Sum.inr (Sum.inr z) : LV)) (rf_182_43 hF)) rfl ?_
      refine R_ld (v := .inl v3) dd_tellsMost_66 rfl rfl rfl rfl ?_
      obtain ⟨s2, k⟩ := k
      refine R_iald (v := (rd h 208 v3)) (n := 100) dd_tellsMost_67 ia_208 la_208 s2 (rfl) rfl ?_
      obtain ⟨s3, k⟩ := k
      refine R_isub (c := (rd h 182 45) - (rd h 208 v3)) dd_tellsMost_68 (by omega) s3 rfl ?_
      refine R_icmp dd_tellsMost_69 rfl rfl (fun (c27 : ((rd h 182 45) - (rd h 208 v3)) ≤ (rd h 208 v3)) => ?_) (fun (c27 : (rd h 208 v3) < ((rd h 182 45) - (rd h 208 v3))) => ?_)
      · replace k := k.1 c27
        refine R_ld (v := .inr (.inr 182)) dd_tellsMost_81 rfl rfl rfl rfl ?_
        refine R_gf (v := .inl (rd h 182 45)) dd_tellsMost_82 fd_12_459 io_182 (congrArg (fun z : Int => (Sum.inl z : LV)) (rfl)) rfl ?_
        refine R_ld (v := .inr (.inr 182)) dd_tellsMost_85 rfl rfl rfl rfl ?_
        refine R_gf (v := .inr (.inr 208)) dd_tellsMost_86 fd_12_162 io_182 (congrArg (fun z : Int => (Sum.inr (Sum.inr z) : LV)) (rf_182_43 hF)) rfl ?_
        refine R_ld (v := .inl v3) dd_tellsMost_89 rfl rfl rfl rfl ?_
        obtain ⟨s4, k⟩ := k
        refine R_iald (v := (rd h 208 v3)) (n := 100) dd_tellsMost_90 ia_208 la_208 s4 (rfl) rfl ?_
        obtain ⟨s5, k⟩ := k
        refine R_isub (c := (rd h 182 45) - (rd h 208 v3)) dd_tellsMost_91 (by omega) s5 rfl ?_
        refine R_st (ls' := [some (.inr (.inr 182)), some (.inl v1), some (.inl v2), some (.inl v3), some (.inl 0), some (.inl ((rd h 182 45) - (rd h 208 v3)))]) dd_tellsMost_92 rfl rfl rfl (Nat.le_of_ble_eq_true rfl) rfl rfl ?_
        refine R_ld (v := .inl 0) dd_tellsMost_94 rfl rfl rfl rfl ?_
        refine R_if dd_tellsMost_96 rfl rfl (fun (c28 : 0 = 0) => ?_) (fun (c28 : 0 ≠ 0) => ?_)
        · skip
          exact k
        · exact absurd c28 (by omega)
      · replace k := k.2 c27
        refine R_ld (v := .inr (.inr 182)) dd_tellsMost_72 rfl rfl rfl rfl ?_
        refine R_gf (v := .inr (.inr 208)) dd_tellsMost_73 fd_12_162 io_182 (congrArg (fun z : Int => (Sum.inr (Sum.inr z) : LV)) (rf_182_43 hF)) rfl ?_
        refine R_ld (v := .inl v3) dd_tellsMost_76 rfl rfl rfl rfl ?_
        obtain ⟨s6, k⟩ := k
        refine R_iald (v := (rd h 208 v3)) (n := 100) dd_tellsMost_77 ia_208 la_208 s6 (rfl) rfl ?_
        refine R_goto dd_tellsMost_78 rfl ?_
        refine R_st (ls' := [some (.inr (.inr 182)), some (.inl v1), some (.inl v2), some (.inl v3), some (.inl 0), some (.inl (rd h 208 v3))]) dd_tellsMost_92 rfl rfl rfl (Nat.le_of_ble_eq_true rfl) rfl rfl ?_
        refine R_ld (v := .inl 0) dd_tellsMost_94 rfl rfl rfl rfl ?_
        refine R_if dd_tellsMost_96 rfl rfl (fun (c29 : 0 = 0) => ?_) (fun (c29 : 0 ≠ 0) => ?_)
        · skip
          exact k
        · exact absurd c29 (by omega)
    · replace k := k.2 c26
      refine R_ld (v := .inl v3) dd_tellsMost_23 rfl rfl rfl rfl ?_
      refine R_bi dd_tellsMost_24 (by decide) rfl ?_
      refine R_irem dd_tellsMost_26 (by omega) (by decide) rfl ?_
      refine R_ld (v := .inr (.inr 182)) dd_tellsMost_27 rfl rfl rfl rfl ?_
      refine R_call (as := [.inr (.inr 182)]) (rest := [.inl (v3 % 10)]) (M' := mm_rooms) (ls0 := [some (.inr (.inr 182))]) dd_tellsMost_28 rfl rfl (cw_v cw_12_332 io_182 rfl rfl (Nat.le_of_ble_eq_true rfl) (Nat.le_of_ble_eq_true rfl)) mt_rooms rfl (c := e - 1) (by omega) rfl ?_
      refine R_ld (v := .inr (.inr 182)) dd_rooms_0 rfl rfl rfl rfl ?_
      refine R_gf (v := .inr (.inr 188)) dd_rooms_1 fd_12_95 io_182 (congrArg (fun z : Int => (Sum.inr (Sum.inr z) : LV)) (rf_182_10 hF)) rfl ?_
      refine R_ic dd_rooms_4 (by decide) rfl ?_
      refine R_iald (v := (rd h 188 0)) (n := 300) dd_rooms_5 ia_188 la_188 (by decide) (rfl) rfl ?_
      refine R_iret dd_rooms_6 rfl ?_
      change Rn xs xl e mm_tellsMost 31 [some (.inr (.inr 182)), some (.inl v1), some (.inl v2), some (.inl v3), o4, o5] [.inl (rd h 188 0), .inl (v3 % 10)] h _
      refine R_icmp dd_tellsMost_31 rfl rfl (fun (c30 : (rd h 188 0) ≤ (v3 % 10)) => ?_) (fun (c30 : (v3 % 10) < (rd h 188 0)) => ?_)
      · replace k := k.1 c30
        refine R_ic dd_tellsMost_49 (by decide) rfl ?_
        refine R_st (ls' := [some (.inr (.inr 182)), some (.inl v1), some (.inl v2), some (.inl v3), some (.inl 0), o5]) dd_tellsMost_50 rfl rfl rfl (Nat.le_of_ble_eq_true rfl) rfl rfl ?_
        refine R_ld (v := .inr (.inr 182)) dd_tellsMost_52 rfl rfl rfl rfl ?_
        refine R_gf (v := .inr (.inr 208)) dd_tellsMost_53 fd_12_162 io_182 (congrArg (fun z : Int => (Sum.inr (Sum.inr z) : LV)) (rf_182_43 hF)) rfl ?_
        refine R_ld (v := .inl v3) dd_tellsMost_56 rfl rfl rfl rfl ?_
        obtain ⟨s7, k⟩ := k
        refine R_iald (v := (rd h 208 v3)) (n := 100) dd_tellsMost_57 ia_208 la_208 s7 (rfl) rfl ?_
        refine R_ld (v := .inr (.inr 182)) dd_tellsMost_58 rfl rfl rfl rfl ?_
        refine R_gf (v := .inl (rd h 182 45)) dd_tellsMost_59 fd_12_459 io_182 (congrArg (fun z : Int => (Sum.inl z : LV)) (rfl)) rfl ?_
        refine R_ld (v := .inr (.inr 182)) dd_tellsMost_62 rfl rfl rfl rfl ?_
        refine R_gf (v := .inr (.inr 208)) dd_tellsMost_63 fd_12_162 io_182 (congrArg (fun z : Int => (Sum.inr (Sum.inr z) : LV)) (rf_182_43 hF)) rfl ?_
        refine R_ld (v := .inl v3) dd_tellsMost_66 rfl rfl rfl rfl ?_
        obtain ⟨s8, k⟩ := k
        refine R_iald (v := (rd h 208 v3)) (n := 100) dd_tellsMost_67 ia_208 la_208 s8 (rfl) rfl ?_
        obtain ⟨s9, k⟩ := k
        refine R_isub (c := (rd h 182 45) - (rd h 208 v3)) dd_tellsMost_68 (by omega) s9 rfl ?_
        refine R_icmp dd_tellsMost_69 rfl rfl (fun (c31 : ((rd h 182 45) - (rd h 208 v3)) ≤ (rd h 208 v3)) => ?_) (fun (c31 : (rd h 208 v3) < ((rd h 182 45) - (rd h 208 v3))) => ?_)
        · replace k := k.1 c31
          refine R_ld (v := .inr (.inr 182)) dd_tellsMost_81 rfl rfl rfl rfl ?_
          refine R_gf (v := .inl (rd h 182 45)) dd_tellsMost_82 fd_12_459 io_182 (congrArg (fun z : Int => (Sum.inl z : LV)) (rfl)) rfl ?_
          refine R_ld (v := .inr (.inr 182)) dd_tellsMost_85 rfl rfl rfl rfl ?_
          refine R_gf (v := .inr (.inr 208)) dd_tellsMost_86 fd_12_162 io_182 (congrArg (fun z : Int => (Sum.inr (Sum.inr z) : LV)) (rf_182_43 hF)) rfl ?_
          refine R_ld (v := .inl v3) dd_tellsMost_89 rfl rfl rfl rfl ?_
          obtain ⟨s10, k⟩ := k
          refine R_iald (v := (rd h 208 v3)) (n := 100) dd_tellsMost_90 ia_208 la_208 s10 (rfl) rfl ?_
          obtain ⟨s11, k⟩ := k
          refine R_isub (c := (rd h 182 45) - (rd h 208 v3)) dd_tellsMost_91 (by omega) s11 rfl ?_
          refine R_st (ls' := [some (.inr (.inr 182)), some (.inl v1), some (.inl v2), some (.inl v3), some (.inl 0), some (.inl ((rd h 182 45) - (rd h 208 v3)))]) dd_tellsMost_92 rfl rfl rfl (Nat.le_of_ble_eq_true rfl) rfl rfl ?_
          refine R_ld (v := .inl 0) dd_tellsMost_94 rfl rfl rfl rfl ?_
          refine R_if dd_tellsMost_96 rfl rfl (fun (c32 : 0 = 0) => ?_) (fun (c32 : 0 ≠ 0) => ?_)
          · skip
            exact k
          · exact absurd c32 (by omega)
        · replace k := k.2 c31
          refine R_ld (v := .inr (.inr 182)) dd_tellsMost_72 rfl rfl rfl rfl ?_
          refine R_gf (v := .inr (.inr 208)) dd_tellsMost_73 fd_12_162 io_182 (congrArg (fun z : Int => (Sum.inr (Sum.inr z) : LV)) (rf_182_43 hF)) rfl ?_
          refine R_ld (v := .inl v3) dd_tellsMost_76 rfl rfl rfl rfl ?_
          obtain ⟨s12, k⟩ := k
          refine R_iald (v := (rd h 208 v3)) (n := 100) dd_tellsMost_77 ia_208 la_208 s12 (rfl) rfl ?_
          refine R_goto dd_tellsMost_78 rfl ?_
          refine R_st (ls' := [some (.inr (.inr 182)), some (.inl v1), some (.inl v2), some (.inl v3), some (.inl 0), some (.inl (rd h 208 v3))]) dd_tellsMost_92 rfl rfl rfl (Nat.le_of_ble_eq_true rfl) rfl rfl ?_
          refine R_ld (v := .inl 0) dd_tellsMost_94 rfl rfl rfl rfl ?_
          refine R_if dd_tellsMost_96 rfl rfl (fun (c33 : 0 = 0) => ?_) (fun (c33 : 0 ≠ 0) => ?_)
          · skip
            exact k
          · exact absurd c33 (by omega)
      · replace k := k.2 c30
        refine R_ld (v := .inl v3) dd_tellsMost_34 rfl rfl rfl rfl ?_
        refine R_bi dd_tellsMost_35 (by decide) rfl ?_
        refine R_idiv dd_tellsMost_37 (by omega) (by decide) rfl ?_
        refine R_ld (v := .inl v3) dd_tellsMost_38 rfl rfl rfl rfl ?_
        refine R_bi dd_tellsMost_39 (by decide) rfl ?_
        refine R_irem dd_tellsMost_41 (by omega) (by decide) rfl ?_
        refine R_icmp dd_tellsMost_42 rfl rfl (fun (c34 : (v3 / 10) = (v3 % 10)) => ?_) (fun (c34 : (v3 / 10) ≠ (v3 % 10)) => ?_)
        · replace k := k.1 c34
          refine R_ic dd_tellsMost_49 (by decide) rfl ?_
          refine R_st (ls' := [some (.inr (.inr 182)), some (.inl v1), some (.inl v2), some (.inl v3), some (.inl 0), o5]) dd_tellsMost_50 rfl rfl rfl (Nat.le_of_ble_eq_true rfl) rfl rfl ?_
          refine R_ld (v := .inr (.inr 182)) dd_tellsMost_52 rfl rfl rfl rfl ?_
          refine R_gf (v := .inr (.inr 208)) dd_tellsMost_53 fd_12_162 io_182 (congrArg (fun z : Int => (Sum.inr (Sum.inr z) : LV)) (rf_182_43 hF)) rfl ?_
          refine R_ld (v := .inl v3) dd_tellsMost_56 rfl rfl rfl rfl ?_
          obtain ⟨s13, k⟩ := k
          refine R_iald (v := (rd h 208 v3)) (n := 100) dd_tellsMost_57 ia_208 la_208 s13 (rfl) rfl ?_
          refine R_ld (v := .inr (.inr 182)) dd_tellsMost_58 rfl rfl rfl rfl ?_
          refine R_gf (v := .inl (rd h 182 45)) dd_tellsMost_59 fd_12_459 io_182 (congrArg (fun z : Int => (Sum.inl z : LV)) (rfl)) rfl ?_
          refine R_ld (v := .inr (.inr 182)) dd_tellsMost_62 rfl rfl rfl rfl ?_
          refine R_gf (v := .inr (.inr 208)) dd_tellsMost_63 fd_12_162 io_182 (congrArg (fun z : Int => (Sum.inr (Sum.inr z) : LV)) (rf_182_43 hF)) rfl ?_
          refine R_ld (v := .inl v3) dd_tellsMost_66 rfl rfl rfl rfl ?_
          obtain ⟨s14, k⟩ := k
          refine R_iald (v := (rd h 208 v3)) (n := 100) dd_tellsMost_67 ia_208 la_208 s14 (rfl) rfl ?_
          obtain ⟨s15, k⟩ := k
          refine R_isub (c := (rd h 182 45) - (rd h 208 v3)) dd_tellsMost_68 (by omega) s15 rfl ?_
          refine R_icmp dd_tellsMost_69 rfl rfl (fun (c35 : ((rd h 182 45) - (rd h 208 v3)) ≤ (rd h 208 v3)) => ?_) (fun (c35 : (rd h 208 v3) < ((rd h 182 45) - (rd h 208 v3))) => ?_)
          · replace k := k.1 c35
            refine R_ld (v := .inr (.inr 182)) dd_tellsMost_81 rfl rfl rfl rfl ?_
            refine R_gf (v := .inl (rd h 182 45)) dd_tellsMost_82 fd_12_459 io_182 (congrArg (fun z : Int => (Sum.inl z : LV)) (rfl)) rfl ?_
            refine R_ld (v := .inr (.inr 182)) dd_tellsMost_85 rfl rfl rfl rfl ?_
            refine R_gf (v := .inr (.inr 208)) dd_tellsMost_86 fd_12_162 io_182 (congrArg (fun z : Int => (Sum.inr (Sum.inr z) : LV)) (rf_182_43 hF)) rfl ?_
            refine R_ld (v := .inl v3) dd_tellsMost_89 rfl rfl rfl rfl ?_
            obtain ⟨s16, k⟩ := k
            refine R_iald (v := (rd h 208 v3)) (n := 100) dd_tellsMost_90 ia_208 la_208 s16 (rfl) rfl ?_
            obtain ⟨s17, k⟩ := k
            refine R_isub (c := (rd h 182 45) - (rd h 208 v3)) dd_tellsMost_91 (by omega) s17 rfl ?_
            refine R_st (ls' := [some (.inr (.inr 182)), some (.inl v1), some (.inl v2), some (.inl v3), some (.inl 0), some (.inl ((rd h 182 45) - (rd h 208 v3)))]) dd_tellsMost_92 rfl rfl rfl (Nat.le_of_ble_eq_true rfl) rfl rfl ?_
            refine R_ld (v := .inl 0) dd_tellsMost_94 rfl rfl rfl rfl ?_
            refine R_if dd_tellsMost_96 rfl rfl (fun (c36 : 0 = 0) => ?_) (fun (c36 : 0 ≠ 0) => ?_)
            · skip
              exact k
            · exact absurd c36 (by omega)
          · replace k := k.2 c35
            refine R_ld (v := .inr (.inr 182)) dd_tellsMost_72 rfl rfl rfl rfl ?_
            refine R_gf (v := .inr (.inr 208)) dd_tellsMost_73 fd_12_162 io_182 (congrArg (fun z : Int => (Sum.inr (Sum.inr z) : LV)) (rf_182_43 hF)) rfl ?_
            refine R_ld (v := .inl v3) dd_tellsMost_76 rfl rfl rfl rfl ?_
            obtain ⟨s18, k⟩ := k
            refine R_iald (v := (rd h 208 v3)) (n := 100) dd_tellsMost_77 ia_208 la_208 s18 (rfl) rfl ?_
            refine R_goto dd_tellsMost_78 rfl ?_
            refine R_st (ls' := [some (.inr (.inr 182)), some (.inl v1), some (.inl v2), some (.inl v3), some (.inl 0), some (.inl (rd h 208 v3))]) dd_tellsMost_92 rfl rfl rfl (Nat.le_of_ble_eq_true rfl) rfl rfl ?_
            refine R_ld (v := .inl 0) dd_tellsMost_94 rfl rfl rfl rfl ?_
            refine R_if dd_tellsMost_96 rfl rfl (fun (c37 : 0 = 0) => ?_) (fun (c37 : 0 ≠ 0) => ?_)
            · skip
              exact k
            · exact absurd c37 (by omega)
        · replace k := k.2 c34
          refine R_ic dd_tellsMost_45 (by decide) rfl ?_
          refine R_goto dd_tellsMost_46 rfl ?_
          refine R_st (ls' := [some (.inr (.inr 182)), some (.inl v1), some (.inl v2), some (.inl v3), some (.inl 1), o5]) dd_tellsMost_50 rfl rfl rfl (Nat.le_of_ble_eq_true rfl) rfl rfl ?_
          refine R_ld (v := .inr (.inr 182)) dd_tellsMost_52 rfl rfl rfl rfl ?_
          refine R_gf (v := .inr (.inr 208)) dd_tellsMost_53 fd_12_162 io_182 (congrArg (fun z : Int => (Sum.inr (Sum.inr z) : LV)) (rf_182_43 hF)) rfl ?_
          refine R_ld (v := .inl v3) dd_tellsMost_56 rfl rfl rfl rfl ?_
          obtain ⟨s19, k⟩ := k
          refine R_iald (v := (rd h 208 v3)) (n := 100) dd_tellsMost_57 ia_208 la_208 s19 (rfl) rfl ?_
          refine R_ld (v := .inr (.inr 182)) dd_tellsMost_58 rfl rfl rfl rfl ?_
          refine R_gf (v := .inl (rd h 182 45)) dd_tellsMost_59 fd_12_459 io_182 (congrArg (fun z : Int => (Sum.inl z : LV)) (rfl)) rfl ?_
          refine R_ld (v := .inr (.inr 182)) dd_tellsMost_62 rfl rfl rfl rfl ?_
          refine R_gf (v := .inr (.inr 208)) dd_tellsMost_63 fd_12_162 io_182 (congrArg (fun z : Int => (Sum.inr (Sum.inr z) : LV)) (rf_182_43 hF)) rfl ?_
          refine R_ld (v := .inl v3) dd_tellsMost_66 rfl rfl rfl rfl ?_
          obtain ⟨s20, k⟩ := k
          refine R_iald (v := (rd h 208 v3)) (n := 100) dd_tellsMost_67 ia_208 la_208 s20 (rfl) rfl ?_
          obtain ⟨s21, k⟩ := k
          refine R_isub (c := (rd h 182 45) - (rd h 208 v3)) dd_tellsMost_68 (by omega) s21 rfl ?_
          refine R_icmp dd_tellsMost_69 rfl rfl (fun (c38 : ((rd h 182 45) - (rd h 208 v3)) ≤ (rd h 208 v3)) => ?_) (fun (c38 : (rd h 208 v3) < ((rd h 182 45) - (rd h 208 v3))) => ?_)
          · replace k := k.1 c38
            refine R_ld (v := .inr (.inr 182)) dd_tellsMost_81 rfl rfl rfl rfl ?_
            refine R_gf (v := .inl (rd h 182 45)) dd_tellsMost_82 fd_12_459 io_182 (congrArg (fun z : Int => (Sum.inl z : LV)) (rfl)) rfl ?_
            refine R_ld (v := .inr (.inr 182)) dd_tellsMost_85 rfl rfl rfl rfl ?_
            refine R_gf (v := .inr (.inr 208)) dd_tellsMost_86 fd_12_162 io_182 (congrArg (fun z : Int => (Sum.inr (Sum.inr z) : LV)) (rf_182_43 hF)) rfl ?_
            refine R_ld (v := .inl v3) dd_tellsMost_89 rfl rfl rfl rfl ?_
            obtain ⟨s22, k⟩ := k
            refine R_iald (v := (rd h 208 v3)) (n := 100) dd_tellsMost_90 ia_208 la_208 s22 (rfl) rfl ?_
            obtain ⟨s23, k⟩ := k
            refine R_isub (c := (rd h 182 45) - (rd h 208 v3)) dd_tellsMost_91 (by omega) s23 rfl ?_
            refine R_st (ls' := [some (.inr (.inr 182)), some (.inl v1), some (.inl v2), some (.inl v3), some (.inl 1), some (.inl ((rd h 182 45) - (rd h 208 v3)))]) dd_tellsMost_92 rfl rfl rfl (Nat.le_of_ble_eq_true rfl) rfl rfl ?_
            refine R_ld (v := .inl 1) dd_tellsMost_94 rfl rfl rfl rfl ?_
            refine R_if dd_tellsMost_96 rfl rfl (fun (c39 : 1 = 0) => ?_) (fun (c39 : 1 ≠ 0) => ?_)
            · exact absurd c39 (by omega)
            · skip
              refine R_ld (v := .inl ((rd h 182 45) - (rd h 208 v3))) dd_tellsMost_99 rfl rfl rfl rfl ?_
              refine R_ld (v := .inl v2) dd_tellsMost_101 rfl rfl rfl rfl ?_
              refine R_icmp dd_tellsMost_102 rfl rfl (fun (c40 : ((rd h 182 45) - (rd h 208 v3)) ≤ v2) => ?_) (fun (c40 : v2 < ((rd h 182 45) - (rd h 208 v3))) => ?_)
              · replace k := k.1 c40
                exact k
              · replace k := k.2 c40
                refine R_ld (v := .inl v3) dd_tellsMost_105 rfl rfl rfl rfl ?_
                refine R_st (ls' := [some (.inr (.inr 182)), some (.inl v3), some (.inl v2), some (.inl v3), some (.inl 1), some (.inl ((rd h 182 45) - (rd h 208 v3)))]) dd_tellsMost_106 rfl rfl rfl (Nat.le_of_ble_eq_true rfl) rfl rfl ?_
                refine R_ld (v := .inl ((rd h 182 45) - (rd h 208 v3))) dd_tellsMost_107 rfl rfl rfl rfl ?_
                refine R_st (ls' := [some (.inr (.inr 182)), some (.inl v3), some (.inl ((rd h 182 45) - (rd h 208 v3))), some (.inl v3), some (.inl 1), some (.inl ((rd h 182 45) - (rd h 208 v3)))]) dd_tellsMost_109 rfl rfl rfl (Nat.le_of_ble_eq_true rfl) rfl rfl ?_
                exact k
          · replace k := k.2 c38
            refine R_ld (v := .inr (.inr 182)) dd_tellsMost_72 rfl rfl rfl rfl ?_
            refine R_gf (v := .inr (.inr 208)) dd_tellsMost_73 fd_12_162 io_182 (congrArg (fun z : Int => (Sum.inr (Sum.inr z) : LV)) (rf_182_43 hF)) rfl ?_
            refine R_ld (v := .inl v3) dd_tellsMost_76 rfl rfl rfl rfl ?_
            obtain ⟨s24, k⟩ := k
            refine R_iald (v := (rd h 208 v3)) (n := 100) dd_tellsMost_77 ia_208 la_208 s24 (rfl) rfl ?_
            refine R_goto dd_tellsMost_78 rfl ?_
            refine R_st (ls' := [some (.inr (.inr 182)), some (.inl v1), some (.inl v2), some (.inl v3), some (.inl 1), some (.inl (rd h 208 v3))]) dd_tellsMost_92 rfl rfl rfl (Nat.le_of_ble_eq_true rfl) rfl rfl ?_
            refine R_ld (v := .inl 1) dd_tellsMost_94 rfl rfl rfl rfl ?_
            refine R_if dd_tellsMost_96 rfl rfl (fun (c41 : 1 = 0) => ?_) (fun (c41 : 1 ≠ 0) => ?_)
            · exact absurd c41 (by omega)
            · skip
              refine R_ld (v := .inl (rd h 208 v3)) dd_tellsMost_99 rfl rfl rfl rfl ?_
              refine R_ld (v := .inl v2) dd_tellsMost_101 rfl rfl rfl rfl ?_
              refine R_icmp dd_tellsMost_102 rfl rfl (fun (c42 : (rd h 208 v3) ≤ v2) => ?_) (fun (c42 : v2 < (rd h 208 v3)) => ?_)
              · replace k := k.1 c42
                exact k
              · replace k := k.2 c42
                refine R_ld (v := .inl v3) dd_tellsMost_105 rfl rfl rfl rfl ?_
                refine R_st (ls' := [some (.inr (.inr 182)), some (.inl v3), some (.inl v2), some (.inl v3), some (.inl 1), some (.inl (rd h 208 v3))]) dd_tellsMost_106 rfl rfl rfl (Nat.le_of_ble_eq_true rfl) rfl rfl ?_
                refine R_ld (v := .inl (rd h 208 v3)) dd_tellsMost_107 rfl rfl rfl rfl ?_
                refine R_st (ls' := [some (.inr (.inr 182)), some (.inl v3), some (.inl (rd h 208 v3)), some (.inl v3), some (.inl 1), some (.inl (rd h 208 v3))]) dd_tellsMost_109 rfl rfl rfl (Nat.le_of_ble_eq_true rfl) rfl rfl ?_
                exact k
theorem B_tellsMost_110 {xs : Nat → Int} {xl e : Nat} {h : LH} {Q : Option LV → LH → Prop} {v1 v2 v3 v4 v5 : Int} (hF : RF h) (r_v3 : 0 ≤ v3 ∧ v3 ≤ 99)
    (k : Rn xs xl e mm_tellsMost 6 [some (.inr (.inr 182)), some (.inl v1), some (.inl v2), some (.inl (v3 + 1)), some (.inl v4), some (.inl v5)] [] h Q) :
    Rn xs xl e mm_tellsMost 110 [some (.inr (.inr 182)), some (.inl v1), some (.inl v2), some (.inl v3), some (.inl v4), some (.inl v5)] [] h Q := by
  refine R_inc (y := v3 + 1) (ls' := [some (.inr (.inr 182)), some (.inl v1), some (.inl v2), some (.inl (v3 + 1)), some (.inl v4), some (.inl v5)]) dd_tellsMost_110 rfl (by decide) (by omega) (by omega) rfl rfl ?_
  refine R_goto dd_tellsMost_113 rfl ?_
  exact k
theorem B_found_0 {xs : Nat → Int} {xl e : Nat} {h : LH} {Q : Option LV → LH → Prop} {v1 : Int} (hF : RF h) (he : 1 ≤ e)
    (k : (v1 < 0 →
        Q (some (.inl (-1))) (wr h 182 0 0)) ∧
      (0 ≤ v1 →
        (4 < v1 →
          Q (some (.inl (-1))) (wr h 182 0 0)) ∧
        (v1 ≤ 4 →
          (-2147483648 ≤ (zshl 1 (rd h 188 1)) - 1 ∧ (zshl 1 (rd h 188 1)) - 1 ≤ 2147483647) ∧
          Rn xs xl e mm_found 45 [some (.inr (.inr 182)), some (.inl v1), some (.inl 0)] [] (wr (wr (wr (wr (wr h 182 0 0) 182 45 0) 182 46 ((zshl 1 (rd h 188 1)) - 1)) 182 47 0) 182 48 (-1)) Q))) :
    Rn xs xl e mm_found 0 [some (.inr (.inr 182)), some (.inl v1), none] [] h Q := by
  refine R_ld (v := .inr (.inr 182)) dd_found_0 rfl rfl rfl rfl ?_
  refine R_ic dd_found_1 (by decide) rfl ?_
  refine R_pf (z := 0) dd_found_2 fd_12_1 io_182 fn_12_0 rfl rfl ?_
  refine R_ld (v := .inl v1) dd_found_5 rfl rfl rfl rfl ?_
  refine R_ic dd_found_6 (by decide) rfl ?_
  refine R_ic dd_found_7 (by decide) rfl ?_
  refine R_call (as := [.inl v1, .inl 0, .inl 4]) (rest := []) (M' := mm_within) (ls0 := [some (.inl v1), some (.inl 0), some (.inl 4)]) dd_found_8 rfl rfl (cw_s cw_12_297 rfl rfl (Nat.le_of_ble_eq_true rfl) (Nat.le_of_ble_eq_true rfl)) mt_within rfl (c := e - 1) (by omega) rfl ?_
  refine R_ld (v := .inl v1) dd_within_0 rfl rfl rfl rfl ?_
  refine R_ld (v := .inl 0) dd_within_1 rfl rfl rfl rfl ?_
  refine R_icmp dd_within_2 rfl rfl (fun (c2 : v1 < 0) => ?_) (fun (c2 : 0 ≤ v1) => ?_)
  · replace k := k.1 c2
    refine R_ic dd_within_14 (by decide) rfl ?_
    refine R_zret dd_within_15 rfl (by decide) ?_
    change Rn xs xl e mm_found 11 [some (.inr (.inr 182)), some (.inl v1), none] [.inl 0] (wr h 182 0 0) _
    refine R_if dd_found_11 rfl rfl (fun (c3 : 0 ≠ 0) => ?_) (fun (c3 : 0 = 0) => ?_)
    · exact absurd c3 (by omega)
    · skip
      refine R_ic dd_found_14 (by decide) rfl ?_
      exact R_iret dd_found_15 rfl k
  · replace k := k.2 c2
    refine R_ld (v := .inl v1) dd_within_5 rfl rfl rfl rfl ?_
    refine R_ld (v := .inl 4) dd_within_6 rfl rfl rfl rfl ?_
    refine R_icmp dd_within_7 rfl rfl (fun (c4 : 4 < v1) => ?_) (fun (c4 : v1 ≤ 4) => ?_)
    · replace k := k.1 c4
      refine R_ic dd_within_14 (by decide) rfl ?_
      refine R_zret dd_within_15 rfl (by decide) ?_
      change Rn xs xl e mm_found 11 [some (.inr (.inr 182)), some (.inl v1), none] [.inl 0] (wr h 182 0 0) _
      refine R_if dd_found_11 rfl rfl (fun (c5 : 0 ≠ 0) => ?_) (fun (c5 : 0 = 0) => ?_)
      · exact absurd c5 (by omega)
      · skip
        refine R_ic dd_found_14 (by decide) rfl ?_
        exact R_iret dd_found_15 rfl k
    · replace k := k.2 c4
      refine R_ic dd_within_10 (by decide) rfl ?_
      refine R_goto dd_within_11 rfl ?_
      refine R_zret dd_within_15 rfl (by decide) ?_
      change Rn xs xl e mm_found 11 [some (.inr (.inr 182)), some (.inl v1), none] [.inl 1] (wr h 182 0 0) _
      refine R_if dd_found_11 rfl rfl (fun (c6 : 1 ≠ 0) => ?_) (fun (c6 : 1 = 0) => ?_)
      · skip
        refine R_ld (v := .inr (.inr 182)) dd_found_16 rfl rfl rfl rfl ?_
        refine R_ic dd_found_17 (by decide) rfl ?_
        refine R_pf (z := 0) dd_found_18 fd_12_459 io_182 fn_12_45 rfl rfl ?_
        refine R_ld (v := .inr (.inr 182)) dd_found_21 rfl rfl rfl rfl ?_
        refine R_ic dd_found_22 (by decide) rfl ?_
        refine R_ld (v := .inr (.inr 182)) dd_found_23 rfl rfl rfl rfl ?_
        refine R_call (as := [.inr (.inr 182)]) (rest := [.inl 1, .inr (.inr 182)]) (M' := mm_doors) (ls0 := [some (.inr (.inr 182))]) dd_found_24 rfl rfl (cw_v cw_12_335 io_182 rfl rfl (Nat.le_of_ble_eq_true rfl) (Nat.le_of_ble_eq_true rfl)) mt_doors rfl (c := e - 1) (by omega) rfl ?_
        refine R_ld (v := .inr (.inr 182)) dd_doors_0 rfl rfl rfl rfl ?_
        refine R_gf (v := .inr (.inr 188)) dd_doors_1 fd_12_95 io_182 (congrArg (fun z : Int => (Sum.inr (Sum.inr z) : LV)) ((rdw_nei (by omega)).trans ((rdw_nei (by omega)).trans (rf_182_10 hF)))) rfl ?_
        refine R_ic dd_doors_4 (by decide) rfl ?_
        refine R_iald (v := (rd h 188 1)) (n := 300) dd_doors_5 ia_188 la_188 (by decide) ((rdw_ne (by decide)).trans (rdw_ne (by decide))) rfl ?_
        refine R_iret dd_doors_6 rfl ?_
        change Rn xs xl e mm_found 27 [some (.inr (.inr 182)), some (.inl v1), none] [.inl (rd h 188 1), .inl 1, .inr (.inr 182)] (wr (wr h 182 0 0) 182 45 0) _
        refine R_A dd_found_27 rfl rfl rfl rfl ?_
        refine R_ic dd_found_28 (by decide) rfl ?_
        obtain ⟨s1, k⟩ := k
        refine R_isub (c := (zshl 1 (rd h 188 1)) - 1) dd_found_29 (by omega) s1 rfl ?_
        refine R_pf (z := ((zshl 1 (rd h 188 1)) - 1)) dd_found_30 fd_12_462 io_182 fn_12_46 rfl rfl ?_
        refine R_ld (v := .inr (.inr 182)) dd_found_33 rfl rfl rfl rfl ?_
        refine R_ic dd_found_34 (by decide) rfl ?_
        refine R_pf (z := 0) dd_found_35 fd_12_465 io_182 fn_12_47 rfl rfl ?_
        refine R_ld (v := .inr (.inr 182)) dd_found_38 rfl rfl rfl rfl ?_
        refine R_ic dd_found_39 (by decide) rfl ?_
        refine R_pf (z := (-1)) dd_found_40 fd_12_468 io_182 fn_12_48 rfl rfl ?_
        refine R_ic dd_found_43 (by decide) rfl ?_
        refine R_st (ls' := [some (.inr (.inr 182)), some (.inl v1), some (.inl 0)]) dd_found_44 rfl rfl rfl (Nat.le_of_ble_eq_true rfl) rfl rfl ?_
        exact k
      · exact absurd c6 (by omega)
theorem B_found_45 {xs : Nat → Int} {xl e : Nat} {h : LH} {Q : Option LV → LH → Prop} {v1 v2 : Int} (hF : RF h) (r_v2 : 0 ≤ v2 ∧ v2 ≤ 100)
    (k : (100 ≤ v2 →
        Rn xs xl e mm_found 66 [some (.inr (.inr 182)), some (.inl v1), some (.inl 0)] [] h Q) ∧
      (v2 < 100 →
        (0 ≤ v2 ∧ v2 < 100) ∧
        Rn xs xl e mm_found 45 [some (.inr (.inr 182)), some (.inl v1), some (.inl (v2 + 1))] [] (wr h 208 v2 0) Q)) :
    Rn xs xl e mm_found 45 [some (.inr (.inr 182)), some (.inl v1), some (.inl v2)] [] h Q := by
  refine R_ld (v := .inl v2) dd_found_45 rfl rfl rfl rfl ?_
  refine R_bi dd_found_46 (by decide) rfl ?_
  refine R_icmp dd_found_48 rfl rfl (fun (c2 : 100 ≤ v2) => ?_) (fun (c2 : v2 < 100) => ?_)
  · replace k := k.1 c2
    refine R_ic dd_found_64 (by decide) rfl ?_
    refine R_st (ls' := [some (.inr (.inr 182)), some (.inl v1), some (.inl 0)]) dd_found_65 rfl rfl rfl (Nat.le_of_ble_eq_true rfl) rfl rfl ?_
    exact k
  · replace k := k.2 c2
    refine R_ld (v := .inr (.inr 182)) dd_found_51 rfl rfl rfl rfl ?_
    refine R_gf (v := .inr (.inr 208)) dd_found_52 fd_12_162 io_182 (congrArg (fun z : Int => (Sum.inr (Sum.inr z) : LV)) (rf_182_43 hF)) rfl ?_
    refine R_ld (v := .inl v2) dd_found_55 rfl rfl rfl rfl ?_
    refine R_ic dd_found_56 (by decide) rfl ?_
    obtain ⟨s1, k⟩ := k
    refine R_iast (n := 100) dd_found_57 ia_208 la_208 s1 rfl ?_
    refine R_inc (y := v2 + 1) (ls' := [some (.inr (.inr 182)), some (.inl v1), some (.inl (v2 + 1))]) dd_found_58 rfl (by decide) (by omega) (by omega) rfl rfl ?_
    refine R_goto dd_found_61 rfl ?_
    exact k
theorem B_found_66 {xs : Nat → Int} {xl e : Nat} {h : LH} {Q : Option LV → LH → Prop} {v1 v2 : Int} (hF : RF h) (r_v2 : 0 ≤ v2 ∧ v2 ≤ 16384) (he : 1 ≤ e)
    (k : ((zshl 1 (rd h 188 1)) ≤ v2 →
        Rn xs xl e mm_found 98 [some (.inr (.inr 182)), some (.inl v1), some (.inl v2)] [] h Q) ∧
      (v2 < (zshl 1 (rd h 188 1)) →
        ((zand v2 (rd h 198 1)) ≠ 0 →
          Rn xs xl e mm_found 66 [some (.inr (.inr 182)), some (.inl v1), some (.inl (v2 + 1))] [] h Q) ∧
        ((zand v2 (rd h 198 1)) = 0 →
          (∃ c, c < e ∧ Rn xs xl c mm_looks 0 [some (.inr (.inr 182)), some (.inl v2), none, none, none] [] h (fun r h' => Rn xs xl e mm_found 92 [some (.inr (.inr 182)), some (.inl v1), some (.inl v2)] (r.toList ++ []) h' Q))))) :
    Rn xs xl e mm_found 66 [some (.inr (.inr 182)), some (.inl v1), some (.inl v2)] [] h Q := by
  refine R_ld (v := .inl v2) dd_found_66 rfl rfl rfl rfl ?_
  refine R_ic dd_found_67 (by decide) rfl ?_
  refine R_ld (v := .inr (.inr 182)) dd_found_68 rfl rfl rfl rfl ?_
  refine R_call (as := [.inr (.inr 182)]) (rest := [.inl 1, .inl v2]) (M' := mm_doors) (ls0 := [some (.inr (.inr 182))]) dd_found_69 rfl rfl (cw_v cw_12_335 io_182 rfl rfl (Nat.le_of_ble_eq_true rfl) (Nat.le_of_ble_eq_true rfl)) mt_doors rfl (c := e - 1) (by omega) rfl ?_
  refine R_ld (v := .inr (.inr 182)) dd_doors_0 rfl rfl rfl rfl ?_
  refine R_gf (v := .inr (.inr 188)) dd_doors_1 fd_12_95 io_182 (congrArg (fun z : Int => (Sum.inr (Sum.inr z) : LV)) (rf_182_10 hF)) rfl ?_
  refine R_ic dd_doors_4 (by decide) rfl ?_
  refine R_iald (v := (rd h 188 1)) (n := 300) dd_doors_5 ia_188 la_188 (by decide) (rfl) rfl ?_
  refine R_iret dd_doors_6 rfl ?_
  change Rn xs xl e mm_found 72 [some (.inr (.inr 182)), some (.inl v1), some (.inl v2)] [.inl (rd h 188 1), .inl 1, .inl v2] h _
  refine R_A dd_found_72 rfl rfl rfl rfl ?_
  refine R_icmp dd_found_73 rfl rfl (fun (c2 : (zshl 1 (rd h 188 1)) ≤ v2) => ?_) (fun (c2 : v2 < (zshl 1 (rd h 188 1))) => ?_)
  · replace k := k.1 c2
    exact k
  · replace k := k.2 c2
    refine R_ld (v := .inl v2) dd_found_76 rfl rfl rfl rfl ?_
    refine R_ld (v := .inr (.inr 182)) dd_found_77 rfl rfl rfl rfl ?_
    refine R_gf (v := .inr (.inr 198)) dd_found_78 fd_12_125 io_182 (congrArg (fun z : Int => (Sum.inr (Sum.inr z) : LV)) (rf_182_24 hF)) rfl ?_
    refine R_ic dd_found_81 (by decide) rfl ?_
    refine R_iald (v := (rd h 198 1)) (n := 1610) dd_found_82 ia_198 la_198 (by decide) (rfl) rfl ?_
    refine R_A dd_found_83 rfl rfl rfl rfl ?_
    refine R_if dd_found_84 rfl rfl (fun (c3 : (zand v2 (rd h 198 1)) ≠ 0) => ?_) (fun (c3 : (zand v2 (rd h 198 1)) = 0) => ?_)
    · replace k := k.1 c3
      refine R_inc (y := v2 + 1) (ls' := [some (.inr (.inr 182)), some (.inl v1), some (.inl (v2 + 1))]) dd_found_92 rfl (by decide) (by omega) (by omega) rfl rfl ?_
      refine R_goto dd_found_95 rfl ?_
      exact k
    · replace k := k.2 c3
      refine R_ld (v := .inr (.inr 182)) dd_found_87 rfl rfl rfl rfl ?_
      refine R_ld (v := .inl v2) dd_found_88 rfl rfl rfl rfl ?_
      obtain ⟨c, hc, k⟩ := k
      exact R_call (as := [.inr (.inr 182), .inl v2]) (rest := []) (M' := mm_looks) (ls0 := [some (.inr (.inr 182)), some (.inl v2), none, none, none]) dd_found_89 rfl rfl (cw_v cw_12_471 io_182 rfl rfl (Nat.le_of_ble_eq_true rfl) (Nat.le_of_ble_eq_true rfl)) mt_looks rfl hc rfl k
theorem B_found_92 {xs : Nat → Int} {xl e : Nat} {h : LH} {Q : Option LV → LH → Prop} {v1 v2 : Int} (hF : RF h) (r_v2 : 0 ≤ v2 ∧ v2 ≤ 16383)
    (k : Rn xs xl e mm_found 66 [some (.inr (.inr 182)), some (.inl v1), some (.inl (v2 + 1))] [] h Q) :
    Rn xs xl e mm_found 92 [some (.inr (.inr 182)), some (.inl v1), some (.inl v2)] [] h Q := by
  refine R_inc (y := v2 + 1) (ls' := [some (.inr (.inr 182)), some (.inl v1), some (.inl (v2 + 1))]) dd_found_92 rfl (by decide) (by omega) (by omega) rfl rfl ?_
  refine R_goto dd_found_95 rfl ?_
  exact k
theorem B_found_98 {xs : Nat → Int} {xl e : Nat} {h : LH} {Q : Option LV → LH → Prop} {v1 v2 : Int} (hF : RF h)
    (k : ((rd h 182 45) ≠ 0 →
        (v1 ≠ 0 →
          (v1 ≠ 1 →
            (v1 ≠ 2 →
              (v1 ≠ 3 →
                Q (some (.inl (rd h 182 48))) h) ∧
              (v1 = 3 →
                (∃ c, c < e ∧ Rn xs xl c mm_tellsMost 0 [some (.inr (.inr 182)), none, none, none, none, none] [] h (fun r h' => Rn xs xl e mm_found 151 [some (.inr (.inr 182)), some (.inl v1), some (.inl v2)] (r.toList ++ []) h' Q)))) ∧
            (v1 = 2 →
              Q (some (.inl (rd h 182 47))) h)) ∧
          (v1 = 1 →
            Q (some (.inl (rd h 182 46))) h)) ∧
        (v1 = 0 →
          Q (some (.inl (rd h 182 45))) h)) ∧
      ((rd h 182 45) = 0 →
        Q (some (.inl (-1))) h)) :
    Rn xs xl e mm_found 98 [some (.inr (.inr 182)), some (.inl v1), some (.inl v2)] [] h Q := by
  refine R_ld (v := .inr (.inr 182)) dd_found_98 rfl rfl rfl rfl ?_
  refine R_gf (v := .inl (rd h 182 45)) dd_found_99 fd_12_459 io_182 (congrArg (fun z : Int => (Sum.inl z : LV)) (rfl)) rfl ?_
  refine R_if dd_found_102 rfl rfl (fun (c2 : (rd h 182 45) ≠ 0) => ?_) (fun (c2 : (rd h 182 45) = 0) => ?_)
  · replace k := k.1 c2
    refine R_ld (v := .inl v1) dd_found_107 rfl rfl rfl rfl ?_
    refine R_if dd_found_108 rfl rfl (fun (c3 : v1 ≠ 0) => ?_) (fun (c3 : v1 = 0) => ?_)
    · replace k := k.1 c3
      refine R_ld (v := .inl v1) dd_found_118 rfl rfl rfl rfl ?_
      refine R_ic dd_found_119 (by decide) rfl ?_
      refine R_icmp dd_found_120 rfl rfl (fun (c4 : v1 ≠ 1) => ?_) (fun (c4 : v1 = 1) => ?_)
      · replace k := k.1 c4
        refine R_ld (v := .inl v1) dd_found_130 rfl rfl rfl rfl ?_
        refine R_ic dd_found_131 (by decide) rfl ?_
        refine R_icmp dd_found_132 rfl rfl (fun (c5 : v1 ≠ 2) => ?_) (fun (c5 : v1 = 2) => ?_)
        · replace k := k.1 c5
          refine R_ld (v := .inl v1) dd_found_142 rfl rfl rfl rfl ?_
          refine R_ic dd_found_143 (by decide) rfl ?_
          refine R_icmp dd_found_144 rfl rfl (fun (c6 : v1 ≠ 3) => ?_) (fun (c6 : v1 = 3) => ?_)
          · replace k := k.1 c6
            refine R_ld (v := .inr (.inr 182)) dd_found_154 rfl rfl rfl rfl ?_
            refine R_gf (v := .inl (rd h 182 48)) dd_found_155 fd_12_468 io_182 (congrArg (fun z : Int => (Sum.inl z : LV)) (rfl)) rfl ?_
            exact R_iret dd_found_158 rfl k
          · replace k := k.2 c6
            refine R_ld (v := .inr (.inr 182)) dd_found_147 rfl rfl rfl rfl ?_
            obtain ⟨c, hc, k⟩ := k
            exact R_call (as := [.inr (.inr 182)]) (rest := []) (M' := mm_tellsMost) (ls0 := [some (.inr (.inr 182)), none, none, none, none, none]) dd_found_148 rfl rfl (cw_v cw_12_474 io_182 rfl rfl (Nat.le_of_ble_eq_true rfl) (Nat.le_of_ble_eq_true rfl)) mt_tellsMost rfl hc rfl k
        · replace k := k.2 c5
          refine R_ld (v := .inr (.inr 182)) dd_found_135 rfl rfl rfl rfl ?_
          refine R_gf (v := .inl (rd h 182 47)) dd_found_136 fd_12_465 io_182 (congrArg (fun z : Int => (Sum.inl z : LV)) (rfl)) rfl ?_
          refine R_goto dd_found_139 rfl ?_
          exact R_iret dd_found_158 rfl k
      · replace k := k.2 c4
        refine R_ld (v := .inr (.inr 182)) dd_found_123 rfl rfl rfl rfl ?_
        refine R_gf (v := .inl (rd h 182 46)) dd_found_124 fd_12_462 io_182 (congrArg (fun z : Int => (Sum.inl z : LV)) (rfl)) rfl ?_
        refine R_goto dd_found_127 rfl ?_
        exact R_iret dd_found_158 rfl k
    · replace k := k.2 c3
      refine R_ld (v := .inr (.inr 182)) dd_found_111 rfl rfl rfl rfl ?_
      refine R_gf (v := .inl (rd h 182 45)) dd_found_112 fd_12_459 io_182 (congrArg (fun z : Int => (Sum.inl z : LV)) (rfl)) rfl ?_
      refine R_goto dd_found_115 rfl ?_
      exact R_iret dd_found_158 rfl k
  · replace k := k.2 c2
    refine R_ic dd_found_105 (by decide) rfl ?_
    exact R_iret dd_found_106 rfl k
theorem B_found_151 {xs : Nat → Int} {xl e : Nat} {h : LH} {Q : Option LV → LH → Prop} {v1 v2 w0 : Int} (hF : RF h)
    (k : Q (some (.inl w0)) h) :
    Rn xs xl e mm_found 151 [some (.inr (.inr 182)), some (.inl v1), some (.inl v2)] [.inl w0] h Q := by
  refine R_goto dd_found_151 rfl ?_
  exact R_iret dd_found_158 rfl k
