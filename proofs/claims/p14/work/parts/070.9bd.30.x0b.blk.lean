/-! LM, by program (wip/p2/hand.py): rows of chase -/
def mm_Web_growCaught : LM_M := (⟨"OneSided$Web", "growCaught", "(LOneSided$Quarter;II)Z"⟩, prog_12_method_9_code, 8, (some .boolean), 10, 4, 0, 1125, 1124, 1000057)
def mm_Web_movesToCatch : LM_M := (⟨"OneSided$Web", "movesToCatch", "(LOneSided$Quarter;IIII)I"⟩, prog_12_method_8_code, 7, (some .int), 10, 6, 0, 1121, 1119, 1120)
def mm_laysNow : LM_M := (⟨"OneSidedModel", "laysNow", "(I)V"⟩, prog_14_method_97_code, 3, none, 12, 2, 0, 1773, 1772, 1000125)
def mm_afterMove : LM_M := (⟨"OneSidedModel", "afterMove", "(II)Z"⟩, prog_14_method_104_code, 11, (some .boolean), 12, 3, 0, 1793, 1792, 1000128)
theorem dd_Web_growCaught_0 : decode mm_Web_growCaught.2.1 0 = .ok (.iconst 0, 1) := by decide +kernel
theorem dd_Web_growCaught_1 : decode mm_Web_growCaught.2.1 1 = .ok (.istore 4, 2) := by decide +kernel
theorem dd_Web_growCaught_3 : decode mm_Web_growCaught.2.1 3 = .ok (.iload 4, 2) := by decide +kernel
theorem dd_Web_growCaught_5 : decode mm_Web_growCaught.2.1 5 = .ok (.aload_n 1, 1) := by decide +kernel
theorem dd_Web_growCaught_6 : decode mm_Web_growCaught.2.1 6 = .ok (.getfield 31, 3) := by decide +kernel
theorem dd_Web_growCaught_9 : decode mm_Web_growCaught.2.1 9 = .ok (.if_icmp .ge (87), 3) := by decide +kernel
theorem dd_Web_growCaught_96 : decode mm_Web_growCaught.2.1 96 = .ok (.iconst 0, 1) := by decide +kernel
theorem dd_Web_growCaught_97 : decode mm_Web_growCaught.2.1 97 = .ok (.istore 4, 2) := by decide +kernel
theorem dd_Web_growCaught_99 : decode mm_Web_growCaught.2.1 99 = .ok (.iconst 0, 1) := by decide +kernel
theorem dd_Web_growCaught_100 : decode mm_Web_growCaught.2.1 100 = .ok (.istore 5, 2) := by decide +kernel
theorem dd_Web_growCaught_12 : decode mm_Web_growCaught.2.1 12 = .ok (.iconst 1, 1) := by decide +kernel
theorem dd_Web_growCaught_13 : decode mm_Web_growCaught.2.1 13 = .ok (.iload 4, 2) := by decide +kernel
theorem dd_Web_growCaught_15 : decode mm_Web_growCaught.2.1 15 = .ok (.ishl, 1) := by decide +kernel
theorem dd_Web_growCaught_16 : decode mm_Web_growCaught.2.1 16 = .ok (.aload_n 1, 1) := by decide +kernel
theorem dd_Web_growCaught_17 : decode mm_Web_growCaught.2.1 17 = .ok (.iload_n 2, 1) := by decide +kernel
theorem dd_Web_growCaught_18 : decode mm_Web_growCaught.2.1 18 = .ok (.iload_n 3, 1) := by decide +kernel
theorem dd_Web_growCaught_19 : decode mm_Web_growCaught.2.1 19 = .ok (.iconst 1, 1) := by decide +kernel
theorem dd_Web_growCaught_20 : decode mm_Web_growCaught.2.1 20 = .ok (.iload 4, 2) := by decide +kernel
theorem dd_Web_growCaught_22 : decode mm_Web_growCaught.2.1 22 = .ok (.ishl, 1) := by decide +kernel
theorem dd_Web_growCaught_23 : decode mm_Web_growCaught.2.1 23 = .ok (.invokevirtual 21, 3) := by decide +kernel
theorem dd_Web_growCaught_26 : decode mm_Web_growCaught.2.1 26 = .ok (.ior, 1) := by decide +kernel
theorem dd_Web_growCaught_27 : decode mm_Web_growCaught.2.1 27 = .ok (.istore 5, 2) := by decide +kernel
theorem dd_Web_growCaught_29 : decode mm_Web_growCaught.2.1 29 = .ok (.iconst (-1), 1) := by decide +kernel
theorem dd_Web_growCaught_30 : decode mm_Web_growCaught.2.1 30 = .ok (.istore 6, 2) := by decide +kernel
theorem dd_Web_growCaught_32 : decode mm_Web_growCaught.2.1 32 = .ok (.iconst 0, 1) := by decide +kernel
theorem dd_Web_growCaught_33 : decode mm_Web_growCaught.2.1 33 = .ok (.istore 7, 2) := by decide +kernel
theorem dd_Web_growCaught_35 : decode mm_Web_growCaught.2.1 35 = .ok (.iload 7, 2) := by decide +kernel
theorem dd_Web_growCaught_37 : decode mm_Web_growCaught.2.1 37 = .ok (.aload_n 1, 1) := by decide +kernel
theorem dd_Web_growCaught_38 : decode mm_Web_growCaught.2.1 38 = .ok (.getfield 31, 3) := by decide +kernel
theorem dd_Web_growCaught_41 : decode mm_Web_growCaught.2.1 41 = .ok (.if_icmp .ge (35), 3) := by decide +kernel
theorem dd_Web_growCaught_44 : decode mm_Web_growCaught.2.1 44 = .ok (.iload 6, 2) := by decide +kernel
theorem dd_Web_growCaught_46 : decode mm_Web_growCaught.2.1 46 = .ok (.iload 5, 2) := by decide +kernel
theorem dd_Web_growCaught_48 : decode mm_Web_growCaught.2.1 48 = .ok (.iload 7, 2) := by decide +kernel
theorem dd_Web_growCaught_50 : decode mm_Web_growCaught.2.1 50 = .ok (.ishr, 1) := by decide +kernel
theorem dd_Web_growCaught_51 : decode mm_Web_growCaught.2.1 51 = .ok (.iconst 1, 1) := by decide +kernel
theorem dd_Web_growCaught_52 : decode mm_Web_growCaught.2.1 52 = .ok (.iand, 1) := by decide +kernel
theorem dd_Web_growCaught_53 : decode mm_Web_growCaught.2.1 53 = .ok (.ifCond .eq (13), 3) := by decide +kernel
theorem dd_Web_growCaught_66 : decode mm_Web_growCaught.2.1 66 = .ok (.iconst (-1), 1) := by decide +kernel
theorem dd_Web_growCaught_67 : decode mm_Web_growCaught.2.1 67 = .ok (.iand, 1) := by decide +kernel
theorem dd_Web_growCaught_68 : decode mm_Web_growCaught.2.1 68 = .ok (.istore 6, 2) := by decide +kernel
theorem dd_Web_growCaught_70 : decode mm_Web_growCaught.2.1 70 = .ok (.iinc 7 1, 3) := by decide +kernel
theorem dd_Web_growCaught_73 : decode mm_Web_growCaught.2.1 73 = .ok (.goto (-38), 3) := by decide +kernel
theorem dd_Web_growCaught_56 : decode mm_Web_growCaught.2.1 56 = .ok (.aload_n 0, 1) := by decide +kernel
theorem dd_Web_growCaught_57 : decode mm_Web_growCaught.2.1 57 = .ok (.getfield 15, 3) := by decide +kernel
theorem fd_10_15 : fld 10 15 = some (10, 1) := by decide +kernel
theorem rf_80_1 {h : LH} (hF : RF h) : rd h 80 1 = 82 := hF 80 1 82 (by decide +kernel) (by decide +kernel)
theorem io_80 : isO NC 80 10 = true := by decide +kernel
theorem dd_Web_growCaught_60 : decode mm_Web_growCaught.2.1 60 = .ok (.iload 7, 2) := by decide +kernel
theorem dd_Web_growCaught_62 : decode mm_Web_growCaught.2.1 62 = .ok (.iaload, 1) := by decide +kernel
theorem ia_82 : isA NC 82 1 = true := by decide +kernel
theorem la_82 : (lay (82 : Int).toNat).2.2 = 10 := by decide +kernel
theorem dd_Web_growCaught_63 : decode mm_Web_growCaught.2.1 63 = .ok (.goto 4, 3) := by decide +kernel
theorem dd_Web_growCaught_76 : decode mm_Web_growCaught.2.1 76 = .ok (.aload_n 0, 1) := by decide +kernel
theorem dd_Web_growCaught_77 : decode mm_Web_growCaught.2.1 77 = .ok (.getfield 18, 3) := by decide +kernel
theorem fd_10_18 : fld 10 18 = some (10, 2) := by decide +kernel
theorem rf_80_2 {h : LH} (hF : RF h) : rd h 80 2 = 83 := hF 80 2 83 (by decide +kernel) (by decide +kernel)
theorem dd_Web_growCaught_80 : decode mm_Web_growCaught.2.1 80 = .ok (.iload 4, 2) := by decide +kernel
theorem dd_Web_growCaught_82 : decode mm_Web_growCaught.2.1 82 = .ok (.iload 6, 2) := by decide +kernel
theorem dd_Web_growCaught_84 : decode mm_Web_growCaught.2.1 84 = .ok (.iconst 1, 1) := by decide +kernel
theorem dd_Web_growCaught_85 : decode mm_Web_growCaught.2.1 85 = .ok (.iload 4, 2) := by decide +kernel
theorem dd_Web_growCaught_87 : decode mm_Web_growCaught.2.1 87 = .ok (.ishl, 1) := by decide +kernel
theorem dd_Web_growCaught_88 : decode mm_Web_growCaught.2.1 88 = .ok (.ior, 1) := by decide +kernel
theorem dd_Web_growCaught_89 : decode mm_Web_growCaught.2.1 89 = .ok (.iastore, 1) := by decide +kernel
theorem ia_83 : isA NC 83 1 = true := by decide +kernel
theorem la_83 : (lay (83 : Int).toNat).2.2 = 10 := by decide +kernel
theorem dd_Web_growCaught_90 : decode mm_Web_growCaught.2.1 90 = .ok (.iinc 4 1, 3) := by decide +kernel
theorem dd_Web_growCaught_93 : decode mm_Web_growCaught.2.1 93 = .ok (.goto (-90), 3) := by decide +kernel
theorem dd_Web_growCaught_102 : decode mm_Web_growCaught.2.1 102 = .ok (.iload 5, 2) := by decide +kernel
theorem dd_Web_growCaught_104 : decode mm_Web_growCaught.2.1 104 = .ok (.aload_n 1, 1) := by decide +kernel
theorem dd_Web_growCaught_105 : decode mm_Web_growCaught.2.1 105 = .ok (.getfield 31, 3) := by decide +kernel
theorem dd_Web_growCaught_108 : decode mm_Web_growCaught.2.1 108 = .ok (.if_icmp .ge (94), 3) := by decide +kernel
theorem dd_Web_growCaught_202 : decode mm_Web_growCaught.2.1 202 = .ok (.iload 4, 2) := by decide +kernel
theorem dd_Web_growCaught_204 : decode mm_Web_growCaught.2.1 204 = .ok (.ireturn, 1) := by decide +kernel
theorem dd_Web_growCaught_111 : decode mm_Web_growCaught.2.1 111 = .ok (.aload_n 0, 1) := by decide +kernel
theorem dd_Web_growCaught_112 : decode mm_Web_growCaught.2.1 112 = .ok (.getfield 9, 3) := by decide +kernel
theorem fd_10_9 : fld 10 9 = some (10, 0) := by decide +kernel
theorem rf_80_0 {h : LH} (hF : RF h) : rd h 80 0 = 81 := hF 80 0 81 (by decide +kernel) (by decide +kernel)
theorem dd_Web_growCaught_115 : decode mm_Web_growCaught.2.1 115 = .ok (.iload 5, 2) := by decide +kernel
theorem dd_Web_growCaught_117 : decode mm_Web_growCaught.2.1 117 = .ok (.iaload, 1) := by decide +kernel
theorem ia_81 : isA NC 81 1 = true := by decide +kernel
theorem la_81 : (lay (81 : Int).toNat).2.2 = 10 := by decide +kernel
theorem dd_Web_growCaught_118 : decode mm_Web_growCaught.2.1 118 = .ok (.aload_n 1, 1) := by decide +kernel
theorem dd_Web_growCaught_119 : decode mm_Web_growCaught.2.1 119 = .ok (.iload_n 3, 1) := by decide +kernel
theorem dd_Web_growCaught_120 : decode mm_Web_growCaught.2.1 120 = .ok (.iload_n 2, 1) := by decide +kernel
theorem dd_Web_growCaught_121 : decode mm_Web_growCaught.2.1 121 = .ok (.aload_n 0, 1) := by decide +kernel
theorem dd_Web_growCaught_122 : decode mm_Web_growCaught.2.1 122 = .ok (.getfield 9, 3) := by decide +kernel
theorem dd_Web_growCaught_125 : decode mm_Web_growCaught.2.1 125 = .ok (.iload 5, 2) := by decide +kernel
theorem dd_Web_growCaught_127 : decode mm_Web_growCaught.2.1 127 = .ok (.iaload, 1) := by decide +kernel
theorem dd_Web_growCaught_128 : decode mm_Web_growCaught.2.1 128 = .ok (.invokevirtual 21, 3) := by decide +kernel
theorem dd_Web_growCaught_131 : decode mm_Web_growCaught.2.1 131 = .ok (.ior, 1) := by decide +kernel
theorem dd_Web_growCaught_132 : decode mm_Web_growCaught.2.1 132 = .ok (.istore 6, 2) := by decide +kernel
theorem dd_Web_growCaught_134 : decode mm_Web_growCaught.2.1 134 = .ok (.iload 4, 2) := by decide +kernel
theorem dd_Web_growCaught_136 : decode mm_Web_growCaught.2.1 136 = .ok (.iload 6, 2) := by decide +kernel
theorem dd_Web_growCaught_138 : decode mm_Web_growCaught.2.1 138 = .ok (.aload_n 0, 1) := by decide +kernel
theorem dd_Web_growCaught_139 : decode mm_Web_growCaught.2.1 139 = .ok (.getfield 15, 3) := by decide +kernel
theorem dd_Web_growCaught_142 : decode mm_Web_growCaught.2.1 142 = .ok (.iload 5, 2) := by decide +kernel
theorem dd_Web_growCaught_144 : decode mm_Web_growCaught.2.1 144 = .ok (.iaload, 1) := by decide +kernel
theorem dd_Web_growCaught_145 : decode mm_Web_growCaught.2.1 145 = .ok (.if_icmp .ne (20), 3) := by decide +kernel
theorem dd_Web_growCaught_165 : decode mm_Web_growCaught.2.1 165 = .ok (.iconst 1, 1) := by decide +kernel
theorem dd_Web_growCaught_166 : decode mm_Web_growCaught.2.1 166 = .ok (.goto 4, 3) := by decide +kernel
theorem dd_Web_growCaught_170 : decode mm_Web_growCaught.2.1 170 = .ok (.ior, 1) := by decide +kernel
theorem dd_Web_growCaught_171 : decode mm_Web_growCaught.2.1 171 = .ok (.istore 4, 2) := by decide +kernel
theorem dd_Web_growCaught_148 : decode mm_Web_growCaught.2.1 148 = .ok (.aload_n 0, 1) := by decide +kernel
theorem dd_Web_growCaught_149 : decode mm_Web_growCaught.2.1 149 = .ok (.getfield 18, 3) := by decide +kernel
theorem dd_Web_growCaught_152 : decode mm_Web_growCaught.2.1 152 = .ok (.iload 5, 2) := by decide +kernel
theorem dd_Web_growCaught_154 : decode mm_Web_growCaught.2.1 154 = .ok (.iaload, 1) := by decide +kernel
theorem dd_Web_growCaught_155 : decode mm_Web_growCaught.2.1 155 = .ok (.aload_n 0, 1) := by decide +kernel
theorem dd_Web_growCaught_156 : decode mm_Web_growCaught.2.1 156 = .ok (.getfield 9, 3) := by decide +kernel
theorem dd_Web_growCaught_159 : decode mm_Web_growCaught.2.1 159 = .ok (.iload 5, 2) := by decide +kernel
theorem dd_Web_growCaught_161 : decode mm_Web_growCaught.2.1 161 = .ok (.iaload, 1) := by decide +kernel
theorem dd_Web_growCaught_162 : decode mm_Web_growCaught.2.1 162 = .ok (.if_icmp .eq (7), 3) := by decide +kernel
theorem dd_Web_growCaught_169 : decode mm_Web_growCaught.2.1 169 = .ok (.iconst 0, 1) := by decide +kernel
theorem dd_Web_growCaught_173 : decode mm_Web_growCaught.2.1 173 = .ok (.aload_n 0, 1) := by decide +kernel
theorem dd_Web_growCaught_174 : decode mm_Web_growCaught.2.1 174 = .ok (.getfield 15, 3) := by decide +kernel
theorem dd_Web_growCaught_177 : decode mm_Web_growCaught.2.1 177 = .ok (.iload 5, 2) := by decide +kernel
theorem dd_Web_growCaught_179 : decode mm_Web_growCaught.2.1 179 = .ok (.iload 6, 2) := by decide +kernel
theorem dd_Web_growCaught_181 : decode mm_Web_growCaught.2.1 181 = .ok (.iastore, 1) := by decide +kernel
theorem dd_Web_growCaught_182 : decode mm_Web_growCaught.2.1 182 = .ok (.aload_n 0, 1) := by decide +kernel
theorem dd_Web_growCaught_183 : decode mm_Web_growCaught.2.1 183 = .ok (.getfield 9, 3) := by decide +kernel
theorem dd_Web_growCaught_186 : decode mm_Web_growCaught.2.1 186 = .ok (.iload 5, 2) := by decide +kernel
theorem dd_Web_growCaught_188 : decode mm_Web_growCaught.2.1 188 = .ok (.aload_n 0, 1) := by decide +kernel
theorem dd_Web_growCaught_189 : decode mm_Web_growCaught.2.1 189 = .ok (.getfield 18, 3) := by decide +kernel
theorem dd_Web_growCaught_192 : decode mm_Web_growCaught.2.1 192 = .ok (.iload 5, 2) := by decide +kernel
theorem dd_Web_growCaught_194 : decode mm_Web_growCaught.2.1 194 = .ok (.iaload, 1) := by decide +kernel
theorem dd_Web_growCaught_195 : decode mm_Web_growCaught.2.1 195 = .ok (.iastore, 1) := by decide +kernel
theorem dd_Web_growCaught_196 : decode mm_Web_growCaught.2.1 196 = .ok (.iinc 5 1, 3) := by decide +kernel
theorem dd_Web_growCaught_199 : decode mm_Web_growCaught.2.1 199 = .ok (.goto (-97), 3) := by decide +kernel
theorem dd_Web_movesToCatch_0 : decode mm_Web_movesToCatch.2.1 0 = .ok (.iconst 0, 1) := by decide +kernel
theorem dd_Web_movesToCatch_1 : decode mm_Web_movesToCatch.2.1 1 = .ok (.istore 6, 2) := by decide +kernel
theorem dd_Web_movesToCatch_3 : decode mm_Web_movesToCatch.2.1 3 = .ok (.iload 6, 2) := by decide +kernel
theorem dd_Web_movesToCatch_5 : decode mm_Web_movesToCatch.2.1 5 = .ok (.bipush 10, 2) := by decide +kernel
theorem dd_Web_movesToCatch_7 : decode mm_Web_movesToCatch.2.1 7 = .ok (.if_icmp .ge (31), 3) := by decide +kernel
theorem dd_Web_movesToCatch_38 : decode mm_Web_movesToCatch.2.1 38 = .ok (.iconst 0, 1) := by decide +kernel
theorem dd_Web_movesToCatch_39 : decode mm_Web_movesToCatch.2.1 39 = .ok (.istore 6, 2) := by decide +kernel
theorem dd_Web_movesToCatch_10 : decode mm_Web_movesToCatch.2.1 10 = .ok (.aload_n 0, 1) := by decide +kernel
theorem dd_Web_movesToCatch_11 : decode mm_Web_movesToCatch.2.1 11 = .ok (.getfield 9, 3) := by decide +kernel
theorem dd_Web_movesToCatch_14 : decode mm_Web_movesToCatch.2.1 14 = .ok (.iload 6, 2) := by decide +kernel
theorem dd_Web_movesToCatch_16 : decode mm_Web_movesToCatch.2.1 16 = .ok (.iconst 1, 1) := by decide +kernel
theorem dd_Web_movesToCatch_17 : decode mm_Web_movesToCatch.2.1 17 = .ok (.iload 6, 2) := by decide +kernel
theorem dd_Web_movesToCatch_19 : decode mm_Web_movesToCatch.2.1 19 = .ok (.ishl, 1) := by decide +kernel
theorem dd_Web_movesToCatch_20 : decode mm_Web_movesToCatch.2.1 20 = .ok (.iastore, 1) := by decide +kernel
theorem dd_Web_movesToCatch_21 : decode mm_Web_movesToCatch.2.1 21 = .ok (.aload_n 0, 1) := by decide +kernel
theorem dd_Web_movesToCatch_22 : decode mm_Web_movesToCatch.2.1 22 = .ok (.getfield 15, 3) := by decide +kernel
theorem dd_Web_movesToCatch_25 : decode mm_Web_movesToCatch.2.1 25 = .ok (.iload 6, 2) := by decide +kernel
theorem dd_Web_movesToCatch_27 : decode mm_Web_movesToCatch.2.1 27 = .ok (.iconst 1, 1) := by decide +kernel
theorem dd_Web_movesToCatch_28 : decode mm_Web_movesToCatch.2.1 28 = .ok (.iload 6, 2) := by decide +kernel
theorem dd_Web_movesToCatch_30 : decode mm_Web_movesToCatch.2.1 30 = .ok (.ishl, 1) := by decide +kernel
theorem dd_Web_movesToCatch_31 : decode mm_Web_movesToCatch.2.1 31 = .ok (.iastore, 1) := by decide +kernel
theorem dd_Web_movesToCatch_32 : decode mm_Web_movesToCatch.2.1 32 = .ok (.iinc 6 1, 3) := by decide +kernel
theorem dd_Web_movesToCatch_35 : decode mm_Web_movesToCatch.2.1 35 = .ok (.goto (-32), 3) := by decide +kernel
theorem dd_Web_movesToCatch_41 : decode mm_Web_movesToCatch.2.1 41 = .ok (.iload 6, 2) := by decide +kernel
theorem dd_Web_movesToCatch_43 : decode mm_Web_movesToCatch.2.1 43 = .ok (.sipush 202, 3) := by decide +kernel
theorem dd_Web_movesToCatch_46 : decode mm_Web_movesToCatch.2.1 46 = .ok (.if_icmp .gt (39), 3) := by decide +kernel
theorem dd_Web_movesToCatch_85 : decode mm_Web_movesToCatch.2.1 85 = .ok (.iconst (-1), 1) := by decide +kernel
theorem dd_Web_movesToCatch_86 : decode mm_Web_movesToCatch.2.1 86 = .ok (.ireturn, 1) := by decide +kernel
theorem dd_Web_movesToCatch_49 : decode mm_Web_movesToCatch.2.1 49 = .ok (.aload_n 0, 1) := by decide +kernel
theorem dd_Web_movesToCatch_50 : decode mm_Web_movesToCatch.2.1 50 = .ok (.getfield 9, 3) := by decide +kernel
theorem dd_Web_movesToCatch_53 : decode mm_Web_movesToCatch.2.1 53 = .ok (.iload 4, 2) := by decide +kernel
theorem dd_Web_movesToCatch_55 : decode mm_Web_movesToCatch.2.1 55 = .ok (.iaload, 1) := by decide +kernel
theorem dd_Web_movesToCatch_56 : decode mm_Web_movesToCatch.2.1 56 = .ok (.iload 5, 2) := by decide +kernel
theorem dd_Web_movesToCatch_58 : decode mm_Web_movesToCatch.2.1 58 = .ok (.ishr, 1) := by decide +kernel
theorem dd_Web_movesToCatch_59 : decode mm_Web_movesToCatch.2.1 59 = .ok (.iconst 1, 1) := by decide +kernel
theorem dd_Web_movesToCatch_60 : decode mm_Web_movesToCatch.2.1 60 = .ok (.iand, 1) := by decide +kernel
theorem dd_Web_movesToCatch_61 : decode mm_Web_movesToCatch.2.1 61 = .ok (.ifCond .eq (6), 3) := by decide +kernel
theorem dd_Web_movesToCatch_67 : decode mm_Web_movesToCatch.2.1 67 = .ok (.aload_n 0, 1) := by decide +kernel
theorem dd_Web_movesToCatch_68 : decode mm_Web_movesToCatch.2.1 68 = .ok (.aload_n 1, 1) := by decide +kernel
theorem dd_Web_movesToCatch_69 : decode mm_Web_movesToCatch.2.1 69 = .ok (.iload_n 2, 1) := by decide +kernel
theorem dd_Web_movesToCatch_70 : decode mm_Web_movesToCatch.2.1 70 = .ok (.iload_n 3, 1) := by decide +kernel
theorem dd_Web_movesToCatch_71 : decode mm_Web_movesToCatch.2.1 71 = .ok (.invokevirtual 73, 3) := by decide +kernel
theorem cw_10_73 : cwOk 10 73 0 141 4 8 10 = true := by decide +kernel
theorem mt_Web_growCaught : MTB 141 = some mm_Web_growCaught := rfl
theorem dd_Web_movesToCatch_64 : decode mm_Web_movesToCatch.2.1 64 = .ok (.iload 6, 2) := by decide +kernel
theorem dd_Web_movesToCatch_66 : decode mm_Web_movesToCatch.2.1 66 = .ok (.ireturn, 1) := by decide +kernel
theorem dd_Web_movesToCatch_74 : decode mm_Web_movesToCatch.2.1 74 = .ok (.ifCond .ne (5), 3) := by decide +kernel
theorem dd_Web_movesToCatch_79 : decode mm_Web_movesToCatch.2.1 79 = .ok (.iinc 6 1, 3) := by decide +kernel
theorem dd_Web_movesToCatch_82 : decode mm_Web_movesToCatch.2.1 82 = .ok (.goto (-41), 3) := by decide +kernel
theorem dd_Web_movesToCatch_77 : decode mm_Web_movesToCatch.2.1 77 = .ok (.iconst (-1), 1) := by decide +kernel
theorem dd_Web_movesToCatch_78 : decode mm_Web_movesToCatch.2.1 78 = .ok (.ireturn, 1) := by decide +kernel
theorem dd_OneSided_chase_0 : decode mm_OneSided_chase.2.1 0 = .ok (.aload_n 0, 1) := by decide +kernel
theorem dd_OneSided_chase_1 : decode mm_OneSided_chase.2.1 1 = .ok (.iload_n 1, 1) := by decide +kernel
theorem dd_OneSided_chase_2 : decode mm_OneSided_chase.2.1 2 = .ok (.invokevirtual 190, 3) := by decide +kernel
theorem dd_OneSided_chase_5 : decode mm_OneSided_chase.2.1 5 = .ok (.ifCond .eq (11), 3) := by decide +kernel
theorem dd_OneSided_chase_16 : decode mm_OneSided_chase.2.1 16 = .ok (.iconst (-1), 1) := by decide +kernel
theorem dd_OneSided_chase_17 : decode mm_OneSided_chase.2.1 17 = .ok (.ireturn, 1) := by decide +kernel
theorem dd_OneSided_chase_8 : decode mm_OneSided_chase.2.1 8 = .ok (.aload_n 0, 1) := by decide +kernel
theorem dd_OneSided_chase_9 : decode mm_OneSided_chase.2.1 9 = .ok (.iload_n 2, 1) := by decide +kernel
theorem dd_OneSided_chase_10 : decode mm_OneSided_chase.2.1 10 = .ok (.invokevirtual 190, 3) := by decide +kernel
theorem dd_OneSided_chase_13 : decode mm_OneSided_chase.2.1 13 = .ok (.ifCond .ne (5), 3) := by decide +kernel
theorem dd_OneSided_chase_18 : decode mm_OneSided_chase.2.1 18 = .ok (.aload_n 0, 1) := by decide +kernel
theorem dd_OneSided_chase_19 : decode mm_OneSided_chase.2.1 19 = .ok (.getfield 29, 3) := by decide +kernel
theorem dd_OneSided_chase_22 : decode mm_OneSided_chase.2.1 22 = .ok (.getfield 149, 3) := by decide +kernel
theorem dd_OneSided_chase_25 : decode mm_OneSided_chase.2.1 25 = .ok (.getfield 216, 3) := by decide +kernel
theorem dd_OneSided_chase_28 : decode mm_OneSided_chase.2.1 28 = .ok (.istore_n 3, 1) := by decide +kernel
theorem dd_OneSided_chase_29 : decode mm_OneSided_chase.2.1 29 = .ok (.aload_n 0, 1) := by decide +kernel
theorem dd_OneSided_chase_30 : decode mm_OneSided_chase.2.1 30 = .ok (.getfield 56, 3) := by decide +kernel
theorem fd_11_56 : fld 11 56 = some (11, 11) := by decide +kernel
theorem rf_1_11 {h : LH} (hF : RF h) : rd h 1 11 = 80 := hF 1 11 80 (by decide +kernel) (by decide +kernel)
theorem dd_OneSided_chase_33 : decode mm_OneSided_chase.2.1 33 = .ok (.aload_n 0, 1) := by decide +kernel
theorem dd_OneSided_chase_34 : decode mm_OneSided_chase.2.1 34 = .ok (.getfield 19, 3) := by decide +kernel
theorem dd_OneSided_chase_37 : decode mm_OneSided_chase.2.1 37 = .ok (.aload_n 0, 1) := by decide +kernel
theorem dd_OneSided_chase_38 : decode mm_OneSided_chase.2.1 38 = .ok (.iconst 0, 1) := by decide +kernel
theorem dd_OneSided_chase_39 : decode mm_OneSided_chase.2.1 39 = .ok (.iload_n 3, 1) := by decide +kernel
theorem dd_OneSided_chase_40 : decode mm_OneSided_chase.2.1 40 = .ok (.invokevirtual 257, 3) := by decide +kernel
theorem dd_OneSided_chase_43 : decode mm_OneSided_chase.2.1 43 = .ok (.aload_n 0, 1) := by decide +kernel
theorem dd_OneSided_chase_44 : decode mm_OneSided_chase.2.1 44 = .ok (.iconst 0, 1) := by decide +kernel
theorem dd_OneSided_chase_45 : decode mm_OneSided_chase.2.1 45 = .ok (.iload_n 3, 1) := by decide +kernel
theorem dd_OneSided_chase_46 : decode mm_OneSided_chase.2.1 46 = .ok (.invokevirtual 260, 3) := by decide +kernel
theorem dd_OneSided_chase_49 : decode mm_OneSided_chase.2.1 49 = .ok (.iload_n 1, 1) := by decide +kernel
theorem dd_OneSided_chase_50 : decode mm_OneSided_chase.2.1 50 = .ok (.iload_n 2, 1) := by decide +kernel
theorem dd_OneSided_chase_51 : decode mm_OneSided_chase.2.1 51 = .ok (.invokevirtual 331, 3) := by decide +kernel
theorem cw_11_331 : cwOk 11 331 0 140 6 7 10 = true := by decide +kernel
theorem mt_Web_movesToCatch : MTB 140 = some mm_Web_movesToCatch := rfl
theorem dd_OneSided_chase_54 : decode mm_OneSided_chase.2.1 54 = .ok (.ireturn, 1) := by decide +kernel
theorem dd_laysNow_0 : decode mm_laysNow.2.1 0 = .ok (.iconst 0, 1) := by decide +kernel
theorem dd_laysNow_1 : decode mm_laysNow.2.1 1 = .ok (.istore_n 2, 1) := by decide +kernel
theorem dd_laysNow_2 : decode mm_laysNow.2.1 2 = .ok (.iload_n 2, 1) := by decide +kernel
theorem dd_laysNow_3 : decode mm_laysNow.2.1 3 = .ok (.bipush 10, 2) := by decide +kernel
theorem dd_laysNow_5 : decode mm_laysNow.2.1 5 = .ok (.if_icmp .ge (16), 3) := by decide +kernel
theorem dd_laysNow_21 : decode mm_laysNow.2.1 21 = .ok (.aload_n 0, 1) := by decide +kernel
theorem dd_laysNow_22 : decode mm_laysNow.2.1 22 = .ok (.getfield 125, 3) := by decide +kernel
theorem dd_laysNow_25 : decode mm_laysNow.2.1 25 = .ok (.iconst 0, 1) := by decide +kernel
theorem dd_laysNow_26 : decode mm_laysNow.2.1 26 = .ok (.iaload, 1) := by decide +kernel
theorem dd_laysNow_27 : decode mm_laysNow.2.1 27 = .ok (.bipush 24, 2) := by decide +kernel
theorem dd_laysNow_29 : decode mm_laysNow.2.1 29 = .ok (.if_icmp .ge (16), 3) := by decide +kernel
theorem dd_laysNow_45 : decode mm_laysNow.2.1 45 = .ok (.return_, 1) := by decide +kernel
theorem dd_laysNow_32 : decode mm_laysNow.2.1 32 = .ok (.aload_n 0, 1) := by decide +kernel
theorem dd_laysNow_33 : decode mm_laysNow.2.1 33 = .ok (.iconst 0, 1) := by decide +kernel
theorem dd_laysNow_34 : decode mm_laysNow.2.1 34 = .ok (.aload_n 0, 1) := by decide +kernel
theorem dd_laysNow_35 : decode mm_laysNow.2.1 35 = .ok (.getfield 125, 3) := by decide +kernel
theorem dd_laysNow_38 : decode mm_laysNow.2.1 38 = .ok (.iconst 0, 1) := by decide +kernel
theorem dd_laysNow_39 : decode mm_laysNow.2.1 39 = .ok (.iaload, 1) := by decide +kernel
theorem dd_laysNow_40 : decode mm_laysNow.2.1 40 = .ok (.iload_n 1, 1) := by decide +kernel
theorem dd_laysNow_41 : decode mm_laysNow.2.1 41 = .ok (.iconst 0, 1) := by decide +kernel
theorem dd_laysNow_42 : decode mm_laysNow.2.1 42 = .ok (.invokevirtual 425, 3) := by decide +kernel
theorem dd_laysNow_8 : decode mm_laysNow.2.1 8 = .ok (.aload_n 0, 1) := by decide +kernel
theorem dd_laysNow_9 : decode mm_laysNow.2.1 9 = .ok (.getfield 147, 3) := by decide +kernel
theorem dd_laysNow_12 : decode mm_laysNow.2.1 12 = .ok (.iload_n 2, 1) := by decide +kernel
theorem dd_laysNow_13 : decode mm_laysNow.2.1 13 = .ok (.iconst 0, 1) := by decide +kernel
theorem dd_laysNow_14 : decode mm_laysNow.2.1 14 = .ok (.iastore, 1) := by decide +kernel
theorem dd_laysNow_15 : decode mm_laysNow.2.1 15 = .ok (.iinc 2 1, 3) := by decide +kernel
theorem dd_laysNow_18 : decode mm_laysNow.2.1 18 = .ok (.goto (-16), 3) := by decide +kernel
theorem dd_chase_0 : decode mm_chase.2.1 0 = .ok (.aload_n 0, 1) := by decide +kernel
theorem dd_chase_1 : decode mm_chase.2.1 1 = .ok (.iconst 0, 1) := by decide +kernel
theorem dd_chase_2 : decode mm_chase.2.1 2 = .ok (.putfield 1, 3) := by decide +kernel
theorem dd_chase_5 : decode mm_chase.2.1 5 = .ok (.aload_n 0, 1) := by decide +kernel
theorem dd_chase_6 : decode mm_chase.2.1 6 = .ok (.iload_n 1, 1) := by decide +kernel
theorem dd_chase_7 : decode mm_chase.2.1 7 = .ok (.invokevirtual 370, 3) := by decide +kernel
theorem dd_chase_10 : decode mm_chase.2.1 10 = .ok (.ifCond .eq (11), 3) := by decide +kernel
theorem dd_chase_21 : decode mm_chase.2.1 21 = .ok (.iconst (-1), 1) := by decide +kernel
theorem dd_chase_22 : decode mm_chase.2.1 22 = .ok (.ireturn, 1) := by decide +kernel
theorem dd_chase_13 : decode mm_chase.2.1 13 = .ok (.aload_n 0, 1) := by decide +kernel
theorem dd_chase_14 : decode mm_chase.2.1 14 = .ok (.iload_n 2, 1) := by decide +kernel
theorem dd_chase_15 : decode mm_chase.2.1 15 = .ok (.invokevirtual 370, 3) := by decide +kernel
theorem dd_chase_18 : decode mm_chase.2.1 18 = .ok (.ifCond .ne (5), 3) := by decide +kernel
theorem dd_chase_23 : decode mm_chase.2.1 23 = .ok (.aload_n 0, 1) := by decide +kernel
theorem dd_chase_24 : decode mm_chase.2.1 24 = .ok (.aload_n 0, 1) := by decide +kernel
theorem dd_chase_25 : decode mm_chase.2.1 25 = .ok (.getfield 125, 3) := by decide +kernel
theorem dd_chase_28 : decode mm_chase.2.1 28 = .ok (.iconst 1, 1) := by decide +kernel
theorem dd_chase_29 : decode mm_chase.2.1 29 = .ok (.iaload, 1) := by decide +kernel
theorem dd_chase_30 : decode mm_chase.2.1 30 = .ok (.invokevirtual 456, 3) := by decide +kernel
theorem cw_12_456 : cwOk 12 456 0 252 2 3 12 = true := by decide +kernel
theorem mt_laysNow : MTB 252 = some mm_laysNow := rfl
theorem dd_chase_33 : decode mm_chase.2.1 33 = .ok (.iconst 0, 1) := by decide +kernel
theorem dd_chase_34 : decode mm_chase.2.1 34 = .ok (.istore_n 3, 1) := by decide +kernel
theorem dd_chase_35 : decode mm_chase.2.1 35 = .ok (.iload_n 3, 1) := by decide +kernel
theorem dd_chase_36 : decode mm_chase.2.1 36 = .ok (.sipush 200, 3) := by decide +kernel
theorem dd_chase_39 : decode mm_chase.2.1 39 = .ok (.if_icmp .ge (35), 3) := by decide +kernel
theorem dd_chase_74 : decode mm_chase.2.1 74 = .ok (.iconst 1, 1) := by decide +kernel
theorem dd_chase_75 : decode mm_chase.2.1 75 = .ok (.istore_n 3, 1) := by decide +kernel
theorem dd_chase_42 : decode mm_chase.2.1 42 = .ok (.aload_n 0, 1) := by decide +kernel
theorem dd_chase_43 : decode mm_chase.2.1 43 = .ok (.getfield 174, 3) := by decide +kernel
theorem fd_12_174 : fld 12 174 = some (12, 51) := by decide +kernel
theorem rf_182_51 {h : LH} (hF : RF h) : rd h 182 51 = 212 := hF 182 51 212 (by decide +kernel) (by decide +kernel)
theorem dd_chase_46 : decode mm_chase.2.1 46 = .ok (.iload_n 3, 1) := by decide +kernel
theorem dd_chase_47 : decode mm_chase.2.1 47 = .ok (.iload_n 3, 1) := by decide +kernel
theorem dd_chase_48 : decode mm_chase.2.1 48 = .ok (.bipush 20, 2) := by decide +kernel
theorem dd_chase_50 : decode mm_chase.2.1 50 = .ok (.idiv, 1) := by decide +kernel
theorem dd_chase_51 : decode mm_chase.2.1 51 = .ok (.iload_n 3, 1) := by decide +kernel
theorem dd_chase_52 : decode mm_chase.2.1 52 = .ok (.iconst 2, 1) := by decide +kernel
theorem dd_chase_53 : decode mm_chase.2.1 53 = .ok (.idiv, 1) := by decide +kernel
theorem dd_chase_54 : decode mm_chase.2.1 54 = .ok (.bipush 10, 2) := by decide +kernel
theorem dd_chase_56 : decode mm_chase.2.1 56 = .ok (.irem, 1) := by decide +kernel
theorem dd_chase_57 : decode mm_chase.2.1 57 = .ok (.if_icmp .ne (7), 3) := by decide +kernel
theorem dd_chase_64 : decode mm_chase.2.1 64 = .ok (.ldc_w 396, 3) := by decide +kernel
theorem dd_chase_67 : decode mm_chase.2.1 67 = .ok (.iastore, 1) := by decide +kernel
theorem ia_212 : isA NC 212 1 = true := by decide +kernel
theorem la_212 : (lay (212 : Int).toNat).2.2 = 200 := by decide +kernel
theorem dd_chase_68 : decode mm_chase.2.1 68 = .ok (.iinc 3 1, 3) := by decide +kernel
theorem dd_chase_71 : decode mm_chase.2.1 71 = .ok (.goto (-36), 3) := by decide +kernel
theorem dd_chase_60 : decode mm_chase.2.1 60 = .ok (.iconst 0, 1) := by decide +kernel
theorem dd_chase_61 : decode mm_chase.2.1 61 = .ok (.goto 6, 3) := by decide +kernel
theorem dd_chase_76 : decode mm_chase.2.1 76 = .ok (.iload_n 3, 1) := by decide +kernel
theorem dd_chase_77 : decode mm_chase.2.1 77 = .ok (.sipush 200, 3) := by decide +kernel
theorem dd_chase_80 : decode mm_chase.2.1 80 = .ok (.if_icmp .ge (89), 3) := by decide +kernel
theorem dd_chase_169 : decode mm_chase.2.1 169 = .ok (.aload_n 0, 1) := by decide +kernel
theorem dd_chase_170 : decode mm_chase.2.1 170 = .ok (.getfield 174, 3) := by decide +kernel
theorem dd_chase_173 : decode mm_chase.2.1 173 = .ok (.bipush 20, 2) := by decide +kernel
theorem dd_chase_175 : decode mm_chase.2.1 175 = .ok (.iload_n 1, 1) := by decide +kernel
theorem dd_chase_176 : decode mm_chase.2.1 176 = .ok (.imul, 1) := by decide +kernel
theorem dd_chase_177 : decode mm_chase.2.1 177 = .ok (.iconst 2, 1) := by decide +kernel
theorem dd_chase_178 : decode mm_chase.2.1 178 = .ok (.iload_n 2, 1) := by decide +kernel
theorem dd_chase_179 : decode mm_chase.2.1 179 = .ok (.imul, 1) := by decide +kernel
theorem dd_chase_180 : decode mm_chase.2.1 180 = .ok (.iadd, 1) := by decide +kernel
theorem dd_chase_181 : decode mm_chase.2.1 181 = .ok (.iaload, 1) := by decide +kernel
theorem dd_chase_182 : decode mm_chase.2.1 182 = .ok (.istore_n 3, 1) := by decide +kernel
theorem dd_chase_183 : decode mm_chase.2.1 183 = .ok (.iload_n 3, 1) := by decide +kernel
theorem dd_chase_184 : decode mm_chase.2.1 184 = .ok (.ldc_w 396, 3) := by decide +kernel
theorem dd_chase_187 : decode mm_chase.2.1 187 = .ok (.if_icmp .ne (7), 3) := by decide +kernel
theorem dd_chase_194 : decode mm_chase.2.1 194 = .ok (.iload_n 3, 1) := by decide +kernel
theorem dd_chase_195 : decode mm_chase.2.1 195 = .ok (.ireturn, 1) := by decide +kernel
theorem dd_chase_190 : decode mm_chase.2.1 190 = .ok (.iconst (-1), 1) := by decide +kernel
theorem dd_chase_191 : decode mm_chase.2.1 191 = .ok (.goto 4, 3) := by decide +kernel
theorem dd_chase_83 : decode mm_chase.2.1 83 = .ok (.iconst 0, 1) := by decide +kernel
theorem dd_chase_84 : decode mm_chase.2.1 84 = .ok (.istore 4, 2) := by decide +kernel
theorem dd_chase_86 : decode mm_chase.2.1 86 = .ok (.iload 4, 2) := by decide +kernel
theorem dd_chase_88 : decode mm_chase.2.1 88 = .ok (.sipush 200, 3) := by decide +kernel
theorem dd_chase_91 : decode mm_chase.2.1 91 = .ok (.if_icmp .ge (72), 3) := by decide +kernel
theorem dd_chase_163 : decode mm_chase.2.1 163 = .ok (.iinc 3 1, 3) := by decide +kernel
theorem dd_chase_166 : decode mm_chase.2.1 166 = .ok (.goto (-90), 3) := by decide +kernel
theorem dd_chase_94 : decode mm_chase.2.1 94 = .ok (.aload_n 0, 1) := by decide +kernel
theorem dd_chase_95 : decode mm_chase.2.1 95 = .ok (.getfield 174, 3) := by decide +kernel
theorem dd_chase_98 : decode mm_chase.2.1 98 = .ok (.iload 4, 2) := by decide +kernel
theorem dd_chase_100 : decode mm_chase.2.1 100 = .ok (.iaload, 1) := by decide +kernel
theorem dd_chase_101 : decode mm_chase.2.1 101 = .ok (.ldc_w 396, 3) := by decide +kernel
theorem dd_chase_104 : decode mm_chase.2.1 104 = .ok (.if_icmp .ne (53), 3) := by decide +kernel
theorem dd_chase_107 : decode mm_chase.2.1 107 = .ok (.iload 4, 2) := by decide +kernel
theorem dd_chase_109 : decode mm_chase.2.1 109 = .ok (.bipush 20, 2) := by decide +kernel
theorem dd_chase_111 : decode mm_chase.2.1 111 = .ok (.idiv, 1) := by decide +kernel
theorem dd_chase_112 : decode mm_chase.2.1 112 = .ok (.aload_n 0, 1) := by decide +kernel
theorem dd_chase_113 : decode mm_chase.2.1 113 = .ok (.invokevirtual 332, 3) := by decide +kernel
theorem dd_chase_116 : decode mm_chase.2.1 116 = .ok (.if_icmp .ge (41), 3) := by decide +kernel
theorem dd_chase_119 : decode mm_chase.2.1 119 = .ok (.iload 4, 2) := by decide +kernel
theorem dd_chase_121 : decode mm_chase.2.1 121 = .ok (.iconst 2, 1) := by decide +kernel
theorem dd_chase_122 : decode mm_chase.2.1 122 = .ok (.idiv, 1) := by decide +kernel
theorem dd_chase_123 : decode mm_chase.2.1 123 = .ok (.bipush 10, 2) := by decide +kernel
theorem dd_chase_125 : decode mm_chase.2.1 125 = .ok (.irem, 1) := by decide +kernel
theorem dd_chase_126 : decode mm_chase.2.1 126 = .ok (.aload_n 0, 1) := by decide +kernel
theorem dd_chase_127 : decode mm_chase.2.1 127 = .ok (.invokevirtual 332, 3) := by decide +kernel
theorem dd_chase_130 : decode mm_chase.2.1 130 = .ok (.if_icmp .ge (27), 3) := by decide +kernel
theorem dd_chase_133 : decode mm_chase.2.1 133 = .ok (.aload_n 0, 1) := by decide +kernel
theorem dd_chase_134 : decode mm_chase.2.1 134 = .ok (.getfield 174, 3) := by decide +kernel
theorem dd_chase_137 : decode mm_chase.2.1 137 = .ok (.iload 4, 2) := by decide +kernel
theorem dd_chase_139 : decode mm_chase.2.1 139 = .ok (.aload_n 0, 1) := by decide +kernel
theorem dd_chase_140 : decode mm_chase.2.1 140 = .ok (.iload 4, 2) := by decide +kernel
theorem dd_chase_142 : decode mm_chase.2.1 142 = .ok (.iload_n 3, 1) := by decide +kernel
theorem dd_chase_143 : decode mm_chase.2.1 143 = .ok (.invokevirtual 480, 3) := by decide +kernel
theorem cw_12_480 : cwOk 12 480 0 257 3 11 12 = true := by decide +kernel
theorem mt_afterMove : MTB 257 = some mm_afterMove := rfl
theorem dd_chase_146 : decode mm_chase.2.1 146 = .ok (.ifCond .eq (7), 3) := by decide +kernel
theorem dd_chase_153 : decode mm_chase.2.1 153 = .ok (.ldc_w 396, 3) := by decide +kernel
theorem dd_chase_156 : decode mm_chase.2.1 156 = .ok (.iastore, 1) := by decide +kernel
theorem dd_chase_149 : decode mm_chase.2.1 149 = .ok (.iload_n 3, 1) := by decide +kernel
theorem dd_chase_150 : decode mm_chase.2.1 150 = .ok (.goto 6, 3) := by decide +kernel
theorem dd_chase_157 : decode mm_chase.2.1 157 = .ok (.iinc 4 1, 3) := by decide +kernel
theorem dd_chase_160 : decode mm_chase.2.1 160 = .ok (.goto (-74), 3) := by decide +kernel
theorem dd_afterMove_0 : decode mm_afterMove.2.1 0 = .ok (.iload_n 1, 1) := by decide +kernel
theorem dd_afterMove_1 : decode mm_afterMove.2.1 1 = .ok (.bipush 20, 2) := by decide +kernel
theorem dd_afterMove_3 : decode mm_afterMove.2.1 3 = .ok (.idiv, 1) := by decide +kernel
theorem dd_afterMove_4 : decode mm_afterMove.2.1 4 = .ok (.istore_n 3, 1) := by decide +kernel
theorem dd_afterMove_5 : decode mm_afterMove.2.1 5 = .ok (.iload_n 1, 1) := by decide +kernel
theorem dd_afterMove_6 : decode mm_afterMove.2.1 6 = .ok (.iconst 2, 1) := by decide +kernel
theorem dd_afterMove_7 : decode mm_afterMove.2.1 7 = .ok (.idiv, 1) := by decide +kernel
theorem dd_afterMove_8 : decode mm_afterMove.2.1 8 = .ok (.bipush 10, 2) := by decide +kernel
theorem dd_afterMove_10 : decode mm_afterMove.2.1 10 = .ok (.irem, 1) := by decide +kernel
theorem dd_afterMove_11 : decode mm_afterMove.2.1 11 = .ok (.istore 4, 2) := by decide +kernel
theorem dd_afterMove_13 : decode mm_afterMove.2.1 13 = .ok (.iload_n 1, 1) := by decide +kernel
theorem dd_afterMove_14 : decode mm_afterMove.2.1 14 = .ok (.iconst 2, 1) := by decide +kernel
theorem dd_afterMove_15 : decode mm_afterMove.2.1 15 = .ok (.irem, 1) := by decide +kernel
theorem dd_afterMove_16 : decode mm_afterMove.2.1 16 = .ok (.ifCond .ne (7), 3) := by decide +kernel
theorem dd_afterMove_23 : decode mm_afterMove.2.1 23 = .ok (.iload 4, 2) := by decide +kernel
theorem dd_afterMove_25 : decode mm_afterMove.2.1 25 = .ok (.istore 5, 2) := by decide +kernel
theorem dd_afterMove_27 : decode mm_afterMove.2.1 27 = .ok (.aload_n 0, 1) := by decide +kernel
theorem dd_afterMove_28 : decode mm_afterMove.2.1 28 = .ok (.getfield 147, 3) := by decide +kernel
theorem dd_afterMove_31 : decode mm_afterMove.2.1 31 = .ok (.iload 5, 2) := by decide +kernel
theorem dd_afterMove_33 : decode mm_afterMove.2.1 33 = .ok (.iaload, 1) := by decide +kernel
theorem dd_afterMove_34 : decode mm_afterMove.2.1 34 = .ok (.iconst 1, 1) := by decide +kernel
theorem dd_afterMove_35 : decode mm_afterMove.2.1 35 = .ok (.iload 5, 2) := by decide +kernel
theorem dd_afterMove_37 : decode mm_afterMove.2.1 37 = .ok (.ishl, 1) := by decide +kernel
theorem dd_afterMove_38 : decode mm_afterMove.2.1 38 = .ok (.ior, 1) := by decide +kernel
theorem dd_afterMove_39 : decode mm_afterMove.2.1 39 = .ok (.istore 6, 2) := by decide +kernel
theorem dd_afterMove_41 : decode mm_afterMove.2.1 41 = .ok (.iconst 1, 1) := by decide +kernel
theorem dd_afterMove_42 : decode mm_afterMove.2.1 42 = .ok (.istore 7, 2) := by decide +kernel
theorem dd_afterMove_44 : decode mm_afterMove.2.1 44 = .ok (.iconst 0, 1) := by decide +kernel
theorem dd_afterMove_45 : decode mm_afterMove.2.1 45 = .ok (.istore 8, 2) := by decide +kernel
theorem dd_afterMove_47 : decode mm_afterMove.2.1 47 = .ok (.iconst 0, 1) := by decide +kernel
theorem dd_afterMove_48 : decode mm_afterMove.2.1 48 = .ok (.istore 9, 2) := by decide +kernel
theorem dd_afterMove_19 : decode mm_afterMove.2.1 19 = .ok (.iload_n 3, 1) := by decide +kernel
theorem dd_afterMove_20 : decode mm_afterMove.2.1 20 = .ok (.goto 5, 3) := by decide +kernel
theorem dd_afterMove_50 : decode mm_afterMove.2.1 50 = .ok (.iload 9, 2) := by decide +kernel
theorem dd_afterMove_52 : decode mm_afterMove.2.1 52 = .ok (.aload_n 0, 1) := by decide +kernel
theorem dd_afterMove_53 : decode mm_afterMove.2.1 53 = .ok (.invokevirtual 332, 3) := by decide +kernel
theorem dd_afterMove_56 : decode mm_afterMove.2.1 56 = .ok (.if_icmp .ge (97), 3) := by decide +kernel
theorem dd_afterMove_153 : decode mm_afterMove.2.1 153 = .ok (.iload_n 1, 1) := by decide +kernel
theorem dd_afterMove_154 : decode mm_afterMove.2.1 154 = .ok (.iconst 2, 1) := by decide +kernel
theorem dd_afterMove_155 : decode mm_afterMove.2.1 155 = .ok (.irem, 1) := by decide +kernel
theorem dd_afterMove_156 : decode mm_afterMove.2.1 156 = .ok (.ifCond .ne (8), 3) := by decide +kernel
theorem dd_afterMove_164 : decode mm_afterMove.2.1 164 = .ok (.iload 8, 2) := by decide +kernel
theorem dd_afterMove_166 : decode mm_afterMove.2.1 166 = .ok (.ireturn, 1) := by decide +kernel
theorem dd_afterMove_159 : decode mm_afterMove.2.1 159 = .ok (.iload 7, 2) := by decide +kernel
theorem dd_afterMove_161 : decode mm_afterMove.2.1 161 = .ok (.goto 5, 3) := by decide +kernel
theorem dd_afterMove_59 : decode mm_afterMove.2.1 59 = .ok (.iload 6, 2) := by decide +kernel
theorem dd_afterMove_61 : decode mm_afterMove.2.1 61 = .ok (.iload 9, 2) := by decide +kernel
theorem dd_afterMove_63 : decode mm_afterMove.2.1 63 = .ok (.invokestatic 350, 3) := by decide +kernel
theorem dd_afterMove_66 : decode mm_afterMove.2.1 66 = .ok (.ifCond .eq (81), 3) := by decide +kernel
theorem dd_afterMove_69 : decode mm_afterMove.2.1 69 = .ok (.iload_n 1, 1) := by decide +kernel
theorem dd_afterMove_70 : decode mm_afterMove.2.1 70 = .ok (.iconst 2, 1) := by decide +kernel
theorem dd_afterMove_71 : decode mm_afterMove.2.1 71 = .ok (.irem, 1) := by decide +kernel
theorem dd_afterMove_72 : decode mm_afterMove.2.1 72 = .ok (.ifCond .ne (23), 3) := by decide +kernel
theorem dd_afterMove_95 : decode mm_afterMove.2.1 95 = .ok (.aload_n 0, 1) := by decide +kernel
theorem dd_afterMove_96 : decode mm_afterMove.2.1 96 = .ok (.getfield 174, 3) := by decide +kernel
theorem dd_afterMove_99 : decode mm_afterMove.2.1 99 = .ok (.bipush 20, 2) := by decide +kernel
theorem dd_afterMove_101 : decode mm_afterMove.2.1 101 = .ok (.iload_n 3, 1) := by decide +kernel
theorem dd_afterMove_102 : decode mm_afterMove.2.1 102 = .ok (.imul, 1) := by decide +kernel
theorem dd_afterMove_103 : decode mm_afterMove.2.1 103 = .ok (.iconst 2, 1) := by decide +kernel
theorem dd_afterMove_104 : decode mm_afterMove.2.1 104 = .ok (.iload 9, 2) := by decide +kernel
theorem dd_afterMove_106 : decode mm_afterMove.2.1 106 = .ok (.imul, 1) := by decide +kernel
theorem dd_afterMove_107 : decode mm_afterMove.2.1 107 = .ok (.iadd, 1) := by decide +kernel
theorem dd_afterMove_108 : decode mm_afterMove.2.1 108 = .ok (.iaload, 1) := by decide +kernel
theorem dd_afterMove_109 : decode mm_afterMove.2.1 109 = .ok (.istore 10, 2) := by decide +kernel
theorem dd_afterMove_111 : decode mm_afterMove.2.1 111 = .ok (.iload 7, 2) := by decide +kernel
theorem dd_afterMove_113 : decode mm_afterMove.2.1 113 = .ok (.ifCond .eq (13), 3) := by decide +kernel
theorem dd_afterMove_126 : decode mm_afterMove.2.1 126 = .ok (.iconst 0, 1) := by decide +kernel
theorem dd_afterMove_127 : decode mm_afterMove.2.1 127 = .ok (.istore 7, 2) := by decide +kernel
theorem dd_afterMove_129 : decode mm_afterMove.2.1 129 = .ok (.iload 8, 2) := by decide +kernel
theorem dd_afterMove_131 : decode mm_afterMove.2.1 131 = .ok (.ifCond .ne (9), 3) := by decide +kernel
theorem dd_afterMove_140 : decode mm_afterMove.2.1 140 = .ok (.iconst 1, 1) := by decide +kernel
theorem dd_afterMove_141 : decode mm_afterMove.2.1 141 = .ok (.goto 4, 3) := by decide +kernel
theorem dd_afterMove_145 : decode mm_afterMove.2.1 145 = .ok (.istore 8, 2) := by decide +kernel
theorem dd_afterMove_134 : decode mm_afterMove.2.1 134 = .ok (.iload 10, 2) := by decide +kernel
theorem dd_afterMove_136 : decode mm_afterMove.2.1 136 = .ok (.iload_n 2, 1) := by decide +kernel
theorem dd_afterMove_137 : decode mm_afterMove.2.1 137 = .ok (.if_icmp .ge (7), 3) := by decide +kernel
theorem dd_afterMove_144 : decode mm_afterMove.2.1 144 = .ok (.iconst 0, 1) := by decide +kernel
theorem dd_afterMove_116 : decode mm_afterMove.2.1 116 = .ok (.iload 10, 2) := by decide +kernel
theorem dd_afterMove_118 : decode mm_afterMove.2.1 118 = .ok (.iload_n 2, 1) := by decide +kernel
theorem dd_afterMove_119 : decode mm_afterMove.2.1 119 = .ok (.if_icmp .ge (7), 3) := by decide +kernel
theorem dd_afterMove_122 : decode mm_afterMove.2.1 122 = .ok (.iconst 1, 1) := by decide +kernel
theorem dd_afterMove_123 : decode mm_afterMove.2.1 123 = .ok (.goto 4, 3) := by decide +kernel
theorem dd_afterMove_75 : decode mm_afterMove.2.1 75 = .ok (.aload_n 0, 1) := by decide +kernel
theorem dd_afterMove_76 : decode mm_afterMove.2.1 76 = .ok (.getfield 174, 3) := by decide +kernel
theorem dd_afterMove_79 : decode mm_afterMove.2.1 79 = .ok (.bipush 20, 2) := by decide +kernel
theorem dd_afterMove_81 : decode mm_afterMove.2.1 81 = .ok (.iload 9, 2) := by decide +kernel
theorem dd_afterMove_83 : decode mm_afterMove.2.1 83 = .ok (.imul, 1) := by decide +kernel
theorem dd_afterMove_84 : decode mm_afterMove.2.1 84 = .ok (.iconst 2, 1) := by decide +kernel
theorem dd_afterMove_85 : decode mm_afterMove.2.1 85 = .ok (.iload 4, 2) := by decide +kernel
theorem dd_afterMove_87 : decode mm_afterMove.2.1 87 = .ok (.imul, 1) := by decide +kernel
theorem dd_afterMove_88 : decode mm_afterMove.2.1 88 = .ok (.iadd, 1) := by decide +kernel
theorem dd_afterMove_89 : decode mm_afterMove.2.1 89 = .ok (.iconst 1, 1) := by decide +kernel
theorem dd_afterMove_90 : decode mm_afterMove.2.1 90 = .ok (.iadd, 1) := by decide +kernel
theorem dd_afterMove_91 : decode mm_afterMove.2.1 91 = .ok (.iaload, 1) := by decide +kernel
theorem dd_afterMove_92 : decode mm_afterMove.2.1 92 = .ok (.goto 17, 3) := by decide +kernel
theorem dd_afterMove_147 : decode mm_afterMove.2.1 147 = .ok (.iinc 9 1, 3) := by decide +kernel
theorem dd_afterMove_150 : decode mm_afterMove.2.1 150 = .ok (.goto (-100), 3) := by decide +kernel
theorem B_Web_growCaught_0 {xs : Nat → Int} {xl e : Nat} {h : LH} {Q : Option LV → LH → Prop} {v2 v3 : Int} {q : Int} (hq : q = 5 ∨ q = 32) (hF : RF h)
    (k : Rn xs xl e mm_Web_growCaught 3 [some (.inr (.inr 80)), some (.inr (.inr q)), some (.inl v2), some (.inl v3), some (.inl 0), none, none, none] [] h Q) :
    Rn xs xl e mm_Web_growCaught 0 [some (.inr (.inr 80)), some (.inr (.inr q)), some (.inl v2), some (.inl v3), none, none, none, none] [] h Q := by
  refine R_ic dd_Web_growCaught_0 (by decide) rfl ?_
  refine R_st (ls' := [some (.inr (.inr 80)), some (.inr (.inr q)), some (.inl v2), some (.inl v3), some (.inl 0), none, none, none]) dd_Web_growCaught_1 rfl rfl rfl (Nat.le_of_ble_eq_true rfl) rfl rfl ?_
  exact k
theorem B_Web_growCaught_3 {xs : Nat → Int} {xl e : Nat} {h : LH} {Q : Option LV → LH → Prop} {v2 v3 v4 : Int} {q : Int} (hq : q = 5 ∨ q = 32) {o5 : Option LV} {o6 : Option LV} {o7 : Option LV} (hF : RF h) (r_v4 : 0 ≤ v4 ∧ v4 ≤ 10)
    (k : ((rd h q 0) ≤ v4 →
        Rn xs xl e mm_Web_growCaught 102 [some (.inr (.inr 80)), some (.inr (.inr q)), some (.inl v2), some (.inl v3), some (.inl 0), some (.inl 0), o6, o7] [] h Q) ∧
      (v4 < (rd h q 0) →
        (∃ c, c < e ∧ Rn xs xl c mm_Quarter_entered 0 [some (.inr (.inr q)), some (.inl v2), some (.inl v3), some (.inl (zshl 1 v4)), none, none, none] [] h (fun r h' => Rn xs xl e mm_Web_growCaught 26 [some (.inr (.inr 80)), some (.inr (.inr q)), some (.inl v2), some (.inl v3), some (.inl v4), o5, o6, o7] (r.toList ++ [.inl (zshl 1 v4)]) h' Q)))) :
    Rn xs xl e mm_Web_growCaught 3 [some (.inr (.inr 80)), some (.inr (.inr q)), some (.inl v2), some (.inl v3), some (.inl v4), o5, o6, o7] [] h Q := by
  refine R_ld (v := .inl v4) dd_Web_growCaught_3 rfl rfl rfl rfl ?_
  refine R_ld (v := .inr (.inr q)) dd_Web_growCaught_5 rfl rfl rfl rfl ?_
  refine R_gf (v := .inl (rd h q 0)) dd_Web_growCaught_6 fd_10_31 (io_q hq) (congrArg (fun z : Int => (Sum.inl z : LV)) (rfl)) rfl ?_
  refine R_icmp dd_Web_growCaught_9 rfl rfl (fun (c2 : (rd h q 0) ≤ v4) => ?_) (fun (c2 : v4 < (rd h q 0)) => ?_)
  · replace k := k.1 c2
    refine R_ic dd_Web_growCaught_96 (by decide) rfl ?_
    refine R_st (ls' := [some (.inr (.inr 80)), some (.inr (.inr q)), some (.inl v2), some (.inl v3), some (.inl 0), o5, o6, o7]) dd_Web_growCaught_97 rfl rfl rfl (Nat.le_of_ble_eq_true rfl) rfl rfl ?_
    refine R_ic dd_Web_growCaught_99 (by decide) rfl ?_
    refine R_st (ls' := [some (.inr (.inr 80)), some (.inr (.inr q)), some (.inl v2), some (.inl v3), some (.inl 0), some (.inl 0), o6, o7]) dd_Web_growCaught_100 rfl rfl rfl (Nat.le_of_ble_eq_true rfl) rfl rfl ?_
    exact k
  · replace k := k.2 c2
    refine R_ic dd_Web_growCaught_12 (by decide) rfl ?_
    refine R_ld (v := .inl v4) dd_Web_growCaught_13 rfl rfl rfl rfl ?_
    refine R_A dd_Web_growCaught_15 rfl rfl rfl rfl ?_
    refine R_ld (v := .inr (.inr q)) dd_Web_growCaught_16 rfl rfl rfl rfl ?_
    refine R_ld (v := .inl v2) dd_Web_growCaught_17 rfl rfl rfl rfl ?_
    refine R_ld (v := .inl v3) dd_Web_growCaught_18 rfl rfl rfl rfl ?_
    refine R_ic dd_Web_growCaught_19 (by decide) rfl ?_
    refine R_ld (v := .inl v4) dd_Web_growCaught_20 rfl rfl rfl rfl ?_
    refine R_A dd_Web_growCaught_22 rfl rfl rfl rfl ?_
    obtain ⟨c, hc, k⟩ := k
    exact R_call (as := [.inr (.inr q), .inl v2, .inl v3, .inl (zshl 1 v4)]) (rest := [.inl (zshl 1 v4)]) (M' := mm_Quarter_entered) (ls0 := [some (.inr (.inr q)), some (.inl v2), some (.inl v3), some (.inl (zshl 1 v4)), none, none, none]) dd_Web_growCaught_23 rfl rfl (cw_v cw_10_21 (io_q hq) rfl rfl (Nat.le_of_ble_eq_true rfl) (Nat.le_of_ble_eq_true rfl)) mt_Quarter_entered rfl hc rfl k
theorem B_Web_growCaught_26 {xs : Nat → Int} {xl e : Nat} {h : LH} {Q : Option LV → LH → Prop} {v2 v3 v4 w0 w1 : Int} {q : Int} (hq : q = 5 ∨ q = 32) {o5 : Option LV} {o6 : Option LV} {o7 : Option LV} (hF : RF h) (r_v4 : 0 ≤ v4 ∧ v4 ≤ 9)
    (k : Rn xs xl e mm_Web_growCaught 35 [some (.inr (.inr 80)), some (.inr (.inr q)), some (.inl v2), some (.inl v3), some (.inl v4), some (.inl (zor w0 w1)), some (.inl (-1)), some (.inl 0)] [] h Q) :
    Rn xs xl e mm_Web_growCaught 26 [some (.inr (.inr 80)), some (.inr (.inr q)), some (.inl v2), some (.inl v3), some (.inl v4), o5, o6, o7] [.inl w1, .inl w0] h Q := by
  refine R_A dd_Web_growCaught_26 rfl rfl rfl rfl ?_
  refine R_st (ls' := [some (.inr (.inr 80)), some (.inr (.inr q)), some (.inl v2), some (.inl v3), some (.inl v4), some (.inl (zor w0 w1)), o6, o7]) dd_Web_growCaught_27 rfl rfl rfl (Nat.le_of_ble_eq_true rfl) rfl rfl ?_
  refine R_ic dd_Web_growCaught_29 (by decide) rfl ?_
  refine R_st (ls' := [some (.inr (.inr 80)), some (.inr (.inr q)), some (.inl v2), some (.inl v3), some (.inl v4), some (.inl (zor w0 w1)), some (.inl (-1)), o7]) dd_Web_growCaught_30 rfl rfl rfl (Nat.le_of_ble_eq_true rfl) rfl rfl ?_
  refine R_ic dd_Web_growCaught_32 (by decide) rfl ?_
  refine R_st (ls' := [some (.inr (.inr 80)), some (.inr (.inr q)), some (.inl v2), some (.inl v3), some (.inl v4), some (.inl (zor w0 w1)), some (.inl (-1)), some (.inl 0)]) dd_Web_growCaught_33 rfl rfl rfl (Nat.le_of_ble_eq_true rfl) rfl rfl ?_
  exact k
theorem B_Web_growCaught_35 {xs : Nat → Int} {xl e : Nat} {h : LH} {Q : Option LV → LH → Prop} {v2 v3 v4 v5 v6 v7 : Int} {q : Int} (hq : q = 5 ∨ q = 32) (hF : RF h) (r_v4 : 0 ≤ v4 ∧ v4 ≤ 9) (r_v7 : 0 ≤ v7 ∧ v7 ≤ 10)
    (k : ((rd h q 0) ≤ v7 →
        Rn xs xl e mm_Web_growCaught 76 [some (.inr (.inr 80)), some (.inr (.inr q)), some (.inl v2), some (.inl v3), some (.inl v4), some (.inl v5), some (.inl v6), some (.inl v7)] [] h Q) ∧
      (v7 < (rd h q 0) →
        ((zand (zshr v5 v7) 1) = 0 →
          Rn xs xl e mm_Web_growCaught 35 [some (.inr (.inr 80)), some (.inr (.inr q)), some (.inl v2), some (.inl v3), some (.inl v4), some (.inl v5), some (.inl (zand v6 (-1))), some (.inl (v7 + 1))] [] h Q) ∧
        ((zand (zshr v5 v7) 1) ≠ 0 →
          (0 ≤ v7 ∧ v7 < 10) ∧
          Rn xs xl e mm_Web_growCaught 35 [some (.inr (.inr 80)), some (.inr (.inr q)), some (.inl v2), some (.inl v3), some (.inl v4), some (.inl v5), some (.inl (zand v6 (rd h 82 v7))), some (.inl (v7 + 1))] [] h Q))) :
    Rn xs xl e mm_Web_growCaught 35 [some (.inr (.inr 80)), some (.inr (.inr q)), some (.inl v2), some (.inl v3), some (.inl v4), some (.inl v5), some (.inl v6), some (.inl v7)] [] h Q := by
  refine R_ld (v := .inl v7) dd_Web_growCaught_35 rfl rfl rfl rfl ?_
  refine R_ld (v := .inr (.inr q)) dd_Web_growCaught_37 rfl rfl rfl rfl ?_
  refine R_gf (v := .inl (rd h q 0)) dd_Web_growCaught_38 fd_10_31 (io_q hq) (congrArg (fun z : Int => (Sum.inl z : LV)) (rfl)) rfl ?_
  refine R_icmp dd_Web_growCaught_41 rfl rfl (fun (c2 : (rd h q 0) ≤ v7) => ?_) (fun (c2 : v7 < (rd h q 0)) => ?_)
  · replace k := k.1 c2
    exact k
  · replace k := k.2 c2
    refine R_ld (v := .inl v6) dd_Web_growCaught_44 rfl rfl rfl rfl ?_
    refine R_ld (v := .inl v5) dd_Web_growCaught_46 rfl rfl rfl rfl ?_
    refine R_ld (v := .inl v7) dd_Web_growCaught_48 rfl rfl rfl rfl ?_
    refine R_A dd_Web_growCaught_50 rfl rfl rfl rfl ?_
    refine R_ic dd_Web_growCaught_51 (by decide) rfl ?_
    refine R_A dd_Web_growCaught_52 rfl rfl rfl rfl ?_
    refine R_if dd_Web_growCaught_53 rfl rfl (fun (c3 : (zand (zshr v5 v7) 1) = 0) => ?_) (fun (c3 : (zand (zshr v5 v7) 1) ≠ 0) => ?_)
    · replace k := k.1 c3
      refine R_ic dd_Web_growCaught_66 (by decide) rfl ?_
      refine R_A dd_Web_growCaught_67 rfl rfl rfl rfl ?_
      refine R_st (ls' := [some (.inr (.inr 80)), some (.inr (.inr q)), some (.inl v2), some (.inl v3), some (.inl v4), some (.inl v5), some (.inl (zand v6 (-1))), some (.inl v7)]) dd_Web_growCaught_68 rfl rfl rfl (Nat.le_of_ble_eq_true rfl) rfl rfl ?_
      refine R_inc (y := v7 + 1) (ls' := [some (.inr (.inr 80)), some (.inr (.inr q)), some (.inl v2), some (.inl v3), some (.inl v4), some (.inl v5), some (.inl (zand v6 (-1))), some (.inl (v7 + 1))]) dd_Web_growCaught_70 rfl (by decide) (by omega) (by omega) rfl rfl ?_
      refine R_goto dd_Web_growCaught_73 rfl ?_
      exact k
    · replace k := k.2 c3
      refine R_ld (v := .inr (.inr 80)) dd_Web_growCaught_56 rfl rfl rfl rfl ?_
      refine R_gf (v := .inr (.inr 82)) dd_Web_growCaught_57 fd_10_15 io_80 (congrArg (fun z : Int => (Sum.inr (Sum.inr z) : LV)) (rf_80_1 hF)) rfl ?_
      refine R_ld (v := .inl v7) dd_Web_growCaught_60 rfl rfl rfl rfl ?_
      obtain ⟨s1, k⟩ := k
      refine R_iald (v := (rd h 82 v7)) (n := 10) dd_Web_growCaught_62 ia_82 la_82 s1 (rfl) rfl ?_
      refine R_goto dd_Web_growCaught_63 rfl ?_
      refine R_A dd_Web_growCaught_67 rfl rfl rfl rfl ?_
      refine R_st (ls' := [some (.inr (.inr 80)), some (.inr (.inr q)), some (.inl v2), some (.inl v3), some (.inl v4), some (.inl v5), some (.inl (zand v6 (rd h 82 v7))), some (.inl v7)]) dd_Web_growCaught_68 rfl rfl rfl (Nat.le_of_ble_eq_true rfl) rfl rfl ?_
      refine R_inc (y := v7 + 1) (ls' := [some (.inr (.inr 80)), some (.inr (.inr q)), some (.inl v2), some (.inl v3), some (.inl v4), some (.inl v5), some (.inl (zand v6 (rd h 82 v7))), some (.inl (v7 + 1))]) dd_Web_growCaught_70 rfl (by decide) (by omega) (by omega) rfl rfl ?_
      refine R_goto dd_Web_growCaught_73 rfl ?_
      exact k
theorem B_Web_growCaught_76 {xs : Nat → Int} {xl e : Nat} {h : LH} {Q : Option LV → LH → Prop} {v2 v3 v4 v5 v6 v7 : Int} {q : Int} (hq : q = 5 ∨ q = 32) (hF : RF h) (r_v4 : 0 ≤ v4 ∧ v4 ≤ 9)
    (k : Rn xs xl e mm_Web_growCaught 3 [some (.inr (.inr 80)), some (.inr (.inr q)), some (.inl v2), some (.inl v3), some (.inl (v4 + 1)), some (.inl v5), some (.inl v6), some (.inl v7)] [] (wr h 83 v4 (zor v6 (zshl 1 v4))) Q) :
    Rn xs xl e mm_Web_growCaught 76 [some (.inr (.inr 80)), some (.inr (.inr q)), some (.inl v2), some (.inl v3), some (.inl v4), some (.inl v5), some (.inl v6), some (.inl v7)] [] h Q := by
  refine R_ld (v := .inr (.inr 80)) dd_Web_growCaught_76 rfl rfl rfl rfl ?_
  refine R_gf (v := .inr (.inr 83)) dd_Web_growCaught_77 fd_10_18 io_80 (congrArg (fun z : Int => (Sum.inr (Sum.inr z) : LV)) (rf_80_2 hF)) rfl ?_
  refine R_ld (v := .inl v4) dd_Web_growCaught_80 rfl rfl rfl rfl ?_
  refine R_ld (v := .inl v6) dd_Web_growCaught_82 rfl rfl rfl rfl ?_
  refine R_ic dd_Web_growCaught_84 (by decide) rfl ?_
  refine R_ld (v := .inl v4) dd_Web_growCaught_85 rfl rfl rfl rfl ?_
  refine R_A dd_Web_growCaught_87 rfl rfl rfl rfl ?_
  refine R_A dd_Web_growCaught_88 rfl rfl rfl rfl ?_
  refine R_iast (n := 10) dd_Web_growCaught_89 ia_83 la_83 (by omega) rfl ?_
  refine R_inc (y := v4 + 1) (ls' := [some (.inr (.inr 80)), some (.inr (.inr q)), some (.inl v2), some (.inl v3), some (.inl (v4 + 1)), some (.inl v5), some (.inl v6), some (.inl v7)]) dd_Web_growCaught_90 rfl (by decide) (by omega) (by omega) rfl rfl ?_
  refine R_goto dd_Web_growCaught_93 rfl ?_
  exact k
theorem B_Web_growCaught_102 {xs : Nat → Int} {xl e : Nat} {h : LH} {Q : Option LV → LH → Prop} {v2 v3 v4 v5 : Int} {q : Int} (hq : q = 5 ∨ q = 32) {o6 : Option LV} {o7 : Option LV} (hF : RF h) (r_v5 : 0 ≤ v5 ∧ v5 ≤ 10)
    (k : ((rd h q 0) ≤ v5 →
        (v4 = 0 ∨ v4 = 1) ∧
        Q (some (.inl v4)) h) ∧
      (v5 < (rd h q 0) →
        (0 ≤ v5 ∧ v5 < 10) ∧
        (0 ≤ v5 ∧ v5 < 10) ∧
        (∃ c, c < e ∧ Rn xs xl c mm_Quarter_entered 0 [some (.inr (.inr q)), some (.inl v3), some (.inl v2), some (.inl (rd h 81 v5)), none, none, none] [] h (fun r h' => Rn xs xl e mm_Web_growCaught 131 [some (.inr (.inr 80)), some (.inr (.inr q)), some (.inl v2), some (.inl v3), some (.inl v4), some (.inl v5), o6, o7] (r.toList ++ [.inl (rd h 81 v5)]) h' Q)))) :
    Rn xs xl e mm_Web_growCaught 102 [some (.inr (.inr 80)), some (.inr (.inr q)), some (.inl v2), some (.inl v3), some (.inl v4), some (.inl v5), o6, o7] [] h Q := by
  refine R_ld (v := .inl v5) dd_Web_growCaught_102 rfl rfl rfl rfl ?_
  refine R_ld (v := .inr (.inr q)) dd_Web_growCaught_104 rfl rfl rfl rfl ?_
  refine R_gf (v := .inl (rd h q 0)) dd_Web_growCaught_105 fd_10_31 (io_q hq) (congrArg (fun z : Int => (Sum.inl z : LV)) (rfl)) rfl ?_
  refine R_icmp dd_Web_growCaught_108 rfl rfl (fun (c5 : (rd h q 0) ≤ v5) => ?_) (fun (c5 : v5 < (rd h q 0)) => ?_)
  · replace k := k.1 c5
    refine R_ld (v := .inl v4) dd_Web_growCaught_202 rfl rfl rfl rfl ?_
    obtain ⟨s1, k⟩ := k
    exact R_zret dd_Web_growCaught_204 rfl s1 k
  · replace k := k.2 c5
    refine R_ld (v := .inr (.inr 80)) dd_Web_growCaught_111 rfl rfl rfl rfl ?_
    refine R_gf (v := .inr (.inr 81)) dd_Web_growCaught_112 fd_10_9 io_80 (congrArg (fun z : Int => (Sum.inr (Sum.inr z) : LV)) (rf_80_0 hF)) rfl ?_
    refine R_ld (v := .inl v5) dd_Web_growCaught_115 rfl rfl rfl rfl ?_
    obtain ⟨s2, k⟩ := k
    refine R_iald (v := (rd h 81 v5)) (n := 10) dd_Web_growCaught_117 ia_81 la_81 s2 (rfl) rfl ?_
    refine R_ld (v := .inr (.inr q)) dd_Web_growCaught_118 rfl rfl rfl rfl ?_
    refine R_ld (v := .inl v3) dd_Web_growCaught_119 rfl rfl rfl rfl ?_
    refine R_ld (v := .inl v2) dd_Web_growCaught_120 rfl rfl rfl rfl ?_
    refine R_ld (v := .inr (.inr 80)) dd_Web_growCaught_121 rfl rfl rfl rfl ?_
    refine R_gf (v := .inr (.inr 81)) dd_Web_growCaught_122 fd_10_9 io_80 (congrArg (fun z : Int => (Sum.inr (Sum.inr z) : LV)) (rf_80_0 hF)) rfl ?_
    refine R_ld (v := .inl v5) dd_Web_growCaught_125 rfl rfl rfl rfl ?_
    obtain ⟨s3, k⟩ := k
    refine R_iald (v := (rd h 81 v5)) (n := 10) dd_Web_growCaught_127 ia_81 la_81 s3 (rfl) rfl ?_
    obtain ⟨c, hc, k⟩ := k
    exact R_call (as := [.inr (.inr q), .inl v3, .inl v2, .inl (rd h 81 v5)]) (rest := [.inl (rd h 81 v5)]) (M' := mm_Quarter_entered) (ls0 := [some (.inr (.inr q)), some (.inl v3), some (.inl v2), some (.inl (rd h 81 v5)), none, none, none]) dd_Web_growCaught_128 rfl rfl (cw_v cw_10_21 (io_q hq) rfl rfl (Nat.le_of_ble_eq_true rfl) (Nat.le_of_ble_eq_true rfl)) mt_Quarter_entered rfl hc rfl k
theorem B_Web_growCaught_131 {xs : Nat → Int} {xl e : Nat} {h : LH} {Q : Option LV → LH → Prop} {v2 v3 v4 v5 w0 w1 : Int} {q : Int} (hq : q = 5 ∨ q = 32) {o6 : Option LV} {o7 : Option LV} (hF : RF h) (r_v5 : 0 ≤ v5 ∧ v5 ≤ 9)
    (k : ((zor w0 w1) ≠ (rd h 82 v5) →
        Rn xs xl e mm_Web_growCaught 173 [some (.inr (.inr 80)), some (.inr (.inr q)), some (.inl v2), some (.inl v3), some (.inl (zor v4 1)), some (.inl v5), some (.inl (zor w0 w1)), o7] [] h Q) ∧
      ((zor w0 w1) = (rd h 82 v5) →
        ((rd h 83 v5) = (rd h 81 v5) →
          Rn xs xl e mm_Web_growCaught 173 [some (.inr (.inr 80)), some (.inr (.inr q)), some (.inl v2), some (.inl v3), some (.inl (zor v4 0)), some (.inl v5), some (.inl (zor w0 w1)), o7] [] h Q) ∧
        ((rd h 83 v5) ≠ (rd h 81 v5) →
          Rn xs xl e mm_Web_growCaught 173 [some (.inr (.inr 80)), some (.inr (.inr q)), some (.inl v2), some (.inl v3), some (.inl (zor v4 1)), some (.inl v5), some (.inl (zor w0 w1)), o7] [] h Q))) :
    Rn xs xl e mm_Web_growCaught 131 [some (.inr (.inr 80)), some (.inr (.inr q)), some (.inl v2), some (.inl v3), some (.inl v4), some (.inl v5), o6, o7] [.inl w1, .inl w0] h Q := by
  refine R_A dd_Web_growCaught_131 rfl rfl rfl rfl ?_
  refine R_st (ls' := [some (.inr (.inr 80)), some (.inr (.inr q)), some (.inl v2), some (.inl v3), some (.inl v4), some (.inl v5), some (.inl (zor w0 w1)), o7]) dd_Web_growCaught_132 rfl rfl rfl (Nat.le_of_ble_eq_true rfl) rfl rfl ?_
  refine R_ld (v := .inl v4) dd_Web_growCaught_134 rfl rfl rfl rfl ?_
  refine R_ld (v := .inl (zor w0 w1)) dd_Web_growCaught_136 rfl rfl rfl rfl ?_
  refine R_ld (v := .inr (.inr 80)) dd_Web_growCaught_138 rfl rfl rfl rfl ?_
  refine R_gf (v := .inr (.inr 82)) dd_Web_growCaught_139 fd_10_15 io_80 (congrArg (fun z : Int => (Sum.inr (Sum.inr z) : LV)) (rf_80_1 hF)) rfl ?_
  refine R_ld (v := .inl v5) dd_Web_growCaught_142 rfl rfl rfl rfl ?_
  refine R_iald (v := (rd h 82 v5)) (n := 10) dd_Web_growCaught_144 ia_82 la_82 (by omega) (rfl) rfl ?_
  refine R_icmp dd_Web_growCaught_145 rfl rfl (fun (c1 : (zor w0 w1) ≠ (rd h 82 v5)) => ?_) (fun (c1 : (zor w0 w1) = (rd h 82 v5)) => ?_)
  · replace k := k.1 c1
    refine R_ic dd_Web_growCaught_165 (by decide) rfl ?_
    refine R_goto dd_Web_growCaught_166 rfl ?_
    refine R_A dd_Web_growCaught_170 rfl rfl rfl rfl ?_
    refine R_st (ls' := [some (.inr (.inr 80)), some (.inr (.inr q)), some (.inl v2), some (.inl v3), some (.inl (zor v4 1)), some (.inl v5), some (.inl (zor w0 w1)), o7]) dd_Web_growCaught_171 rfl rfl rfl (Nat.le_of_ble_eq_true rfl) rfl rfl ?_
    exact k
  · replace k := k.2 c1
    refine R_ld (v := .inr (.inr 80)) dd_Web_growCaught_148 rfl rfl rfl rfl ?_
    refine R_gf (v := .inr (.inr 83)) dd_Web_growCaught_149 fd_10_18 io_80 (congrArg (fun z : Int => (Sum.inr (Sum.inr z) : LV)) (rf_80_2 hF)) rfl ?_
    refine R_ld (v := .inl v5) dd_Web_growCaught_152 rfl rfl rfl rfl ?_
    refine R_iald (v := (rd h 83 v5)) (n := 10) dd_Web_growCaught_154 ia_83 la_83 (by omega) (rfl) rfl ?_
    refine R_ld (v := .inr (.inr 80)) dd_Web_growCaught_155 rfl rfl rfl rfl ?_
    refine R_gf (v := .inr (.inr 81)) dd_Web_growCaught_156 fd_10_9 io_80 (congrArg (fun z : Int => (Sum.inr (Sum.inr z) : LV)) (rf_80_0 hF)) rfl ?_
    refine R_ld (v := .inl v5) dd_Web_growCaught_159 rfl rfl rfl rfl ?_
    refine R_iald (v := (rd h 81 v5)) (n := 10) dd_Web_growCaught_161 ia_81 la_81 (by omega) (rfl) rfl ?_
    refine R_icmp dd_Web_growCaught_162 rfl rfl (fun (c2 : (rd h 83 v5) = (rd h 81 v5)) => ?_) (fun (c2 : (rd h 83 v5) ≠ (rd h 81 v5)) => ?_)
    · replace k := k.1 c2
      refine R_ic dd_Web_growCaught_169 (by decide) rfl ?_
      refine R_A dd_Web_growCaught_170 rfl rfl rfl rfl ?_
      refine R_st (ls' := [some (.inr (.inr 80)), some (.inr (.inr q)), some (.inl v2), some (.inl v3), some (.inl (zor v4 0)), some (.inl v5), some (.inl (zor w0 w1)), o7]) dd_Web_growCaught_171 rfl rfl rfl (Nat.le_of_ble_eq_true rfl) rfl rfl ?_
      exact k
    · replace k := k.2 c2
      refine R_ic dd_Web_growCaught_165 (by decide) rfl ?_
      refine R_goto dd_Web_growCaught_166 rfl ?_
      refine R_A dd_Web_growCaught_170 rfl rfl rfl rfl ?_
      refine R_st (ls' := [some (.inr (.inr 80)), some (.inr (.inr q)), some (.inl v2), some (.inl v3), some (.inl (zor v4 1)), some (.inl v5), some (.inl (zor w0 w1)), o7]) dd_Web_growCaught_171 rfl rfl rfl (Nat.le_of_ble_eq_true rfl) rfl rfl ?_
      exact k
theorem B_Web_growCaught_173 {xs : Nat → Int} {xl e : Nat} {h : LH} {Q : Option LV → LH → Prop} {v2 v3 v4 v5 v6 : Int} {q : Int} (hq : q = 5 ∨ q = 32) {o7 : Option LV} (hF : RF h) (r_v5 : 0 ≤ v5 ∧ v5 ≤ 9)
    (k : Rn xs xl e mm_Web_growCaught 102 [some (.inr (.inr 80)), some (.inr (.inr q)), some (.inl v2), some (.inl v3), some (.inl v4), some (.inl (v5 + 1)), some (.inl v6), o7] [] (wr (wr h 82 v5 v6) 81 v5 (rd h 83 v5)) Q) :
    Rn xs xl e mm_Web_growCaught 173 [some (.inr (.inr 80)), some (.inr (.inr q)), some (.inl v2), some (.inl v3), some (.inl v4), some (.inl v5), some (.inl v6), o7] [] h Q := by
  refine R_ld (v := .inr (.inr 80)) dd_Web_growCaught_173 rfl rfl rfl rfl ?_
  refine R_gf (v := .inr (.inr 82)) dd_Web_growCaught_174 fd_10_15 io_80 (congrArg (fun z : Int => (Sum.inr (Sum.inr z) : LV)) (rf_80_1 hF)) rfl ?_
  refine R_ld (v := .inl v5) dd_Web_growCaught_177 rfl rfl rfl rfl ?_
  refine R_ld (v := .inl v6) dd_Web_growCaught_179 rfl rfl rfl rfl ?_
  refine R_iast (n := 10) dd_Web_growCaught_181 ia_82 la_82 (by omega) rfl ?_
  refine R_ld (v := .inr (.inr 80)) dd_Web_growCaught_182 rfl rfl rfl rfl ?_
  refine R_gf (v := .inr (.inr 81)) dd_Web_growCaught_183 fd_10_9 io_80 (congrArg (fun z : Int => (Sum.inr (Sum.inr z) : LV)) ((rdw_ne (by decide)).trans (rf_80_0 hF))) rfl ?_
  refine R_ld (v := .inl v5) dd_Web_growCaught_186 rfl rfl rfl rfl ?_
  refine R_ld (v := .inr (.inr 80)) dd_Web_growCaught_188 rfl rfl rfl rfl ?_
  refine R_gf (v := .inr (.inr 83)) dd_Web_growCaught_189 fd_10_18 io_80 (congrArg (fun z : Int => (Sum.inr (Sum.inr z) : LV)) ((rdw_ne (by decide)).trans (rf_80_2 hF))) rfl ?_
  refine R_ld (v := .inl v5) dd_Web_growCaught_192 rfl rfl rfl rfl ?_
  refine R_iald (v := (rd h 83 v5)) (n := 10) dd_Web_growCaught_194 ia_83 la_83 (by omega) (rdw_ne (by decide)) rfl ?_
  refine R_iast (n := 10) dd_Web_growCaught_195 ia_81 la_81 (by omega) rfl ?_
  refine R_inc (y := v5 + 1) (ls' := [some (.inr (.inr 80)), some (.inr (.inr q)), some (.inl v2), some (.inl v3), some (.inl v4), some (.inl (v5 + 1)), some (.inl v6), o7]) dd_Web_growCaught_196 rfl (by decide) (by omega) (by omega) rfl rfl ?_
  refine R_goto dd_Web_growCaught_199 rfl ?_
  exact k
theorem B_Web_movesToCatch_0 {xs : Nat → Int} {xl e : Nat} {h : LH} {Q : Option LV → LH → Prop} {v2 v3 v4 v5 : Int} {q : Int} (hq : q = 5 ∨ q = 32) (hF : RF h)
    (k : Rn xs xl e mm_Web_movesToCatch 3 [some (.inr (.inr 80)), some (.inr (.inr q)), some (.inl v2), some (.inl v3), some (.inl v4), some (.inl v5), some (.inl 0)] [] h Q) :
    Rn xs xl e mm_Web_movesToCatch 0 [some (.inr (.inr 80)), some (.inr (.inr q)), some (.inl v2), some (.inl v3), some (.inl v4), some (.inl v5), none] [] h Q := by
  refine R_ic dd_Web_movesToCatch_0 (by decide) rfl ?_
  refine R_st (ls' := [some (.inr (.inr 80)), some (.inr (.inr q)), some (.inl v2), some (.inl v3), some (.inl v4), some (.inl v5), some (.inl 0)]) dd_Web_movesToCatch_1 rfl rfl rfl (Nat.le_of_ble_eq_true rfl) rfl rfl ?_
  exact k
theorem B_Web_movesToCatch_3 {xs : Nat → Int} {xl e : Nat} {h : LH} {Q : Option LV → LH → Prop} {v2 v3 v4 v5 v6 : Int} {q : Int} (hq : q = 5 ∨ q = 32) (hF : RF h) (r_v6 : 0 ≤ v6 ∧ v6 ≤ 10)
    (k : (10 ≤ v6 →
        Rn xs xl e mm_Web_movesToCatch 41 [some (.inr (.inr 80)), some (.inr (.inr q)), some (.inl v2), some (.inl v3), some (.inl v4), some (.inl v5), some (.inl 0)] [] h Q) ∧
      (v6 < 10 →
        (0 ≤ v6 ∧ v6 < 10) ∧
        (0 ≤ v6 ∧ v6 < 10) ∧
        Rn xs xl e mm_Web_movesToCatch 3 [some (.inr (.inr 80)), some (.inr (.inr q)), some (.inl v2), some (.inl v3), some (.inl v4), some (.inl v5), some (.inl (v6 + 1))] [] (wr (wr h 81 v6 (zshl 1 v6)) 82 v6 (zshl 1 v6)) Q)) :
    Rn xs xl e mm_Web_movesToCatch 3 [some (.inr (.inr 80)), some (.inr (.inr q)), some (.inl v2), some (.inl v3), some (.inl v4), some (.inl v5), some (.inl v6)] [] h Q := by
  refine R_ld (v := .inl v6) dd_Web_movesToCatch_3 rfl rfl rfl rfl ?_
  refine R_bi dd_Web_movesToCatch_5 (by decide) rfl ?_
  refine R_icmp dd_Web_movesToCatch_7 rfl rfl (fun (c3 : 10 ≤ v6) => ?_) (fun (c3 : v6 < 10) => ?_)
  · replace k := k.1 c3
    refine R_ic dd_Web_movesToCatch_38 (by decide) rfl ?_
    refine R_st (ls' := [some (.inr (.inr 80)), some (.inr (.inr q)), some (.inl v2), some (.inl v3), some (.inl v4), some (.inl v5), some (.inl 0)]) dd_Web_movesToCatch_39 rfl rfl rfl (Nat.le_of_ble_eq_true rfl) rfl rfl ?_
    exact k
  · replace k := k.2 c3
    refine R_ld (v := .inr (.inr 80)) dd_Web_movesToCatch_10 rfl rfl rfl rfl ?_
    refine R_gf (v := .inr (.inr 81)) dd_Web_movesToCatch_11 fd_10_9 io_80 (congrArg (fun z : Int => (Sum.inr (Sum.inr z) : LV)) (rf_80_0 hF)) rfl ?_
    refine R_ld (v := .inl v6) dd_Web_movesToCatch_14 rfl rfl rfl rfl ?_
    refine R_ic dd_Web_movesToCatch_16 (by decide) rfl ?_
    refine R_ld (v := .inl v6) dd_Web_movesToCatch_17 rfl rfl rfl rfl ?_
    refine R_A dd_Web_movesToCatch_19 rfl rfl rfl rfl ?_
    obtain ⟨s1, k⟩ := k
    refine R_iast (n := 10) dd_Web_movesToCatch_20 ia_81 la_81 s1 rfl ?_
    refine R_ld (v := .inr (.inr 80)) dd_Web_movesToCatch_21 rfl rfl rfl rfl ?_
    refine R_gf (v := .inr (.inr 82)) dd_Web_movesToCatch_22 fd_10_15 io_80 (congrArg (fun z : Int => (Sum.inr (Sum.inr z) : LV)) ((rdw_ne (by decide)).trans (rf_80_1 hF))) rfl ?_
    refine R_ld (v := .inl v6) dd_Web_movesToCatch_25 rfl rfl rfl rfl ?_
    refine R_ic dd_Web_movesToCatch_27 (by decide) rfl ?_
    refine R_ld (v := .inl v6) dd_Web_movesToCatch_28 rfl rfl rfl rfl ?_
    refine R_A dd_Web_movesToCatch_30 rfl rfl rfl rfl ?_
    obtain ⟨s2, k⟩ := k
    refine R_iast (n := 10) dd_Web_movesToCatch_31 ia_82 la_82 s2 rfl ?_
    refine R_inc (y := v6 + 1) (ls' := [some (.inr (.inr 80)), some (.inr (.inr q)), some (.inl v2), some (.inl v3), some (.inl v4), some (.inl v5), some (.inl (v6 + 1))]) dd_Web_movesToCatch_32 rfl (by decide) (by omega) (by omega) rfl rfl ?_
    refine R_goto dd_Web_movesToCatch_35 rfl ?_
    exact k
theorem B_Web_movesToCatch_41 {xs : Nat → Int} {xl e : Nat} {h : LH} {Q : Option LV → LH → Prop} {v2 v3 v4 v5 v6 : Int} {q : Int} (hq : q = 5 ∨ q = 32) (hF : RF h) (r_v6 : 0 ≤ v6 ∧ v6 ≤ 203) (r_v4 : 0 ≤ v4 ∧ v4 ≤ 9) (r_v5 : 0 ≤ v5 ∧ v5 ≤ 9)
    (k : (202 < v6 →
        Q (some (.inl (-1))) h) ∧
      (v6 ≤ 202 →
        ((zand (zshr (rd h 81 v4) v5) 1) = 0 →
          (∃ c, c < e ∧ Rn xs xl c mm_Web_growCaught 0 [some (.inr (.inr 80)), some (.inr (.inr q)), some (.inl v2), some (.inl v3), none, none, none, none] [] h (fun r h' => Rn xs xl e mm_Web_movesToCatch 74 [some (.inr (.inr 80)), some (.inr (.inr q)), some (.inl v2), some (.inl v3), some (.inl v4), some (.inl v5), some (.inl v6)] (r.toList ++ []) h' Q))) ∧
        ((zand (zshr (rd h 81 v4) v5) 1) ≠ 0 →
          Q (some (.inl v6)) h))) :
    Rn xs xl e mm_Web_movesToCatch 41 [some (.inr (.inr 80)), some (.inr (.inr q)), some (.inl v2), some (.inl v3), some (.inl v4), some (.inl v5), some (.inl v6)] [] h Q := by
  refine R_ld (v := .inl v6) dd_Web_movesToCatch_41 rfl rfl rfl rfl ?_
  refine R_si dd_Web_movesToCatch_43 (by decide) rfl ?_
  refine R_icmp dd_Web_movesToCatch_46 rfl rfl (fun (c2 : 202 < v6) => ?_) (fun (c2 : v6 ≤ 202) => ?_)
  · replace k := k.1 c2
    refine R_ic dd_Web_movesToCatch_85 (by decide) rfl ?_
    exact R_iret dd_Web_movesToCatch_86 rfl k
  · replace k := k.2 c2
    refine R_ld (v := .inr (.inr 80)) dd_Web_movesToCatch_49 rfl rfl rfl rfl ?_
    refine R_gf (v := .inr (.inr 81)) dd_Web_movesToCatch_50 fd_10_9 io_80 (congrArg (fun z : Int => (Sum.inr (Sum.inr z) : LV)) (rf_80_0 hF)) rfl ?_
    refine R_ld (v := .inl v4) dd_Web_movesToCatch_53 rfl rfl rfl rfl ?_
    refine R_iald (v := (rd h 81 v4)) (n := 10) dd_Web_movesToCatch_55 ia_81 la_81 (by omega) (rfl) rfl ?_
    refine R_ld (v := .inl v5) dd_Web_movesToCatch_56 rfl rfl rfl rfl ?_
    refine R_A dd_Web_movesToCatch_58 rfl rfl rfl rfl ?_
    refine R_ic dd_Web_movesToCatch_59 (by decide) rfl ?_
    refine R_A dd_Web_movesToCatch_60 rfl rfl rfl rfl ?_
    refine R_if dd_Web_movesToCatch_61 rfl rfl (fun (c3 : (zand (zshr (rd h 81 v4) v5) 1) = 0) => ?_) (fun (c3 : (zand (zshr (rd h 81 v4) v5) 1) ≠ 0) => ?_)
    · replace k := k.1 c3
      refine R_ld (v := .inr (.inr 80)) dd_Web_movesToCatch_67 rfl rfl rfl rfl ?_
      refine R_ld (v := .inr (.inr q)) dd_Web_movesToCatch_68 rfl rfl rfl rfl ?_
      refine R_ld (v := .inl v2) dd_Web_movesToCatch_69 rfl rfl rfl rfl ?_
      refine R_ld (v := .inl v3) dd_Web_movesToCatch_70 rfl rfl rfl rfl ?_
      obtain ⟨c, hc, k⟩ := k
      exact R_call (as := [.inr (.inr 80), .inr (.inr q), .inl v2, .inl v3]) (rest := []) (M' := mm_Web_growCaught) (ls0 := [some (.inr (.inr 80)), some (.inr (.inr q)), some (.inl v2), some (.inl v3), none, none, none, none]) dd_Web_movesToCatch_71 rfl rfl (cw_v cw_10_73 io_80 rfl rfl (Nat.le_of_ble_eq_true rfl) (Nat.le_of_ble_eq_true rfl)) mt_Web_growCaught rfl hc rfl k
    · replace k := k.2 c3
      refine R_ld (v := .inl v6) dd_Web_movesToCatch_64 rfl rfl rfl rfl ?_
      exact R_iret dd_Web_movesToCatch_66 rfl k
theorem B_Web_movesToCatch_74 {xs : Nat → Int} {xl e : Nat} {h : LH} {Q : Option LV → LH → Prop} {v2 v3 v4 v5 v6 w0 : Int} {q : Int} (hq : q = 5 ∨ q = 32) (hF : RF h) (r_v6 : 0 ≤ v6 ∧ v6 ≤ 202)
    (k : (w0 ≠ 0 →
        Rn xs xl e mm_Web_movesToCatch 41 [some (.inr (.inr 80)), some (.inr (.inr q)), some (.inl v2), some (.inl v3), some (.inl v4), some (.inl v5), some (.inl (v6 + 1))] [] h Q) ∧
      (w0 = 0 →
        Q (some (.inl (-1))) h)) :
    Rn xs xl e mm_Web_movesToCatch 74 [some (.inr (.inr 80)), some (.inr (.inr q)), some (.inl v2), some (.inl v3), some (.inl v4), some (.inl v5), some (.inl v6)] [.inl w0] h Q := by
  refine R_if dd_Web_movesToCatch_74 rfl rfl (fun (c1 : w0 ≠ 0) => ?_) (fun (c1 : w0 = 0) => ?_)
  · replace k := k.1 c1
    refine R_inc (y := v6 + 1) (ls' := [some (.inr (.inr 80)), some (.inr (.inr q)), some (.inl v2), some (.inl v3), some (.inl v4), some (.inl v5), some (.inl (v6 + 1))]) dd_Web_movesToCatch_79 rfl (by decide) (by omega) (by omega) rfl rfl ?_
    refine R_goto dd_Web_movesToCatch_82 rfl ?_
    exact k
  · replace k := k.2 c1
    refine R_ic dd_Web_movesToCatch_77 (by decide) rfl ?_
    exact R_iret dd_Web_movesToCatch_78 rfl k
theorem B_OneSided_chase_0 {xs : Nat → Int} {xl e : Nat} {h : LH} {Q : Option LV → LH → Prop} {v1 v2 : Int} {q : Int} (hq : q = 5 ∨ q = 32) (hQ : rd h 1 ((1 : Nat) : Int) = q) (hF : RF h) (he : 2 ≤ e)
    (k : (v1 < 0 →
        Q (some (.inl (-1))) h) ∧
      (0 ≤ v1 →
        ((rd h q 0) ≤ v1 →
          Q (some (.inl (-1))) h) ∧
        (v1 < (rd h q 0) →
          (v2 < 0 →
            Q (some (.inl (-1))) h) ∧
          (0 ≤ v2 →
            ((rd h q 0) ≤ v2 →
              Q (some (.inl (-1))) h) ∧
            (v2 < (rd h q 0) →
              (24 ≤ (rd h 60 0) →
                (∃ c, c < e ∧ Rn xs xl c mm_Web_movesToCatch 0 [some (.inr (.inr 80)), some (.inr (.inr q)), some (.inl 0), some (.inl 0), some (.inl v1), some (.inl v2), none] [] h (fun r h' => Rn xs xl e mm_OneSided_chase 54 [some (.inr (.inr 1)), some (.inl v1), some (.inl v2), some (.inl (rd h 60 0))] (r.toList ++ []) h' Q))) ∧
              ((rd h 60 0) < 24 →
                (-2147483648 ≤ (rd h 60 0) ∧ (rd h 60 0) ≤ 2147483647) ∧
                (0 ≤ (rd h 60 0) ∧ (rd h 60 0) < 96) ∧
                (-2147483648 ≤ (rd h 60 0) ∧ (rd h 60 0) ≤ 2147483647) ∧
                (0 ≤ (rd h 60 0) ∧ (rd h 60 0) < 96) ∧
                (∃ c, c < e ∧ Rn xs xl c mm_Web_movesToCatch 0 [some (.inr (.inr 80)), some (.inr (.inr q)), some (.inl (zand (rd h (q + 5) (rd h 60 0)) (zxor (rd h 60 1) (-1)))), some (.inl (zand (rd h (q + 6) (rd h 60 0)) (zxor (rd h 60 1) (-1)))), some (.inl v1), some (.inl v2), none] [] h (fun r h' => Rn xs xl e mm_OneSided_chase 54 [some (.inr (.inr 1)), some (.inl v1), some (.inl v2), some (.inl (rd h 60 0))] (r.toList ++ []) h' Q)))))))) :
    Rn xs xl e mm_OneSided_chase 0 [some (.inr (.inr 1)), some (.inl v1), some (.inl v2), none] [] h Q := by
  refine R_ld (v := .inr (.inr 1)) dd_OneSided_chase_0 rfl rfl rfl rfl ?_
  refine R_ld (v := .inl v1) dd_OneSided_chase_1 rfl rfl rfl rfl ?_
  refine R_call (as := [.inr (.inr 1), .inl v1]) (rest := []) (M' := mm_OneSided_isRoom) (ls0 := [some (.inr (.inr 1)), some (.inl v1)]) dd_OneSided_chase_2 rfl rfl (cw_v cw_11_190 io_1 rfl rfl (Nat.le_of_ble_eq_true rfl) (Nat.le_of_ble_eq_true rfl)) mt_OneSided_isRoom rfl (c := e - 1) (by omega) rfl ?_
  refine R_ld (v := .inl v1) dd_OneSided_isRoom_0 rfl rfl rfl rfl ?_
  refine R_if dd_OneSided_isRoom_1 rfl rfl (fun (c7 : v1 < 0) => ?_) (fun (c7 : 0 ≤ v1) => ?_)
  · replace k := k.1 c7
    refine R_ic dd_OneSided_isRoom_19 (by decide) rfl ?_
    refine R_zret dd_OneSided_isRoom_20 rfl (by decide) ?_
    change Rn xs xl e mm_OneSided_chase 5 [some (.inr (.inr 1)), some (.inl v1), some (.inl v2), none] [.inl 0] h _
    refine R_if dd_OneSided_chase_5 rfl rfl (fun (c8 : 0 = 0) => ?_) (fun (c8 : 0 ≠ 0) => ?_)
    · skip
      refine R_ic dd_OneSided_chase_16 (by decide) rfl ?_
      exact R_iret dd_OneSided_chase_17 rfl k
    · exact absurd c8 (by omega)
  · replace k := k.2 c7
    refine R_ld (v := .inl v1) dd_OneSided_isRoom_4 rfl rfl rfl rfl ?_
    refine R_ld (v := .inr (.inr 1)) dd_OneSided_isRoom_5 rfl rfl rfl rfl ?_
    refine R_gf (v := .inr (.inr q)) dd_OneSided_isRoom_6 fd_11_19 io_1 (congrArg (fun z : Int => (Sum.inr (Sum.inr z) : LV)) hQ) rfl ?_
    refine R_gf (v := .inl (rd h q 0)) dd_OneSided_isRoom_9 fd_11_267 (io_q hq) (congrArg (fun z : Int => (Sum.inl z : LV)) (rfl)) rfl ?_
    refine R_icmp dd_OneSided_isRoom_12 rfl rfl (fun (c9 : (rd h q 0) ≤ v1) => ?_) (fun (c9 : v1 < (rd h q 0)) => ?_)
    · replace k := k.1 c9
      refine R_ic dd_OneSided_isRoom_19 (by decide) rfl ?_
      refine R_zret dd_OneSided_isRoom_20 rfl (by decide) ?_
      change Rn xs xl e mm_OneSided_chase 5 [some (.inr (.inr 1)), some (.inl v1), some (.inl v2), none] [.inl 0] h _
      refine R_if dd_OneSided_chase_5 rfl rfl (fun (c10 : 0 = 0) => ?_) (fun (c10 : 0 ≠ 0) => ?_)
      · skip
        refine R_ic dd_OneSided_chase_16 (by decide) rfl ?_
        exact R_iret dd_OneSided_chase_17 rfl k
      · exact absurd c10 (by omega)
    · replace k := k.2 c9
      refine R_ic dd_OneSided_isRoom_15 (by decide) rfl ?_
      refine R_goto dd_OneSided_isRoom_16 rfl ?_
      refine R_zret dd_OneSided_isRoom_20 rfl (by decide) ?_
      change Rn xs xl e mm_OneSided_chase 5 [some (.inr (.inr 1)), some (.inl v1), some (.inl v2), none] [.inl 1] h _
      refine R_if dd_OneSided_chase_5 rfl rfl (fun (c11 : 1 = 0) => ?_) (fun (c11 : 1 ≠ 0) => ?_)
      · exact absurd c11 (by omega)
      · skip
        refine R_ld (v := .inr (.inr 1)) dd_OneSided_chase_8 rfl rfl rfl rfl ?_
        refine R_ld (v := .inl v2) dd_OneSided_chase_9 rfl rfl rfl rfl ?_
        refine R_call (as := [.inr (.inr 1), .inl v2]) (rest := []) (M' := mm_OneSided_isRoom) (ls0 := [some (.inr (.inr 1)), some (.inl v2)]) dd_OneSided_chase_10 rfl rfl (cw_v cw_11_190 io_1 rfl rfl (Nat.le_of_ble_eq_true rfl) (Nat.le_of_ble_eq_true rfl)) mt_OneSided_isRoom rfl (c := e - 1) (by omega) rfl ?_
        refine R_ld (v := .inl v2) dd_OneSided_isRoom_0 rfl rfl rfl rfl ?_
        refine R_if dd_OneSided_isRoom_1 rfl rfl (fun (c12 : v2 < 0) => ?_) (fun (c12 : 0 ≤ v2) => ?_)
        · replace k := k.1 c12
          refine R_ic dd_OneSided_isRoom_19 (by decide) rfl ?_
          refine R_zret dd_OneSided_isRoom_20 rfl (by decide) ?_
          change Rn xs xl e mm_OneSided_chase 13 [some (.inr (.inr 1)), some (.inl v1), some (.inl v2), none] [.inl 0] h _
          refine R_if dd_OneSided_chase_13 rfl rfl (fun (c13 : 0 ≠ 0) => ?_) (fun (c13 : 0 = 0) => ?_)
          · exact absurd c13 (by omega)
          · skip
            refine R_ic dd_OneSided_chase_16 (by decide) rfl ?_
            exact R_iret dd_OneSided_chase_17 rfl k
        · replace k := k.2 c12
          refine R_ld (v := .inl v2) dd_OneSided_isRoom_4 rfl rfl rfl rfl ?_
          refine R_ld (v := .inr (.inr 1)) dd_OneSided_isRoom_5 rfl rfl rfl rfl ?_
          refine R_gf (v := .inr (.inr q)) dd_OneSided_isRoom_6 fd_11_19 io_1 (congrArg (fun z : Int => (Sum.inr (Sum.inr z) : LV)) hQ) rfl ?_
          refine R_gf (v := .inl (rd h q 0)) dd_OneSided_isRoom_9 fd_11_267 (io_q hq) (congrArg (fun z : Int => (Sum.inl z : LV)) (rfl)) rfl ?_
          refine R_icmp dd_OneSided_isRoom_12 rfl rfl (fun (c14 : (rd h q 0) ≤ v2) => ?_) (fun (c14 : v2 < (rd h q 0)) => ?_)
          · replace k := k.1 c14
            refine R_ic dd_OneSided_isRoom_19 (by decide) rfl ?_
            refine R_zret dd_OneSided_isRoom_20 rfl (by decide) ?_
            change Rn xs xl e mm_OneSided_chase 13 [some (.inr (.inr 1)), some (.inl v1), some (.inl v2), none] [.inl 0] h _
            refine R_if dd_OneSided_chase_13 rfl rfl (fun (c15 : 0 ≠ 0) => ?_) (fun (c15 : 0 = 0) => ?_)
            · exact absurd c15 (by omega)
            · skip
              refine R_ic dd_OneSided_chase_16 (by decide) rfl ?_
              exact R_iret dd_OneSided_chase_17 rfl k
          · replace k := k.2 c14
            refine R_ic dd_OneSided_isRoom_15 (by decide) rfl ?_
            refine R_goto dd_OneSided_isRoom_16 rfl ?_
            refine R_zret dd_OneSided_isRoom_20 rfl (by decide) ?_
            change Rn xs xl e mm_OneSided_chase 13 [some (.inr (.inr 1)), some (.inl v1), some (.inl v2), none] [.inl 1] h _
            refine R_if dd_OneSided_chase_13 rfl rfl (fun (c16 : 1 ≠ 0) => ?_) (fun (c16 : 1 = 0) => ?_)
            · skip
              refine R_ld (v := .inr (.inr 1)) dd_OneSided_chase_18 rfl rfl rfl rfl ?_
              refine R_gf (v := .inr (.inr 59)) dd_OneSided_chase_19 fd_11_29 io_1 (congrArg (fun z : Int => (Sum.inr (Sum.inr z) : LV)) (rf_1_3 hF)) rfl ?_
              refine R_gf (v := .inr (.inr 60)) dd_OneSided_chase_22 fd_11_149 io_59 (congrArg (fun z : Int => (Sum.inr (Sum.inr z) : LV)) (rf_59_0 hF)) rfl ?_
              refine R_gf (v := .inl (rd h 60 0)) dd_OneSided_chase_25 fd_11_216 io_60 (congrArg (fun z : Int => (Sum.inl z : LV)) (rfl)) rfl ?_
              refine R_st (ls' := [some (.inr (.inr 1)), some (.inl v1), some (.inl v2), some (.inl (rd h 60 0))]) dd_OneSided_chase_28 rfl rfl rfl (Nat.le_of_ble_eq_true rfl) rfl rfl ?_
              refine R_ld (v := .inr (.inr 1)) dd_OneSided_chase_29 rfl rfl rfl rfl ?_
              refine R_gf (v := .inr (.inr 80)) dd_OneSided_chase_30 fd_11_56 io_1 (congrArg (fun z : Int => (Sum.inr (Sum.inr z) : LV)) (rf_1_11 hF)) rfl ?_
              refine R_ld (v := .inr (.inr 1)) dd_OneSided_chase_33 rfl rfl rfl rfl ?_
              refine R_gf (v := .inr (.inr q)) dd_OneSided_chase_34 fd_11_19 io_1 (congrArg (fun z : Int => (Sum.inr (Sum.inr z) : LV)) hQ) rfl ?_
              refine R_ld (v := .inr (.inr 1)) dd_OneSided_chase_37 rfl rfl rfl rfl ?_
              refine R_ic dd_OneSided_chase_38 (by decide) rfl ?_
              refine R_ld (v := .inl (rd h 60 0)) dd_OneSided_chase_39 rfl rfl rfl rfl ?_
              refine R_call (as := [.inr (.inr 1), .inl 0, .inl (rd h 60 0)]) (rest := [.inr (.inr q), .inr (.inr 80)]) (M' := mm_OneSided_ahead) (ls0 := [some (.inr (.inr 1)), some (.inl 0), some (.inl (rd h 60 0))]) dd_OneSided_chase_40 rfl rfl (cw_v cw_11_257 io_1 rfl rfl (Nat.le_of_ble_eq_true rfl) (Nat.le_of_ble_eq_true rfl)) mt_OneSided_ahead rfl (c := e - 1) (by omega) rfl ?_
              refine R_ld (v := .inr (.inr 1)) dd_OneSided_ahead_0 rfl rfl rfl rfl ?_
              refine R_gf (v := .inr (.inr q)) dd_OneSided_ahead_1 fd_11_19 io_1 (congrArg (fun z : Int => (Sum.inr (Sum.inr z) : LV)) hQ) rfl ?_
              refine R_ld (v := .inl 0) dd_OneSided_ahead_4 rfl rfl rfl rfl ?_
              refine R_ld (v := .inl (rd h 60 0)) dd_OneSided_ahead_5 rfl rfl rfl rfl ?_
              refine R_ld (v := .inr (.inr 1)) dd_OneSided_ahead_6 rfl rfl rfl rfl ?_
              refine R_gf (v := .inr (.inr 59)) dd_OneSided_ahead_7 fd_11_29 io_1 (congrArg (fun z : Int => (Sum.inr (Sum.inr z) : LV)) (rf_1_3 hF)) rfl ?_
              refine R_gf (v := .inr (.inr 60)) dd_OneSided_ahead_10 fd_11_149 io_59 (congrArg (fun z : Int => (Sum.inr (Sum.inr z) : LV)) (rf_59_0 hF)) rfl ?_
              refine R_gf (v := .inl (rd h 60 1)) dd_OneSided_ahead_13 fd_11_153 io_60 (congrArg (fun z : Int => (Sum.inl z : LV)) (rfl)) rfl ?_
              refine R_call (as := [.inr (.inr q), .inl 0, .inl (rd h 60 0), .inl (rd h 60 1)]) (rest := []) (M' := mm_Quarter_aheadIn) (ls0 := [some (.inr (.inr q)), some (.inl 0), some (.inl (rd h 60 0)), some (.inl (rd h 60 1))]) dd_OneSided_ahead_16 rfl rfl (cw_v cw_11_360 (io_q hq) rfl rfl (Nat.le_of_ble_eq_true rfl) (Nat.le_of_ble_eq_true rfl)) mt_Quarter_aheadIn rfl (c := e - 2) (by omega) rfl ?_
              refine R_ld (v := .inl (rd h 60 0)) dd_Quarter_aheadIn_0 rfl rfl rfl rfl ?_
              refine R_bi dd_Quarter_aheadIn_1 (by decide) rfl ?_
              refine R_icmp dd_Quarter_aheadIn_3 rfl rfl (fun (c17 : 24 ≤ (rd h 60 0)) => ?_) (fun (c17 : (rd h 60 0) < 24) => ?_)
              · replace k := k.1 c17
                refine R_ic dd_Quarter_aheadIn_24 (by decide) rfl ?_
                refine R_iret dd_Quarter_aheadIn_25 rfl ?_
                change Rn xs xl (e - 1) mm_OneSided_ahead 19 [some (.inr (.inr 1)), some (.inl 0), some (.inl (rd h 60 0))] [.inl 0] h _
                refine R_iret dd_OneSided_ahead_19 rfl ?_
                change Rn xs xl e mm_OneSided_chase 43 [some (.inr (.inr 1)), some (.inl v1), some (.inl v2), some (.inl (rd h 60 0))] [.inl 0, .inr (.inr q), .inr (.inr 80)] h _
                refine R_ld (v := .inr (.inr 1)) dd_OneSided_chase_43 rfl rfl rfl rfl ?_
                refine R_ic dd_OneSided_chase_44 (by decide) rfl ?_
                refine R_ld (v := .inl (rd h 60 0)) dd_OneSided_chase_45 rfl rfl rfl rfl ?_
                refine R_call (as := [.inr (.inr 1), .inl 0, .inl (rd h 60 0)]) (rest := [.inl 0, .inr (.inr q), .inr (.inr 80)]) (M' := mm_OneSided_back) (ls0 := [some (.inr (.inr 1)), some (.inl 0), some (.inl (rd h 60 0))]) dd_OneSided_chase_46 rfl rfl (cw_v cw_11_260 io_1 rfl rfl (Nat.le_of_ble_eq_true rfl) (Nat.le_of_ble_eq_true rfl)) mt_OneSided_back rfl (c := e - 1) (by omega) rfl ?_
                refine R_ld (v := .inr (.inr 1)) dd_OneSided_back_0 rfl rfl rfl rfl ?_
                refine R_gf (v := .inr (.inr q)) dd_OneSided_back_1 fd_11_19 io_1 (congrArg (fun z : Int => (Sum.inr (Sum.inr z) : LV)) hQ) rfl ?_
                refine R_ld (v := .inl 0) dd_OneSided_back_4 rfl rfl rfl rfl ?_
                refine R_ld (v := .inl (rd h 60 0)) dd_OneSided_back_5 rfl rfl rfl rfl ?_
                refine R_ld (v := .inr (.inr 1)) dd_OneSided_back_6 rfl rfl rfl rfl ?_
                refine R_gf (v := .inr (.inr 59)) dd_OneSided_back_7 fd_11_29 io_1 (congrArg (fun z : Int => (Sum.inr (Sum.inr z) : LV)) (rf_1_3 hF)) rfl ?_
                refine R_gf (v := .inr (.inr 60)) dd_OneSided_back_10 fd_11_149 io_59 (congrArg (fun z : Int => (Sum.inr (Sum.inr z) : LV)) (rf_59_0 hF)) rfl ?_
                refine R_gf (v := .inl (rd h 60 1)) dd_OneSided_back_13 fd_11_153 io_60 (congrArg (fun z : Int => (Sum.inl z : LV)) (rfl)) rfl ?_
                refine R_call (as := [.inr (.inr q), .inl 0, .inl (rd h 60 0), .inl (rd h 60 1)]) (rest := []) (M' := mm_Quarter_backIn) (ls0 := [some (.inr (.inr q)), some (.inl 0), some (.inl (rd h 60 0)), some (.inl (rd h 60 1))]) dd_OneSided_back_16 rfl rfl (cw_v cw_11_364 (io_q hq) rfl rfl (Nat.le_of_ble_eq_true rfl) (Nat.le_of_ble_eq_true rfl)) mt_Quarter_backIn rfl (c := e - 2) (by omega) rfl ?_
                refine R_ld (v := .inl (rd h 60 0)) dd_Quarter_backIn_0 rfl rfl rfl rfl ?_
                refine R_bi dd_Quarter_backIn_1 (by decide) rfl ?_
                refine R_icmp dd_Quarter_backIn_3 rfl rfl (fun (c18 : 24 ≤ (rd h 60 0)) => ?_) (fun (c18 : (rd h 60 0) < 24) => ?_)
                · skip
                  refine R_ic dd_Quarter_backIn_24 (by decide) rfl ?_
                  refine R_iret dd_Quarter_backIn_25 rfl ?_
                  change Rn xs xl (e - 1) mm_OneSided_back 19 [some (.inr (.inr 1)), some (.inl 0), some (.inl (rd h 60 0))] [.inl 0] h _
                  refine R_iret dd_OneSided_back_19 rfl ?_
                  change Rn xs xl e mm_OneSided_chase 49 [some (.inr (.inr 1)), some (.inl v1), some (.inl v2), some (.inl (rd h 60 0))] [.inl 0, .inl 0, .inr (.inr q), .inr (.inr 80)] h _
                  refine R_ld (v := .inl v1) dd_OneSided_chase_49 rfl rfl rfl rfl ?_
                  refine R_ld (v := .inl v2) dd_OneSided_chase_50 rfl rfl rfl rfl ?_
                  obtain ⟨c, hc, k⟩ := k
                  exact R_call (as := [.inr (.inr 80), .inr (.inr q), .inl 0, .inl 0, .inl v1, .inl v2]) (rest := []) (M' := mm_Web_movesToCatch) (ls0 := [some (.inr (.inr 80)), some (.inr (.inr q)), some (.inl 0), some (.inl 0), some (.inl v1), some (.inl v2), none]) dd_OneSided_chase_51 rfl rfl (cw_v cw_11_331 io_80 rfl rfl (Nat.le_of_ble_eq_true rfl) (Nat.le_of_ble_eq_true rfl)) mt_Web_movesToCatch rfl hc rfl k
                · exact absurd c18 (by omega)
              · replace k := k.2 c17
                refine R_ld (v := .inr (.inr q)) dd_Quarter_aheadIn_6 rfl rfl rfl rfl ?_
                refine R_gf (v := .inr (.inr (q + 5))) dd_Quarter_aheadIn_7 fd_6_34 (io_q hq) (congrArg (fun z : Int => (Sum.inr (Sum.inr z) : LV)) (rq_ahd hF hq)) rfl ?_
                refine R_ld (v := .inl 0) dd_Quarter_aheadIn_10 rfl rfl rfl rfl ?_
                refine R_bi dd_Quarter_aheadIn_11 (by decide) rfl ?_
                refine R_imul (c := 0) dd_Quarter_aheadIn_13 (by omega) (by decide) rfl ?_
                refine R_ld (v := .inl (rd h 60 0)) dd_Quarter_aheadIn_14 rfl rfl rfl rfl ?_
                obtain ⟨s2, k⟩ := k
                refine R_iadd (c := (rd h 60 0)) dd_Quarter_aheadIn_15 (by omega) s2 rfl ?_
                obtain ⟨s3, k⟩ := k
                refine R_iald (v := (rd h (q + 5) (rd h 60 0))) (n := 96) dd_Quarter_aheadIn_16 (ia_aq hq) (la_aq hq) s3 (rfl) rfl ?_
                refine R_ld (v := .inl (rd h 60 1)) dd_Quarter_aheadIn_17 rfl rfl rfl rfl ?_
                refine R_ic dd_Quarter_aheadIn_18 (by decide) rfl ?_
                refine R_A dd_Quarter_aheadIn_19 rfl rfl rfl rfl ?_
                refine R_A dd_Quarter_aheadIn_20 rfl rfl rfl rfl ?_
                refine R_goto dd_Quarter_aheadIn_21 rfl ?_
                refine R_iret dd_Quarter_aheadIn_25 rfl ?_
                change Rn xs xl (e - 1) mm_OneSided_ahead 19 [some (.inr (.inr 1)), some (.inl 0), some (.inl (rd h 60 0))] [.inl (zand (rd h (q + 5) (rd h 60 0)) (zxor (rd h 60 1) (-1)))] h _
                refine R_iret dd_OneSided_ahead_19 rfl ?_
                change Rn xs xl e mm_OneSided_chase 43 [some (.inr (.inr 1)), some (.inl v1), some (.inl v2), some (.inl (rd h 60 0))] [.inl (zand (rd h (q + 5) (rd h 60 0)) (zxor (rd h 60 1) (-1))), .inr (.inr q), .inr (.inr 80)] h _
                refine R_ld (v := .inr (.inr 1)) dd_OneSided_chase_43 rfl rfl rfl rfl ?_
                refine R_ic dd_OneSided_chase_44 (by decide) rfl ?_
                refine R_ld (v := .inl (rd h 60 0)) dd_OneSided_chase_45 rfl rfl rfl rfl ?_
                refine R_call (as := [.inr (.inr 1), .inl 0, .inl (rd h 60 0)]) (rest := [.inl (zand (rd h (q + 5) (rd h 60 0)) (zxor (rd h 60 1) (-1))), .inr (.inr q), .inr (.inr 80)]) (M' := mm_OneSided_back) (ls0 := [some (.inr (.inr 1)), some (.inl 0), some (.inl (rd h 60 0))]) dd_OneSided_chase_46 rfl rfl (cw_v cw_11_260 io_1 rfl rfl (Nat.le_of_ble_eq_true rfl) (Nat.le_of_ble_eq_true rfl)) mt_OneSided_back rfl (c := e - 1) (by omega) rfl ?_
                refine R_ld (v := .inr (.inr 1)) dd_OneSided_back_0 rfl rfl rfl rfl ?_
                refine R_gf (v := .inr (.inr q)) dd_OneSided_back_1 fd_11_19 io_1 (congrArg (fun z : Int => (Sum.inr (Sum.inr z) : LV)) hQ) rfl ?_
                refine R_ld (v := .inl 0) dd_OneSided_back_4 rfl rfl rfl rfl ?_
                refine R_ld (v := .inl (rd h 60 0)) dd_OneSided_back_5 rfl rfl rfl rfl ?_
                refine R_ld (v := .inr (.inr 1)) dd_OneSided_back_6 rfl rfl rfl rfl ?_
                refine R_gf (v := .inr (.inr 59)) dd_OneSided_back_7 fd_11_29 io_1 (congrArg (fun z : Int => (Sum.inr (Sum.inr z) : LV)) (rf_1_3 hF)) rfl ?_
                refine R_gf (v := .inr (.inr 60)) dd_OneSided_back_10 fd_11_149 io_59 (congrArg (fun z : Int => (Sum.inr (Sum.inr z) : LV)) (rf_59_0 hF)) rfl ?_
                refine R_gf (v := .inl (rd h 60 1)) dd_OneSided_back_13 fd_11_153 io_60 (congrArg (fun z : Int => (Sum.inl z : LV)) (rfl)) rfl ?_
                refine R_call (as := [.inr (.inr q), .inl 0, .inl (rd h 60 0), .inl (rd h 60 1)]) (rest := []) (M' := mm_Quarter_backIn) (ls0 := [some (.inr (.inr q)), some (.inl 0), some (.inl (rd h 60 0)), some (.inl (rd h 60 1))]) dd_OneSided_back_16 rfl rfl (cw_v cw_11_364 (io_q hq) rfl rfl (Nat.le_of_ble_eq_true rfl) (Nat.le_of_ble_eq_true rfl)) mt_Quarter_backIn rfl (c := e - 2) (by omega) rfl ?_
                refine R_ld (v := .inl (rd h 60 0)) dd_Quarter_backIn_0 rfl rfl rfl rfl ?_
                refine R_bi dd_Quarter_backIn_1 (by decide) rfl ?_
                refine R_icmp dd_Quarter_backIn_3 rfl rfl (fun (c19 : 24 ≤ (rd h 60 0)) => ?_) (fun (c19 : (rd h 60 0) < 24) => ?_)
                · exact absurd c19 (by omega)
                · skip
                  refine R_ld (v := .inr (.inr q)) dd_Quarter_backIn_6 rfl rfl rfl rfl ?_
                  refine R_gf (v := .inr (.inr (q + 6))) dd_Quarter_backIn_7 fd_6_37 (io_q hq) (congrArg (fun z : Int => (Sum.inr (Sum.inr z) : LV)) (rq_bck hF hq)) rfl ?_
                  refine R_ld (v := .inl 0) dd_Quarter_backIn_10 rfl rfl rfl rfl ?_
                  refine R_bi dd_Quarter_backIn_11 (by decide) rfl ?_
                  refine R_imul (c := 0) dd_Quarter_backIn_13 (by omega) (by decide) rfl ?_
                  refine R_ld (v := .inl (rd h 60 0)) dd_Quarter_backIn_14 rfl rfl rfl rfl ?_
                  obtain ⟨s4, k⟩ := k
                  refine R_iadd (c := (rd h 60 0)) dd_Quarter_backIn_15 (by omega) s4 rfl ?_
                  obtain ⟨s5, k⟩ := k
                  refine R_iald (v := (rd h (q + 6) (rd h 60 0))) (n := 96) dd_Quarter_backIn_16 (ia_bq hq) (la_bq hq) s5 (rfl) rfl ?_
                  refine R_ld (v := .inl (rd h 60 1)) dd_Quarter_backIn_17 rfl rfl rfl rfl ?_
                  refine R_ic dd_Quarter_backIn_18 (by decide) rfl ?_
                  refine R_A dd_Quarter_backIn_19 rfl rfl rfl rfl ?_
                  refine R_A dd_Quarter_backIn_20 rfl rfl rfl rfl ?_
                  refine R_goto dd_Quarter_backIn_21 rfl ?_
                  refine R_iret dd_Quarter_backIn_25 rfl ?_
                  change Rn xs xl (e - 1) mm_OneSided_back 19 [some (.inr (.inr 1)), some (.inl 0), some (.inl (rd h 60 0))] [.inl (zand (rd h (q + 6) (rd h 60 0)) (zxor (rd h 60 1) (-1)))] h _
                  refine R_iret dd_OneSided_back_19 rfl ?_
                  change Rn xs xl e mm_OneSided_chase 49 [some (.inr (.inr 1)), some (.inl v1), some (.inl v2), some (.inl (rd h 60 0))] [.inl (zand (rd h (q + 6) (rd h 60 0)) (zxor (rd h 60 1) (-1))), .inl (zand (rd h (q + 5) (rd h 60 0)) (zxor (rd h 60 1) (-1))), .inr (.inr q), .inr (.inr 80)] h _
                  refine R_ld (v := .inl v1) dd_OneSided_chase_49 rfl rfl rfl rfl ?_
                  refine R_ld (v := .inl v2) dd_OneSided_chase_50 rfl rfl rfl rfl ?_
                  obtain ⟨c, hc, k⟩ := k
                  exact R_call (as := [.inr (.inr 80), .inr (.inr q), .inl (zand (rd h (q + 5) (rd h 60 0)) (zxor (rd h 60 1) (-1))), .inl (zand (rd h (q + 6) (rd h 60 0)) (zxor (rd h 60 1) (-1))), .inl v1, .inl v2]) (rest := []) (M' := mm_Web_movesToCatch) (ls0 := [some (.inr (.inr 80)), some (.inr (.inr q)), some (.inl (zand (rd h (q + 5) (rd h 60 0)) (zxor (rd h 60 1) (-1)))), some (.inl (zand (rd h (q + 6) (rd h 60 0)) (zxor (rd h 60 1) (-1)))), some (.inl v1), some (.inl v2), none]) dd_OneSided_chase_51 rfl rfl (cw_v cw_11_331 io_80 rfl rfl (Nat.le_of_ble_eq_true rfl) (Nat.le_of_ble_eq_true rfl)) mt_Web_movesToCatch rfl hc rfl k
            · exact absurd c16 (by omega)
theorem B_OneSided_chase_54 {xs : Nat → Int} {xl e : Nat} {h : LH} {Q : Option LV → LH → Prop} {v1 v2 v3 w0 : Int} (hF : RF h)
    (k : Q (some (.inl w0)) h) :
    Rn xs xl e mm_OneSided_chase 54 [some (.inr (.inr 1)), some (.inl v1), some (.inl v2), some (.inl v3)] [.inl w0] h Q := by
  exact R_iret dd_OneSided_chase_54 rfl k
theorem B_laysNow_0 {xs : Nat → Int} {xl e : Nat} {h : LH} {Q : Option LV → LH → Prop} {v1 : Int} (hF : RF h)
    (k : Rn xs xl e mm_laysNow 2 [some (.inr (.inr 182)), some (.inl v1), some (.inl 0)] [] h Q) :
    Rn xs xl e mm_laysNow 0 [some (.inr (.inr 182)), some (.inl v1), none] [] h Q := by
  refine R_ic dd_laysNow_0 (by decide) rfl ?_
  refine R_st (ls' := [some (.inr (.inr 182)), some (.inl v1), some (.inl 0)]) dd_laysNow_1 rfl rfl rfl (Nat.le_of_ble_eq_true rfl) rfl rfl ?_
  exact k
theorem B_laysNow_2 {xs : Nat → Int} {xl e : Nat} {h : LH} {Q : Option LV → LH → Prop} {v1 v2 : Int} (hF : RF h) (r_v2 : 0 ≤ v2 ∧ v2 ≤ 10)
    (k : (10 ≤ v2 →
        (24 ≤ (rd h 198 0) →
          Q none h) ∧
        ((rd h 198 0) < 24 →
          (∃ c, c < e ∧ Rn xs xl c mm_laysInto 0 [some (.inr (.inr 182)), some (.inl 0), some (.inl (rd h 198 0)), some (.inl v1), some (.inl 0), none, none, none] [] h (fun r h' => Rn xs xl e mm_laysNow 45 [some (.inr (.inr 182)), some (.inl v1), some (.inl v2)] (r.toList ++ []) h' Q)))) ∧
      (v2 < 10 →
        (0 ≤ v2 ∧ v2 < 10) ∧
        Rn xs xl e mm_laysNow 2 [some (.inr (.inr 182)), some (.inl v1), some (.inl (v2 + 1))] [] (wr h 203 v2 0) Q)) :
    Rn xs xl e mm_laysNow 2 [some (.inr (.inr 182)), some (.inl v1), some (.inl v2)] [] h Q := by
  refine R_ld (v := .inl v2) dd_laysNow_2 rfl rfl rfl rfl ?_
  refine R_bi dd_laysNow_3 (by decide) rfl ?_
  refine R_icmp dd_laysNow_5 rfl rfl (fun (c3 : 10 ≤ v2) => ?_) (fun (c3 : v2 < 10) => ?_)
  · replace k := k.1 c3
    refine R_ld (v := .inr (.inr 182)) dd_laysNow_21 rfl rfl rfl rfl ?_
    refine R_gf (v := .inr (.inr 198)) dd_laysNow_22 fd_12_125 io_182 (congrArg (fun z : Int => (Sum.inr (Sum.inr z) : LV)) (rf_182_24 hF)) rfl ?_
    refine R_ic dd_laysNow_25 (by decide) rfl ?_
    refine R_iald (v := (rd h 198 0)) (n := 1610) dd_laysNow_26 ia_198 la_198 (by decide) (rfl) rfl ?_
    refine R_bi dd_laysNow_27 (by decide) rfl ?_
    refine R_icmp dd_laysNow_29 rfl rfl (fun (c4 : 24 ≤ (rd h 198 0)) => ?_) (fun (c4 : (rd h 198 0) < 24) => ?_)
    · replace k := k.1 c4
      exact R_vret dd_laysNow_45 rfl k
    · replace k := k.2 c4
      refine R_ld (v := .inr (.inr 182)) dd_laysNow_32 rfl rfl rfl rfl ?_
      refine R_ic dd_laysNow_33 (by decide) rfl ?_
      refine R_ld (v := .inr (.inr 182)) dd_laysNow_34 rfl rfl rfl rfl ?_
      refine R_gf (v := .inr (.inr 198)) dd_laysNow_35 fd_12_125 io_182 (congrArg (fun z : Int => (Sum.inr (Sum.inr z) : LV)) (rf_182_24 hF)) rfl ?_
      refine R_ic dd_laysNow_38 (by decide) rfl ?_
      refine R_iald (v := (rd h 198 0)) (n := 1610) dd_laysNow_39 ia_198 la_198 (by decide) (rfl) rfl ?_
      refine R_ld (v := .inl v1) dd_laysNow_40 rfl rfl rfl rfl ?_
      refine R_ic dd_laysNow_41 (by decide) rfl ?_
      obtain ⟨c, hc, k⟩ := k
      exact R_call (as := [.inr (.inr 182), .inl 0, .inl (rd h 198 0), .inl v1, .inl 0]) (rest := []) (M' := mm_laysInto) (ls0 := [some (.inr (.inr 182)), some (.inl 0), some (.inl (rd h 198 0)), some (.inl v1), some (.inl 0), none, none, none]) dd_laysNow_42 rfl rfl (cw_v cw_12_425 io_182 rfl rfl (Nat.le_of_ble_eq_true rfl) (Nat.le_of_ble_eq_true rfl)) mt_laysInto rfl hc rfl k
  · replace k := k.2 c3
    refine R_ld (v := .inr (.inr 182)) dd_laysNow_8 rfl rfl rfl rfl ?_
    refine R_gf (v := .inr (.inr 203)) dd_laysNow_9 fd_12_147 io_182 (congrArg (fun z : Int => (Sum.inr (Sum.inr z) : LV)) (rf_182_37 hF)) rfl ?_
    refine R_ld (v := .inl v2) dd_laysNow_12 rfl rfl rfl rfl ?_
    refine R_ic dd_laysNow_13 (by decide) rfl ?_
    obtain ⟨s2, k⟩ := k
    refine R_iast (n := 10) dd_laysNow_14 ia_203 la_203 s2 rfl ?_
    refine R_inc (y := v2 + 1) (ls' := [some (.inr (.inr 182)), some (.inl v1), some (.inl (v2 + 1))]) dd_laysNow_15 rfl (by decide) (by omega) (by omega) rfl rfl ?_
    refine R_goto dd_laysNow_18 rfl ?_
    exact k
theorem B_laysNow_45 {xs : Nat → Int} {xl e : Nat} {h : LH} {Q : Option LV → LH → Prop} {v1 v2 : Int} (hF : RF h)
    (k : Q none h) :
    Rn xs xl e mm_laysNow 45 [some (.inr (.inr 182)), some (.inl v1), some (.inl v2)] [] h Q := by
  exact R_vret dd_laysNow_45 rfl k
theorem B_chase_0 {xs : Nat → Int} {xl e : Nat} {h : LH} {Q : Option LV → LH → Prop} {v1 v2 : Int} (hF : RF h) (he : 2 ≤ e)
    (k : (v1 < 0 →
        Q (some (.inl (-1))) (wr h 182 0 0)) ∧
      (0 ≤ v1 →
        ((rd h 188 0) ≤ v1 →
          Q (some (.inl (-1))) (wr h 182 0 0)) ∧
        (v1 < (rd h 188 0) →
          (v2 < 0 →
            Q (some (.inl (-1))) (wr h 182 0 0)) ∧
          (0 ≤ v2 →
            ((rd h 188 0) ≤ v2 →
              Q (some (.inl (-1))) (wr h 182 0 0)) ∧
            (v2 < (rd h 188 0) →
              (∃ c, c < e ∧ Rn xs xl c mm_laysNow 0 [some (.inr (.inr 182)), some (.inl (rd h 198 1)), none] [] (wr h 182 0 0) (fun r h' => Rn xs xl e mm_chase 33 [some (.inr (.inr 182)), some (.inl v1), some (.inl v2), none, none] (r.toList ++ []) h' Q))))))) :
    Rn xs xl e mm_chase 0 [some (.inr (.inr 182)), some (.inl v1), some (.inl v2), none, none] [] h Q := by
  refine R_ld (v := .inr (.inr 182)) dd_chase_0 rfl rfl rfl rfl ?_
  refine R_ic dd_chase_1 (by decide) rfl ?_
  refine R_pf (z := 0) dd_chase_2 fd_12_1 io_182 fn_12_0 rfl rfl ?_
  refine R_ld (v := .inr (.inr 182)) dd_chase_5 rfl rfl rfl rfl ?_
  refine R_ld (v := .inl v1) dd_chase_6 rfl rfl rfl rfl ?_
  refine R_call (as := [.inr (.inr 182), .inl v1]) (rest := []) (M' := mm_isRoom) (ls0 := [some (.inr (.inr 182)), some (.inl v1)]) dd_chase_7 rfl rfl (cw_v cw_12_370 io_182 rfl rfl (Nat.le_of_ble_eq_true rfl) (Nat.le_of_ble_eq_true rfl)) mt_isRoom rfl (c := e - 1) (by omega) rfl ?_
  refine R_ld (v := .inl v1) dd_isRoom_0 rfl rfl rfl rfl ?_
  refine R_if dd_isRoom_1 rfl rfl (fun (c2 : v1 < 0) => ?_) (fun (c2 : 0 ≤ v1) => ?_)
  · replace k := k.1 c2
    refine R_ic dd_isRoom_16 (by decide) rfl ?_
    refine R_zret dd_isRoom_17 rfl (by decide) ?_
    change Rn xs xl e mm_chase 10 [some (.inr (.inr 182)), some (.inl v1), some (.inl v2), none, none] [.inl 0] (wr h 182 0 0) _
    refine R_if dd_chase_10 rfl rfl (fun (c3 : 0 = 0) => ?_) (fun (c3 : 0 ≠ 0) => ?_)
    · skip
      refine R_ic dd_chase_21 (by decide) rfl ?_
      exact R_iret dd_chase_22 rfl k
    · exact absurd c3 (by omega)
  · replace k := k.2 c2
    refine R_ld (v := .inl v1) dd_isRoom_4 rfl rfl rfl rfl ?_
    refine R_ld (v := .inr (.inr 182)) dd_isRoom_5 rfl rfl rfl rfl ?_
    refine R_call (as := [.inr (.inr 182)]) (rest := [.inl v1]) (M' := mm_rooms) (ls0 := [some (.inr (.inr 182))]) dd_isRoom_6 rfl rfl (cw_v cw_12_332 io_182 rfl rfl (Nat.le_of_ble_eq_true rfl) (Nat.le_of_ble_eq_true rfl)) mt_rooms rfl (c := e - 2) (by omega) rfl ?_
    refine R_ld (v := .inr (.inr 182)) dd_rooms_0 rfl rfl rfl rfl ?_
    refine R_gf (v := .inr (.inr 188)) dd_rooms_1 fd_12_95 io_182 (congrArg (fun z : Int => (Sum.inr (Sum.inr z) : LV)) ((rdw_nei (by omega)).trans (rf_182_10 hF))) rfl ?_
    refine R_ic dd_rooms_4 (by decide) rfl ?_
    refine R_iald (v := (rd h 188 0)) (n := 300) dd_rooms_5 ia_188 la_188 (by decide) (rdw_ne (by decide)) rfl ?_
    refine R_iret dd_rooms_6 rfl ?_
    change Rn xs xl (e - 1) mm_isRoom 9 [some (.inr (.inr 182)), some (.inl v1)] [.inl (rd h 188 0), .inl v1] (wr h 182 0 0) _
    refine R_icmp dd_isRoom_9 rfl rfl (fun (c4 : (rd h 188 0) ≤ v1) => ?_) (fun (c4 : v1 < (rd h 188 0)) => ?_)
    · replace k := k.1 c4
      refine R_ic dd_isRoom_16 (by decide) rfl ?_
      refine R_zret dd_isRoom_17 rfl (by decide) ?_
      change Rn xs xl e mm_chase 10 [some (.inr (.inr 182)), some (.inl v1), some (.inl v2), none, none] [.inl 0] (wr h 182 0 0) _
      refine R_if dd_chase_10 rfl rfl (fun (c5 : 0 = 0) => ?_) (fun (c5 : 0 ≠ 0) => ?_)
      · skip
        refine R_ic dd_chase_21 (by decide) rfl ?_
        exact R_iret dd_chase_22 rfl k
      · exact absurd c5 (by omega)
    · replace k := k.2 c4
      refine R_ic dd_isRoom_12 (by decide) rfl ?_
      refine R_goto dd_isRoom_13 rfl ?_
      refine R_zret dd_isRoom_17 rfl (by decide) ?_
      change Rn xs xl e mm_chase 10 [some (.inr (.inr 182)), some (.inl v1), some (.inl v2), none, none] [.inl 1] (wr h 182 0 0) _
      refine R_if dd_chase_10 rfl rfl (fun (c6 : 1 = 0) => ?_) (fun (c6 : 1 ≠ 0) => ?_)
      · exact absurd c6 (by omega)
      · skip
        refine R_ld (v := .inr (.inr 182)) dd_chase_13 rfl rfl rfl rfl ?_
        refine R_ld (v := .inl v2) dd_chase_14 rfl rfl rfl rfl ?_
        refine R_call (as := [.inr (.inr 182), .inl v2]) (rest := []) (M' := mm_isRoom) (ls0 := [some (.inr (.inr 182)), some (.inl v2)]) dd_chase_15 rfl rfl (cw_v cw_12_370 io_182 rfl rfl (Nat.le_of_ble_eq_true rfl) (Nat.le_of_ble_eq_true rfl)) mt_isRoom rfl (c := e - 1) (by omega) rfl ?_
        refine R_ld (v := .inl v2) dd_isRoom_0 rfl rfl rfl rfl ?_
        refine R_if dd_isRoom_1 rfl rfl (fun (c7 : v2 < 0) => ?_) (fun (c7 : 0 ≤ v2) => ?_)
        · replace k := k.1 c7
          refine R_ic dd_isRoom_16 (by decide) rfl ?_
          refine R_zret dd_isRoom_17 rfl (by decide) ?_
          change Rn xs xl e mm_chase 18 [some (.inr (.inr 182)), some (.inl v1), some (.inl v2), none, none] [.inl 0] (wr h 182 0 0) _
          refine R_if dd_chase_18 rfl rfl (fun (c8 : 0 ≠ 0) => ?_) (fun (c8 : 0 = 0) => ?_)
          · exact absurd c8 (by omega)
          · skip
            refine R_ic dd_chase_21 (by decide) rfl ?_
            exact R_iret dd_chase_22 rfl k
        · replace k := k.2 c7
          refine R_ld (v := .inl v2) dd_isRoom_4 rfl rfl rfl rfl ?_
          refine R_ld (v := .inr (.inr 182)) dd_isRoom_5 rfl rfl rfl rfl ?_
          refine R_call (as := [.inr (.inr 182)]) (rest := [.inl v2]) (M' := mm_rooms) (ls0 := [some (.inr (.inr 182))]) dd_isRoom_6 rfl rfl (cw_v cw_12_332 io_182 rfl rfl (Nat.le_of_ble_eq_true rfl) (Nat.le_of_ble_eq_true rfl)) mt_rooms rfl (c := e - 2) (by omega) rfl ?_
          refine R_ld (v := .inr (.inr 182)) dd_rooms_0 rfl rfl rfl rfl ?_
          refine R_gf (v := .inr (.inr 188)) dd_rooms_1 fd_12_95 io_182 (congrArg (fun z : Int => (Sum.inr (Sum.inr z) : LV)) ((rdw_nei (by omega)).trans (rf_182_10 hF))) rfl ?_
          refine R_ic dd_rooms_4 (by decide) rfl ?_
          refine R_iald (v := (rd h 188 0)) (n := 300) dd_rooms_5 ia_188 la_188 (by decide) (rdw_ne (by decide)) rfl ?_
          refine R_iret dd_rooms_6 rfl ?_
          change Rn xs xl (e - 1) mm_isRoom 9 [some (.inr (.inr 182)), some (.inl v2)] [.inl (rd h 188 0), .inl v2] (wr h 182 0 0) _
          refine R_icmp dd_isRoom_9 rfl rfl (fun (c9 : (rd h 188 0) ≤ v2) => ?_) (fun (c9 : v2 < (rd h 188 0)) => ?_)
          · replace k := k.1 c9
            refine R_ic dd_isRoom_16 (by decide) rfl ?_
            refine R_zret dd_isRoom_17 rfl (by decide) ?_
            change Rn xs xl e mm_chase 18 [some (.inr (.inr 182)), some (.inl v1), some (.inl v2), none, none] [.inl 0] (wr h 182 0 0) _
            refine R_if dd_chase_18 rfl rfl (fun (c10 : 0 ≠ 0) => ?_) (fun (c10 : 0 = 0) => ?_)
            · exact absurd c10 (by omega)
            · skip
              refine R_ic dd_chase_21 (by decide) rfl ?_
              exact R_iret dd_chase_22 rfl k
          · replace k := k.2 c9
            refine R_ic dd_isRoom_12 (by decide) rfl ?_
            refine R_goto dd_isRoom_13 rfl ?_
            refine R_zret dd_isRoom_17 rfl (by decide) ?_
            change Rn xs xl e mm_chase 18 [some (.inr (.inr 182)), some (.inl v1), some (.inl v2), none, none] [.inl 1] (wr h 182 0 0) _
            refine R_if dd_chase_18 rfl rfl (fun (c11 : 1 ≠ 0) => ?_) (fun (c11 : 1 = 0) => ?_)
            · skip
              refine R_ld (v := .inr (.inr 182)) dd_chase_23 rfl rfl rfl rfl ?_
              refine R_ld (v := .inr (.inr 182)) dd_chase_24 rfl rfl rfl rfl ?_
              refine R_gf (v := .inr (.inr 198)) dd_chase_25 fd_12_125 io_182 (congrArg (fun z : Int => (Sum.inr (Sum.inr z) : LV)) ((rdw_nei (by omega)).trans (rf_182_24 hF))) rfl ?_
              refine R_ic dd_chase_28 (by decide) rfl ?_
              refine R_iald (v := (rd h 198 1)) (n := 1610) dd_chase_29 ia_198 la_198 (by decide) (rdw_ne (by decide)) rfl ?_
              obtain ⟨c, hc, k⟩ := k
              exact R_call (as := [.inr (.inr 182), .inl (rd h 198 1)]) (rest := []) (M' := mm_laysNow) (ls0 := [some (.inr (.inr 182)), some (.inl (rd h 198 1)), none]) dd_chase_30 rfl rfl (cw_v cw_12_456 io_182 rfl rfl (Nat.le_of_ble_eq_true rfl) (Nat.le_of_ble_eq_true rfl)) mt_laysNow rfl hc rfl k
            · exact absurd c11 (by omega)
theorem B_chase_33 {xs : Nat → Int} {xl e : Nat} {h : LH} {Q : Option LV → LH → Prop} {v1 v2 : Int} (hF : RF h)
    (k : Rn xs xl e mm_chase 35 [some (.inr (.inr 182)), some (.inl v1), some (.inl v2), some (.inl 0), none] [] h Q) :
    Rn xs xl e mm_chase 33 [some (.inr (.inr 182)), some (.inl v1), some (.inl v2), none, none] [] h Q := by
  refine R_ic dd_chase_33 (by decide) rfl ?_
  refine R_st (ls' := [some (.inr (.inr 182)), some (.inl v1), some (.inl v2), some (.inl 0), none]) dd_chase_34 rfl rfl rfl (Nat.le_of_ble_eq_true rfl) rfl rfl ?_
  exact k
theorem B_chase_35 {xs : Nat → Int} {xl e : Nat} {h : LH} {Q : Option LV → LH → Prop} {v1 v2 v3 : Int} {o4 : Option LV} (hF : RF h) (r_v3 : 0 ≤ v3 ∧ v3 ≤ 200)
    (k : (200 ≤ v3 →
        Rn xs xl e mm_chase 76 [some (.inr (.inr 182)), some (.inl v1), some (.inl v2), some (.inl 1), o4] [] h Q) ∧
      (v3 < 200 →
        (0 ≤ (v3 / 2) ∧ (v3 / 2) ≤ 2147483647) ∧
        ((v3 / 20) ≠ ((v3 / 2) % 10) →
          (0 ≤ v3 ∧ v3 < 200) ∧
          Rn xs xl e mm_chase 35 [some (.inr (.inr 182)), some (.inl v1), some (.inl v2), some (.inl (v3 + 1)), o4] [] (wr h 212 v3 1000000) Q) ∧
        ((v3 / 20) = ((v3 / 2) % 10) →
          (0 ≤ v3 ∧ v3 < 200) ∧
          Rn xs xl e mm_chase 35 [some (.inr (.inr 182)), some (.inl v1), some (.inl v2), some (.inl (v3 + 1)), o4] [] (wr h 212 v3 0) Q))) :
    Rn xs xl e mm_chase 35 [some (.inr (.inr 182)), some (.inl v1), some (.inl v2), some (.inl v3), o4] [] h Q := by
  refine R_ld (v := .inl v3) dd_chase_35 rfl rfl rfl rfl ?_
  refine R_si dd_chase_36 (by decide) rfl ?_
  refine R_icmp dd_chase_39 rfl rfl (fun (c4 : 200 ≤ v3) => ?_) (fun (c4 : v3 < 200) => ?_)
  · replace k := k.1 c4
    refine R_ic dd_chase_74 (by decide) rfl ?_
    refine R_st (ls' := [some (.inr (.inr 182)), some (.inl v1), some (.inl v2), some (.inl 1), o4]) dd_chase_75 rfl rfl rfl (Nat.le_of_ble_eq_true rfl) rfl rfl ?_
    exact k
  · replace k := k.2 c4
    refine R_ld (v := .inr (.inr 182)) dd_chase_42 rfl rfl rfl rfl ?_
    refine R_gf (v := .inr (.inr 212)) dd_chase_43 fd_12_174 io_182 (congrArg (fun z : Int => (Sum.inr (Sum.inr z) : LV)) (rf_182_51 hF)) rfl ?_
    refine R_ld (v := .inl v3) dd_chase_46 rfl rfl rfl rfl ?_
    refine R_ld (v := .inl v3) dd_chase_47 rfl rfl rfl rfl ?_
    refine R_bi dd_chase_48 (by decide) rfl ?_
    refine R_idiv dd_chase_50 (by omega) (by decide) rfl ?_
    refine R_ld (v := .inl v3) dd_chase_51 rfl rfl rfl rfl ?_
    refine R_ic dd_chase_52 (by decide) rfl ?_
    refine R_idiv dd_chase_53 (by omega) (by decide) rfl ?_
    refine R_bi dd_chase_54 (by decide) rfl ?_
    obtain ⟨s1, k⟩ := k
    refine R_irem dd_chase_56 s1 (by decide) rfl ?_
    refine R_icmp dd_chase_57 rfl rfl (fun (c5 : (v3 / 20) ≠ ((v3 / 2) % 10)) => ?_) (fun (c5 : (v3 / 20) = ((v3 / 2) % 10)) => ?_)
    · replace k := k.1 c5
      refine R_C (v := .inl (1000000)) dd_chase_64 rfl rfl (by decide +kernel) rfl ?_
      obtain ⟨s2, k⟩ := k
      refine R_iast (n := 200) dd_chase_67 ia_212 la_212 s2 rfl ?_
      refine R_inc (y := v3 + 1) (ls' := [some (.inr (.inr 182)), some (.inl v1), some (.inl v2), some (.inl (v3 + 1)), o4]) dd_chase_68 rfl (by decide) (by omega) (by omega) rfl rfl ?_
      refine R_goto dd_chase_71 rfl ?_
      exact k
    · replace k := k.2 c5
      refine R_ic dd_chase_60 (by decide) rfl ?_
      refine R_goto dd_chase_61 rfl ?_
      obtain ⟨s3, k⟩ := k
      refine R_iast (n := 200) dd_chase_67 ia_212 la_212 s3 rfl ?_
      refine R_inc (y := v3 + 1) (ls' := [some (.inr (.inr 182)), some (.inl v1), some (.inl v2), some (.inl (v3 + 1)), o4]) dd_chase_68 rfl (by decide) (by omega) (by omega) rfl rfl ?_
      refine R_goto dd_chase_71 rfl ?_
      exact k
theorem B_chase_76 {xs : Nat → Int} {xl e : Nat} {h : LH} {Q : Option LV → LH → Prop} {v1 v2 v3 : Int} {o4 : Option LV} (hF : RF h) (r_v1 : 0 ≤ v1 ∧ v1 ≤ 9) (r_v2 : 0 ≤ v2 ∧ v2 ≤ 9) (r_v3 : 1 ≤ v3 ∧ v3 ≤ 200)
    (k : (200 ≤ v3 →
        ((rd h 212 (20 * v1 + 2 * v2)) ≠ 1000000 →
          Q (some (.inl (rd h 212 (20 * v1 + 2 * v2)))) h) ∧
        ((rd h 212 (20 * v1 + 2 * v2)) = 1000000 →
          Q (some (.inl (-1))) h)) ∧
      (v3 < 200 →
        Rn xs xl e mm_chase 86 [some (.inr (.inr 182)), some (.inl v1), some (.inl v2), some (.inl v3), some (.inl 0)] [] h Q)) :
    Rn xs xl e mm_chase 76 [some (.inr (.inr 182)), some (.inl v1), some (.inl v2), some (.inl v3), o4] [] h Q := by
  refine R_ld (v := .inl v3) dd_chase_76 rfl rfl rfl rfl ?_
  refine R_si dd_chase_77 (by decide) rfl ?_
  refine R_icmp dd_chase_80 rfl rfl (fun (c1 : 200 ≤ v3) => ?_) (fun (c1 : v3 < 200) => ?_)
  · replace k := k.1 c1
    refine R_ld (v := .inr (.inr 182)) dd_chase_169 rfl rfl rfl rfl ?_
    refine R_gf (v := .inr (.inr 212)) dd_chase_170 fd_12_174 io_182 (congrArg (fun z : Int => (Sum.inr (Sum.inr z) : LV)) (rf_182_51 hF)) rfl ?_
    refine R_bi dd_chase_173 (by decide) rfl ?_
    refine R_ld (v := .inl v1) dd_chase_175 rfl rfl rfl rfl ?_
    refine R_imul (c := 20 * v1) dd_chase_176 (by omega) (by omega) rfl ?_
    refine R_ic dd_chase_177 (by decide) rfl ?_
    refine R_ld (v := .inl v2) dd_chase_178 rfl rfl rfl rfl ?_
    refine R_imul (c := 2 * v2) dd_chase_179 (by omega) (by omega) rfl ?_
    refine R_iadd (c := 20 * v1 + 2 * v2) dd_chase_180 (by omega) (by omega) rfl ?_
    refine R_iald (v := (rd h 212 (20 * v1 + 2 * v2))) (n := 200) dd_chase_181 ia_212 la_212 (by omega) (rfl) rfl ?_
    refine R_st (ls' := [some (.inr (.inr 182)), some (.inl v1), some (.inl v2), some (.inl (rd h 212 (20 * v1 + 2 * v2))), o4]) dd_chase_182 rfl rfl rfl (Nat.le_of_ble_eq_true rfl) rfl rfl ?_
    refine R_ld (v := .inl (rd h 212 (20 * v1 + 2 * v2))) dd_chase_183 rfl rfl rfl rfl ?_
    refine R_C (v := .inl (1000000)) dd_chase_184 rfl rfl (by decide +kernel) rfl ?_
    refine R_icmp dd_chase_187 rfl rfl (fun (c2 : (rd h 212 (20 * v1 + 2 * v2)) ≠ 1000000) => ?_) (fun (c2 : (rd h 212 (20 * v1 + 2 * v2)) = 1000000) => ?_)
    · replace k := k.1 c2
      refine R_ld (v := .inl (rd h 212 (20 * v1 + 2 * v2))) dd_chase_194 rfl rfl rfl rfl ?_
      exact R_iret dd_chase_195 rfl k
    · replace k := k.2 c2
      refine R_ic dd_chase_190 (by decide) rfl ?_
      refine R_goto dd_chase_191 rfl ?_
      exact R_iret dd_chase_195 rfl k
  · replace k := k.2 c1
    refine R_ic dd_chase_83 (by decide) rfl ?_
    refine R_st (ls' := [some (.inr (.inr 182)), some (.inl v1), some (.inl v2), some (.inl v3), some (.inl 0)]) dd_chase_84 rfl rfl rfl (Nat.le_of_ble_eq_true rfl) rfl rfl ?_
    exact k
theorem B_chase_86 {xs : Nat → Int} {xl e : Nat} {h : LH} {Q : Option LV → LH → Prop} {v1 v2 v3 v4 : Int} (hF : RF h) (r_v3 : 1 ≤ v3 ∧ v3 ≤ 199) (r_v4 : 0 ≤ v4 ∧ v4 ≤ 200) (he : 1 ≤ e)
    (k : (200 ≤ v4 →
        Rn xs xl e mm_chase 76 [some (.inr (.inr 182)), some (.inl v1), some (.inl v2), some (.inl (v3 + 1)), some (.inl v4)] [] h Q) ∧
      (v4 < 200 →
        (0 ≤ v4 ∧ v4 < 200) ∧
        ((rd h 212 v4) ≠ 1000000 →
          Rn xs xl e mm_chase 157 [some (.inr (.inr 182)), some (.inl v1), some (.inl v2), some (.inl v3), some (.inl v4)] [] h Q) ∧
        ((rd h 212 v4) = 1000000 →
          ((rd h 188 0) ≤ (v4 / 20) →
            Rn xs xl e mm_chase 157 [some (.inr (.inr 182)), some (.inl v1), some (.inl v2), some (.inl v3), some (.inl v4)] [] h Q) ∧
          ((v4 / 20) < (rd h 188 0) →
            (0 ≤ (v4 / 2) ∧ (v4 / 2) ≤ 2147483647) ∧
            ((rd h 188 0) ≤ ((v4 / 2) % 10) →
              Rn xs xl e mm_chase 157 [some (.inr (.inr 182)), some (.inl v1), some (.inl v2), some (.inl v3), some (.inl v4)] [] h Q) ∧
            (((v4 / 2) % 10) < (rd h 188 0) →
              (∃ c, c < e ∧ Rn xs xl c mm_afterMove 0 [some (.inr (.inr 182)), some (.inl v4), some (.inl v3), none, none, none, none, none, none, none, none] [] h (fun r h' => Rn xs xl e mm_chase 146 [some (.inr (.inr 182)), some (.inl v1), some (.inl v2), some (.inl v3), some (.inl v4)] (r.toList ++ [.inl v4, .inr (.inr 212)]) h' Q))))))) :
    Rn xs xl e mm_chase 86 [some (.inr (.inr 182)), some (.inl v1), some (.inl v2), some (.inl v3), some (.inl v4)] [] h Q := by
  refine R_ld (v := .inl v4) dd_chase_86 rfl rfl rfl rfl ?_
  refine R_si dd_chase_88 (by decide) rfl ?_
  refine R_icmp dd_chase_91 rfl rfl (fun (c4 : 200 ≤ v4) => ?_) (fun (c4 : v4 < 200) => ?_)
  · replace k := k.1 c4
    refine R_inc (y := v3 + 1) (ls' := [some (.inr (.inr 182)), some (.inl v1), some (.inl v2), some (.inl (v3 + 1)), some (.inl v4)]) dd_chase_163 rfl (by decide) (by omega) (by omega) rfl rfl ?_
    refine R_goto dd_chase_166 rfl ?_
    exact k
  · replace k := k.2 c4
    refine R_ld (v := .inr (.inr 182)) dd_chase_94 rfl rfl rfl rfl ?_
    refine R_gf (v := .inr (.inr 212)) dd_chase_95 fd_12_174 io_182 (congrArg (fun z : Int => (Sum.inr (Sum.inr z) : LV)) (rf_182_51 hF)) rfl ?_
    refine R_ld (v := .inl v4) dd_chase_98 rfl rfl rfl rfl ?_
    obtain ⟨s1, k⟩ := k
    refine R_iald (v := (rd h 212 v4)) (n := 200) dd_chase_100 ia_212 la_212 s1 (rfl) rfl ?_
    refine R_C (v := .inl (1000000)) dd_chase_101 rfl rfl (by decide +kernel) rfl ?_
    refine R_icmp dd_chase_104 rfl rfl (fun (c5 : (rd h 212 v4) ≠ 1000000) => ?_) (fun (c5 : (rd h 212 v4) = 1000000) => ?_)
    · replace k := k.1 c5
      exact k
    · replace k := k.2 c5
      refine R_ld (v := .inl v4) dd_chase_107 rfl rfl rfl rfl ?_
      refine R_bi dd_chase_109 (by decide) rfl ?_
      refine R_idiv dd_chase_111 (by omega) (by decide) rfl ?_
      refine R_ld (v := .inr (.inr 182)) dd_chase_112 rfl rfl rfl rfl ?_
      refine R_call (as := [.inr (.inr 182)]) (rest := [.inl (v4 / 20)]) (M' := mm_rooms) (ls0 := [some (.inr (.inr 182))]) dd_chase_113 rfl rfl (cw_v cw_12_332 io_182 rfl rfl (Nat.le_of_ble_eq_true rfl) (Nat.le_of_ble_eq_true rfl)) mt_rooms rfl (c := e - 1) (by omega) rfl ?_
      refine R_ld (v := .inr (.inr 182)) dd_rooms_0 rfl rfl rfl rfl ?_
      refine R_gf (v := .inr (.inr 188)) dd_rooms_1 fd_12_95 io_182 (congrArg (fun z : Int => (Sum.inr (Sum.inr z) : LV)) (rf_182_10 hF)) rfl ?_
      refine R_ic dd_rooms_4 (by decide) rfl ?_
      refine R_iald (v := (rd h 188 0)) (n := 300) dd_rooms_5 ia_188 la_188 (by decide) (rfl) rfl ?_
      refine R_iret dd_rooms_6 rfl ?_
      change Rn xs xl e mm_chase 116 [some (.inr (.inr 182)), some (.inl v1), some (.inl v2), some (.inl v3), some (.inl v4)] [.inl (rd h 188 0), .inl (v4 / 20)] h _
      refine R_icmp dd_chase_116 rfl rfl (fun (c6 : (rd h 188 0) ≤ (v4 / 20)) => ?_) (fun (c6 : (v4 / 20) < (rd h 188 0)) => ?_)
      · replace k := k.1 c6
        exact k
      · replace k := k.2 c6
        refine R_ld (v := .inl v4) dd_chase_119 rfl rfl rfl rfl ?_
        refine R_ic dd_chase_121 (by decide) rfl ?_
        refine R_idiv dd_chase_122 (by omega) (by decide) rfl ?_
        refine R_bi dd_chase_123 (by decide) rfl ?_
        obtain ⟨s2, k⟩ := k
        refine R_irem dd_chase_125 s2 (by decide) rfl ?_
        refine R_ld (v := .inr (.inr 182)) dd_chase_126 rfl rfl rfl rfl ?_
        refine R_call (as := [.inr (.inr 182)]) (rest := [.inl ((v4 / 2) % 10)]) (M' := mm_rooms) (ls0 := [some (.inr (.inr 182))]) dd_chase_127 rfl rfl (cw_v cw_12_332 io_182 rfl rfl (Nat.le_of_ble_eq_true rfl) (Nat.le_of_ble_eq_true rfl)) mt_rooms rfl (c := e - 1) (by omega) rfl ?_
        refine R_ld (v := .inr (.inr 182)) dd_rooms_0 rfl rfl rfl rfl ?_
        refine R_gf (v := .inr (.inr 188)) dd_rooms_1 fd_12_95 io_182 (congrArg (fun z : Int => (Sum.inr (Sum.inr z) : LV)) (rf_182_10 hF)) rfl ?_
        refine R_ic dd_rooms_4 (by decide) rfl ?_
        refine R_iald (v := (rd h 188 0)) (n := 300) dd_rooms_5 ia_188 la_188 (by decide) (rfl) rfl ?_
        refine R_iret dd_rooms_6 rfl ?_
        change Rn xs xl e mm_chase 130 [some (.inr (.inr 182)), some (.inl v1), some (.inl v2), some (.inl v3), some (.inl v4)] [.inl (rd h 188 0), .inl ((v4 / 2) % 10)] h _
        refine R_icmp dd_chase_130 rfl rfl (fun (c7 : (rd h 188 0) ≤ ((v4 / 2) % 10)) => ?_) (fun (c7 : ((v4 / 2) % 10) < (rd h 188 0)) => ?_)
        · replace k := k.1 c7
          exact k
        · replace k := k.2 c7
          refine R_ld (v := .inr (.inr 182)) dd_chase_133 rfl rfl rfl rfl ?_
          refine R_gf (v := .inr (.inr 212)) dd_chase_134 fd_12_174 io_182 (congrArg (fun z : Int => (Sum.inr (Sum.inr z) : LV)) (rf_182_51 hF)) rfl ?_
          refine R_ld (v := .inl v4) dd_chase_137 rfl rfl rfl rfl ?_
          refine R_ld (v := .inr (.inr 182)) dd_chase_139 rfl rfl rfl rfl ?_
          refine R_ld (v := .inl v4) dd_chase_140 rfl rfl rfl rfl ?_
          refine R_ld (v := .inl v3) dd_chase_142 rfl rfl rfl rfl ?_
          obtain ⟨c, hc, k⟩ := k
          exact R_call (as := [.inr (.inr 182), .inl v4, .inl v3]) (rest := [.inl v4, .inr (.inr 212)]) (M' := mm_afterMove) (ls0 := [some (.inr (.inr 182)), some (.inl v4), some (.inl v3), none, none, none, none, none, none, none, none]) dd_chase_143 rfl rfl (cw_v cw_12_480 io_182 rfl rfl (Nat.le_of_ble_eq_true rfl) (Nat.le_of_ble_eq_true rfl)) mt_afterMove rfl hc rfl k
theorem B_chase_146 {xs : Nat → Int} {xl e : Nat} {h : LH} {Q : Option LV → LH → Prop} {v1 v2 v3 v4 w1 w2 : Int} (hF : RF h) (r_v3 : 1 ≤ v3 ∧ v3 ≤ 199) (r_v4 : 0 ≤ v4 ∧ v4 ≤ 199)
    (k : (w2 = 0 →
        (0 ≤ w1 ∧ w1 < 200) ∧
        Rn xs xl e mm_chase 157 [some (.inr (.inr 182)), some (.inl v1), some (.inl v2), some (.inl v3), some (.inl v4)] [] (wr h 212 w1 1000000) Q) ∧
      (w2 ≠ 0 →
        (0 ≤ w1 ∧ w1 < 200) ∧
        Rn xs xl e mm_chase 157 [some (.inr (.inr 182)), some (.inl v1), some (.inl v2), some (.inl v3), some (.inl v4)] [] (wr h 212 w1 v3) Q)) :
    Rn xs xl e mm_chase 146 [some (.inr (.inr 182)), some (.inl v1), some (.inl v2), some (.inl v3), some (.inl v4)] [.inl w2, .inl w1, .inr (.inr 212)] h Q := by
  refine R_if dd_chase_146 rfl rfl (fun (c3 : w2 = 0) => ?_) (fun (c3 : w2 ≠ 0) => ?_)
  · replace k := k.1 c3
    refine R_C (v := .inl (1000000)) dd_chase_153 rfl rfl (by decide +kernel) rfl ?_
    obtain ⟨s1, k⟩ := k
    refine R_iast (n := 200) dd_chase_156 ia_212 la_212 s1 rfl ?_
    exact k
  · replace k := k.2 c3
    refine R_ld (v := .inl v3) dd_chase_149 rfl rfl rfl rfl ?_
    refine R_goto dd_chase_150 rfl ?_
    obtain ⟨s2, k⟩ := k
    refine R_iast (n := 200) dd_chase_156 ia_212 la_212 s2 rfl ?_
    exact k
theorem B_chase_157 {xs : Nat → Int} {xl e : Nat} {h : LH} {Q : Option LV → LH → Prop} {v1 v2 v3 v4 : Int} (hF : RF h) (r_v3 : 1 ≤ v3 ∧ v3 ≤ 199) (r_v4 : 0 ≤ v4 ∧ v4 ≤ 199)
    (k : Rn xs xl e mm_chase 86 [some (.inr (.inr 182)), some (.inl v1), some (.inl v2), some (.inl v3), some (.inl (v4 + 1))] [] h Q) :
    Rn xs xl e mm_chase 157 [some (.inr (.inr 182)), some (.inl v1), some (.inl v2), some (.inl v3), some (.inl v4)] [] h Q := by
  refine R_inc (y := v4 + 1) (ls' := [some (.inr (.inr 182)), some (.inl v1), some (.inl v2), some (.inl v3), some (.inl (v4 + 1))]) dd_chase_157 rfl (by decide) (by omega) (by omega) rfl rfl ?_
  refine R_goto dd_chase_160 rfl ?_
  exact k
theorem B_afterMove_0 {xs : Nat → Int} {xl e : Nat} {h : LH} {Q : Option LV → LH → Prop} {v1 v2 : Int} (hF : RF h) (r_v1 : 0 ≤ v1 ∧ v1 ≤ 199)
    (k : (0 ≤ (v1 / 2) ∧ (v1 / 2) ≤ 2147483647) ∧
      ((v1 % 2) ≠ 0 →
        (0 ≤ ((v1 / 2) % 10) ∧ ((v1 / 2) % 10) < 10) ∧
        Rn xs xl e mm_afterMove 50 [some (.inr (.inr 182)), some (.inl v1), some (.inl v2), some (.inl (v1 / 20)), some (.inl ((v1 / 2) % 10)), some (.inl ((v1 / 2) % 10)), some (.inl (zor (rd h 203 ((v1 / 2) % 10)) (zshl 1 ((v1 / 2) % 10)))), some (.inl 1), some (.inl 0), some (.inl 0), none] [] h Q) ∧
      ((v1 % 2) = 0 →
        (0 ≤ (v1 / 20) ∧ (v1 / 20) < 10) ∧
        Rn xs xl e mm_afterMove 50 [some (.inr (.inr 182)), some (.inl v1), some (.inl v2), some (.inl (v1 / 20)), some (.inl ((v1 / 2) % 10)), some (.inl (v1 / 20)), some (.inl (zor (rd h 203 (v1 / 20)) (zshl 1 (v1 / 20)))), some (.inl 1), some (.inl 0), some (.inl 0), none] [] h Q)) :
    Rn xs xl e mm_afterMove 0 [some (.inr (.inr 182)), some (.inl v1), some (.inl v2), none, none, none, none, none, none, none, none] [] h Q := by
  refine R_ld (v := .inl v1) dd_afterMove_0 rfl rfl rfl rfl ?_
  refine R_bi dd_afterMove_1 (by decide) rfl ?_
  refine R_idiv dd_afterMove_3 (by omega) (by decide) rfl ?_
  refine R_st (ls' := [some (.inr (.inr 182)), some (.inl v1), some (.inl v2), some (.inl (v1 / 20)), none, none, none, none, none, none, none]) dd_afterMove_4 rfl rfl rfl (Nat.le_of_ble_eq_true rfl) rfl rfl ?_
  refine R_ld (v := .inl v1) dd_afterMove_5 rfl rfl rfl rfl ?_
  refine R_ic dd_afterMove_6 (by decide) rfl ?_
  refine R_idiv dd_afterMove_7 (by omega) (by decide) rfl ?_
  refine R_bi dd_afterMove_8 (by decide) rfl ?_
  obtain ⟨s1, k⟩ := k
  refine R_irem dd_afterMove_10 s1 (by decide) rfl ?_
  refine R_st (ls' := [some (.inr (.inr 182)), some (.inl v1), some (.inl v2), some (.inl (v1 / 20)), some (.inl ((v1 / 2) % 10)), none, none, none, none, none, none]) dd_afterMove_11 rfl rfl rfl (Nat.le_of_ble_eq_true rfl) rfl rfl ?_
  refine R_ld (v := .inl v1) dd_afterMove_13 rfl rfl rfl rfl ?_
  refine R_ic dd_afterMove_14 (by decide) rfl ?_
  refine R_irem dd_afterMove_15 (by omega) (by decide) rfl ?_
  refine R_if dd_afterMove_16 rfl rfl (fun (c4 : (v1 % 2) ≠ 0) => ?_) (fun (c4 : (v1 % 2) = 0) => ?_)
  · replace k := k.1 c4
    refine R_ld (v := .inl ((v1 / 2) % 10)) dd_afterMove_23 rfl rfl rfl rfl ?_
    refine R_st (ls' := [some (.inr (.inr 182)), some (.inl v1), some (.inl v2), some (.inl (v1 / 20)), some (.inl ((v1 / 2) % 10)), some (.inl ((v1 / 2) % 10)), none, none, none, none, none]) dd_afterMove_25 rfl rfl rfl (Nat.le_of_ble_eq_true rfl) rfl rfl ?_
    refine R_ld (v := .inr (.inr 182)) dd_afterMove_27 rfl rfl rfl rfl ?_
    refine R_gf (v := .inr (.inr 203)) dd_afterMove_28 fd_12_147 io_182 (congrArg (fun z : Int => (Sum.inr (Sum.inr z) : LV)) (rf_182_37 hF)) rfl ?_
    refine R_ld (v := .inl ((v1 / 2) % 10)) dd_afterMove_31 rfl rfl rfl rfl ?_
    obtain ⟨s2, k⟩ := k
    refine R_iald (v := (rd h 203 ((v1 / 2) % 10))) (n := 10) dd_afterMove_33 ia_203 la_203 s2 (rfl) rfl ?_
    refine R_ic dd_afterMove_34 (by decide) rfl ?_
    refine R_ld (v := .inl ((v1 / 2) % 10)) dd_afterMove_35 rfl rfl rfl rfl ?_
    refine R_A dd_afterMove_37 rfl rfl rfl rfl ?_
    refine R_A dd_afterMove_38 rfl rfl rfl rfl ?_
    refine R_st (ls' := [some (.inr (.inr 182)), some (.inl v1), some (.inl v2), some (.inl (v1 / 20)), some (.inl ((v1 / 2) % 10)), some (.inl ((v1 / 2) % 10)), some (.inl (zor (rd h 203 ((v1 / 2) % 10)) (zshl 1 ((v1 / 2) % 10)))), none, none, none, none]) dd_afterMove_39 rfl rfl rfl (Nat.le_of_ble_eq_true rfl) rfl rfl ?_
    refine R_ic dd_afterMove_41 (by decide) rfl ?_
    refine R_st (ls' := [some (.inr (.inr 182)), some (.inl v1), some (.inl v2), some (.inl (v1 / 20)), some (.inl ((v1 / 2) % 10)), some (.inl ((v1 / 2) % 10)), some (.inl (zor (rd h 203 ((v1 / 2) % 10)) (zshl 1 ((v1 / 2) % 10)))), some (.inl 1), none, none, none]) dd_afterMove_42 rfl rfl rfl (Nat.le_of_ble_eq_true rfl) rfl rfl ?_
    refine R_ic dd_afterMove_44 (by decide) rfl ?_
    refine R_st (ls' := [some (.inr (.inr 182)), some (.inl v1), some (.inl v2), some (.inl (v1 / 20)), some (.inl ((v1 / 2) % 10)), some (.inl ((v1 / 2) % 10)), some (.inl (zor (rd h 203 ((v1 / 2) % 10)) (zshl 1 ((v1 / 2) % 10)))), some (.inl 1), some (.inl 0), none, none]) dd_afterMove_45 rfl rfl rfl (Nat.le_of_ble_eq_true rfl) rfl rfl ?_
    refine R_ic dd_afterMove_47 (by decide) rfl ?_
    refine R_st (ls' := [some (.inr (.inr 182)), some (.inl v1), some (.inl v2), some (.inl (v1 / 20)), some (.inl ((v1 / 2) % 10)), some (.inl ((v1 / 2) % 10)), some (.inl (zor (rd h 203 ((v1 / 2) % 10)) (zshl 1 ((v1 / 2) % 10)))), some (.inl 1), some (.inl 0), some (.inl 0), none]) dd_afterMove_48 rfl rfl rfl (Nat.le_of_ble_eq_true rfl) rfl rfl ?_
    exact k
  · replace k := k.2 c4
    refine R_ld (v := .inl (v1 / 20)) dd_afterMove_19 rfl rfl rfl rfl ?_
    refine R_goto dd_afterMove_20 rfl ?_
    refine R_st (ls' := [some (.inr (.inr 182)), some (.inl v1), some (.inl v2), some (.inl (v1 / 20)), some (.inl ((v1 / 2) % 10)), some (.inl (v1 / 20)), none, none, none, none, none]) dd_afterMove_25 rfl rfl rfl (Nat.le_of_ble_eq_true rfl) rfl rfl ?_
    refine R_ld (v := .inr (.inr 182)) dd_afterMove_27 rfl rfl rfl rfl ?_
    refine R_gf (v := .inr (.inr 203)) dd_afterMove_28 fd_12_147 io_182 (congrArg (fun z : Int => (Sum.inr (Sum.inr z) : LV)) (rf_182_37 hF)) rfl ?_
    refine R_ld (v := .inl (v1 / 20)) dd_afterMove_31 rfl rfl rfl rfl ?_
    obtain ⟨s3, k⟩ := k
    refine R_iald (v := (rd h 203 (v1 / 20))) (n := 10) dd_afterMove_33 ia_203 la_203 s3 (rfl) rfl ?_
    refine R_ic dd_afterMove_34 (by decide) rfl ?_
    refine R_ld (v := .inl (v1 / 20)) dd_afterMove_35 rfl rfl rfl rfl ?_
    refine R_A dd_afterMove_37 rfl rfl rfl rfl ?_
    refine R_A dd_afterMove_38 rfl rfl rfl rfl ?_
    refine R_st (ls' := [some (.inr (.inr 182)), some (.inl v1), some (.inl v2), some (.inl (v1 / 20)), some (.inl ((v1 / 2) % 10)), some (.inl (v1 / 20)), some (.inl (zor (rd h 203 (v1 / 20)) (zshl 1 (v1 / 20)))), none, none, none, none]) dd_afterMove_39 rfl rfl rfl (Nat.le_of_ble_eq_true rfl) rfl rfl ?_
    refine R_ic dd_afterMove_41 (by decide) rfl ?_
    refine R_st (ls' := [some (.inr (.inr 182)), some (.inl v1), some (.inl v2), some (.inl (v1 / 20)), some (.inl ((v1 / 2) % 10)), some (.inl (v1 / 20)), some (.inl (zor (rd h 203 (v1 / 20)) (zshl 1 (v1 / 20)))), some (.inl 1), none, none, none]) dd_afterMove_42 rfl rfl rfl (Nat.le_of_ble_eq_true rfl) rfl rfl ?_
    refine R_ic dd_afterMove_44 (by decide) rfl ?_
    refine R_st (ls' := [some (.inr (.inr 182)), some (.inl v1), some (.inl v2), some (.inl (v1 / 20)), some (.inl ((v1 / 2) % 10)), some (.inl (v1 / 20)), some (.inl (zor (rd h 203 (v1 / 20)) (zshl 1 (v1 / 20)))), some (.inl 1), some (.inl 0), none, none]) dd_afterMove_45 rfl rfl rfl (Nat.le_of_ble_eq_true rfl) rfl rfl ?_
    refine R_ic dd_afterMove_47 (by decide) rfl ?_
    refine R_st (ls' := [some (.inr (.inr 182)), some (.inl v1), some (.inl v2), some (.inl (v1 / 20)), some (.inl ((v1 / 2) % 10)), some (.inl (v1 / 20)), some (.inl (zor (rd h 203 (v1 / 20)) (zshl 1 (v1 / 20)))), some (.inl 1), some (.inl 0), some (.inl 0), none]) dd_afterMove_48 rfl rfl rfl (Nat.le_of_ble_eq_true rfl) rfl rfl ?_
    exact k
theorem B_afterMove_50 {xs : Nat → Int} {xl e : Nat} {h : LH} {Q : Option LV → LH → Prop} {v1 v2 v3 v4 v5 v6 v7 v8 v9 : Int} {o10 : Option LV} (hF : RF h) (r_v1 : 0 ≤ v1 ∧ v1 ≤ 199) (r_v3 : 0 ≤ v3 ∧ v3 ≤ 9) (r_v4 : 0 ≤ v4 ∧ v4 ≤ 9) (r_v9 : 0 ≤ v9 ∧ v9 ≤ 10) (he : 1 ≤ e)
    (k : ((rd h 188 0) ≤ v9 →
        ((v1 % 2) ≠ 0 →
          (v8 = 0 ∨ v8 = 1) ∧
          Q (some (.inl v8)) h) ∧
        ((v1 % 2) = 0 →
          (v7 = 0 ∨ v7 = 1) ∧
          Q (some (.inl v7)) h)) ∧
      (v9 < (rd h 188 0) →
        ((zand (zshr v6 v9) 1) ≠ 1 →
          Rn xs xl e mm_afterMove 147 [some (.inr (.inr 182)), some (.inl v1), some (.inl v2), some (.inl v3), some (.inl v4), some (.inl v5), some (.inl v6), some (.inl v7), some (.inl v8), some (.inl v9), o10] [] h Q) ∧
        ((zand (zshr v6 v9) 1) = 1 →
          ((v1 % 2) ≠ 0 →
            (0 ≤ 20 * v3 + 2 * v9 ∧ 20 * v3 + 2 * v9 < 200) ∧
            (v7 = 0 →
              (v8 ≠ 0 →
                Rn xs xl e mm_afterMove 147 [some (.inr (.inr 182)), some (.inl v1), some (.inl v2), some (.inl v3), some (.inl v4), some (.inl v5), some (.inl v6), some (.inl 0), some (.inl 1), some (.inl v9), some (.inl (rd h 212 (20 * v3 + 2 * v9)))] [] h Q) ∧
              (v8 = 0 →
                (v2 ≤ (rd h 212 (20 * v3 + 2 * v9)) →
                  Rn xs xl e mm_afterMove 147 [some (.inr (.inr 182)), some (.inl v1), some (.inl v2), some (.inl v3), some (.inl v4), some (.inl v5), some (.inl v6), some (.inl 0), some (.inl 0), some (.inl v9), some (.inl (rd h 212 (20 * v3 + 2 * v9)))] [] h Q) ∧
                ((rd h 212 (20 * v3 + 2 * v9)) < v2 →
                  Rn xs xl e mm_afterMove 147 [some (.inr (.inr 182)), some (.inl v1), some (.inl v2), some (.inl v3), some (.inl v4), some (.inl v5), some (.inl v6), some (.inl 0), some (.inl 1), some (.inl v9), some (.inl (rd h 212 (20 * v3 + 2 * v9)))] [] h Q))) ∧
            (v7 ≠ 0 →
              (v2 ≤ (rd h 212 (20 * v3 + 2 * v9)) →
                (v8 ≠ 0 →
                  Rn xs xl e mm_afterMove 147 [some (.inr (.inr 182)), some (.inl v1), some (.inl v2), some (.inl v3), some (.inl v4), some (.inl v5), some (.inl v6), some (.inl 0), some (.inl 1), some (.inl v9), some (.inl (rd h 212 (20 * v3 + 2 * v9)))] [] h Q) ∧
                (v8 = 0 →
                  Rn xs xl e mm_afterMove 147 [some (.inr (.inr 182)), some (.inl v1), some (.inl v2), some (.inl v3), some (.inl v4), some (.inl v5), some (.inl v6), some (.inl 0), some (.inl 0), some (.inl v9), some (.inl (rd h 212 (20 * v3 + 2 * v9)))] [] h Q)) ∧
              ((rd h 212 (20 * v3 + 2 * v9)) < v2 →
                (v8 ≠ 0 →
                  Rn xs xl e mm_afterMove 147 [some (.inr (.inr 182)), some (.inl v1), some (.inl v2), some (.inl v3), some (.inl v4), some (.inl v5), some (.inl v6), some (.inl 1), some (.inl 1), some (.inl v9), some (.inl (rd h 212 (20 * v3 + 2 * v9)))] [] h Q) ∧
                (v8 = 0 →
                  Rn xs xl e mm_afterMove 147 [some (.inr (.inr 182)), some (.inl v1), some (.inl v2), some (.inl v3), some (.inl v4), some (.inl v5), some (.inl v6), some (.inl 1), some (.inl 1), some (.inl v9), some (.inl (rd h 212 (20 * v3 + 2 * v9)))] [] h Q)))) ∧
          ((v1 % 2) = 0 →
            (0 ≤ 20 * v9 + 2 * v4 + 1 ∧ 20 * v9 + 2 * v4 + 1 < 200) ∧
            (v7 = 0 →
              (v8 ≠ 0 →
                Rn xs xl e mm_afterMove 147 [some (.inr (.inr 182)), some (.inl v1), some (.inl v2), some (.inl v3), some (.inl v4), some (.inl v5), some (.inl v6), some (.inl 0), some (.inl 1), some (.inl v9), some (.inl (rd h 212 (20 * v9 + 2 * v4 + 1)))] [] h Q) ∧
              (v8 = 0 →
                (v2 ≤ (rd h 212 (20 * v9 + 2 * v4 + 1)) →
                  Rn xs xl e mm_afterMove 147 [some (.inr (.inr 182)), some (.inl v1), some (.inl v2), some (.inl v3), some (.inl v4), some (.inl v5), some (.inl v6), some (.inl 0), some (.inl 0), some (.inl v9), some (.inl (rd h 212 (20 * v9 + 2 * v4 + 1)))] [] h Q) ∧
                ((rd h 212 (20 * v9 + 2 * v4 + 1)) < v2 →
                  Rn xs xl e mm_afterMove 147 [some (.inr (.inr 182)), some (.inl v1), some (.inl v2), some (.inl v3), some (.inl v4), some (.inl v5), some (.inl v6), some (.inl 0), some (.inl 1), some (.inl v9), some (.inl (rd h 212 (20 * v9 + 2 * v4 + 1)))] [] h Q))) ∧
            (v7 ≠ 0 →
              (v2 ≤ (rd h 212 (20 * v9 + 2 * v4 + 1)) →
                (v8 ≠ 0 →
                  Rn xs xl e mm_afterMove 147 [some (.inr (.inr 182)), some (.inl v1), some (.inl v2), some (.inl v3), some (.inl v4), some (.inl v5), some (.inl v6), some (.inl 0), some (.inl 1), some (.inl v9), some (.inl (rd h 212 (20 * v9 + 2 * v4 + 1)))] [] h Q) ∧
                (v8 = 0 →
                  Rn xs xl e mm_afterMove 147 [some (.inr (.inr 182)), some (.inl v1), some (.inl v2), some (.inl v3), some (.inl v4), some (.inl v5), some (.inl v6), some (.inl 0), some (.inl 0), some (.inl v9), some (.inl (rd h 212 (20 * v9 + 2 * v4 + 1)))] [] h Q)) ∧
              ((rd h 212 (20 * v9 + 2 * v4 + 1)) < v2 →
                (v8 ≠ 0 →
                  Rn xs xl e mm_afterMove 147 [some (.inr (.inr 182)), some (.inl v1), some (.inl v2), some (.inl v3), some (.inl v4), some (.inl v5), some (.inl v6), some (.inl 1), some (.inl 1), some (.inl v9), some (.inl (rd h 212 (20 * v9 + 2 * v4 + 1)))] [] h Q) ∧
                (v8 = 0 →
                  Rn xs xl e mm_afterMove 147 [some (.inr (.inr 182)), some (.inl v1), some (.inl v2), some (.inl v3), some (.inl v4), some (.inl v5), some (.inl v6), some (.inl 1), some (.inl 1), some (.inl v9), some (.inl (rd h 212 (20 * v9 + 2 * v4 + 1)))] [] h Q))))))) :
    Rn xs xl e mm_afterMove 50 [some (.inr (.inr 182)), some (.inl v1), some (.inl v2), some (.inl v3), some (.inl v4), some (.inl v5), some (.inl v6), some (.inl v7), some (.inl v8), some (.inl v9), o10] [] h Q := by
  refine R_ld (v := .inl v9) dd_afterMove_50 rfl rfl rfl rfl ?_
  refine R_ld (v := .inr (.inr 182)) dd_afterMove_52 rfl rfl rfl rfl ?_
  refine R_call (as := [.inr (.inr 182)]) (rest := [.inl v9]) (M' := mm_rooms) (ls0 := [some (.inr (.inr 182))]) dd_afterMove_53 rfl rfl (cw_v cw_12_332 io_182 rfl rfl (Nat.le_of_ble_eq_true rfl) (Nat.le_of_ble_eq_true rfl)) mt_rooms rfl (c := e - 1) (by omega) rfl ?_
  refine R_ld (v := .inr (.inr 182)) dd_rooms_0 rfl rfl rfl rfl ?_
  refine R_gf (v := .inr (.inr 188)) dd_rooms_1 fd_12_95 io_182 (congrArg (fun z : Int => (Sum.inr (Sum.inr z) : LV)) (rf_182_10 hF)) rfl ?_
  refine R_ic dd_rooms_4 (by decide) rfl ?_
  refine R_iald (v := (rd h 188 0)) (n := 300) dd_rooms_5 ia_188 la_188 (by decide) (rfl) rfl ?_
  refine R_iret dd_rooms_6 rfl ?_
  change Rn xs xl e mm_afterMove 56 [some (.inr (.inr 182)), some (.inl v1), some (.inl v2), some (.inl v3), some (.inl v4), some (.inl v5), some (.inl v6), some (.inl v7), some (.inl v8), some (.inl v9), o10] [.inl (rd h 188 0), .inl v9] h _
  refine R_icmp dd_afterMove_56 rfl rfl (fun (c5 : (rd h 188 0) ≤ v9) => ?_) (fun (c5 : v9 < (rd h 188 0)) => ?_)
  · replace k := k.1 c5
    refine R_ld (v := .inl v1) dd_afterMove_153 rfl rfl rfl rfl ?_
    refine R_ic dd_afterMove_154 (by decide) rfl ?_
    refine R_irem dd_afterMove_155 (by omega) (by decide) rfl ?_
    refine R_if dd_afterMove_156 rfl rfl (fun (c6 : (v1 % 2) ≠ 0) => ?_) (fun (c6 : (v1 % 2) = 0) => ?_)
    · replace k := k.1 c6
      refine R_ld (v := .inl v8) dd_afterMove_164 rfl rfl rfl rfl ?_
      obtain ⟨s1, k⟩ := k
      exact R_zret dd_afterMove_166 rfl s1 k
    · replace k := k.2 c6
      refine R_ld (v := .inl v7) dd_afterMove_159 rfl rfl rfl rfl ?_
      refine R_goto dd_afterMove_161 rfl ?_
      obtain ⟨s2, k⟩ := k
      exact R_zret dd_afterMove_166 rfl s2 k
  · replace k := k.2 c5
    refine R_ld (v := .inl v6) dd_afterMove_59 rfl rfl rfl rfl ?_
    refine R_ld (v := .inl v9) dd_afterMove_61 rfl rfl rfl rfl ?_
    refine R_call (as := [.inl v6, .inl v9]) (rest := []) (M' := mm_isIn) (ls0 := [some (.inl v6), some (.inl v9)]) dd_afterMove_63 rfl rfl (cw_s cw_12_350 rfl rfl (Nat.le_of_ble_eq_true rfl) (Nat.le_of_ble_eq_true rfl)) mt_isIn rfl (c := e - 1) (by omega) rfl ?_
    refine R_ld (v := .inl v6) dd_isIn_0 rfl rfl rfl rfl ?_
    refine R_ld (v := .inl v9) dd_isIn_1 rfl rfl rfl rfl ?_
    refine R_A dd_isIn_2 rfl rfl rfl rfl ?_
    refine R_ic dd_isIn_3 (by decide) rfl ?_
    refine R_A dd_isIn_4 rfl rfl rfl rfl ?_
    refine R_ic dd_isIn_5 (by decide) rfl ?_
    refine R_icmp dd_isIn_6 rfl rfl (fun (c7 : (zand (zshr v6 v9) 1) ≠ 1) => ?_) (fun (c7 : (zand (zshr v6 v9) 1) = 1) => ?_)
    · replace k := k.1 c7
      refine R_ic dd_isIn_13 (by decide) rfl ?_
      refine R_zret dd_isIn_14 rfl (by decide) ?_
      change Rn xs xl e mm_afterMove 66 [some (.inr (.inr 182)), some (.inl v1), some (.inl v2), some (.inl v3), some (.inl v4), some (.inl v5), some (.inl v6), some (.inl v7), some (.inl v8), some (.inl v9), o10] [.inl 0] h _
      refine R_if dd_afterMove_66 rfl rfl (fun (c8 : 0 = 0) => ?_) (fun (c8 : 0 ≠ 0) => ?_)
      · skip
        exact k
      · exact absurd c8 (by omega)
    · replace k := k.2 c7
      refine R_ic dd_isIn_9 (by decide) rfl ?_
      refine R_goto dd_isIn_10 rfl ?_
      refine R_zret dd_isIn_14 rfl (by decide) ?_
      change Rn xs xl e mm_afterMove 66 [some (.inr (.inr 182)), some (.inl v1), some (.inl v2), some (.inl v3), some (.inl v4), some (.inl v5), some (.inl v6), some (.inl v7), some (.inl v8), some (.inl v9), o10] [.inl 1] h _
      refine R_if dd_afterMove_66 rfl rfl (fun (c9 : 1 = 0) => ?_) (fun (c9 : 1 ≠ 0) => ?_)
      · exact absurd c9 (by omega)
      · skip
        refine R_ld (v := .inl v1) dd_afterMove_69 rfl rfl rfl rfl ?_
        refine R_ic dd_afterMove_70 (by decide) rfl ?_
        refine R_irem dd_afterMove_71 (by omega) (by decide) rfl ?_
        refine R_if dd_afterMove_72 rfl rfl (fun (c10 : (v1 % 2) ≠ 0) => ?_) (fun (c10 : (v1 % 2) = 0) => ?_)
        · replace k := k.1 c10
          refine R_ld (v := .inr (.inr 182)) dd_afterMove_95 rfl rfl rfl rfl ?_
          refine R_gf (v := .inr (.inr 212)) dd_afterMove_96 fd_12_174 io_182 (congrArg (fun z : Int => (Sum.inr (Sum.inr z) : LV)) (rf_182_51 hF)) rfl ?_
          refine R_bi dd_afterMove_99 (by decide) rfl ?_
          refine R_ld (v := .inl v3) dd_afterMove_101 rfl rfl rfl rfl ?_
          refine R_imul (c := 20 * v3) dd_afterMove_102 (by omega) (by omega) rfl ?_
          refine R_ic dd_afterMove_103 (by decide) rfl ?_
          refine R_ld (v := .inl v9) dd_afterMove_104 rfl rfl rfl rfl ?_
          refine R_imul (c := 2 * v9) dd_afterMove_106 (by omega) (by omega) rfl ?_
          refine R_iadd (c := 20 * v3 + 2 * v9) dd_afterMove_107 (by omega) (by omega) rfl ?_
          obtain ⟨s3, k⟩ := k
          refine R_iald (v := (rd h 212 (20 * v3 + 2 * v9))) (n := 200) dd_afterMove_108 ia_212 la_212 s3 (rfl) rfl ?_
          refine R_st (ls' := [some (.inr (.inr 182)), some (.inl v1), some (.inl v2), some (.inl v3), some (.inl v4), some (.inl v5), some (.inl v6), some (.inl v7), some (.inl v8), some (.inl v9), some (.inl (rd h 212 (20 * v3 + 2 * v9)))]) dd_afterMove_109 rfl rfl rfl (Nat.le_of_ble_eq_true rfl) rfl rfl ?_
          refine R_ld (v := .inl v7) dd_afterMove_111 rfl rfl rfl rfl ?_
          refine R_if dd_afterMove_113 rfl rfl (fun (c11 : v7 = 0) => ?_) (fun (c11 : v7 ≠ 0) => ?_)
          · replace k := k.1 c11
            refine R_ic dd_afterMove_126 (by decide) rfl ?_
            refine R_st (ls' := [some (.inr (.inr 182)), some (.inl v1), some (.inl v2), some (.inl v3), some (.inl v4), some (.inl v5), some (.inl v6), some (.inl 0), some (.inl v8), some (.inl v9), some (.inl (rd h 212 (20 * v3 + 2 * v9)))]) dd_afterMove_127 rfl rfl rfl (Nat.le_of_ble_eq_true rfl) rfl rfl ?_
            refine R_ld (v := .inl v8) dd_afterMove_129 rfl rfl rfl rfl ?_
            refine R_if dd_afterMove_131 rfl rfl (fun (c12 : v8 ≠ 0) => ?_) (fun (c12 : v8 = 0) => ?_)
            · replace k := k.1 c12
              refine R_ic dd_afterMove_140 (by decide) rfl ?_
              refine R_goto dd_afterMove_141 rfl ?_
              refine R_st (ls' := [some (.inr (.inr 182)), some (.inl v1), some (.inl v2), some (.inl v3), some (.inl v4), some (.inl v5), some (.inl v6), some (.inl 0), some (.inl 1), some (.inl v9), some (.inl (rd h 212 (20 * v3 + 2 * v9)))]) dd_afterMove_145 rfl rfl rfl (Nat.le_of_ble_eq_true rfl) rfl rfl ?_
              exact k
            · replace k := k.2 c12
              refine R_ld (v := .inl (rd h 212 (20 * v3 + 2 * v9))) dd_afterMove_134 rfl rfl rfl rfl ?_
              refine R_ld (v := .inl v2) dd_afterMove_136 rfl rfl rfl rfl ?_
              refine R_icmp dd_afterMove_137 rfl rfl (fun (c13 : v2 ≤ (rd h 212 (20 * v3 + 2 * v9))) => ?_) (fun (c13 : (rd h 212 (20 * v3 + 2 * v9)) < v2) => ?_)
              · replace k := k.1 c13
                refine R_ic dd_afterMove_144 (by decide) rfl ?_
                refine R_st (ls' := [some (.inr (.inr 182)), some (.inl v1), some (.inl v2), some (.inl v3), some (.inl v4), some (.inl v5), some (.inl v6), some (.inl 0), some (.inl 0), some (.inl v9), some (.inl (rd h 212 (20 * v3 + 2 * v9)))]) dd_afterMove_145 rfl rfl rfl (Nat.le_of_ble_eq_true rfl) rfl rfl ?_
                exact k
              · replace k := k.2 c13
                refine R_ic dd_afterMove_140 (by decide) rfl ?_
                refine R_goto dd_afterMove_141 rfl ?_
                refine R_st (ls' := [some (.inr (.inr 182)), some (.inl v1), some (.inl v2), some (.inl v3), some (.inl v4), some (.inl v5), some (.inl v6), some (.inl 0), some (.inl 1), some (.inl v9), some (.inl (rd h 212 (20 * v3 + 2 * v9)))]) dd_afterMove_145 rfl rfl rfl (Nat.le_of_ble_eq_true rfl) rfl rfl ?_
                exact k
          · replace k := k.2 c11
            refine R_ld (v := .inl (rd h 212 (20 * v3 + 2 * v9))) dd_afterMove_116 rfl rfl rfl rfl ?_
            refine R_ld (v := .inl v2) dd_afterMove_118 rfl rfl rfl rfl ?_
            refine R_icmp dd_afterMove_119 rfl rfl (fun (c14 : v2 ≤ (rd h 212 (20 * v3 + 2 * v9))) => ?_) (fun (c14 : (rd h 212 (20 * v3 + 2 * v9)) < v2) => ?_)
            · replace k := k.1 c14
              refine R_ic dd_afterMove_126 (by decide) rfl ?_
              refine R_st (ls' := [some (.inr (.inr 182)), some (.inl v1), some (.inl v2), some (.inl v3), some (.inl v4), some (.inl v5), some (.inl v6), some (.inl 0), some (.inl v8), some (.inl v9), some (.inl (rd h 212 (20 * v3 + 2 * v9)))]) dd_afterMove_127 rfl rfl rfl (Nat.le_of_ble_eq_true rfl) rfl rfl ?_
              refine R_ld (v := .inl v8) dd_afterMove_129 rfl rfl rfl rfl ?_
              refine R_if dd_afterMove_131 rfl rfl (fun (c15 : v8 ≠ 0) => ?_) (fun (c15 : v8 = 0) => ?_)
              · replace k := k.1 c15
                refine R_ic dd_afterMove_140 (by decide) rfl ?_
                refine R_goto dd_afterMove_141 rfl ?_
                refine R_st (ls' := [some (.inr (.inr 182)), some (.inl v1), some (.inl v2), some (.inl v3), some (.inl v4), some (.inl v5), some (.inl v6), some (.inl 0), some (.inl 1), some (.inl v9), some (.inl (rd h 212 (20 * v3 + 2 * v9)))]) dd_afterMove_145 rfl rfl rfl (Nat.le_of_ble_eq_true rfl) rfl rfl ?_
                exact k
              · replace k := k.2 c15
                refine R_ld (v := .inl (rd h 212 (20 * v3 + 2 * v9))) dd_afterMove_134 rfl rfl rfl rfl ?_
                refine R_ld (v := .inl v2) dd_afterMove_136 rfl rfl rfl rfl ?_
                refine R_icmp dd_afterMove_137 rfl rfl (fun (c16 : v2 ≤ (rd h 212 (20 * v3 + 2 * v9))) => ?_) (fun (c16 : (rd h 212 (20 * v3 + 2 * v9)) < v2) => ?_)
                · skip
                  refine R_ic dd_afterMove_144 (by decide) rfl ?_
                  refine R_st (ls' := [some (.inr (.inr 182)), some (.inl v1), some (.inl v2), some (.inl v3), some (.inl v4), some (.inl v5), some (.inl v6), some (.inl 0), some (.inl 0), some (.inl v9), some (.inl (rd h 212 (20 * v3 + 2 * v9)))]) dd_afterMove_145 rfl rfl rfl (Nat.le_of_ble_eq_true rfl) rfl rfl ?_
                  exact k
                · exact absurd c16 (by omega)
            · replace k := k.2 c14
              refine R_ic dd_afterMove_122 (by decide) rfl ?_
              refine R_goto dd_afterMove_123 rfl ?_
              refine R_st (ls' := [some (.inr (.inr 182)), some (.inl v1), some (.inl v2), some (.inl v3), some (.inl v4), some (.inl v5), some (.inl v6), some (.inl 1), some (.inl v8), some (.inl v9), some (.inl (rd h 212 (20 * v3 + 2 * v9)))]) dd_afterMove_127 rfl rfl rfl (Nat.le_of_ble_eq_true rfl) rfl rfl ?_
              refine R_ld (v := .inl v8) dd_afterMove_129 rfl rfl rfl rfl ?_
              refine R_if dd_afterMove_131 rfl rfl (fun (c17 : v8 ≠ 0) => ?_) (fun (c17 : v8 = 0) => ?_)
              · replace k := k.1 c17
                refine R_ic dd_afterMove_140 (by decide) rfl ?_
                refine R_goto dd_afterMove_141 rfl ?_
                refine R_st (ls' := [some (.inr (.inr 182)), some (.inl v1), some (.inl v2), some (.inl v3), some (.inl v4), some (.inl v5), some (.inl v6), some (.inl 1), some (.inl 1), some (.inl v9), some (.inl (rd h 212 (20 * v3 + 2 * v9)))]) dd_afterMove_145 rfl rfl rfl (Nat.le_of_ble_eq_true rfl) rfl rfl ?_
                exact k
              · replace k := k.2 c17
                refine R_ld (v := .inl (rd h 212 (20 * v3 + 2 * v9))) dd_afterMove_134 rfl rfl rfl rfl ?_
                refine R_ld (v := .inl v2) dd_afterMove_136 rfl rfl rfl rfl ?_
                refine R_icmp dd_afterMove_137 rfl rfl (fun (c18 : v2 ≤ (rd h 212 (20 * v3 + 2 * v9))) => ?_) (fun (c18 : (rd h 212 (20 * v3 + 2 * v9)) < v2) => ?_)
                · exact absurd c18 (by omega)
                · skip
                  refine R_ic dd_afterMove_140 (by decide) rfl ?_
                  refine R_goto dd_afterMove_141 rfl ?_
                  refine R_st (ls' := [some (.inr (.inr 182)), some (.inl v1), some (.inl v2), some (.inl v3), some (.inl v4), some (.inl v5), some (.inl v6), some (.inl 1), some (.inl 1), some (.inl v9), some (.inl (rd h 212 (20 * v3 + 2 * v9)))]) dd_afterMove_145 rfl rfl rfl (Nat.le_of_ble_eq_true rfl) rfl rfl ?_
                  exact k
        · replace k := k.2 c10
          refine R_ld (v := .inr (.inr 182)) dd_afterMove_75 rfl rfl rfl rfl ?_
          refine R_gf (v := .inr (.inr 212)) dd_afterMove_76 fd_12_174 io_182 (congrArg (fun z : Int => (Sum.inr (Sum.inr z) : LV)) (rf_182_51 hF)) rfl ?_
          refine R_bi dd_afterMove_79 (by decide) rfl ?_
          refine R_ld (v := .inl v9) dd_afterMove_81 rfl rfl rfl rfl ?_
          refine R_imul (c := 20 * v9) dd_afterMove_83 (by omega) (by omega) rfl ?_
          refine R_ic dd_afterMove_84 (by decide) rfl ?_
          refine R_ld (v := .inl v4) dd_afterMove_85 rfl rfl rfl rfl ?_
          refine R_imul (c := 2 * v4) dd_afterMove_87 (by omega) (by omega) rfl ?_
          refine R_iadd (c := 20 * v9 + 2 * v4) dd_afterMove_88 (by omega) (by omega) rfl ?_
          refine R_ic dd_afterMove_89 (by decide) rfl ?_
          refine R_iadd (c := 20 * v9 + 2 * v4 + 1) dd_afterMove_90 (by omega) (by omega) rfl ?_
          obtain ⟨s4, k⟩ := k
          refine R_iald (v := (rd h 212 (20 * v9 + 2 * v4 + 1))) (n := 200) dd_afterMove_91 ia_212 la_212 s4 (rfl) rfl ?_
          refine R_goto dd_afterMove_92 rfl ?_
          refine R_st (ls' := [some (.inr (.inr 182)), some (.inl v1), some (.inl v2), some (.inl v3), some (.inl v4), some (.inl v5), some (.inl v6), some (.inl v7), some (.inl v8), some (.inl v9), some (.inl (rd h 212 (20 * v9 + 2 * v4 + 1)))]) dd_afterMove_109 rfl rfl rfl (Nat.le_of_ble_eq_true rfl) rfl rfl ?_
          refine R_ld (v := .inl v7) dd_afterMove_111 rfl rfl rfl rfl ?_
          refine R_if dd_afterMove_113 rfl rfl (fun (c19 : v7 = 0) => ?_) (fun (c19 : v7 ≠ 0) => ?_)
          · replace k := k.1 c19
            refine R_ic dd_afterMove_126 (by decide) rfl ?_
            refine R_st (ls' := [some (.inr (.inr 182)), some (.inl v1), some (.inl v2), some (.inl v3), some (.inl v4), some (.inl v5), some (.inl v6), some (.inl 0), some (.inl v8), some (.inl v9), some (.inl (rd h 212 (20 * v9 + 2 * v4 + 1)))]) dd_afterMove_127 rfl rfl rfl (Nat.le_of_ble_eq_true rfl) rfl rfl ?_
            refine R_ld (v := .inl v8) dd_afterMove_129 rfl rfl rfl rfl ?_
            refine R_if dd_afterMove_131 rfl rfl (fun (c20 : v8 ≠ 0) => ?_) (fun (c20 : v8 = 0) => ?_)
            · replace k := k.1 c20
              refine R_ic dd_afterMove_140 (by decide) rfl ?_
              refine R_goto dd_afterMove_141 rfl ?_
              refine R_st (ls' := [some (.inr (.inr 182)), some (.inl v1), some (.inl v2), some (.inl v3), some (.inl v4), some (.inl v5), some (.inl v6), some (.inl 0), some (.inl 1), some (.inl v9), some (.inl (rd h 212 (20 * v9 + 2 * v4 + 1)))]) dd_afterMove_145 rfl rfl rfl (Nat.le_of_ble_eq_true rfl) rfl rfl ?_
              exact k
            · replace k := k.2 c20
              refine R_ld (v := .inl (rd h 212 (20 * v9 + 2 * v4 + 1))) dd_afterMove_134 rfl rfl rfl rfl ?_
              refine R_ld (v := .inl v2) dd_afterMove_136 rfl rfl rfl rfl ?_
              refine R_icmp dd_afterMove_137 rfl rfl (fun (c21 : v2 ≤ (rd h 212 (20 * v9 + 2 * v4 + 1))) => ?_) (fun (c21 : (rd h 212 (20 * v9 + 2 * v4 + 1)) < v2) => ?_)
              · replace k := k.1 c21
                refine R_ic dd_afterMove_144 (by decide) rfl ?_
                refine R_st (ls' := [some (.inr (.inr 182)), some (.inl v1), some (.inl v2), some (.inl v3), some (.inl v4), some (.inl v5), some (.inl v6), some (.inl 0), some (.inl 0), some (.inl v9), some (.inl (rd h 212 (20 * v9 + 2 * v4 + 1)))]) dd_afterMove_145 rfl rfl rfl (Nat.le_of_ble_eq_true rfl) rfl rfl ?_
                exact k
              · replace k := k.2 c21
                refine R_ic dd_afterMove_140 (by decide) rfl ?_
                refine R_goto dd_afterMove_141 rfl ?_
                refine R_st (ls' := [some (.inr (.inr 182)), some (.inl v1), some (.inl v2), some (.inl v3), some (.inl v4), some (.inl v5), some (.inl v6), some (.inl 0), some (.inl 1), some (.inl v9), some (.inl (rd h 212 (20 * v9 + 2 * v4 + 1)))]) dd_afterMove_145 rfl rfl rfl (Nat.le_of_ble_eq_true rfl) rfl rfl ?_
                exact k
          · replace k := k.2 c19
            refine R_ld (v := .inl (rd h 212 (20 * v9 + 2 * v4 + 1))) dd_afterMove_116 rfl rfl rfl rfl ?_
            refine R_ld (v := .inl v2) dd_afterMove_118 rfl rfl rfl rfl ?_
            refine R_icmp dd_afterMove_119 rfl rfl (fun (c22 : v2 ≤ (rd h 212 (20 * v9 + 2 * v4 + 1))) => ?_) (fun (c22 : (rd h 212 (20 * v9 + 2 * v4 + 1)) < v2) => ?_)
            · replace k := k.1 c22
              refine R_ic dd_afterMove_126 (by decide) rfl ?_
              refine R_st (ls' := [some (.inr (.inr 182)), some (.inl v1), some (.inl v2), some (.inl v3), some (.inl v4), some (.inl v5), some (.inl v6), some (.inl 0), some (.inl v8), some (.inl v9), some (.inl (rd h 212 (20 * v9 + 2 * v4 + 1)))]) dd_afterMove_127 rfl rfl rfl (Nat.le_of_ble_eq_true rfl) rfl rfl ?_
              refine R_ld (v := .inl v8) dd_afterMove_129 rfl rfl rfl rfl ?_
              refine R_if dd_afterMove_131 rfl rfl (fun (c23 : v8 ≠ 0) => ?_) (fun (c23 : v8 = 0) => ?_)
              · replace k := k.1 c23
                refine R_ic dd_afterMove_140 (by decide) rfl ?_
                refine R_goto dd_afterMove_141 rfl ?_
                refine R_st (ls' := [some (.inr (.inr 182)), some (.inl v1), some (.inl v2), some (.inl v3), some (.inl v4), some (.inl v5), some (.inl v6), some (.inl 0), some (.inl 1), some (.inl v9), some (.inl (rd h 212 (20 * v9 + 2 * v4 + 1)))]) dd_afterMove_145 rfl rfl rfl (Nat.le_of_ble_eq_true rfl) rfl rfl ?_
                exact k
              · replace k := k.2 c23
                refine R_ld (v := .inl (rd h 212 (20 * v9 + 2 * v4 + 1))) dd_afterMove_134 rfl rfl rfl rfl ?_
                refine R_ld (v := .inl v2) dd_afterMove_136 rfl rfl rfl rfl ?_
                refine R_icmp dd_afterMove_137 rfl rfl (fun (c24 : v2 ≤ (rd h 212 (20 * v9 + 2 * v4 + 1))) => ?_) (fun (c24 : (rd h 212 (20 * v9 + 2 * v4 + 1)) < v2) => ?_)
                · skip
                  refine R_ic dd_afterMove_144 (by decide) rfl ?_
                  refine R_st (ls' := [some (.inr (.inr 182)), some (.inl v1), some (.inl v2), some (.inl v3), some (.inl v4), some (.inl v5), some (.inl v6), some (.inl 0), some (.inl 0), some (.inl v9), some (.inl (rd h 212 (20 * v9 + 2 * v4 + 1)))]) dd_afterMove_145 rfl rfl rfl (Nat.le_of_ble_eq_true rfl) rfl rfl ?_
                  exact k
                · exact absurd c24 (by omega)
            · replace k := k.2 c22
              refine R_ic dd_afterMove_122 (by decide) rfl ?_
              refine R_goto dd_afterMove_123 rfl ?_
              refine R_st (ls' := [some (.inr (.inr 182)), some (.inl v1), some (.inl v2), some (.inl v3), some (.inl v4), some (.inl v5), some (.inl v6), some (.inl 1), some (.inl v8), some (.inl v9), some (.inl (rd h 212 (20 * v9 + 2 * v4 + 1)))]) dd_afterMove_127 rfl rfl rfl (Nat.le_of_ble_eq_true rfl) rfl rfl ?_
              refine R_ld (v := .inl v8) dd_afterMove_129 rfl rfl rfl rfl ?_
              refine R_if dd_afterMove_131 rfl rfl (fun (c25 : v8 ≠ 0) => ?_) (fun (c25 : v8 = 0) => ?_)
              · replace k := k.1 c25
                refine R_ic dd_afterMove_140 (by decide) rfl ?_
                refine R_goto dd_afterMove_141 rfl ?_
                refine R_st (ls' := [some (.inr (.inr 182)), some (.inl v1), some (.inl v2), some (.inl v3), some (.inl v4), some (.inl v5), some (.inl v6), some (.inl 1), some (.inl 1), some (.inl v9), some (.inl (rd h 212 (20 * v9 + 2 * v4 + 1)))]) dd_afterMove_145 rfl rfl rfl (Nat.le_of_ble_eq_true rfl) rfl rfl ?_
                exact k
              · replace k := k.2 c25
                refine R_ld (v := .inl (rd h 212 (20 * v9 + 2 * v4 + 1))) dd_afterMove_134 rfl rfl rfl rfl ?_
                refine R_ld (v := .inl v2) dd_afterMove_136 rfl rfl rfl rfl ?_
                refine R_icmp dd_afterMove_137 rfl rfl (fun (c26 : v2 ≤ (rd h 212 (20 * v9 + 2 * v4 + 1))) => ?_) (fun (c26 : (rd h 212 (20 * v9 + 2 * v4 + 1)) < v2) => ?_)
                · exact absurd c26 (by omega)
                · skip
                  refine R_ic dd_afterMove_140 (by decide) rfl ?_
                  refine R_goto dd_afterMove_141 rfl ?_
                  refine R_st (ls' := [some (.inr (.inr 182)), some (.inl v1), some (.inl v2), some (.inl v3), some (.inl v4), some (.inl v5), some (.inl v6), some (.inl 1), some (.inl 1), some (.inl v9), some (.inl (rd h 212 (20 * v9 + 2 * v4 + 1)))]) dd_afterMove_145 rfl rfl rfl (Nat.le_of_ble_eq_true rfl) rfl rfl ?_
                  exact k
theorem B_afterMove_147 {xs : Nat → Int} {xl e : Nat} {h : LH} {Q : Option LV → LH → Prop} {v1 v2 v3 v4 v5 v6 v7 v8 v9 : Int} {o10 : Option LV} (hF : RF h) (r_v9 : 0 ≤ v9 ∧ v9 ≤ 9)
    (k : Rn xs xl e mm_afterMove 50 [some (.inr (.inr 182)), some (.inl v1), some (.inl v2), some (.inl v3), some (.inl v4), some (.inl v5), some (.inl v6), some (.inl v7), some (.inl v8), some (.inl (v9 + 1)), o10] [] h Q) :
    Rn xs xl e mm_afterMove 147 [some (.inr (.inr 182)), some (.inl v1), some (.inl v2), some (.inl v3), some (.inl v4), some (.inl v5), some (.inl v6), some (.inl v7), some (.inl v8), some (.inl v9), o10] [] h Q := by
  refine R_inc (y := v9 + 1) (ls' := [some (.inr (.inr 182)), some (.inl v1), some (.inl v2), some (.inl v3), some (.inl v4), some (.inl v5), some (.inl v6), some (.inl v7), some (.inl v8), some (.inl (v9 + 1)), o10]) dd_afterMove_147 rfl (by decide) (by omega) (by omega) rfl rfl ?_
  refine R_goto dd_afterMove_150 rfl ?_
  exact k
