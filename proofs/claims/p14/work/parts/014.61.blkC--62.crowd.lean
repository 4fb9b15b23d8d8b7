section
/-! LM, by program (wip/p2/hand.py): rows of crowd -/
def mm_comes : LM_M := (⟨"OneSidedModel", "comes", "(II)V"⟩, prog_14_method_91_code, 3, none, 12, 3, 0, 1745, 1744, 1000120)
def mm_spreads : LM_M := (⟨"OneSidedModel", "spreads", "(III)V"⟩, prog_14_method_92_code, 8, none, 12, 4, 0, 1749, 1748, 1000121)
def mm_goesBack : LM_M := (⟨"OneSidedModel", "goesBack", "(I)I"⟩, prog_14_method_94_code, 6, (some .int), 12, 2, 0, 1757, 1756, 1000123)
def mm_isMore : LM_M := (⟨"OneSidedModel", "isMore", "(III)Z"⟩, prog_14_method_93_code, 5, (some .boolean), 12, 4, 0, 1741, 1740, 1000119)
def mm_crowd : LM_M := (⟨"OneSidedModel", "crowd", "(III)I"⟩, prog_14_method_95_code, 5, (some .int), 12, 4, 0, 1737, 1735, 1736)
def mm_isRoom : LM_M := (⟨"OneSidedModel", "isRoom", "(I)Z"⟩, prog_14_method_51_code, 2, (some .boolean), 12, 2, 0, 1583, 1582, 1000097)
theorem dd_comes_0 : decode mm_comes.2.1 0 = .ok (.aload_n 0, 1) := by decide +kernel
theorem dd_comes_1 : decode mm_comes.2.1 1 = .ok (.getfield 156, 3) := by decide +kernel
theorem fd_12_156 : fld 12 156 = some (12, 40) := by decide +kernel
theorem rf_182_40 {h : LH} (hF : RF h) : rd h 182 40 = 206 := hF 182 40 206 (by decide +kernel) (by decide +kernel)
theorem dd_comes_4 : decode mm_comes.2.1 4 = .ok (.iload_n 1, 1) := by decide +kernel
theorem dd_comes_5 : decode mm_comes.2.1 5 = .ok (.iaload, 1) := by decide +kernel
theorem ia_206 : isA NC 206 1 = true := by decide +kernel
theorem la_206 : (lay (206 : Int).toNat).2.2 = 250 := by decide +kernel
theorem dd_comes_6 : decode mm_comes.2.1 6 = .ok (.iconst (-1), 1) := by decide +kernel
theorem dd_comes_7 : decode mm_comes.2.1 7 = .ok (.if_icmp .ne (30), 3) := by decide +kernel
theorem dd_comes_37 : decode mm_comes.2.1 37 = .ok (.return_, 1) := by decide +kernel
theorem dd_comes_10 : decode mm_comes.2.1 10 = .ok (.aload_n 0, 1) := by decide +kernel
theorem dd_comes_11 : decode mm_comes.2.1 11 = .ok (.getfield 156, 3) := by decide +kernel
theorem dd_comes_14 : decode mm_comes.2.1 14 = .ok (.iload_n 1, 1) := by decide +kernel
theorem dd_comes_15 : decode mm_comes.2.1 15 = .ok (.iload_n 2, 1) := by decide +kernel
theorem dd_comes_16 : decode mm_comes.2.1 16 = .ok (.iastore, 1) := by decide +kernel
theorem dd_comes_17 : decode mm_comes.2.1 17 = .ok (.aload_n 0, 1) := by decide +kernel
theorem dd_comes_18 : decode mm_comes.2.1 18 = .ok (.getfield 159, 3) := by decide +kernel
theorem fd_12_159 : fld 12 159 = some (12, 41) := by decide +kernel
theorem rf_182_41 {h : LH} (hF : RF h) : rd h 182 41 = 207 := hF 182 41 207 (by decide +kernel) (by decide +kernel)
theorem dd_comes_21 : decode mm_comes.2.1 21 = .ok (.aload_n 0, 1) := by decide +kernel
theorem dd_comes_22 : decode mm_comes.2.1 22 = .ok (.getfield 438, 3) := by decide +kernel
theorem fd_12_438 : fld 12 438 = some (12, 42) := by decide +kernel
theorem dd_comes_25 : decode mm_comes.2.1 25 = .ok (.iload_n 1, 1) := by decide +kernel
theorem dd_comes_26 : decode mm_comes.2.1 26 = .ok (.iastore, 1) := by decide +kernel
theorem ia_207 : isA NC 207 1 = true := by decide +kernel
theorem la_207 : (lay (207 : Int).toNat).2.2 = 250 := by decide +kernel
theorem dd_comes_27 : decode mm_comes.2.1 27 = .ok (.aload_n 0, 1) := by decide +kernel
theorem dd_comes_28 : decode mm_comes.2.1 28 = .ok (.dup, 1) := by decide +kernel
theorem dd_comes_29 : decode mm_comes.2.1 29 = .ok (.getfield 438, 3) := by decide +kernel
theorem dd_comes_32 : decode mm_comes.2.1 32 = .ok (.iconst 1, 1) := by decide +kernel
theorem dd_comes_33 : decode mm_comes.2.1 33 = .ok (.iadd, 1) := by decide +kernel
theorem dd_comes_34 : decode mm_comes.2.1 34 = .ok (.putfield 438, 3) := by decide +kernel
theorem fn_12_42 : fin 12 42 = false := by decide +kernel
theorem dd_spreads_0 : decode mm_spreads.2.1 0 = .ok (.iload_n 1, 1) := by decide +kernel
theorem dd_spreads_1 : decode mm_spreads.2.1 1 = .ok (.bipush 10, 2) := by decide +kernel
theorem dd_spreads_3 : decode mm_spreads.2.1 3 = .ok (.irem, 1) := by decide +kernel
theorem dd_spreads_4 : decode mm_spreads.2.1 4 = .ok (.istore 4, 2) := by decide +kernel
theorem dd_spreads_6 : decode mm_spreads.2.1 6 = .ok (.iload_n 1, 1) := by decide +kernel
theorem dd_spreads_7 : decode mm_spreads.2.1 7 = .ok (.bipush 10, 2) := by decide +kernel
theorem dd_spreads_9 : decode mm_spreads.2.1 9 = .ok (.idiv, 1) := by decide +kernel
theorem dd_spreads_10 : decode mm_spreads.2.1 10 = .ok (.istore 5, 2) := by decide +kernel
theorem dd_spreads_12 : decode mm_spreads.2.1 12 = .ok (.iload 5, 2) := by decide +kernel
theorem dd_spreads_14 : decode mm_spreads.2.1 14 = .ok (.iload_n 3, 1) := by decide +kernel
theorem dd_spreads_15 : decode mm_spreads.2.1 15 = .ok (.if_icmp .gt (14), 3) := by decide +kernel
theorem dd_spreads_29 : decode mm_spreads.2.1 29 = .ok (.iconst 0, 1) := by decide +kernel
theorem dd_spreads_30 : decode mm_spreads.2.1 30 = .ok (.istore 6, 2) := by decide +kernel
theorem dd_spreads_18 : decode mm_spreads.2.1 18 = .ok (.aload_n 0, 1) := by decide +kernel
theorem dd_spreads_19 : decode mm_spreads.2.1 19 = .ok (.iload_n 1, 1) := by decide +kernel
theorem dd_spreads_20 : decode mm_spreads.2.1 20 = .ok (.bipush 10, 2) := by decide +kernel
theorem dd_spreads_22 : decode mm_spreads.2.1 22 = .ok (.iadd, 1) := by decide +kernel
theorem dd_spreads_23 : decode mm_spreads.2.1 23 = .ok (.sipush 400, 3) := by decide +kernel
theorem dd_spreads_26 : decode mm_spreads.2.1 26 = .ok (.invokevirtual 441, 3) := by decide +kernel
theorem cw_12_441 : cwOk 12 441 0 245 3 3 12 = true := by decide +kernel
theorem mt_comes : MTB 245 = some mm_comes := rfl
theorem dd_spreads_32 : decode mm_spreads.2.1 32 = .ok (.iload 6, 2) := by decide +kernel
theorem dd_spreads_34 : decode mm_spreads.2.1 34 = .ok (.aload_n 0, 1) := by decide +kernel
theorem dd_spreads_35 : decode mm_spreads.2.1 35 = .ok (.invokevirtual 335, 3) := by decide +kernel
theorem dd_spreads_38 : decode mm_spreads.2.1 38 = .ok (.if_icmp .ge (72), 3) := by decide +kernel
theorem dd_spreads_41 : decode mm_spreads.2.1 41 = .ok (.iload 5, 2) := by decide +kernel
theorem dd_spreads_43 : decode mm_spreads.2.1 43 = .ok (.iload_n 3, 1) := by decide +kernel
theorem dd_spreads_44 : decode mm_spreads.2.1 44 = .ok (.if_icmp .gt (66), 3) := by decide +kernel
theorem dd_spreads_47 : decode mm_spreads.2.1 47 = .ok (.aload_n 0, 1) := by decide +kernel
theorem dd_spreads_48 : decode mm_spreads.2.1 48 = .ok (.iload 6, 2) := by decide +kernel
theorem dd_spreads_50 : decode mm_spreads.2.1 50 = .ok (.iload 4, 2) := by decide +kernel
theorem dd_spreads_52 : decode mm_spreads.2.1 52 = .ok (.iload 5, 2) := by decide +kernel
theorem dd_spreads_54 : decode mm_spreads.2.1 54 = .ok (.invokevirtual 444, 3) := by decide +kernel
theorem cw_12_444 : cwOk 12 444 0 247 4 4 12 = true := by decide +kernel
theorem mt_toOf : MTB 247 = some mm_toOf := rfl
theorem dd_spreads_57 : decode mm_spreads.2.1 57 = .ok (.istore 7, 2) := by decide +kernel
theorem dd_spreads_59 : decode mm_spreads.2.1 59 = .ok (.iload 7, 2) := by decide +kernel
theorem dd_spreads_61 : decode mm_spreads.2.1 61 = .ok (.ifCond .lt (43), 3) := by decide +kernel
theorem dd_spreads_64 : decode mm_spreads.2.1 64 = .ok (.aload_n 0, 1) := by decide +kernel
theorem dd_spreads_65 : decode mm_spreads.2.1 65 = .ok (.getfield 150, 3) := by decide +kernel
theorem fd_12_150 : fld 12 150 = some (12, 38) := by decide +kernel
theorem rf_182_38 {h : LH} (hF : RF h) : rd h 182 38 = 204 := hF 182 38 204 (by decide +kernel) (by decide +kernel)
theorem dd_spreads_68 : decode mm_spreads.2.1 68 = .ok (.bipush 14, 2) := by decide +kernel
theorem dd_spreads_70 : decode mm_spreads.2.1 70 = .ok (.iload 5, 2) := by decide +kernel
theorem dd_spreads_72 : decode mm_spreads.2.1 72 = .ok (.imul, 1) := by decide +kernel
theorem dd_spreads_73 : decode mm_spreads.2.1 73 = .ok (.iload 6, 2) := by decide +kernel
theorem dd_spreads_75 : decode mm_spreads.2.1 75 = .ok (.iadd, 1) := by decide +kernel
theorem dd_spreads_76 : decode mm_spreads.2.1 76 = .ok (.iaload, 1) := by decide +kernel
theorem ia_204 : isA NC 204 1 = true := by decide +kernel
theorem la_204 : (lay (204 : Int).toNat).2.2 = 336 := by decide +kernel
theorem dd_spreads_77 : decode mm_spreads.2.1 77 = .ok (.aload_n 0, 1) := by decide +kernel
theorem dd_spreads_78 : decode mm_spreads.2.1 78 = .ok (.iload 6, 2) := by decide +kernel
theorem dd_spreads_80 : decode mm_spreads.2.1 80 = .ok (.bipush 6, 2) := by decide +kernel
theorem dd_spreads_82 : decode mm_spreads.2.1 82 = .ok (.invokevirtual 347, 3) := by decide +kernel
theorem dd_spreads_85 : decode mm_spreads.2.1 85 = .ok (.if_icmp .ge (19), 3) := by decide +kernel
theorem dd_spreads_88 : decode mm_spreads.2.1 88 = .ok (.aload_n 0, 1) := by decide +kernel
theorem dd_spreads_89 : decode mm_spreads.2.1 89 = .ok (.bipush 10, 2) := by decide +kernel
theorem dd_spreads_91 : decode mm_spreads.2.1 91 = .ok (.iload 5, 2) := by decide +kernel
theorem dd_spreads_93 : decode mm_spreads.2.1 93 = .ok (.iconst 1, 1) := by decide +kernel
theorem dd_spreads_94 : decode mm_spreads.2.1 94 = .ok (.iadd, 1) := by decide +kernel
theorem dd_spreads_95 : decode mm_spreads.2.1 95 = .ok (.imul, 1) := by decide +kernel
theorem dd_spreads_96 : decode mm_spreads.2.1 96 = .ok (.iload 7, 2) := by decide +kernel
theorem dd_spreads_98 : decode mm_spreads.2.1 98 = .ok (.iadd, 1) := by decide +kernel
theorem dd_spreads_99 : decode mm_spreads.2.1 99 = .ok (.iload 6, 2) := by decide +kernel
theorem dd_spreads_101 : decode mm_spreads.2.1 101 = .ok (.invokevirtual 441, 3) := by decide +kernel
theorem dd_spreads_104 : decode mm_spreads.2.1 104 = .ok (.iinc 6 1, 3) := by decide +kernel
theorem dd_spreads_107 : decode mm_spreads.2.1 107 = .ok (.goto (-75), 3) := by decide +kernel
theorem dd_spreads_110 : decode mm_spreads.2.1 110 = .ok (.iload 5, 2) := by decide +kernel
theorem dd_spreads_112 : decode mm_spreads.2.1 112 = .ok (.iload_n 2, 1) := by decide +kernel
theorem dd_spreads_113 : decode mm_spreads.2.1 113 = .ok (.if_icmp .le (26), 3) := by decide +kernel
theorem dd_spreads_139 : decode mm_spreads.2.1 139 = .ok (.iconst 0, 1) := by decide +kernel
theorem dd_spreads_140 : decode mm_spreads.2.1 140 = .ok (.istore 6, 2) := by decide +kernel
theorem dd_spreads_116 : decode mm_spreads.2.1 116 = .ok (.aload_n 0, 1) := by decide +kernel
theorem dd_spreads_117 : decode mm_spreads.2.1 117 = .ok (.getfield 153, 3) := by decide +kernel
theorem fd_12_153 : fld 12 153 = some (12, 39) := by decide +kernel
theorem rf_182_39 {h : LH} (hF : RF h) : rd h 182 39 = 205 := hF 182 39 205 (by decide +kernel) (by decide +kernel)
theorem dd_spreads_120 : decode mm_spreads.2.1 120 = .ok (.iload_n 1, 1) := by decide +kernel
theorem dd_spreads_121 : decode mm_spreads.2.1 121 = .ok (.bipush 10, 2) := by decide +kernel
theorem dd_spreads_123 : decode mm_spreads.2.1 123 = .ok (.isub, 1) := by decide +kernel
theorem dd_spreads_124 : decode mm_spreads.2.1 124 = .ok (.iaload, 1) := by decide +kernel
theorem ia_205 : isA NC 205 1 = true := by decide +kernel
theorem la_205 : (lay (205 : Int).toNat).2.2 = 250 := by decide +kernel
theorem dd_spreads_125 : decode mm_spreads.2.1 125 = .ok (.ifCond .le (14), 3) := by decide +kernel
theorem dd_spreads_128 : decode mm_spreads.2.1 128 = .ok (.aload_n 0, 1) := by decide +kernel
theorem dd_spreads_129 : decode mm_spreads.2.1 129 = .ok (.iload_n 1, 1) := by decide +kernel
theorem dd_spreads_130 : decode mm_spreads.2.1 130 = .ok (.bipush 10, 2) := by decide +kernel
theorem dd_spreads_132 : decode mm_spreads.2.1 132 = .ok (.isub, 1) := by decide +kernel
theorem dd_spreads_133 : decode mm_spreads.2.1 133 = .ok (.sipush 1200, 3) := by decide +kernel
theorem dd_spreads_136 : decode mm_spreads.2.1 136 = .ok (.invokevirtual 441, 3) := by decide +kernel
theorem dd_spreads_142 : decode mm_spreads.2.1 142 = .ok (.iload 6, 2) := by decide +kernel
theorem dd_spreads_144 : decode mm_spreads.2.1 144 = .ok (.aload_n 0, 1) := by decide +kernel
theorem dd_spreads_145 : decode mm_spreads.2.1 145 = .ok (.invokevirtual 335, 3) := by decide +kernel
theorem dd_spreads_148 : decode mm_spreads.2.1 148 = .ok (.if_icmp .ge (101), 3) := by decide +kernel
theorem dd_spreads_249 : decode mm_spreads.2.1 249 = .ok (.return_, 1) := by decide +kernel
theorem dd_spreads_151 : decode mm_spreads.2.1 151 = .ok (.iload 5, 2) := by decide +kernel
theorem dd_spreads_153 : decode mm_spreads.2.1 153 = .ok (.iload_n 2, 1) := by decide +kernel
theorem dd_spreads_154 : decode mm_spreads.2.1 154 = .ok (.if_icmp .le (95), 3) := by decide +kernel
theorem dd_spreads_157 : decode mm_spreads.2.1 157 = .ok (.aload_n 0, 1) := by decide +kernel
theorem dd_spreads_158 : decode mm_spreads.2.1 158 = .ok (.iload 6, 2) := by decide +kernel
theorem dd_spreads_160 : decode mm_spreads.2.1 160 = .ok (.iconst 1, 1) := by decide +kernel
theorem dd_spreads_161 : decode mm_spreads.2.1 161 = .ok (.invokevirtual 347, 3) := by decide +kernel
theorem dd_spreads_164 : decode mm_spreads.2.1 164 = .ok (.iload 4, 2) := by decide +kernel
theorem dd_spreads_166 : decode mm_spreads.2.1 166 = .ok (.if_icmp .ne (13), 3) := by decide +kernel
theorem dd_spreads_179 : decode mm_spreads.2.1 179 = .ok (.aload_n 0, 1) := by decide +kernel
theorem dd_spreads_180 : decode mm_spreads.2.1 180 = .ok (.iload 6, 2) := by decide +kernel
theorem dd_spreads_182 : decode mm_spreads.2.1 182 = .ok (.iconst 1, 1) := by decide +kernel
theorem dd_spreads_183 : decode mm_spreads.2.1 183 = .ok (.invokevirtual 347, 3) := by decide +kernel
theorem dd_spreads_186 : decode mm_spreads.2.1 186 = .ok (.istore 7, 2) := by decide +kernel
theorem dd_spreads_188 : decode mm_spreads.2.1 188 = .ok (.aload_n 0, 1) := by decide +kernel
theorem dd_spreads_189 : decode mm_spreads.2.1 189 = .ok (.getfield 150, 3) := by decide +kernel
theorem dd_spreads_192 : decode mm_spreads.2.1 192 = .ok (.bipush 14, 2) := by decide +kernel
theorem dd_spreads_194 : decode mm_spreads.2.1 194 = .ok (.iload 5, 2) := by decide +kernel
theorem dd_spreads_196 : decode mm_spreads.2.1 196 = .ok (.iconst 1, 1) := by decide +kernel
theorem dd_spreads_197 : decode mm_spreads.2.1 197 = .ok (.isub, 1) := by decide +kernel
theorem dd_spreads_198 : decode mm_spreads.2.1 198 = .ok (.imul, 1) := by decide +kernel
theorem dd_spreads_199 : decode mm_spreads.2.1 199 = .ok (.iload 6, 2) := by decide +kernel
theorem dd_spreads_201 : decode mm_spreads.2.1 201 = .ok (.iadd, 1) := by decide +kernel
theorem dd_spreads_202 : decode mm_spreads.2.1 202 = .ok (.iaload, 1) := by decide +kernel
theorem dd_spreads_203 : decode mm_spreads.2.1 203 = .ok (.ifCond .le (40), 3) := by decide +kernel
theorem dd_spreads_206 : decode mm_spreads.2.1 206 = .ok (.aload_n 0, 1) := by decide +kernel
theorem dd_spreads_207 : decode mm_spreads.2.1 207 = .ok (.iload 6, 2) := by decide +kernel
theorem dd_spreads_209 : decode mm_spreads.2.1 209 = .ok (.iload 7, 2) := by decide +kernel
theorem dd_spreads_211 : decode mm_spreads.2.1 211 = .ok (.iload 5, 2) := by decide +kernel
theorem dd_spreads_213 : decode mm_spreads.2.1 213 = .ok (.iconst 1, 1) := by decide +kernel
theorem dd_spreads_214 : decode mm_spreads.2.1 214 = .ok (.isub, 1) := by decide +kernel
theorem dd_spreads_215 : decode mm_spreads.2.1 215 = .ok (.invokevirtual 444, 3) := by decide +kernel
theorem dd_spreads_169 : decode mm_spreads.2.1 169 = .ok (.aload_n 0, 1) := by decide +kernel
theorem dd_spreads_170 : decode mm_spreads.2.1 170 = .ok (.iload 6, 2) := by decide +kernel
theorem dd_spreads_172 : decode mm_spreads.2.1 172 = .ok (.iconst 2, 1) := by decide +kernel
theorem dd_spreads_173 : decode mm_spreads.2.1 173 = .ok (.invokevirtual 347, 3) := by decide +kernel
theorem dd_spreads_176 : decode mm_spreads.2.1 176 = .ok (.goto 10, 3) := by decide +kernel
theorem dd_spreads_218 : decode mm_spreads.2.1 218 = .ok (.iload 4, 2) := by decide +kernel
theorem dd_spreads_220 : decode mm_spreads.2.1 220 = .ok (.if_icmp .ne (23), 3) := by decide +kernel
theorem dd_spreads_223 : decode mm_spreads.2.1 223 = .ok (.aload_n 0, 1) := by decide +kernel
theorem dd_spreads_224 : decode mm_spreads.2.1 224 = .ok (.bipush 10, 2) := by decide +kernel
theorem dd_spreads_226 : decode mm_spreads.2.1 226 = .ok (.iload 5, 2) := by decide +kernel
theorem dd_spreads_228 : decode mm_spreads.2.1 228 = .ok (.iconst 1, 1) := by decide +kernel
theorem dd_spreads_229 : decode mm_spreads.2.1 229 = .ok (.isub, 1) := by decide +kernel
theorem dd_spreads_230 : decode mm_spreads.2.1 230 = .ok (.imul, 1) := by decide +kernel
theorem dd_spreads_231 : decode mm_spreads.2.1 231 = .ok (.iload 7, 2) := by decide +kernel
theorem dd_spreads_233 : decode mm_spreads.2.1 233 = .ok (.iadd, 1) := by decide +kernel
theorem dd_spreads_234 : decode mm_spreads.2.1 234 = .ok (.sipush 800, 3) := by decide +kernel
theorem dd_spreads_237 : decode mm_spreads.2.1 237 = .ok (.iload 6, 2) := by decide +kernel
theorem dd_spreads_239 : decode mm_spreads.2.1 239 = .ok (.iadd, 1) := by decide +kernel
theorem dd_spreads_240 : decode mm_spreads.2.1 240 = .ok (.invokevirtual 441, 3) := by decide +kernel
theorem dd_spreads_243 : decode mm_spreads.2.1 243 = .ok (.iinc 6 1, 3) := by decide +kernel
theorem dd_spreads_246 : decode mm_spreads.2.1 246 = .ok (.goto (-104), 3) := by decide +kernel
theorem dd_goesBack_0 : decode mm_goesBack.2.1 0 = .ok (.aload_n 0, 1) := by decide +kernel
theorem dd_goesBack_1 : decode mm_goesBack.2.1 1 = .ok (.getfield 156, 3) := by decide +kernel
theorem dd_goesBack_4 : decode mm_goesBack.2.1 4 = .ok (.iload_n 1, 1) := by decide +kernel
theorem dd_goesBack_5 : decode mm_goesBack.2.1 5 = .ok (.iaload, 1) := by decide +kernel
theorem dd_goesBack_6 : decode mm_goesBack.2.1 6 = .ok (.istore_n 2, 1) := by decide +kernel
theorem dd_goesBack_7 : decode mm_goesBack.2.1 7 = .ok (.iload_n 1, 1) := by decide +kernel
theorem dd_goesBack_8 : decode mm_goesBack.2.1 8 = .ok (.bipush 10, 2) := by decide +kernel
theorem dd_goesBack_10 : decode mm_goesBack.2.1 10 = .ok (.irem, 1) := by decide +kernel
theorem dd_goesBack_11 : decode mm_goesBack.2.1 11 = .ok (.istore_n 3, 1) := by decide +kernel
theorem dd_goesBack_12 : decode mm_goesBack.2.1 12 = .ok (.iload_n 1, 1) := by decide +kernel
theorem dd_goesBack_13 : decode mm_goesBack.2.1 13 = .ok (.bipush 10, 2) := by decide +kernel
theorem dd_goesBack_15 : decode mm_goesBack.2.1 15 = .ok (.idiv, 1) := by decide +kernel
theorem dd_goesBack_16 : decode mm_goesBack.2.1 16 = .ok (.istore 4, 2) := by decide +kernel
theorem dd_goesBack_18 : decode mm_goesBack.2.1 18 = .ok (.iload_n 2, 1) := by decide +kernel
theorem dd_goesBack_19 : decode mm_goesBack.2.1 19 = .ok (.sipush 400, 3) := by decide +kernel
theorem dd_goesBack_22 : decode mm_goesBack.2.1 22 = .ok (.if_icmp .ne (21), 3) := by decide +kernel
theorem dd_goesBack_43 : decode mm_goesBack.2.1 43 = .ok (.iload_n 2, 1) := by decide +kernel
theorem dd_goesBack_44 : decode mm_goesBack.2.1 44 = .ok (.sipush 1200, 3) := by decide +kernel
theorem dd_goesBack_47 : decode mm_goesBack.2.1 47 = .ok (.if_icmp .ne (18), 3) := by decide +kernel
theorem dd_goesBack_65 : decode mm_goesBack.2.1 65 = .ok (.iload_n 2, 1) := by decide +kernel
theorem dd_goesBack_66 : decode mm_goesBack.2.1 66 = .ok (.sipush 400, 3) := by decide +kernel
theorem dd_goesBack_69 : decode mm_goesBack.2.1 69 = .ok (.if_icmp .ge (55), 3) := by decide +kernel
theorem dd_goesBack_124 : decode mm_goesBack.2.1 124 = .ok (.iload_n 2, 1) := by decide +kernel
theorem dd_goesBack_125 : decode mm_goesBack.2.1 125 = .ok (.sipush 800, 3) := by decide +kernel
theorem dd_goesBack_128 : decode mm_goesBack.2.1 128 = .ok (.isub, 1) := by decide +kernel
theorem dd_goesBack_129 : decode mm_goesBack.2.1 129 = .ok (.istore 5, 2) := by decide +kernel
theorem dd_goesBack_131 : decode mm_goesBack.2.1 131 = .ok (.aload_n 0, 1) := by decide +kernel
theorem dd_goesBack_132 : decode mm_goesBack.2.1 132 = .ok (.getfield 150, 3) := by decide +kernel
theorem dd_goesBack_135 : decode mm_goesBack.2.1 135 = .ok (.bipush 14, 2) := by decide +kernel
theorem dd_goesBack_137 : decode mm_goesBack.2.1 137 = .ok (.iload 4, 2) := by decide +kernel
theorem dd_goesBack_139 : decode mm_goesBack.2.1 139 = .ok (.imul, 1) := by decide +kernel
theorem dd_goesBack_140 : decode mm_goesBack.2.1 140 = .ok (.iload 5, 2) := by decide +kernel
theorem dd_goesBack_142 : decode mm_goesBack.2.1 142 = .ok (.iadd, 1) := by decide +kernel
theorem dd_goesBack_143 : decode mm_goesBack.2.1 143 = .ok (.dup2, 1) := by decide +kernel
theorem dd_goesBack_144 : decode mm_goesBack.2.1 144 = .ok (.iaload, 1) := by decide +kernel
theorem dd_goesBack_145 : decode mm_goesBack.2.1 145 = .ok (.iconst 1, 1) := by decide +kernel
theorem dd_goesBack_146 : decode mm_goesBack.2.1 146 = .ok (.isub, 1) := by decide +kernel
theorem dd_goesBack_147 : decode mm_goesBack.2.1 147 = .ok (.iastore, 1) := by decide +kernel
theorem dd_goesBack_148 : decode mm_goesBack.2.1 148 = .ok (.bipush 10, 2) := by decide +kernel
theorem dd_goesBack_150 : decode mm_goesBack.2.1 150 = .ok (.iload 4, 2) := by decide +kernel
theorem dd_goesBack_152 : decode mm_goesBack.2.1 152 = .ok (.iconst 1, 1) := by decide +kernel
theorem dd_goesBack_153 : decode mm_goesBack.2.1 153 = .ok (.iadd, 1) := by decide +kernel
theorem dd_goesBack_154 : decode mm_goesBack.2.1 154 = .ok (.imul, 1) := by decide +kernel
theorem dd_goesBack_155 : decode mm_goesBack.2.1 155 = .ok (.aload_n 0, 1) := by decide +kernel
theorem dd_goesBack_156 : decode mm_goesBack.2.1 156 = .ok (.iload 5, 2) := by decide +kernel
theorem dd_goesBack_158 : decode mm_goesBack.2.1 158 = .ok (.iload_n 3, 1) := by decide +kernel
theorem dd_goesBack_159 : decode mm_goesBack.2.1 159 = .ok (.iload 4, 2) := by decide +kernel
theorem dd_goesBack_161 : decode mm_goesBack.2.1 161 = .ok (.invokevirtual 444, 3) := by decide +kernel
theorem dd_goesBack_72 : decode mm_goesBack.2.1 72 = .ok (.aload_n 0, 1) := by decide +kernel
theorem dd_goesBack_73 : decode mm_goesBack.2.1 73 = .ok (.getfield 150, 3) := by decide +kernel
theorem dd_goesBack_76 : decode mm_goesBack.2.1 76 = .ok (.bipush 14, 2) := by decide +kernel
theorem dd_goesBack_78 : decode mm_goesBack.2.1 78 = .ok (.iload 4, 2) := by decide +kernel
theorem dd_goesBack_80 : decode mm_goesBack.2.1 80 = .ok (.iconst 1, 1) := by decide +kernel
theorem dd_goesBack_81 : decode mm_goesBack.2.1 81 = .ok (.isub, 1) := by decide +kernel
theorem dd_goesBack_82 : decode mm_goesBack.2.1 82 = .ok (.imul, 1) := by decide +kernel
theorem dd_goesBack_83 : decode mm_goesBack.2.1 83 = .ok (.iload_n 2, 1) := by decide +kernel
theorem dd_goesBack_84 : decode mm_goesBack.2.1 84 = .ok (.iadd, 1) := by decide +kernel
theorem dd_goesBack_85 : decode mm_goesBack.2.1 85 = .ok (.dup2, 1) := by decide +kernel
theorem dd_goesBack_86 : decode mm_goesBack.2.1 86 = .ok (.iaload, 1) := by decide +kernel
theorem dd_goesBack_87 : decode mm_goesBack.2.1 87 = .ok (.iconst 1, 1) := by decide +kernel
theorem dd_goesBack_88 : decode mm_goesBack.2.1 88 = .ok (.iadd, 1) := by decide +kernel
theorem dd_goesBack_89 : decode mm_goesBack.2.1 89 = .ok (.iastore, 1) := by decide +kernel
theorem dd_goesBack_90 : decode mm_goesBack.2.1 90 = .ok (.bipush 10, 2) := by decide +kernel
theorem dd_goesBack_92 : decode mm_goesBack.2.1 92 = .ok (.iload 4, 2) := by decide +kernel
theorem dd_goesBack_94 : decode mm_goesBack.2.1 94 = .ok (.iconst 1, 1) := by decide +kernel
theorem dd_goesBack_95 : decode mm_goesBack.2.1 95 = .ok (.isub, 1) := by decide +kernel
theorem dd_goesBack_96 : decode mm_goesBack.2.1 96 = .ok (.imul, 1) := by decide +kernel
theorem dd_goesBack_97 : decode mm_goesBack.2.1 97 = .ok (.aload_n 0, 1) := by decide +kernel
theorem dd_goesBack_98 : decode mm_goesBack.2.1 98 = .ok (.iload_n 2, 1) := by decide +kernel
theorem dd_goesBack_99 : decode mm_goesBack.2.1 99 = .ok (.iconst 1, 1) := by decide +kernel
theorem dd_goesBack_100 : decode mm_goesBack.2.1 100 = .ok (.invokevirtual 347, 3) := by decide +kernel
theorem dd_goesBack_103 : decode mm_goesBack.2.1 103 = .ok (.iload_n 3, 1) := by decide +kernel
theorem dd_goesBack_104 : decode mm_goesBack.2.1 104 = .ok (.if_icmp .ne (12), 3) := by decide +kernel
theorem dd_goesBack_116 : decode mm_goesBack.2.1 116 = .ok (.aload_n 0, 1) := by decide +kernel
theorem dd_goesBack_117 : decode mm_goesBack.2.1 117 = .ok (.iload_n 2, 1) := by decide +kernel
theorem dd_goesBack_118 : decode mm_goesBack.2.1 118 = .ok (.iconst 1, 1) := by decide +kernel
theorem dd_goesBack_119 : decode mm_goesBack.2.1 119 = .ok (.invokevirtual 347, 3) := by decide +kernel
theorem dd_goesBack_122 : decode mm_goesBack.2.1 122 = .ok (.iadd, 1) := by decide +kernel
theorem dd_goesBack_123 : decode mm_goesBack.2.1 123 = .ok (.ireturn, 1) := by decide +kernel
theorem dd_goesBack_107 : decode mm_goesBack.2.1 107 = .ok (.aload_n 0, 1) := by decide +kernel
theorem dd_goesBack_108 : decode mm_goesBack.2.1 108 = .ok (.iload_n 2, 1) := by decide +kernel
theorem dd_goesBack_109 : decode mm_goesBack.2.1 109 = .ok (.iconst 2, 1) := by decide +kernel
theorem dd_goesBack_110 : decode mm_goesBack.2.1 110 = .ok (.invokevirtual 347, 3) := by decide +kernel
theorem dd_goesBack_113 : decode mm_goesBack.2.1 113 = .ok (.goto 9, 3) := by decide +kernel
theorem dd_goesBack_50 : decode mm_goesBack.2.1 50 = .ok (.aload_n 0, 1) := by decide +kernel
theorem dd_goesBack_51 : decode mm_goesBack.2.1 51 = .ok (.getfield 153, 3) := by decide +kernel
theorem dd_goesBack_54 : decode mm_goesBack.2.1 54 = .ok (.iload_n 1, 1) := by decide +kernel
theorem dd_goesBack_55 : decode mm_goesBack.2.1 55 = .ok (.dup2, 1) := by decide +kernel
theorem dd_goesBack_56 : decode mm_goesBack.2.1 56 = .ok (.iaload, 1) := by decide +kernel
theorem dd_goesBack_57 : decode mm_goesBack.2.1 57 = .ok (.iconst 1, 1) := by decide +kernel
theorem dd_goesBack_58 : decode mm_goesBack.2.1 58 = .ok (.isub, 1) := by decide +kernel
theorem dd_goesBack_59 : decode mm_goesBack.2.1 59 = .ok (.iastore, 1) := by decide +kernel
theorem dd_goesBack_60 : decode mm_goesBack.2.1 60 = .ok (.iload_n 1, 1) := by decide +kernel
theorem dd_goesBack_61 : decode mm_goesBack.2.1 61 = .ok (.bipush 10, 2) := by decide +kernel
theorem dd_goesBack_63 : decode mm_goesBack.2.1 63 = .ok (.iadd, 1) := by decide +kernel
theorem dd_goesBack_64 : decode mm_goesBack.2.1 64 = .ok (.ireturn, 1) := by decide +kernel
theorem dd_goesBack_25 : decode mm_goesBack.2.1 25 = .ok (.aload_n 0, 1) := by decide +kernel
theorem dd_goesBack_26 : decode mm_goesBack.2.1 26 = .ok (.getfield 153, 3) := by decide +kernel
theorem dd_goesBack_29 : decode mm_goesBack.2.1 29 = .ok (.iload_n 1, 1) := by decide +kernel
theorem dd_goesBack_30 : decode mm_goesBack.2.1 30 = .ok (.bipush 10, 2) := by decide +kernel
theorem dd_goesBack_32 : decode mm_goesBack.2.1 32 = .ok (.isub, 1) := by decide +kernel
theorem dd_goesBack_33 : decode mm_goesBack.2.1 33 = .ok (.dup2, 1) := by decide +kernel
theorem dd_goesBack_34 : decode mm_goesBack.2.1 34 = .ok (.iaload, 1) := by decide +kernel
theorem dd_goesBack_35 : decode mm_goesBack.2.1 35 = .ok (.iconst 1, 1) := by decide +kernel
theorem dd_goesBack_36 : decode mm_goesBack.2.1 36 = .ok (.iadd, 1) := by decide +kernel
theorem dd_goesBack_37 : decode mm_goesBack.2.1 37 = .ok (.iastore, 1) := by decide +kernel
theorem dd_goesBack_38 : decode mm_goesBack.2.1 38 = .ok (.iload_n 1, 1) := by decide +kernel
theorem dd_goesBack_39 : decode mm_goesBack.2.1 39 = .ok (.bipush 10, 2) := by decide +kernel
theorem dd_goesBack_41 : decode mm_goesBack.2.1 41 = .ok (.isub, 1) := by decide +kernel
theorem dd_goesBack_42 : decode mm_goesBack.2.1 42 = .ok (.ireturn, 1) := by decide +kernel
theorem dd_goesBack_164 : decode mm_goesBack.2.1 164 = .ok (.iadd, 1) := by decide +kernel
theorem dd_goesBack_165 : decode mm_goesBack.2.1 165 = .ok (.ireturn, 1) := by decide +kernel
theorem dd_isMore_0 : decode mm_isMore.2.1 0 = .ok (.iconst 0, 1) := by decide +kernel
theorem dd_isMore_1 : decode mm_isMore.2.1 1 = .ok (.istore 4, 2) := by decide +kernel
theorem dd_isMore_3 : decode mm_isMore.2.1 3 = .ok (.iload 4, 2) := by decide +kernel
theorem dd_isMore_5 : decode mm_isMore.2.1 5 = .ok (.sipush 250, 3) := by decide +kernel
theorem dd_isMore_8 : decode mm_isMore.2.1 8 = .ok (.if_icmp .ge (17), 3) := by decide +kernel
theorem dd_isMore_25 : decode mm_isMore.2.1 25 = .ok (.aload_n 0, 1) := by decide +kernel
theorem dd_isMore_26 : decode mm_isMore.2.1 26 = .ok (.iconst 0, 1) := by decide +kernel
theorem dd_isMore_27 : decode mm_isMore.2.1 27 = .ok (.putfield 438, 3) := by decide +kernel
theorem dd_isMore_30 : decode mm_isMore.2.1 30 = .ok (.aload_n 0, 1) := by decide +kernel
theorem dd_isMore_31 : decode mm_isMore.2.1 31 = .ok (.iload_n 1, 1) := by decide +kernel
theorem dd_isMore_32 : decode mm_isMore.2.1 32 = .ok (.sipush 2000, 3) := by decide +kernel
theorem dd_isMore_35 : decode mm_isMore.2.1 35 = .ok (.invokevirtual 441, 3) := by decide +kernel
theorem dd_isMore_11 : decode mm_isMore.2.1 11 = .ok (.aload_n 0, 1) := by decide +kernel
theorem dd_isMore_12 : decode mm_isMore.2.1 12 = .ok (.getfield 156, 3) := by decide +kernel
theorem dd_isMore_15 : decode mm_isMore.2.1 15 = .ok (.iload 4, 2) := by decide +kernel
theorem dd_isMore_17 : decode mm_isMore.2.1 17 = .ok (.iconst (-1), 1) := by decide +kernel
theorem dd_isMore_18 : decode mm_isMore.2.1 18 = .ok (.iastore, 1) := by decide +kernel
theorem dd_isMore_19 : decode mm_isMore.2.1 19 = .ok (.iinc 4 1, 3) := by decide +kernel
theorem dd_isMore_22 : decode mm_isMore.2.1 22 = .ok (.goto (-19), 3) := by decide +kernel
theorem dd_isMore_38 : decode mm_isMore.2.1 38 = .ok (.iconst 0, 1) := by decide +kernel
theorem dd_isMore_39 : decode mm_isMore.2.1 39 = .ok (.istore 4, 2) := by decide +kernel
theorem dd_isMore_41 : decode mm_isMore.2.1 41 = .ok (.iload 4, 2) := by decide +kernel
theorem dd_isMore_43 : decode mm_isMore.2.1 43 = .ok (.aload_n 0, 1) := by decide +kernel
theorem dd_isMore_44 : decode mm_isMore.2.1 44 = .ok (.getfield 438, 3) := by decide +kernel
theorem dd_isMore_47 : decode mm_isMore.2.1 47 = .ok (.if_icmp .ge (35), 3) := by decide +kernel
theorem dd_isMore_50 : decode mm_isMore.2.1 50 = .ok (.aload_n 0, 1) := by decide +kernel
theorem dd_isMore_51 : decode mm_isMore.2.1 51 = .ok (.getfield 156, 3) := by decide +kernel
theorem dd_isMore_54 : decode mm_isMore.2.1 54 = .ok (.iload_n 2, 1) := by decide +kernel
theorem dd_isMore_55 : decode mm_isMore.2.1 55 = .ok (.iaload, 1) := by decide +kernel
theorem dd_isMore_56 : decode mm_isMore.2.1 56 = .ok (.iconst (-1), 1) := by decide +kernel
theorem dd_isMore_57 : decode mm_isMore.2.1 57 = .ok (.if_icmp .ne (25), 3) := by decide +kernel
theorem dd_isMore_60 : decode mm_isMore.2.1 60 = .ok (.aload_n 0, 1) := by decide +kernel
theorem dd_isMore_61 : decode mm_isMore.2.1 61 = .ok (.aload_n 0, 1) := by decide +kernel
theorem dd_isMore_62 : decode mm_isMore.2.1 62 = .ok (.getfield 159, 3) := by decide +kernel
theorem dd_isMore_65 : decode mm_isMore.2.1 65 = .ok (.iload 4, 2) := by decide +kernel
theorem dd_isMore_67 : decode mm_isMore.2.1 67 = .ok (.iaload, 1) := by decide +kernel
theorem dd_isMore_68 : decode mm_isMore.2.1 68 = .ok (.iload_n 1, 1) := by decide +kernel
theorem dd_isMore_69 : decode mm_isMore.2.1 69 = .ok (.bipush 10, 2) := by decide +kernel
theorem dd_isMore_71 : decode mm_isMore.2.1 71 = .ok (.idiv, 1) := by decide +kernel
theorem dd_isMore_72 : decode mm_isMore.2.1 72 = .ok (.iload_n 3, 1) := by decide +kernel
theorem dd_isMore_73 : decode mm_isMore.2.1 73 = .ok (.invokevirtual 447, 3) := by decide +kernel
theorem cw_12_447 : cwOk 12 447 0 246 4 8 12 = true := by decide +kernel
theorem mt_spreads : MTB 246 = some mm_spreads := rfl
theorem dd_isMore_76 : decode mm_isMore.2.1 76 = .ok (.iinc 4 1, 3) := by decide +kernel
theorem dd_isMore_79 : decode mm_isMore.2.1 79 = .ok (.goto (-38), 3) := by decide +kernel
theorem dd_isMore_82 : decode mm_isMore.2.1 82 = .ok (.aload_n 0, 1) := by decide +kernel
theorem dd_isMore_83 : decode mm_isMore.2.1 83 = .ok (.getfield 156, 3) := by decide +kernel
theorem dd_isMore_86 : decode mm_isMore.2.1 86 = .ok (.iload_n 2, 1) := by decide +kernel
theorem dd_isMore_87 : decode mm_isMore.2.1 87 = .ok (.iaload, 1) := by decide +kernel
theorem dd_isMore_88 : decode mm_isMore.2.1 88 = .ok (.iconst (-1), 1) := by decide +kernel
theorem dd_isMore_89 : decode mm_isMore.2.1 89 = .ok (.if_icmp .ne (5), 3) := by decide +kernel
theorem dd_isMore_94 : decode mm_isMore.2.1 94 = .ok (.iload_n 2, 1) := by decide +kernel
theorem dd_isMore_95 : decode mm_isMore.2.1 95 = .ok (.istore 4, 2) := by decide +kernel
theorem dd_isMore_92 : decode mm_isMore.2.1 92 = .ok (.iconst 0, 1) := by decide +kernel
theorem dd_isMore_93 : decode mm_isMore.2.1 93 = .ok (.ireturn, 1) := by decide +kernel
theorem dd_isMore_97 : decode mm_isMore.2.1 97 = .ok (.iload 4, 2) := by decide +kernel
theorem dd_isMore_99 : decode mm_isMore.2.1 99 = .ok (.iload_n 1, 1) := by decide +kernel
theorem dd_isMore_100 : decode mm_isMore.2.1 100 = .ok (.if_icmp .eq (14), 3) := by decide +kernel
theorem dd_isMore_114 : decode mm_isMore.2.1 114 = .ok (.iconst 1, 1) := by decide +kernel
theorem dd_isMore_115 : decode mm_isMore.2.1 115 = .ok (.ireturn, 1) := by decide +kernel
theorem dd_isMore_103 : decode mm_isMore.2.1 103 = .ok (.aload_n 0, 1) := by decide +kernel
theorem dd_isMore_104 : decode mm_isMore.2.1 104 = .ok (.iload 4, 2) := by decide +kernel
theorem dd_isMore_106 : decode mm_isMore.2.1 106 = .ok (.invokevirtual 450, 3) := by decide +kernel
theorem cw_12_450 : cwOk 12 450 0 248 2 6 12 = true := by decide +kernel
theorem mt_goesBack : MTB 248 = some mm_goesBack := rfl
theorem dd_isMore_109 : decode mm_isMore.2.1 109 = .ok (.istore 4, 2) := by decide +kernel
theorem dd_isMore_111 : decode mm_isMore.2.1 111 = .ok (.goto (-14), 3) := by decide +kernel
theorem dd_crowd_0 : decode mm_crowd.2.1 0 = .ok (.aload_n 0, 1) := by decide +kernel
theorem dd_crowd_1 : decode mm_crowd.2.1 1 = .ok (.iconst 0, 1) := by decide +kernel
theorem dd_crowd_2 : decode mm_crowd.2.1 2 = .ok (.putfield 1, 3) := by decide +kernel
theorem dd_crowd_5 : decode mm_crowd.2.1 5 = .ok (.aload_n 0, 1) := by decide +kernel
theorem dd_crowd_6 : decode mm_crowd.2.1 6 = .ok (.iload_n 1, 1) := by decide +kernel
theorem dd_crowd_7 : decode mm_crowd.2.1 7 = .ok (.invokevirtual 370, 3) := by decide +kernel
theorem cw_12_370 : cwOk 12 370 0 204 2 2 12 = true := by decide +kernel
theorem mt_isRoom : MTB 204 = some mm_isRoom := rfl
theorem dd_isRoom_0 : decode mm_isRoom.2.1 0 = .ok (.iload_n 1, 1) := by decide +kernel
theorem dd_isRoom_1 : decode mm_isRoom.2.1 1 = .ok (.ifCond .lt (15), 3) := by decide +kernel
theorem dd_isRoom_16 : decode mm_isRoom.2.1 16 = .ok (.iconst 0, 1) := by decide +kernel
theorem dd_isRoom_17 : decode mm_isRoom.2.1 17 = .ok (.ireturn, 1) := by decide +kernel
theorem dd_crowd_10 : decode mm_crowd.2.1 10 = .ok (.ifCond .eq (31), 3) := by decide +kernel
theorem dd_crowd_41 : decode mm_crowd.2.1 41 = .ok (.iconst (-1), 1) := by decide +kernel
theorem dd_crowd_42 : decode mm_crowd.2.1 42 = .ok (.ireturn, 1) := by decide +kernel
theorem dd_isRoom_4 : decode mm_isRoom.2.1 4 = .ok (.iload_n 1, 1) := by decide +kernel
theorem dd_isRoom_5 : decode mm_isRoom.2.1 5 = .ok (.aload_n 0, 1) := by decide +kernel
theorem dd_isRoom_6 : decode mm_isRoom.2.1 6 = .ok (.invokevirtual 332, 3) := by decide +kernel
theorem dd_isRoom_9 : decode mm_isRoom.2.1 9 = .ok (.if_icmp .ge (7), 3) := by decide +kernel
theorem dd_isRoom_12 : decode mm_isRoom.2.1 12 = .ok (.iconst 1, 1) := by decide +kernel
theorem dd_isRoom_13 : decode mm_isRoom.2.1 13 = .ok (.goto 4, 3) := by decide +kernel
theorem dd_crowd_13 : decode mm_crowd.2.1 13 = .ok (.aload_n 0, 1) := by decide +kernel
theorem dd_crowd_14 : decode mm_crowd.2.1 14 = .ok (.iload_n 2, 1) := by decide +kernel
theorem dd_crowd_15 : decode mm_crowd.2.1 15 = .ok (.invokevirtual 370, 3) := by decide +kernel
theorem dd_crowd_18 : decode mm_crowd.2.1 18 = .ok (.ifCond .eq (23), 3) := by decide +kernel
theorem dd_crowd_21 : decode mm_crowd.2.1 21 = .ok (.iload_n 1, 1) := by decide +kernel
theorem dd_crowd_22 : decode mm_crowd.2.1 22 = .ok (.iload_n 2, 1) := by decide +kernel
theorem dd_crowd_23 : decode mm_crowd.2.1 23 = .ok (.if_icmp .eq (18), 3) := by decide +kernel
theorem dd_crowd_26 : decode mm_crowd.2.1 26 = .ok (.iload_n 3, 1) := by decide +kernel
theorem dd_crowd_27 : decode mm_crowd.2.1 27 = .ok (.aload_n 0, 1) := by decide +kernel
theorem dd_crowd_28 : decode mm_crowd.2.1 28 = .ok (.getfield 125, 3) := by decide +kernel
theorem dd_crowd_31 : decode mm_crowd.2.1 31 = .ok (.iconst 0, 1) := by decide +kernel
theorem dd_crowd_32 : decode mm_crowd.2.1 32 = .ok (.iaload, 1) := by decide +kernel
theorem dd_crowd_33 : decode mm_crowd.2.1 33 = .ok (.bipush 23, 2) := by decide +kernel
theorem dd_crowd_35 : decode mm_crowd.2.1 35 = .ok (.invokestatic 297, 3) := by decide +kernel
theorem dd_crowd_38 : decode mm_crowd.2.1 38 = .ok (.ifCond .ne (5), 3) := by decide +kernel
theorem dd_crowd_43 : decode mm_crowd.2.1 43 = .ok (.iconst 0, 1) := by decide +kernel
theorem dd_crowd_44 : decode mm_crowd.2.1 44 = .ok (.istore 4, 2) := by decide +kernel
theorem dd_crowd_46 : decode mm_crowd.2.1 46 = .ok (.iload 4, 2) := by decide +kernel
theorem dd_crowd_48 : decode mm_crowd.2.1 48 = .ok (.sipush 336, 3) := by decide +kernel
theorem dd_crowd_51 : decode mm_crowd.2.1 51 = .ok (.if_icmp .ge (17), 3) := by decide +kernel
theorem dd_crowd_68 : decode mm_crowd.2.1 68 = .ok (.iconst 0, 1) := by decide +kernel
theorem dd_crowd_69 : decode mm_crowd.2.1 69 = .ok (.istore 4, 2) := by decide +kernel
theorem dd_crowd_54 : decode mm_crowd.2.1 54 = .ok (.aload_n 0, 1) := by decide +kernel
theorem dd_crowd_55 : decode mm_crowd.2.1 55 = .ok (.getfield 150, 3) := by decide +kernel
theorem dd_crowd_58 : decode mm_crowd.2.1 58 = .ok (.iload 4, 2) := by decide +kernel
theorem dd_crowd_60 : decode mm_crowd.2.1 60 = .ok (.iconst 0, 1) := by decide +kernel
theorem dd_crowd_61 : decode mm_crowd.2.1 61 = .ok (.iastore, 1) := by decide +kernel
theorem dd_crowd_62 : decode mm_crowd.2.1 62 = .ok (.iinc 4 1, 3) := by decide +kernel
theorem dd_crowd_65 : decode mm_crowd.2.1 65 = .ok (.goto (-19), 3) := by decide +kernel
theorem dd_crowd_71 : decode mm_crowd.2.1 71 = .ok (.iload 4, 2) := by decide +kernel
theorem dd_crowd_73 : decode mm_crowd.2.1 73 = .ok (.sipush 250, 3) := by decide +kernel
theorem dd_crowd_76 : decode mm_crowd.2.1 76 = .ok (.if_icmp .ge (17), 3) := by decide +kernel
theorem dd_crowd_93 : decode mm_crowd.2.1 93 = .ok (.iconst 0, 1) := by decide +kernel
theorem dd_crowd_94 : decode mm_crowd.2.1 94 = .ok (.istore 4, 2) := by decide +kernel
theorem dd_crowd_79 : decode mm_crowd.2.1 79 = .ok (.aload_n 0, 1) := by decide +kernel
theorem dd_crowd_80 : decode mm_crowd.2.1 80 = .ok (.getfield 153, 3) := by decide +kernel
theorem dd_crowd_83 : decode mm_crowd.2.1 83 = .ok (.iload 4, 2) := by decide +kernel
theorem dd_crowd_85 : decode mm_crowd.2.1 85 = .ok (.iconst 0, 1) := by decide +kernel
theorem dd_crowd_86 : decode mm_crowd.2.1 86 = .ok (.iastore, 1) := by decide +kernel
theorem dd_crowd_87 : decode mm_crowd.2.1 87 = .ok (.iinc 4 1, 3) := by decide +kernel
theorem dd_crowd_90 : decode mm_crowd.2.1 90 = .ok (.goto (-19), 3) := by decide +kernel
theorem dd_crowd_96 : decode mm_crowd.2.1 96 = .ok (.aload_n 0, 1) := by decide +kernel
theorem dd_crowd_97 : decode mm_crowd.2.1 97 = .ok (.bipush 10, 2) := by decide +kernel
theorem dd_crowd_99 : decode mm_crowd.2.1 99 = .ok (.aload_n 0, 1) := by decide +kernel
theorem dd_crowd_100 : decode mm_crowd.2.1 100 = .ok (.getfield 125, 3) := by decide +kernel
theorem dd_crowd_103 : decode mm_crowd.2.1 103 = .ok (.iconst 0, 1) := by decide +kernel
theorem dd_crowd_104 : decode mm_crowd.2.1 104 = .ok (.iaload, 1) := by decide +kernel
theorem dd_crowd_105 : decode mm_crowd.2.1 105 = .ok (.imul, 1) := by decide +kernel
theorem dd_crowd_106 : decode mm_crowd.2.1 106 = .ok (.iload_n 1, 1) := by decide +kernel
theorem dd_crowd_107 : decode mm_crowd.2.1 107 = .ok (.iadd, 1) := by decide +kernel
theorem dd_crowd_108 : decode mm_crowd.2.1 108 = .ok (.bipush 10, 2) := by decide +kernel
theorem dd_crowd_110 : decode mm_crowd.2.1 110 = .ok (.iload_n 3, 1) := by decide +kernel
theorem dd_crowd_111 : decode mm_crowd.2.1 111 = .ok (.iconst 1, 1) := by decide +kernel
theorem dd_crowd_112 : decode mm_crowd.2.1 112 = .ok (.iadd, 1) := by decide +kernel
theorem dd_crowd_113 : decode mm_crowd.2.1 113 = .ok (.imul, 1) := by decide +kernel
theorem dd_crowd_114 : decode mm_crowd.2.1 114 = .ok (.iload_n 2, 1) := by decide +kernel
theorem dd_crowd_115 : decode mm_crowd.2.1 115 = .ok (.iadd, 1) := by decide +kernel
theorem dd_crowd_116 : decode mm_crowd.2.1 116 = .ok (.iload_n 3, 1) := by decide +kernel
theorem dd_crowd_117 : decode mm_crowd.2.1 117 = .ok (.invokevirtual 453, 3) := by decide +kernel
theorem cw_12_453 : cwOk 12 453 0 244 4 5 12 = true := by decide +kernel
theorem mt_isMore : MTB 244 = some mm_isMore := rfl
theorem dd_crowd_120 : decode mm_crowd.2.1 120 = .ok (.ifCond .eq (9), 3) := by decide +kernel
theorem dd_crowd_123 : decode mm_crowd.2.1 123 = .ok (.iinc 4 1, 3) := by decide +kernel
theorem dd_crowd_126 : decode mm_crowd.2.1 126 = .ok (.goto (-30), 3) := by decide +kernel
theorem dd_crowd_129 : decode mm_crowd.2.1 129 = .ok (.iload 4, 2) := by decide +kernel
theorem dd_crowd_131 : decode mm_crowd.2.1 131 = .ok (.ireturn, 1) := by decide +kernel
theorem B_comes_0 {xs : Nat → Int} {xl e : Nat} {h : LH} {Q : Option LV → LH → Prop} {v1 v2 : Int} (hF : RF h) (r_v1 : 0 ≤ v1 ∧ v1 ≤ 249)
    (k : ((rd h 206 v1) ≠ (-1) →
        Q none h) ∧
      ((rd h 206 v1) = (-1) →
        (0 ≤ (rd h 182 42) ∧ (rd h 182 42) < 250) ∧
        (-2147483648 ≤ (rd h 182 42) + 1 ∧ (rd h 182 42) + 1 ≤ 2147483647) ∧
        Q none (wr (wr (wr h 206 v1 v2) 207 (rd h 182 42) v1) 182 42 ((rd h 182 42) + 1)))) :
    Rn xs xl e mm_comes 0 [some (.inr (.inr 182)), some (.inl v1), some (.inl v2)] [] h Q := by
  refine R_ld (v := .inr (.inr 182)) dd_comes_0 rfl rfl rfl rfl ?_
  refine R_gf (v := .inr (.inr 206)) dd_comes_1 fd_12_156 io_182 (congrArg (fun z : Int => (Sum.inr (Sum.inr z) : LV)) (rf_182_40 hF)) rfl ?_
  refine R_ld (v := .inl v1) dd_comes_4 rfl rfl rfl rfl ?_
  refine R_iald (v := (rd h 206 v1)) (n := 250) dd_comes_5 ia_206 la_206 (by omega) (rfl) rfl ?_
  refine R_ic dd_comes_6 (by decide) rfl ?_
  refine R_icmp dd_comes_7 rfl rfl (fun (c3 : (rd h 206 v1) ≠ (-1)) => ?_) (fun (c3 : (rd h 206 v1) = (-1)) => ?_)
  · replace k := k.1 c3
    exact R_vret dd_comes_37 rfl k
  · replace k := k.2 c3
    refine R_ld (v := .inr (.inr 182)) dd_comes_10 rfl rfl rfl rfl ?_
    refine R_gf (v := .inr (.inr 206)) dd_comes_11 fd_12_156 io_182 (congrArg (fun z : Int => (Sum.inr (Sum.inr z) : LV)) (rf_182_40 hF)) rfl ?_
    refine R_ld (v := .inl v1) dd_comes_14 rfl rfl rfl rfl ?_
    refine R_ld (v := .inl v2) dd_comes_15 rfl rfl rfl rfl ?_
    refine R_iast (n := 250) dd_comes_16 ia_206 la_206 (by omega) rfl ?_
    refine R_ld (v := .inr (.inr 182)) dd_comes_17 rfl rfl rfl rfl ?_
    refine R_gf (v := .inr (.inr 207)) dd_comes_18 fd_12_159 io_182 (congrArg (fun z : Int => (Sum.inr (Sum.inr z) : LV)) ((rdw_ne (by decide)).trans (rf_182_41 hF))) rfl ?_
    refine R_ld (v := .inr (.inr 182)) dd_comes_21 rfl rfl rfl rfl ?_
    refine R_gf (v := .inl (rd h 182 42)) dd_comes_22 fd_12_438 io_182 (congrArg (fun z : Int => (Sum.inl z : LV)) (rdw_ne (by decide))) rfl ?_
    refine R_ld (v := .inl v1) dd_comes_25 rfl rfl rfl rfl ?_
    obtain ⟨s1, k⟩ := k
    refine R_iast (n := 250) dd_comes_26 ia_207 la_207 s1 rfl ?_
    refine R_ld (v := .inr (.inr 182)) dd_comes_27 rfl rfl rfl rfl ?_
    refine R_A dd_comes_28 rfl rfl rfl rfl ?_
    refine R_gf (v := .inl (rd h 182 42)) dd_comes_29 fd_12_438 io_182 (congrArg (fun z : Int => (Sum.inl z : LV)) ((rdw_ne (by decide)).trans (rdw_ne (by decide)))) rfl ?_
    refine R_ic dd_comes_32 (by decide) rfl ?_
    obtain ⟨s2, k⟩ := k
    refine R_iadd (c := (rd h 182 42) + 1) dd_comes_33 (by omega) s2 rfl ?_
    refine R_pf (z := ((rd h 182 42) + 1)) dd_comes_34 fd_12_438 io_182 fn_12_42 rfl rfl ?_
    exact R_vret dd_comes_37 rfl k
theorem B_spreads_0 {xs : Nat → Int} {xl e : Nat} {h : LH} {Q : Option LV → LH → Prop} {v1 v2 v3 : Int} (hF : RF h) (r_v1 : 0 ≤ v1 ∧ v1 ≤ 249) (r_v2 : 0 ≤ v2 ∧ v2 ≤ 24) (r_v3 : 0 ≤ v3 ∧ v3 ≤ 23)
    (k : (v3 < (v1 / 10) →
        Rn xs xl e mm_spreads 32 [some (.inr (.inr 182)), some (.inl v1), some (.inl v2), some (.inl v3), some (.inl (v1 % 10)), some (.inl (v1 / 10)), some (.inl 0), none] [] h Q) ∧
      ((v1 / 10) ≤ v3 →
        (∃ c, c < e ∧ Rn xs xl c mm_comes 0 [some (.inr (.inr 182)), some (.inl (v1 + 10)), some (.inl 400)] [] h (fun r h' => Rn xs xl e mm_spreads 29 [some (.inr (.inr 182)), some (.inl v1), some (.inl v2), some (.inl v3), some (.inl (v1 % 10)), some (.inl (v1 / 10)), none, none] (r.toList ++ []) h' Q)))) :
    Rn xs xl e mm_spreads 0 [some (.inr (.inr 182)), some (.inl v1), some (.inl v2), some (.inl v3), none, none, none, none] [] h Q := by
  refine R_ld (v := .inl v1) dd_spreads_0 rfl rfl rfl rfl ?_
  refine R_bi dd_spreads_1 (by decide) rfl ?_
  refine R_irem dd_spreads_3 (by omega) (by decide) rfl ?_
  refine R_st (ls' := [some (.inr (.inr 182)), some (.inl v1), some (.inl v2), some (.inl v3), some (.inl (v1 % 10)), none, none, none]) dd_spreads_4 rfl rfl rfl (Nat.le_of_ble_eq_true rfl) rfl rfl ?_
  refine R_ld (v := .inl v1) dd_spreads_6 rfl rfl rfl rfl ?_
  refine R_bi dd_spreads_7 (by decide) rfl ?_
  refine R_idiv dd_spreads_9 (by omega) (by decide) rfl ?_
  refine R_st (ls' := [some (.inr (.inr 182)), some (.inl v1), some (.inl v2), some (.inl v3), some (.inl (v1 % 10)), some (.inl (v1 / 10)), none, none]) dd_spreads_10 rfl rfl rfl (Nat.le_of_ble_eq_true rfl) rfl rfl ?_
  refine R_ld (v := .inl (v1 / 10)) dd_spreads_12 rfl rfl rfl rfl ?_
  refine R_ld (v := .inl v3) dd_spreads_14 rfl rfl rfl rfl ?_
  refine R_icmp dd_spreads_15 rfl rfl (fun (c2 : v3 < (v1 / 10)) => ?_) (fun (c2 : (v1 / 10) ≤ v3) => ?_)
  · replace k := k.1 c2
    refine R_ic dd_spreads_29 (by decide) rfl ?_
    refine R_st (ls' := [some (.inr (.inr 182)), some (.inl v1), some (.inl v2), some (.inl v3), some (.inl (v1 % 10)), some (.inl (v1 / 10)), some (.inl 0), none]) dd_spreads_30 rfl rfl rfl (Nat.le_of_ble_eq_true rfl) rfl rfl ?_
    exact k
  · replace k := k.2 c2
    refine R_ld (v := .inr (.inr 182)) dd_spreads_18 rfl rfl rfl rfl ?_
    refine R_ld (v := .inl v1) dd_spreads_19 rfl rfl rfl rfl ?_
    refine R_bi dd_spreads_20 (by decide) rfl ?_
    refine R_iadd (c := v1 + 10) dd_spreads_22 (by omega) (by omega) rfl ?_
    refine R_si dd_spreads_23 (by decide) rfl ?_
    obtain ⟨c, hc, k⟩ := k
    exact R_call (as := [.inr (.inr 182), .inl (v1 + 10), .inl 400]) (rest := []) (M' := mm_comes) (ls0 := [some (.inr (.inr 182)), some (.inl (v1 + 10)), some (.inl 400)]) dd_spreads_26 rfl rfl (cw_v cw_12_441 io_182 rfl rfl (Nat.le_of_ble_eq_true rfl) (Nat.le_of_ble_eq_true rfl)) mt_comes rfl hc rfl k
theorem B_spreads_29 {xs : Nat → Int} {xl e : Nat} {h : LH} {Q : Option LV → LH → Prop} {v1 v2 v3 v4 v5 : Int} (hF : RF h) (r_v1 : 0 ≤ v1 ∧ v1 ≤ 249) (r_v2 : 0 ≤ v2 ∧ v2 ≤ 24) (r_v3 : 0 ≤ v3 ∧ v3 ≤ 23)
    (k : Rn xs xl e mm_spreads 32 [some (.inr (.inr 182)), some (.inl v1), some (.inl v2), some (.inl v3), some (.inl v4), some (.inl v5), some (.inl 0), none] [] h Q) :
    Rn xs xl e mm_spreads 29 [some (.inr (.inr 182)), some (.inl v1), some (.inl v2), some (.inl v3), some (.inl v4), some (.inl v5), none, none] [] h Q := by
  refine R_ic dd_spreads_29 (by decide) rfl ?_
  refine R_st (ls' := [some (.inr (.inr 182)), some (.inl v1), some (.inl v2), some (.inl v3), some (.inl v4), some (.inl v5), some (.inl 0), none]) dd_spreads_30 rfl rfl rfl (Nat.le_of_ble_eq_true rfl) rfl rfl ?_
  exact k
theorem B_spreads_32 {xs : Nat → Int} {xl e : Nat} {h : LH} {Q : Option LV → LH → Prop} {v1 v2 v3 v4 v5 v6 : Int} {o7 : Option LV} (hF : RF h) (r_v1 : 0 ≤ v1 ∧ v1 ≤ 249) (r_v2 : 0 ≤ v2 ∧ v2 ≤ 24) (r_v3 : 0 ≤ v3 ∧ v3 ≤ 23) (r_v4 : 0 ≤ v4 ∧ v4 ≤ 9) (r_v5 : 0 ≤ v5 ∧ v5 ≤ 24) (r_v6 : 0 ≤ v6 ∧ v6 ≤ 14) (he : 1 ≤ e)
    (k : ((rd h 188 1) ≤ v6 →
        Rn xs xl e mm_spreads 110 [some (.inr (.inr 182)), some (.inl v1), some (.inl v2), some (.inl v3), some (.inl v4), some (.inl v5), some (.inl v6), o7] [] h Q) ∧
      (v6 < (rd h 188 1) →
        (v3 < v5 →
          Rn xs xl e mm_spreads 110 [some (.inr (.inr 182)), some (.inl v1), some (.inl v2), some (.inl v3), some (.inl v4), some (.inl v5), some (.inl v6), o7] [] h Q) ∧
        (v5 ≤ v3 →
          (∃ c, c < e ∧ Rn xs xl c mm_toOf 0 [some (.inr (.inr 182)), some (.inl v6), some (.inl v4), some (.inl v5)] [] h (fun r h' => Rn xs xl e mm_spreads 57 [some (.inr (.inr 182)), some (.inl v1), some (.inl v2), some (.inl v3), some (.inl v4), some (.inl v5), some (.inl v6), o7] (r.toList ++ []) h' Q))))) :
    Rn xs xl e mm_spreads 32 [some (.inr (.inr 182)), some (.inl v1), some (.inl v2), some (.inl v3), some (.inl v4), some (.inl v5), some (.inl v6), o7] [] h Q := by
  refine R_ld (v := .inl v6) dd_spreads_32 rfl rfl rfl rfl ?_
  refine R_ld (v := .inr (.inr 182)) dd_spreads_34 rfl rfl rfl rfl ?_
  refine R_call (as := [.inr (.inr 182)]) (rest := [.inl v6]) (M' := mm_doors) (ls0 := [some (.inr (.inr 182))]) dd_spreads_35 rfl rfl (cw_v cw_12_335 io_182 rfl rfl (Nat.le_of_ble_eq_true rfl) (Nat.le_of_ble_eq_true rfl)) mt_doors rfl (c := e - 1) (by omega) rfl ?_
  refine R_ld (v := .inr (.inr 182)) dd_doors_0 rfl rfl rfl rfl ?_
  refine R_gf (v := .inr (.inr 188)) dd_doors_1 fd_12_95 io_182 (congrArg (fun z : Int => (Sum.inr (Sum.inr z) : LV)) (rf_182_10 hF)) rfl ?_
  refine R_ic dd_doors_4 (by decide) rfl ?_
  refine R_iald (v := (rd h 188 1)) (n := 300) dd_doors_5 ia_188 la_188 (by decide) (rfl) rfl ?_
  refine R_iret dd_doors_6 rfl ?_
  change Rn xs xl e mm_spreads 38 [some (.inr (.inr 182)), some (.inl v1), some (.inl v2), some (.inl v3), some (.inl v4), some (.inl v5), some (.inl v6), o7] [.inl (rd h 188 1), .inl v6] h _
  refine R_icmp dd_spreads_38 rfl rfl (fun (c2 : (rd h 188 1) ≤ v6) => ?_) (fun (c2 : v6 < (rd h 188 1)) => ?_)
  · replace k := k.1 c2
    exact k
  · replace k := k.2 c2
    refine R_ld (v := .inl v5) dd_spreads_41 rfl rfl rfl rfl ?_
    refine R_ld (v := .inl v3) dd_spreads_43 rfl rfl rfl rfl ?_
    refine R_icmp dd_spreads_44 rfl rfl (fun (c3 : v3 < v5) => ?_) (fun (c3 : v5 ≤ v3) => ?_)
    · replace k := k.1 c3
      exact k
    · replace k := k.2 c3
      refine R_ld (v := .inr (.inr 182)) dd_spreads_47 rfl rfl rfl rfl ?_
      refine R_ld (v := .inl v6) dd_spreads_48 rfl rfl rfl rfl ?_
      refine R_ld (v := .inl v4) dd_spreads_50 rfl rfl rfl rfl ?_
      refine R_ld (v := .inl v5) dd_spreads_52 rfl rfl rfl rfl ?_
      obtain ⟨c, hc, k⟩ := k
      exact R_call (as := [.inr (.inr 182), .inl v6, .inl v4, .inl v5]) (rest := []) (M' := mm_toOf) (ls0 := [some (.inr (.inr 182)), some (.inl v6), some (.inl v4), some (.inl v5)]) dd_spreads_54 rfl rfl (cw_v cw_12_444 io_182 rfl rfl (Nat.le_of_ble_eq_true rfl) (Nat.le_of_ble_eq_true rfl)) mt_toOf rfl hc rfl k
theorem B_spreads_57 {xs : Nat → Int} {xl e : Nat} {h : LH} {Q : Option LV → LH → Prop} {v1 v2 v3 v4 v5 v6 w0 : Int} {o7 : Option LV} (hF : RF h) (r_v1 : 0 ≤ v1 ∧ v1 ≤ 249) (r_v2 : 0 ≤ v2 ∧ v2 ≤ 24) (r_v3 : 0 ≤ v3 ∧ v3 ≤ 23) (r_v4 : 0 ≤ v4 ∧ v4 ≤ 9) (r_v5 : 0 ≤ v5 ∧ v5 ≤ 23) (r_v6 : 0 ≤ v6 ∧ v6 ≤ 13) (r_w0 : -1 ≤ w0 ∧ w0 ≤ 9) (he : 1 ≤ e)
    (k : (w0 < 0 →
        Rn xs xl e mm_spreads 104 [some (.inr (.inr 182)), some (.inl v1), some (.inl v2), some (.inl v3), some (.inl v4), some (.inl v5), some (.inl v6), some (.inl w0)] [] h Q) ∧
      (0 ≤ w0 →
        ((rd h 188 (8 * v6 + 10)) ≤ (rd h 204 (14 * v5 + v6)) →
          Rn xs xl e mm_spreads 104 [some (.inr (.inr 182)), some (.inl v1), some (.inl v2), some (.inl v3), some (.inl v4), some (.inl v5), some (.inl v6), some (.inl w0)] [] h Q) ∧
        ((rd h 204 (14 * v5 + v6)) < (rd h 188 (8 * v6 + 10)) →
          (∃ c, c < e ∧ Rn xs xl c mm_comes 0 [some (.inr (.inr 182)), some (.inl (10 * v5 + w0 + 10)), some (.inl v6)] [] h (fun r h' => Rn xs xl e mm_spreads 104 [some (.inr (.inr 182)), some (.inl v1), some (.inl v2), some (.inl v3), some (.inl v4), some (.inl v5), some (.inl v6), some (.inl w0)] (r.toList ++ []) h' Q))))) :
    Rn xs xl e mm_spreads 57 [some (.inr (.inr 182)), some (.inl v1), some (.inl v2), some (.inl v3), some (.inl v4), some (.inl v5), some (.inl v6), o7] [.inl w0] h Q := by
  refine R_st (ls' := [some (.inr (.inr 182)), some (.inl v1), some (.inl v2), some (.inl v3), some (.inl v4), some (.inl v5), some (.inl v6), some (.inl w0)]) dd_spreads_57 rfl rfl rfl (Nat.le_of_ble_eq_true rfl) rfl rfl ?_
  refine R_ld (v := .inl w0) dd_spreads_59 rfl rfl rfl rfl ?_
  refine R_if dd_spreads_61 rfl rfl (fun (c2 : w0 < 0) => ?_) (fun (c2 : 0 ≤ w0) => ?_)
  · replace k := k.1 c2
    exact k
  · replace k := k.2 c2
    refine R_ld (v := .inr (.inr 182)) dd_spreads_64 rfl rfl rfl rfl ?_
    refine R_gf (v := .inr (.inr 204)) dd_spreads_65 fd_12_150 io_182 (congrArg (fun z : Int => (Sum.inr (Sum.inr z) : LV)) (rf_182_38 hF)) rfl ?_
    refine R_bi dd_spreads_68 (by decide) rfl ?_
    refine R_ld (v := .inl v5) dd_spreads_70 rfl rfl rfl rfl ?_
    refine R_imul (c := 14 * v5) dd_spreads_72 (by omega) (by omega) rfl ?_
    refine R_ld (v := .inl v6) dd_spreads_73 rfl rfl rfl rfl ?_
    refine R_iadd (c := 14 * v5 + v6) dd_spreads_75 (by omega) (by omega) rfl ?_
    refine R_iald (v := (rd h 204 (14 * v5 + v6))) (n := 336) dd_spreads_76 ia_204 la_204 (by omega) (rfl) rfl ?_
    refine R_ld (v := .inr (.inr 182)) dd_spreads_77 rfl rfl rfl rfl ?_
    refine R_ld (v := .inl v6) dd_spreads_78 rfl rfl rfl rfl ?_
    refine R_bi dd_spreads_80 (by decide) rfl ?_
    refine R_call (as := [.inr (.inr 182), .inl v6, .inl 6]) (rest := [.inl (rd h 204 (14 * v5 + v6))]) (M' := mm_doorOf) (ls0 := [some (.inr (.inr 182)), some (.inl v6), some (.inl 6)]) dd_spreads_82 rfl rfl (cw_v cw_12_347 io_182 rfl rfl (Nat.le_of_ble_eq_true rfl) (Nat.le_of_ble_eq_true rfl)) mt_doorOf rfl (c := e - 1) (by omega) rfl ?_
    refine R_ld (v := .inr (.inr 182)) dd_doorOf_0 rfl rfl rfl rfl ?_
    refine R_gf (v := .inr (.inr 188)) dd_doorOf_1 fd_12_95 io_182 (congrArg (fun z : Int => (Sum.inr (Sum.inr z) : LV)) (rf_182_10 hF)) rfl ?_
    refine R_ic dd_doorOf_4 (by decide) rfl ?_
    refine R_bi dd_doorOf_5 (by decide) rfl ?_
    refine R_ld (v := .inl v6) dd_doorOf_7 rfl rfl rfl rfl ?_
    refine R_imul (c := 8 * v6) dd_doorOf_8 (by omega) (by omega) rfl ?_
    refine R_iadd (c := 8 * v6 + 4) dd_doorOf_9 (by omega) (by omega) rfl ?_
    refine R_ld (v := .inl 6) dd_doorOf_10 rfl rfl rfl rfl ?_
    refine R_iadd (c := 8 * v6 + 10) dd_doorOf_11 (by omega) (by omega) rfl ?_
    refine R_iald (v := (rd h 188 (8 * v6 + 10))) (n := 300) dd_doorOf_12 ia_188 la_188 (by omega) (rfl) rfl ?_
    refine R_iret dd_doorOf_13 rfl ?_
    change Rn xs xl e mm_spreads 85 [some (.inr (.inr 182)), some (.inl v1), some (.inl v2), some (.inl v3), some (.inl v4), some (.inl v5), some (.inl v6), some (.inl w0)] [.inl (rd h 188 (8 * v6 + 10)), .inl (rd h 204 (14 * v5 + v6))] h _
    refine R_icmp dd_spreads_85 rfl rfl (fun (c3 : (rd h 188 (8 * v6 + 10)) ≤ (rd h 204 (14 * v5 + v6))) => ?_) (fun (c3 : (rd h 204 (14 * v5 + v6)) < (rd h 188 (8 * v6 + 10))) => ?_)
    · replace k := k.1 c3
      exact k
    · replace k := k.2 c3
      refine R_ld (v := .inr (.inr 182)) dd_spreads_88 rfl rfl rfl rfl ?_
      refine R_bi dd_spreads_89 (by decide) rfl ?_
      refine R_ld (v := .inl v5) dd_spreads_91 rfl rfl rfl rfl ?_
      refine R_ic dd_spreads_93 (by decide) rfl ?_
      refine R_iadd (c := v5 + 1) dd_spreads_94 (by omega) (by omega) rfl ?_
      refine R_imul (c := 10 * v5 + 10) dd_spreads_95 (by omega) (by omega) rfl ?_
      refine R_ld (v := .inl w0) dd_spreads_96 rfl rfl rfl rfl ?_
      refine R_iadd (c := 10 * v5 + w0 + 10) dd_spreads_98 (by omega) (by omega) rfl ?_
      refine R_ld (v := .inl v6) dd_spreads_99 rfl rfl rfl rfl ?_
      obtain ⟨c, hc, k⟩ := k
      exact R_call (as := [.inr (.inr 182), .inl (10 * v5 + w0 + 10), .inl v6]) (rest := []) (M' := mm_comes) (ls0 := [some (.inr (.inr 182)), some (.inl (10 * v5 + w0 + 10)), some (.inl v6)]) dd_spreads_101 rfl rfl (cw_v cw_12_441 io_182 rfl rfl (Nat.le_of_ble_eq_true rfl) (Nat.le_of_ble_eq_true rfl)) mt_comes rfl hc rfl k
theorem B_spreads_104 {xs : Nat → Int} {xl e : Nat} {h : LH} {Q : Option LV → LH → Prop} {v1 v2 v3 v4 v5 v6 : Int} {o7 : Option LV} (hF : RF h) (r_v1 : 0 ≤ v1 ∧ v1 ≤ 249) (r_v2 : 0 ≤ v2 ∧ v2 ≤ 24) (r_v3 : 0 ≤ v3 ∧ v3 ≤ 23) (r_v6 : 0 ≤ v6 ∧ v6 ≤ 13)
    (k : Rn xs xl e mm_spreads 32 [some (.inr (.inr 182)), some (.inl v1), some (.inl v2), some (.inl v3), some (.inl v4), some (.inl v5), some (.inl (v6 + 1)), o7] [] h Q) :
    Rn xs xl e mm_spreads 104 [some (.inr (.inr 182)), some (.inl v1), some (.inl v2), some (.inl v3), some (.inl v4), some (.inl v5), some (.inl v6), o7] [] h Q := by
  refine R_inc (y := v6 + 1) (ls' := [some (.inr (.inr 182)), some (.inl v1), some (.inl v2), some (.inl v3), some (.inl v4), some (.inl v5), some (.inl (v6 + 1)), o7]) dd_spreads_104 rfl (by decide) (by omega) (by omega) rfl rfl ?_
  refine R_goto dd_spreads_107 rfl ?_
  exact k
theorem B_spreads_110 {xs : Nat → Int} {xl e : Nat} {h : LH} {Q : Option LV → LH → Prop} {v1 v2 v3 v4 v5 : Int} {o6 : Option LV} {o7 : Option LV} (hF : RF h) (r_v1 : 0 ≤ v1 ∧ v1 ≤ 249) (r_v2 : 0 ≤ v2 ∧ v2 ≤ 24) (r_v3 : 0 ≤ v3 ∧ v3 ≤ 23) (r_v4 : 0 ≤ v4 ∧ v4 ≤ 9) (r_v5 : 0 ≤ v5 ∧ v5 ≤ 24)
    (k : (v5 ≤ v2 →
        Rn xs xl e mm_spreads 142 [some (.inr (.inr 182)), some (.inl v1), some (.inl v2), some (.inl v3), some (.inl v4), some (.inl v5), some (.inl 0), o7] [] h Q) ∧
      (v2 < v5 →
        (0 ≤ v1 - 10 ∧ v1 - 10 < 250) ∧
        ((rd h 205 (v1 - 10)) ≤ 0 →
          Rn xs xl e mm_spreads 142 [some (.inr (.inr 182)), some (.inl v1), some (.inl v2), some (.inl v3), some (.inl v4), some (.inl v5), some (.inl 0), o7] [] h Q) ∧
        (0 < (rd h 205 (v1 - 10)) →
          (∃ c, c < e ∧ Rn xs xl c mm_comes 0 [some (.inr (.inr 182)), some (.inl (v1 - 10)), some (.inl 1200)] [] h (fun r h' => Rn xs xl e mm_spreads 139 [some (.inr (.inr 182)), some (.inl v1), some (.inl v2), some (.inl v3), some (.inl v4), some (.inl v5), o6, o7] (r.toList ++ []) h' Q))))) :
    Rn xs xl e mm_spreads 110 [some (.inr (.inr 182)), some (.inl v1), some (.inl v2), some (.inl v3), some (.inl v4), some (.inl v5), o6, o7] [] h Q := by
  refine R_ld (v := .inl v5) dd_spreads_110 rfl rfl rfl rfl ?_
  refine R_ld (v := .inl v2) dd_spreads_112 rfl rfl rfl rfl ?_
  refine R_icmp dd_spreads_113 rfl rfl (fun (c3 : v5 ≤ v2) => ?_) (fun (c3 : v2 < v5) => ?_)
  · replace k := k.1 c3
    refine R_ic dd_spreads_139 (by decide) rfl ?_
    refine R_st (ls' := [some (.inr (.inr 182)), some (.inl v1), some (.inl v2), some (.inl v3), some (.inl v4), some (.inl v5), some (.inl 0), o7]) dd_spreads_140 rfl rfl rfl (Nat.le_of_ble_eq_true rfl) rfl rfl ?_
    exact k
  · replace k := k.2 c3
    refine R_ld (v := .inr (.inr 182)) dd_spreads_116 rfl rfl rfl rfl ?_
    refine R_gf (v := .inr (.inr 205)) dd_spreads_117 fd_12_153 io_182 (congrArg (fun z : Int => (Sum.inr (Sum.inr z) : LV)) (rf_182_39 hF)) rfl ?_
    refine R_ld (v := .inl v1) dd_spreads_120 rfl rfl rfl rfl ?_
    refine R_bi dd_spreads_121 (by decide) rfl ?_
    refine R_isub (c := v1 - 10) dd_spreads_123 (by omega) (by omega) rfl ?_
    obtain ⟨s1, k⟩ := k
    refine R_iald (v := (rd h 205 (v1 - 10))) (n := 250) dd_spreads_124 ia_205 la_205 s1 (rfl) rfl ?_
    refine R_if dd_spreads_125 rfl rfl (fun (c4 : (rd h 205 (v1 - 10)) ≤ 0) => ?_) (fun (c4 : 0 < (rd h 205 (v1 - 10))) => ?_)
    · replace k := k.1 c4
      refine R_ic dd_spreads_139 (by decide) rfl ?_
      refine R_st (ls' := [some (.inr (.inr 182)), some (.inl v1), some (.inl v2), some (.inl v3), some (.inl v4), some (.inl v5), some (.inl 0), o7]) dd_spreads_140 rfl rfl rfl (Nat.le_of_ble_eq_true rfl) rfl rfl ?_
      exact k
    · replace k := k.2 c4
      refine R_ld (v := .inr (.inr 182)) dd_spreads_128 rfl rfl rfl rfl ?_
      refine R_ld (v := .inl v1) dd_spreads_129 rfl rfl rfl rfl ?_
      refine R_bi dd_spreads_130 (by decide) rfl ?_
      refine R_isub (c := v1 - 10) dd_spreads_132 (by omega) (by omega) rfl ?_
      refine R_si dd_spreads_133 (by decide) rfl ?_
      obtain ⟨c, hc, k⟩ := k
      exact R_call (as := [.inr (.inr 182), .inl (v1 - 10), .inl 1200]) (rest := []) (M' := mm_comes) (ls0 := [some (.inr (.inr 182)), some (.inl (v1 - 10)), some (.inl 1200)]) dd_spreads_136 rfl rfl (cw_v cw_12_441 io_182 rfl rfl (Nat.le_of_ble_eq_true rfl) (Nat.le_of_ble_eq_true rfl)) mt_comes rfl hc rfl k
theorem B_spreads_139 {xs : Nat → Int} {xl e : Nat} {h : LH} {Q : Option LV → LH → Prop} {v1 v2 v3 v4 v5 : Int} {o6 : Option LV} {o7 : Option LV} (hF : RF h) (r_v1 : 0 ≤ v1 ∧ v1 ≤ 249) (r_v2 : 0 ≤ v2 ∧ v2 ≤ 24) (r_v3 : 0 ≤ v3 ∧ v3 ≤ 23)
    (k : Rn xs xl e mm_spreads 142 [some (.inr (.inr 182)), some (.inl v1), some (.inl v2), some (.inl v3), some (.inl v4), some (.inl v5), some (.inl 0), o7] [] h Q) :
    Rn xs xl e mm_spreads 139 [some (.inr (.inr 182)), some (.inl v1), some (.inl v2), some (.inl v3), some (.inl v4), some (.inl v5), o6, o7] [] h Q := by
  refine R_ic dd_spreads_139 (by decide) rfl ?_
  refine R_st (ls' := [some (.inr (.inr 182)), some (.inl v1), some (.inl v2), some (.inl v3), some (.inl v4), some (.inl v5), some (.inl 0), o7]) dd_spreads_140 rfl rfl rfl (Nat.le_of_ble_eq_true rfl) rfl rfl ?_
  exact k
theorem B_spreads_142 {xs : Nat → Int} {xl e : Nat} {h : LH} {Q : Option LV → LH → Prop} {v1 v2 v3 v4 v5 v6 : Int} {o7 : Option LV} (hF : RF h) (r_v1 : 0 ≤ v1 ∧ v1 ≤ 249) (r_v2 : 0 ≤ v2 ∧ v2 ≤ 24) (r_v3 : 0 ≤ v3 ∧ v3 ≤ 23) (r_v4 : 0 ≤ v4 ∧ v4 ≤ 9) (r_v5 : 0 ≤ v5 ∧ v5 ≤ 24) (r_v6 : 0 ≤ v6 ∧ v6 ≤ 14) (he : 1 ≤ e)
    (k : ((rd h 188 1) ≤ v6 →
        Q none h) ∧
      (v6 < (rd h 188 1) →
        (v5 ≤ v2 →
          Q none h) ∧
        (v2 < v5 →
          ((rd h 188 (8 * v6 + 5)) ≠ v4 →
            (0 ≤ 14 * v5 + v6 - 14 ∧ 14 * v5 + v6 - 14 < 336) ∧
            ((rd h 204 (14 * v5 + v6 - 14)) ≤ 0 →
              Rn xs xl e mm_spreads 243 [some (.inr (.inr 182)), some (.inl v1), some (.inl v2), some (.inl v3), some (.inl v4), some (.inl v5), some (.inl v6), some (.inl (rd h 188 (8 * v6 + 5)))] [] h Q) ∧
            (0 < (rd h 204 (14 * v5 + v6 - 14)) →
              (∃ c, c < e ∧ Rn xs xl c mm_toOf 0 [some (.inr (.inr 182)), some (.inl v6), some (.inl (rd h 188 (8 * v6 + 5))), some (.inl (v5 - 1))] [] h (fun r h' => Rn xs xl e mm_spreads 218 [some (.inr (.inr 182)), some (.inl v1), some (.inl v2), some (.inl v3), some (.inl v4), some (.inl v5), some (.inl v6), some (.inl (rd h 188 (8 * v6 + 5)))] (r.toList ++ []) h' Q)))) ∧
          ((rd h 188 (8 * v6 + 5)) = v4 →
            (0 ≤ 14 * v5 + v6 - 14 ∧ 14 * v5 + v6 - 14 < 336) ∧
            ((rd h 204 (14 * v5 + v6 - 14)) ≤ 0 →
              Rn xs xl e mm_spreads 243 [some (.inr (.inr 182)), some (.inl v1), some (.inl v2), some (.inl v3), some (.inl v4), some (.inl v5), some (.inl v6), some (.inl (rd h 188 (8 * v6 + 6)))] [] h Q) ∧
            (0 < (rd h 204 (14 * v5 + v6 - 14)) →
              (∃ c, c < e ∧ Rn xs xl c mm_toOf 0 [some (.inr (.inr 182)), some (.inl v6), some (.inl (rd h 188 (8 * v6 + 6))), some (.inl (v5 - 1))] [] h (fun r h' => Rn xs xl e mm_spreads 218 [some (.inr (.inr 182)), some (.inl v1), some (.inl v2), some (.inl v3), some (.inl v4), some (.inl v5), some (.inl v6), some (.inl (rd h 188 (8 * v6 + 6)))] (r.toList ++ []) h' Q))))))) :
    Rn xs xl e mm_spreads 142 [some (.inr (.inr 182)), some (.inl v1), some (.inl v2), some (.inl v3), some (.inl v4), some (.inl v5), some (.inl v6), o7] [] h Q := by
  refine R_ld (v := .inl v6) dd_spreads_142 rfl rfl rfl rfl ?_
  refine R_ld (v := .inr (.inr 182)) dd_spreads_144 rfl rfl rfl rfl ?_
  refine R_call (as := [.inr (.inr 182)]) (rest := [.inl v6]) (M' := mm_doors) (ls0 := [some (.inr (.inr 182))]) dd_spreads_145 rfl rfl (cw_v cw_12_335 io_182 rfl rfl (Nat.le_of_ble_eq_true rfl) (Nat.le_of_ble_eq_true rfl)) mt_doors rfl (c := e - 1) (by omega) rfl ?_
  refine R_ld (v := .inr (.inr 182)) dd_doors_0 rfl rfl rfl rfl ?_
  refine R_gf (v := .inr (.inr 188)) dd_doors_1 fd_12_95 io_182 (congrArg (fun z : Int => (Sum.inr (Sum.inr z) : LV)) (rf_182_10 hF)) rfl ?_
  refine R_ic dd_doors_4 (by decide) rfl ?_
  refine R_iald (v := (rd h 188 1)) (n := 300) dd_doors_5 ia_188 la_188 (by decide) (rfl) rfl ?_
  refine R_iret dd_doors_6 rfl ?_
  change Rn xs xl e mm_spreads 148 [some (.inr (.inr 182)), some (.inl v1), some (.inl v2), some (.inl v3), some (.inl v4), some (.inl v5), some (.inl v6), o7] [.inl (rd h 188 1), .inl v6] h _
  refine R_icmp dd_spreads_148 rfl rfl (fun (c5 : (rd h 188 1) ≤ v6) => ?_) (fun (c5 : v6 < (rd h 188 1)) => ?_)
  · replace k := k.1 c5
    exact R_vret dd_spreads_249 rfl k
  · replace k := k.2 c5
    refine R_ld (v := .inl v5) dd_spreads_151 rfl rfl rfl rfl ?_
    refine R_ld (v := .inl v2) dd_spreads_153 rfl rfl rfl rfl ?_
    refine R_icmp dd_spreads_154 rfl rfl (fun (c6 : v5 ≤ v2) => ?_) (fun (c6 : v2 < v5) => ?_)
    · replace k := k.1 c6
      exact R_vret dd_spreads_249 rfl k
    · replace k := k.2 c6
      refine R_ld (v := .inr (.inr 182)) dd_spreads_157 rfl rfl rfl rfl ?_
      refine R_ld (v := .inl v6) dd_spreads_158 rfl rfl rfl rfl ?_
      refine R_ic dd_spreads_160 (by decide) rfl ?_
      refine R_call (as := [.inr (.inr 182), .inl v6, .inl 1]) (rest := []) (M' := mm_doorOf) (ls0 := [some (.inr (.inr 182)), some (.inl v6), some (.inl 1)]) dd_spreads_161 rfl rfl (cw_v cw_12_347 io_182 rfl rfl (Nat.le_of_ble_eq_true rfl) (Nat.le_of_ble_eq_true rfl)) mt_doorOf rfl (c := e - 1) (by omega) rfl ?_
      refine R_ld (v := .inr (.inr 182)) dd_doorOf_0 rfl rfl rfl rfl ?_
      refine R_gf (v := .inr (.inr 188)) dd_doorOf_1 fd_12_95 io_182 (congrArg (fun z : Int => (Sum.inr (Sum.inr z) : LV)) (rf_182_10 hF)) rfl ?_
      refine R_ic dd_doorOf_4 (by decide) rfl ?_
      refine R_bi dd_doorOf_5 (by decide) rfl ?_
      refine R_ld (v := .inl v6) dd_doorOf_7 rfl rfl rfl rfl ?_
      refine R_imul (c := 8 * v6) dd_doorOf_8 (by omega) (by omega) rfl ?_
      refine R_iadd (c := 8 * v6 + 4) dd_doorOf_9 (by omega) (by omega) rfl ?_
      refine R_ld (v := .inl 1) dd_doorOf_10 rfl rfl rfl rfl ?_
      refine R_iadd (c := 8 * v6 + 5) dd_doorOf_11 (by omega) (by omega) rfl ?_
      refine R_iald (v := (rd h 188 (8 * v6 + 5))) (n := 300) dd_doorOf_12 ia_188 la_188 (by omega) (rfl) rfl ?_
      refine R_iret dd_doorOf_13 rfl ?_
      change Rn xs xl e mm_spreads 164 [some (.inr (.inr 182)), some (.inl v1), some (.inl v2), some (.inl v3), some (.inl v4), some (.inl v5), some (.inl v6), o7] [.inl (rd h 188 (8 * v6 + 5))] h _
      refine R_ld (v := .inl v4) dd_spreads_164 rfl rfl rfl rfl ?_
      refine R_icmp dd_spreads_166 rfl rfl (fun (c7 : (rd h 188 (8 * v6 + 5)) ≠ v4) => ?_) (fun (c7 : (rd h 188 (8 * v6 + 5)) = v4) => ?_)
      · replace k := k.1 c7
        refine R_ld (v := .inr (.inr 182)) dd_spreads_179 rfl rfl rfl rfl ?_
        refine R_ld (v := .inl v6) dd_spreads_180 rfl rfl rfl rfl ?_
        refine R_ic dd_spreads_182 (by decide) rfl ?_
        refine R_call (as := [.inr (.inr 182), .inl v6, .inl 1]) (rest := []) (M' := mm_doorOf) (ls0 := [some (.inr (.inr 182)), some (.inl v6), some (.inl 1)]) dd_spreads_183 rfl rfl (cw_v cw_12_347 io_182 rfl rfl (Nat.le_of_ble_eq_true rfl) (Nat.le_of_ble_eq_true rfl)) mt_doorOf rfl (c := e - 1) (by omega) rfl ?_
        refine R_ld (v := .inr (.inr 182)) dd_doorOf_0 rfl rfl rfl rfl ?_
        refine R_gf (v := .inr (.inr 188)) dd_doorOf_1 fd_12_95 io_182 (congrArg (fun z : Int => (Sum.inr (Sum.inr z) : LV)) (rf_182_10 hF)) rfl ?_
        refine R_ic dd_doorOf_4 (by decide) rfl ?_
        refine R_bi dd_doorOf_5 (by decide) rfl ?_
        refine R_ld (v := .inl v6) dd_doorOf_7 rfl rfl rfl rfl ?_
        refine R_imul (c := 8 * v6) dd_doorOf_8 (by omega) (by omega) rfl ?_
        refine R_iadd (c := 8 * v6 + 4) dd_doorOf_9 (by omega) (by omega) rfl ?_
        refine R_ld (v := .inl 1) dd_doorOf_10 rfl rfl rfl rfl ?_
        refine R_iadd (c := 8 * v6 + 5) dd_doorOf_11 (by omega) (by omega) rfl ?_
        refine R_iald (v := (rd h 188 (8 * v6 + 5))) (n := 300) dd_doorOf_12 ia_188 la_188 (by omega) (rfl) rfl ?_
        refine R_iret dd_doorOf_13 rfl ?_
        change Rn xs xl e mm_spreads 186 [some (.inr (.inr 182)), some (.inl v1), some (.inl v2), some (.inl v3), some (.inl v4), some (.inl v5), some (.inl v6), o7] [.inl (rd h 188 (8 * v6 + 5))] h _
        refine R_st (ls' := [some (.inr (.inr 182)), some (.inl v1), some (.inl v2), some (.inl v3), some (.inl v4), some (.inl v5), some (.inl v6), some (.inl (rd h 188 (8 * v6 + 5)))]) dd_spreads_186 rfl rfl rfl (Nat.le_of_ble_eq_true rfl) rfl rfl ?_
        refine R_ld (v := .inr (.inr 182)) dd_spreads_188 rfl rfl rfl rfl ?_
        refine R_gf (v := .inr (.inr 204)) dd_spreads_189 fd_12_150 io_182 (congrArg (fun z : Int => (Sum.inr (Sum.inr z) : LV)) (rf_182_38 hF)) rfl ?_
        refine R_bi dd_spreads_192 (by decide) rfl ?_
        refine R_ld (v := .inl v5) dd_spreads_194 rfl rfl rfl rfl ?_
        refine R_ic dd_spreads_196 (by decide) rfl ?_
        refine R_isub (c := v5 - 1) dd_spreads_197 (by omega) (by omega) rfl ?_
        refine R_imul (c := 14 * v5 - 14) dd_spreads_198 (by omega) (by omega) rfl ?_
        refine R_ld (v := .inl v6) dd_spreads_199 rfl rfl rfl rfl ?_
        refine R_iadd (c := 14 * v5 + v6 - 14) dd_spreads_201 (by omega) (by omega) rfl ?_
        obtain ⟨s1, k⟩ := k
        refine R_iald (v := (rd h 204 (14 * v5 + v6 - 14))) (n := 336) dd_spreads_202 ia_204 la_204 s1 (rfl) rfl ?_
        refine R_if dd_spreads_203 rfl rfl (fun (c8 : (rd h 204 (14 * v5 + v6 - 14)) ≤ 0) => ?_) (fun (c8 : 0 < (rd h 204 (14 * v5 + v6 - 14))) => ?_)
        · replace k := k.1 c8
          exact k
        · replace k := k.2 c8
          refine R_ld (v := .inr (.inr 182)) dd_spreads_206 rfl rfl rfl rfl ?_
          refine R_ld (v := .inl v6) dd_spreads_207 rfl rfl rfl rfl ?_
          refine R_ld (v := .inl (rd h 188 (8 * v6 + 5))) dd_spreads_209 rfl rfl rfl rfl ?_
          refine R_ld (v := .inl v5) dd_spreads_211 rfl rfl rfl rfl ?_
          refine R_ic dd_spreads_213 (by decide) rfl ?_
          refine R_isub (c := v5 - 1) dd_spreads_214 (by omega) (by omega) rfl ?_
          obtain ⟨c, hc, k⟩ := k
          exact R_call (as := [.inr (.inr 182), .inl v6, .inl (rd h 188 (8 * v6 + 5)), .inl (v5 - 1)]) (rest := []) (M' := mm_toOf) (ls0 := [some (.inr (.inr 182)), some (.inl v6), some (.inl (rd h 188 (8 * v6 + 5))), some (.inl (v5 - 1))]) dd_spreads_215 rfl rfl (cw_v cw_12_444 io_182 rfl rfl (Nat.le_of_ble_eq_true rfl) (Nat.le_of_ble_eq_true rfl)) mt_toOf rfl hc rfl k
      · replace k := k.2 c7
        refine R_ld (v := .inr (.inr 182)) dd_spreads_169 rfl rfl rfl rfl ?_
        refine R_ld (v := .inl v6) dd_spreads_170 rfl rfl rfl rfl ?_
        refine R_ic dd_spreads_172 (by decide) rfl ?_
        refine R_call (as := [.inr (.inr 182), .inl v6, .inl 2]) (rest := []) (M' := mm_doorOf) (ls0 := [some (.inr (.inr 182)), some (.inl v6), some (.inl 2)]) dd_spreads_173 rfl rfl (cw_v cw_12_347 io_182 rfl rfl (Nat.le_of_ble_eq_true rfl) (Nat.le_of_ble_eq_true rfl)) mt_doorOf rfl (c := e - 1) (by omega) rfl ?_
        refine R_ld (v := .inr (.inr 182)) dd_doorOf_0 rfl rfl rfl rfl ?_
        refine R_gf (v := .inr (.inr 188)) dd_doorOf_1 fd_12_95 io_182 (congrArg (fun z : Int => (Sum.inr (Sum.inr z) : LV)) (rf_182_10 hF)) rfl ?_
        refine R_ic dd_doorOf_4 (by decide) rfl ?_
        refine R_bi dd_doorOf_5 (by decide) rfl ?_
        refine R_ld (v := .inl v6) dd_doorOf_7 rfl rfl rfl rfl ?_
        refine R_imul (c := 8 * v6) dd_doorOf_8 (by omega) (by omega) rfl ?_
        refine R_iadd (c := 8 * v6 + 4) dd_doorOf_9 (by omega) (by omega) rfl ?_
        refine R_ld (v := .inl 2) dd_doorOf_10 rfl rfl rfl rfl ?_
        refine R_iadd (c := 8 * v6 + 6) dd_doorOf_11 (by omega) (by omega) rfl ?_
        refine R_iald (v := (rd h 188 (8 * v6 + 6))) (n := 300) dd_doorOf_12 ia_188 la_188 (by omega) (rfl) rfl ?_
        refine R_iret dd_doorOf_13 rfl ?_
        change Rn xs xl e mm_spreads 176 [some (.inr (.inr 182)), some (.inl v1), some (.inl v2), some (.inl v3), some (.inl v4), some (.inl v5), some (.inl v6), o7] [.inl (rd h 188 (8 * v6 + 6))] h _
        refine R_goto dd_spreads_176 rfl ?_
        refine R_st (ls' := [some (.inr (.inr 182)), some (.inl v1), some (.inl v2), some (.inl v3), some (.inl v4), some (.inl v5), some (.inl v6), some (.inl (rd h 188 (8 * v6 + 6)))]) dd_spreads_186 rfl rfl rfl (Nat.le_of_ble_eq_true rfl) rfl rfl ?_
        refine R_ld (v := .inr (.inr 182)) dd_spreads_188 rfl rfl rfl rfl ?_
        refine R_gf (v := .inr (.inr 204)) dd_spreads_189 fd_12_150 io_182 (congrArg (fun z : Int => (Sum.inr (Sum.inr z) : LV)) (rf_182_38 hF)) rfl ?_
        refine R_bi dd_spreads_192 (by decide) rfl ?_
        refine R_ld (v := .inl v5) dd_spreads_194 rfl rfl rfl rfl ?_
        refine R_ic dd_spreads_196 (by decide) rfl ?_
        refine R_isub (c := v5 - 1) dd_spreads_197 (by omega) (by omega) rfl ?_
        refine R_imul (c := 14 * v5 - 14) dd_spreads_198 (by omega) (by omega) rfl ?_
        refine R_ld (v := .inl v6) dd_spreads_199 rfl rfl rfl rfl ?_
        refine R_iadd (c := 14 * v5 + v6 - 14) dd_spreads_201 (by omega) (by omega) rfl ?_
        obtain ⟨s3, k⟩ := k
        refine R_iald (v := (rd h 204 (14 * v5 + v6 - 14))) (n := 336) dd_spreads_202 ia_204 la_204 s3 (rfl) rfl ?_
        refine R_if dd_spreads_203 rfl rfl (fun (c9 : (rd h 204 (14 * v5 + v6 - 14)) ≤ 0) => ?_) (fun (c9 : 0 < (rd h 204 (14 * v5 + v6 - 14))) => ?_)
        · replace k := k.1 c9
          exact k
        · replace k := k.2 c9
          refine R_ld (v := .inr (.inr 182)) dd_spreads_206 rfl rfl rfl rfl ?_
          refine R_ld (v := .inl v6) dd_spreads_207 rfl rfl rfl rfl ?_
          refine R_ld (v := .inl (rd h 188 (8 * v6 + 6))) dd_spreads_209 rfl rfl rfl rfl ?_
          refine R_ld (v := .inl v5) dd_spreads_211 rfl rfl rfl rfl ?_
          refine R_ic dd_spreads_213 (by decide) rfl ?_
          refine R_isub (c := v5 - 1) dd_spreads_214 (by omega) (by omega) rfl ?_
          obtain ⟨c, hc, k⟩ := k
          exact R_call (as := [.inr (.inr 182), .inl v6, .inl (rd h 188 (8 * v6 + 6)), .inl (v5 - 1)]) (rest := []) (M' := mm_toOf) (ls0 := [some (.inr (.inr 182)), some (.inl v6), some (.inl (rd h 188 (8 * v6 + 6))), some (.inl (v5 - 1))]) dd_spreads_215 rfl rfl (cw_v cw_12_444 io_182 rfl rfl (Nat.le_of_ble_eq_true rfl) (Nat.le_of_ble_eq_true rfl)) mt_toOf rfl hc rfl k
theorem B_spreads_218 {xs : Nat → Int} {xl e : Nat} {h : LH} {Q : Option LV → LH → Prop} {v1 v2 v3 v4 v5 v6 v7 w0 : Int} (hF : RF h) (r_v1 : 0 ≤ v1 ∧ v1 ≤ 249) (r_v2 : 0 ≤ v2 ∧ v2 ≤ 24) (r_v3 : 0 ≤ v3 ∧ v3 ≤ 23) (r_v4 : 0 ≤ v4 ∧ v4 ≤ 9) (r_v5 : 1 ≤ v5 ∧ v5 ≤ 24) (r_v6 : 0 ≤ v6 ∧ v6 ≤ 13) (r_v7 : 0 ≤ v7 ∧ v7 ≤ 9) (r_w0 : -1 ≤ w0 ∧ w0 ≤ 9)
    (k : (w0 ≠ v4 →
        Rn xs xl e mm_spreads 243 [some (.inr (.inr 182)), some (.inl v1), some (.inl v2), some (.inl v3), some (.inl v4), some (.inl v5), some (.inl v6), some (.inl v7)] [] h Q) ∧
      (w0 = v4 →
        (∃ c, c < e ∧ Rn xs xl c mm_comes 0 [some (.inr (.inr 182)), some (.inl (10 * v5 + v7 - 10)), some (.inl (v6 + 800))] [] h (fun r h' => Rn xs xl e mm_spreads 243 [some (.inr (.inr 182)), some (.inl v1), some (.inl v2), some (.inl v3), some (.inl v4), some (.inl v5), some (.inl v6), some (.inl v7)] (r.toList ++ []) h' Q)))) :
    Rn xs xl e mm_spreads 218 [some (.inr (.inr 182)), some (.inl v1), some (.inl v2), some (.inl v3), some (.inl v4), some (.inl v5), some (.inl v6), some (.inl v7)] [.inl w0] h Q := by
  refine R_ld (v := .inl v4) dd_spreads_218 rfl rfl rfl rfl ?_
  refine R_icmp dd_spreads_220 rfl rfl (fun (c2 : w0 ≠ v4) => ?_) (fun (c2 : w0 = v4) => ?_)
  · replace k := k.1 c2
    exact k
  · replace k := k.2 c2
    refine R_ld (v := .inr (.inr 182)) dd_spreads_223 rfl rfl rfl rfl ?_
    refine R_bi dd_spreads_224 (by decide) rfl ?_
    refine R_ld (v := .inl v5) dd_spreads_226 rfl rfl rfl rfl ?_
    refine R_ic dd_spreads_228 (by decide) rfl ?_
    refine R_isub (c := v5 - 1) dd_spreads_229 (by omega) (by omega) rfl ?_
    refine R_imul (c := 10 * v5 - 10) dd_spreads_230 (by omega) (by omega) rfl ?_
    refine R_ld (v := .inl v7) dd_spreads_231 rfl rfl rfl rfl ?_
    refine R_iadd (c := 10 * v5 + v7 - 10) dd_spreads_233 (by omega) (by omega) rfl ?_
    refine R_si dd_spreads_234 (by decide) rfl ?_
    refine R_ld (v := .inl v6) dd_spreads_237 rfl rfl rfl rfl ?_
    refine R_iadd (c := v6 + 800) dd_spreads_239 (by omega) (by omega) rfl ?_
    obtain ⟨c, hc, k⟩ := k
    exact R_call (as := [.inr (.inr 182), .inl (10 * v5 + v7 - 10), .inl (v6 + 800)]) (rest := []) (M' := mm_comes) (ls0 := [some (.inr (.inr 182)), some (.inl (10 * v5 + v7 - 10)), some (.inl (v6 + 800))]) dd_spreads_240 rfl rfl (cw_v cw_12_441 io_182 rfl rfl (Nat.le_of_ble_eq_true rfl) (Nat.le_of_ble_eq_true rfl)) mt_comes rfl hc rfl k
theorem B_spreads_243 {xs : Nat → Int} {xl e : Nat} {h : LH} {Q : Option LV → LH → Prop} {v1 v2 v3 v4 v5 v6 : Int} {o7 : Option LV} (hF : RF h) (r_v1 : 0 ≤ v1 ∧ v1 ≤ 249) (r_v2 : 0 ≤ v2 ∧ v2 ≤ 24) (r_v3 : 0 ≤ v3 ∧ v3 ≤ 23) (r_v6 : 0 ≤ v6 ∧ v6 ≤ 13)
    (k : Rn xs xl e mm_spreads 142 [some (.inr (.inr 182)), some (.inl v1), some (.inl v2), some (.inl v3), some (.inl v4), some (.inl v5), some (.inl (v6 + 1)), o7] [] h Q) :
    Rn xs xl e mm_spreads 243 [some (.inr (.inr 182)), some (.inl v1), some (.inl v2), some (.inl v3), some (.inl v4), some (.inl v5), some (.inl v6), o7] [] h Q := by
  refine R_inc (y := v6 + 1) (ls' := [some (.inr (.inr 182)), some (.inl v1), some (.inl v2), some (.inl v3), some (.inl v4), some (.inl v5), some (.inl (v6 + 1)), o7]) dd_spreads_243 rfl (by decide) (by omega) (by omega) rfl rfl ?_
  refine R_goto dd_spreads_246 rfl ?_
  exact k
theorem B_goesBack_0 {xs : Nat → Int} {xl e : Nat} {h : LH} {Q : Option LV → LH → Prop} {v1 : Int} (hF : RF h) (r_v1 : 0 ≤ v1 ∧ v1 ≤ 249) (he : 1 ≤ e)
    (k : ((rd h 206 v1) ≠ 400 →
        ((rd h 206 v1) ≠ 1200 →
          (400 ≤ (rd h 206 v1) →
            (-2147483648 ≤ (rd h 206 v1) - 800 ∧ (rd h 206 v1) - 800 ≤ 2147483647) ∧
            (-2147483648 ≤ 14 * (v1 / 10) ∧ 14 * (v1 / 10) ≤ 2147483647) ∧
            (-2147483648 ≤ 14 * (v1 / 10) + (rd h 206 v1) - 800 ∧ 14 * (v1 / 10) + (rd h 206 v1) - 800 ≤ 2147483647) ∧
            (0 ≤ 14 * (v1 / 10) + (rd h 206 v1) - 800 ∧ 14 * (v1 / 10) + (rd h 206 v1) - 800 < 336) ∧
            (-2147483648 ≤ (rd h 204 (14 * (v1 / 10) + (rd h 206 v1) - 800)) - 1 ∧ (rd h 204 (14 * (v1 / 10) + (rd h 206 v1) - 800)) - 1 ≤ 2147483647) ∧
            (0 ≤ 14 * (v1 / 10) + (rd h 206 v1) - 800 ∧ 14 * (v1 / 10) + (rd h 206 v1) - 800 < 336) ∧
            (-2147483648 ≤ (v1 / 10) + 1 ∧ (v1 / 10) + 1 ≤ 2147483647) ∧
            (-2147483648 ≤ 10 * (v1 / 10) + 10 ∧ 10 * (v1 / 10) + 10 ≤ 2147483647) ∧
            (∃ c, c < e ∧ Rn xs xl c mm_toOf 0 [some (.inr (.inr 182)), some (.inl ((rd h 206 v1) - 800)), some (.inl (v1 % 10)), some (.inl (v1 / 10))] [] (wr h 204 (14 * (v1 / 10) + (rd h 206 v1) - 800) ((rd h 204 (14 * (v1 / 10) + (rd h 206 v1) - 800)) - 1)) (fun r h' => Rn xs xl e mm_goesBack 164 [some (.inr (.inr 182)), some (.inl v1), some (.inl (rd h 206 v1)), some (.inl (v1 % 10)), some (.inl (v1 / 10)), some (.inl ((rd h 206 v1) - 800))] (r.toList ++ [.inl (10 * (v1 / 10) + 10)]) h' Q))) ∧
          ((rd h 206 v1) < 400 →
            (-2147483648 ≤ (v1 / 10) - 1 ∧ (v1 / 10) - 1 ≤ 2147483647) ∧
            (-2147483648 ≤ 14 * (v1 / 10) - 14 ∧ 14 * (v1 / 10) - 14 ≤ 2147483647) ∧
            (-2147483648 ≤ 14 * (v1 / 10) + (rd h 206 v1) - 14 ∧ 14 * (v1 / 10) + (rd h 206 v1) - 14 ≤ 2147483647) ∧
            (0 ≤ 14 * (v1 / 10) + (rd h 206 v1) - 14 ∧ 14 * (v1 / 10) + (rd h 206 v1) - 14 < 336) ∧
            (-2147483648 ≤ (rd h 204 (14 * (v1 / 10) + (rd h 206 v1) - 14)) + 1 ∧ (rd h 204 (14 * (v1 / 10) + (rd h 206 v1) - 14)) + 1 ≤ 2147483647) ∧
            (0 ≤ 14 * (v1 / 10) + (rd h 206 v1) - 14 ∧ 14 * (v1 / 10) + (rd h 206 v1) - 14 < 336) ∧
            (-2147483648 ≤ (v1 / 10) - 1 ∧ (v1 / 10) - 1 ≤ 2147483647) ∧
            (-2147483648 ≤ 10 * (v1 / 10) - 10 ∧ 10 * (v1 / 10) - 10 ≤ 2147483647) ∧
            (-2147483648 ≤ 8 * (rd h 206 v1) ∧ 8 * (rd h 206 v1) ≤ 2147483647) ∧
            (-2147483648 ≤ 8 * (rd h 206 v1) + 4 ∧ 8 * (rd h 206 v1) + 4 ≤ 2147483647) ∧
            (-2147483648 ≤ 8 * (rd h 206 v1) + 5 ∧ 8 * (rd h 206 v1) + 5 ≤ 2147483647) ∧
            (0 ≤ 8 * (rd h 206 v1) + 5 ∧ 8 * (rd h 206 v1) + 5 < 300) ∧
            ((rd h 188 (8 * (rd h 206 v1) + 5)) ≠ (v1 % 10) →
              (-2147483648 ≤ 8 * (rd h 206 v1) ∧ 8 * (rd h 206 v1) ≤ 2147483647) ∧
              (-2147483648 ≤ 8 * (rd h 206 v1) + 4 ∧ 8 * (rd h 206 v1) + 4 ≤ 2147483647) ∧
              (-2147483648 ≤ 8 * (rd h 206 v1) + 5 ∧ 8 * (rd h 206 v1) + 5 ≤ 2147483647) ∧
              (0 ≤ 8 * (rd h 206 v1) + 5 ∧ 8 * (rd h 206 v1) + 5 < 300) ∧
              (-2147483648 ≤ 10 * (v1 / 10) + (rd h 188 (8 * (rd h 206 v1) + 5)) - 10 ∧ 10 * (v1 / 10) + (rd h 188 (8 * (rd h 206 v1) + 5)) - 10 ≤ 2147483647) ∧
              Q (some (.inl (10 * (v1 / 10) + (rd h 188 (8 * (rd h 206 v1) + 5)) - 10))) (wr h 204 (14 * (v1 / 10) + (rd h 206 v1) - 14) ((rd h 204 (14 * (v1 / 10) + (rd h 206 v1) - 14)) + 1))) ∧
            ((rd h 188 (8 * (rd h 206 v1) + 5)) = (v1 % 10) →
              (-2147483648 ≤ 8 * (rd h 206 v1) ∧ 8 * (rd h 206 v1) ≤ 2147483647) ∧
              (-2147483648 ≤ 8 * (rd h 206 v1) + 4 ∧ 8 * (rd h 206 v1) + 4 ≤ 2147483647) ∧
              (-2147483648 ≤ 8 * (rd h 206 v1) + 6 ∧ 8 * (rd h 206 v1) + 6 ≤ 2147483647) ∧
              (0 ≤ 8 * (rd h 206 v1) + 6 ∧ 8 * (rd h 206 v1) + 6 < 300) ∧
              (-2147483648 ≤ 10 * (v1 / 10) + (rd h 188 (8 * (rd h 206 v1) + 6)) - 10 ∧ 10 * (v1 / 10) + (rd h 188 (8 * (rd h 206 v1) + 6)) - 10 ≤ 2147483647) ∧
              Q (some (.inl (10 * (v1 / 10) + (rd h 188 (8 * (rd h 206 v1) + 6)) - 10))) (wr h 204 (14 * (v1 / 10) + (rd h 206 v1) - 14) ((rd h 204 (14 * (v1 / 10) + (rd h 206 v1) - 14)) + 1))))) ∧
        ((rd h 206 v1) = 1200 →
          Q (some (.inl (v1 + 10))) (wr h 205 v1 (w32 ((rd h 205 v1) - 1))))) ∧
      ((rd h 206 v1) = 400 →
        (0 ≤ v1 - 10 ∧ v1 - 10 < 250) ∧
        (0 ≤ v1 - 10 ∧ v1 - 10 < 250) ∧
        Q (some (.inl (v1 - 10))) (wr h 205 (v1 - 10) (w32 ((rd h 205 (v1 - 10)) + 1))))) :
    Rn xs xl e mm_goesBack 0 [some (.inr (.inr 182)), some (.inl v1), none, none, none, none] [] h Q := by
  refine R_ld (v := .inr (.inr 182)) dd_goesBack_0 rfl rfl rfl rfl ?_
  refine R_gf (v := .inr (.inr 206)) dd_goesBack_1 fd_12_156 io_182 (congrArg (fun z : Int => (Sum.inr (Sum.inr z) : LV)) (rf_182_40 hF)) rfl ?_
  refine R_ld (v := .inl v1) dd_goesBack_4 rfl rfl rfl rfl ?_
  refine R_iald (v := (rd h 206 v1)) (n := 250) dd_goesBack_5 ia_206 la_206 (by omega) (rfl) rfl ?_
  refine R_st (ls' := [some (.inr (.inr 182)), some (.inl v1), some (.inl (rd h 206 v1)), none, none, none]) dd_goesBack_6 rfl rfl rfl (Nat.le_of_ble_eq_true rfl) rfl rfl ?_
  refine R_ld (v := .inl v1) dd_goesBack_7 rfl rfl rfl rfl ?_
  refine R_bi dd_goesBack_8 (by decide) rfl ?_
  refine R_irem dd_goesBack_10 (by omega) (by decide) rfl ?_
  refine R_st (ls' := [some (.inr (.inr 182)), some (.inl v1), some (.inl (rd h 206 v1)), some (.inl (v1 % 10)), none, none]) dd_goesBack_11 rfl rfl rfl (Nat.le_of_ble_eq_true rfl) rfl rfl ?_
  refine R_ld (v := .inl v1) dd_goesBack_12 rfl rfl rfl rfl ?_
  refine R_bi dd_goesBack_13 (by decide) rfl ?_
  refine R_idiv dd_goesBack_15 (by omega) (by decide) rfl ?_
  refine R_st (ls' := [some (.inr (.inr 182)), some (.inl v1), some (.inl (rd h 206 v1)), some (.inl (v1 % 10)), some (.inl (v1 / 10)), none]) dd_goesBack_16 rfl rfl rfl (Nat.le_of_ble_eq_true rfl) rfl rfl ?_
  refine R_ld (v := .inl (rd h 206 v1)) dd_goesBack_18 rfl rfl rfl rfl ?_
  refine R_si dd_goesBack_19 (by decide) rfl ?_
  refine R_icmp dd_goesBack_22 rfl rfl (fun (c34 : (rd h 206 v1) ≠ 400) => ?_) (fun (c34 : (rd h 206 v1) = 400) => ?_)
  · replace k := k.1 c34
    refine R_ld (v := .inl (rd h 206 v1)) dd_goesBack_43 rfl rfl rfl rfl ?_
    refine R_si dd_goesBack_44 (by decide) rfl ?_
    refine R_icmp dd_goesBack_47 rfl rfl (fun (c35 : (rd h 206 v1) ≠ 1200) => ?_) (fun (c35 : (rd h 206 v1) = 1200) => ?_)
    · replace k := k.1 c35
      refine R_ld (v := .inl (rd h 206 v1)) dd_goesBack_65 rfl rfl rfl rfl ?_
      refine R_si dd_goesBack_66 (by decide) rfl ?_
      refine R_icmp dd_goesBack_69 rfl rfl (fun (c36 : 400 ≤ (rd h 206 v1)) => ?_) (fun (c36 : (rd h 206 v1) < 400) => ?_)
      · replace k := k.1 c36
        refine R_ld (v := .inl (rd h 206 v1)) dd_goesBack_124 rfl rfl rfl rfl ?_
        refine R_si dd_goesBack_125 (by decide) rfl ?_
        obtain ⟨s1, k⟩ := k
        refine R_isub (c := (rd h 206 v1) - 800) dd_goesBack_128 (by omega) s1 rfl ?_
        refine R_st (ls' := [some (.inr (.inr 182)), some (.inl v1), some (.inl (rd h 206 v1)), some (.inl (v1 % 10)), some (.inl (v1 / 10)), some (.inl ((rd h 206 v1) - 800))]) dd_goesBack_129 rfl rfl rfl (Nat.le_of_ble_eq_true rfl) rfl rfl ?_
        refine R_ld (v := .inr (.inr 182)) dd_goesBack_131 rfl rfl rfl rfl ?_
        refine R_gf (v := .inr (.inr 204)) dd_goesBack_132 fd_12_150 io_182 (congrArg (fun z : Int => (Sum.inr (Sum.inr z) : LV)) (rf_182_38 hF)) rfl ?_
        refine R_bi dd_goesBack_135 (by decide) rfl ?_
        refine R_ld (v := .inl (v1 / 10)) dd_goesBack_137 rfl rfl rfl rfl ?_
        obtain ⟨s2, k⟩ := k
        refine R_imul (c := 14 * (v1 / 10)) dd_goesBack_139 (by omega) s2 rfl ?_
        refine R_ld (v := .inl ((rd h 206 v1) - 800)) dd_goesBack_140 rfl rfl rfl rfl ?_
        obtain ⟨s3, k⟩ := k
        refine R_iadd (c := 14 * (v1 / 10) + (rd h 206 v1) - 800) dd_goesBack_142 (by omega) s3 rfl ?_
        refine R_A dd_goesBack_143 rfl rfl rfl rfl ?_
        obtain ⟨s4, k⟩ := k
        refine R_iald (v := (rd h 204 (14 * (v1 / 10) + (rd h 206 v1) - 800))) (n := 336) dd_goesBack_144 ia_204 la_204 s4 (rfl) rfl ?_
        refine R_ic dd_goesBack_145 (by decide) rfl ?_
        obtain ⟨s5, k⟩ := k
        refine R_isub (c := (rd h 204 (14 * (v1 / 10) + (rd h 206 v1) - 800)) - 1) dd_goesBack_146 (by omega) s5 rfl ?_
        obtain ⟨s6, k⟩ := k
        refine R_iast (n := 336) dd_goesBack_147 ia_204 la_204 s6 rfl ?_
        refine R_bi dd_goesBack_148 (by decide) rfl ?_
        refine R_ld (v := .inl (v1 / 10)) dd_goesBack_150 rfl rfl rfl rfl ?_
        refine R_ic dd_goesBack_152 (by decide) rfl ?_
        obtain ⟨s7, k⟩ := k
        refine R_iadd (c := (v1 / 10) + 1) dd_goesBack_153 (by omega) s7 rfl ?_
        obtain ⟨s8, k⟩ := k
        refine R_imul (c := 10 * (v1 / 10) + 10) dd_goesBack_154 (by omega) s8 rfl ?_
        refine R_ld (v := .inr (.inr 182)) dd_goesBack_155 rfl rfl rfl rfl ?_
        refine R_ld (v := .inl ((rd h 206 v1) - 800)) dd_goesBack_156 rfl rfl rfl rfl ?_
        refine R_ld (v := .inl (v1 % 10)) dd_goesBack_158 rfl rfl rfl rfl ?_
        refine R_ld (v := .inl (v1 / 10)) dd_goesBack_159 rfl rfl rfl rfl ?_
        obtain ⟨c, hc, k⟩ := k
        exact R_call (as := [.inr (.inr 182), .inl ((rd h 206 v1) - 800), .inl (v1 % 10), .inl (v1 / 10)]) (rest := [.inl (10 * (v1 / 10) + 10)]) (M' := mm_toOf) (ls0 := [some (.inr (.inr 182)), some (.inl ((rd h 206 v1) - 800)), some (.inl (v1 % 10)), some (.inl (v1 / 10))]) dd_goesBack_161 rfl rfl (cw_v cw_12_444 io_182 rfl rfl (Nat.le_of_ble_eq_true rfl) (Nat.le_of_ble_eq_true rfl)) mt_toOf rfl hc rfl k
      · replace k := k.2 c36
        refine R_ld (v := .inr (.inr 182)) dd_goesBack_72 rfl rfl rfl rfl ?_
        refine R_gf (v := .inr (.inr 204)) dd_goesBack_73 fd_12_150 io_182 (congrArg (fun z : Int => (Sum.inr (Sum.inr z) : LV)) (rf_182_38 hF)) rfl ?_
        refine R_bi dd_goesBack_76 (by decide) rfl ?_
        refine R_ld (v := .inl (v1 / 10)) dd_goesBack_78 rfl rfl rfl rfl ?_
        refine R_ic dd_goesBack_80 (by decide) rfl ?_
        obtain ⟨s10, k⟩ := k
        refine R_isub (c := (v1 / 10) - 1) dd_goesBack_81 (by omega) s10 rfl ?_
        obtain ⟨s11, k⟩ := k
        refine R_imul (c := 14 * (v1 / 10) - 14) dd_goesBack_82 (by omega) s11 rfl ?_
        refine R_ld (v := .inl (rd h 206 v1)) dd_goesBack_83 rfl rfl rfl rfl ?_
        obtain ⟨s12, k⟩ := k
        refine R_iadd (c := 14 * (v1 / 10) + (rd h 206 v1) - 14) dd_goesBack_84 (by omega) s12 rfl ?_
        refine R_A dd_goesBack_85 rfl rfl rfl rfl ?_
        obtain ⟨s13, k⟩ := k
        refine R_iald (v := (rd h 204 (14 * (v1 / 10) + (rd h 206 v1) - 14))) (n := 336) dd_goesBack_86 ia_204 la_204 s13 (rfl) rfl ?_
        refine R_ic dd_goesBack_87 (by decide) rfl ?_
        obtain ⟨s14, k⟩ := k
        refine R_iadd (c := (rd h 204 (14 * (v1 / 10) + (rd h 206 v1) - 14)) + 1) dd_goesBack_88 (by omega) s14 rfl ?_
        obtain ⟨s15, k⟩ := k
        refine R_iast (n := 336) dd_goesBack_89 ia_204 la_204 s15 rfl ?_
        refine R_bi dd_goesBack_90 (by decide) rfl ?_
        refine R_ld (v := .inl (v1 / 10)) dd_goesBack_92 rfl rfl rfl rfl ?_
        refine R_ic dd_goesBack_94 (by decide) rfl ?_
        obtain ⟨s16, k⟩ := k
        refine R_isub (c := (v1 / 10) - 1) dd_goesBack_95 (by omega) s16 rfl ?_
        obtain ⟨s17, k⟩ := k
        refine R_imul (c := 10 * (v1 / 10) - 10) dd_goesBack_96 (by omega) s17 rfl ?_
        refine R_ld (v := .inr (.inr 182)) dd_goesBack_97 rfl rfl rfl rfl ?_
        refine R_ld (v := .inl (rd h 206 v1)) dd_goesBack_98 rfl rfl rfl rfl ?_
        refine R_ic dd_goesBack_99 (by decide) rfl ?_
        refine R_call (as := [.inr (.inr 182), .inl (rd h 206 v1), .inl 1]) (rest := [.inl (10 * (v1 / 10) - 10)]) (M' := mm_doorOf) (ls0 := [some (.inr (.inr 182)), some (.inl (rd h 206 v1)), some (.inl 1)]) dd_goesBack_100 rfl rfl (cw_v cw_12_347 io_182 rfl rfl (Nat.le_of_ble_eq_true rfl) (Nat.le_of_ble_eq_true rfl)) mt_doorOf rfl (c := e - 1) (by omega) rfl ?_
        refine R_ld (v := .inr (.inr 182)) dd_doorOf_0 rfl rfl rfl rfl ?_
        refine R_gf (v := .inr (.inr 188)) dd_doorOf_1 fd_12_95 io_182 (congrArg (fun z : Int => (Sum.inr (Sum.inr z) : LV)) ((rdw_ne (by decide)).trans (rf_182_10 hF))) rfl ?_
        refine R_ic dd_doorOf_4 (by decide) rfl ?_
        refine R_bi dd_doorOf_5 (by decide) rfl ?_
        refine R_ld (v := .inl (rd h 206 v1)) dd_doorOf_7 rfl rfl rfl rfl ?_
        obtain ⟨s18, k⟩ := k
        refine R_imul (c := 8 * (rd h 206 v1)) dd_doorOf_8 (by omega) s18 rfl ?_
        obtain ⟨s19, k⟩ := k
        refine R_iadd (c := 8 * (rd h 206 v1) + 4) dd_doorOf_9 (by omega) s19 rfl ?_
        refine R_ld (v := .inl 1) dd_doorOf_10 rfl rfl rfl rfl ?_
        obtain ⟨s20, k⟩ := k
        refine R_iadd (c := 8 * (rd h 206 v1) + 5) dd_doorOf_11 (by omega) s20 rfl ?_
        obtain ⟨s21, k⟩ := k
        refine R_iald (v := (rd h 188 (8 * (rd h 206 v1) + 5))) (n := 300) dd_doorOf_12 ia_188 la_188 s21 (rdw_ne (by decide)) rfl ?_
        refine R_iret dd_doorOf_13 rfl ?_
        change Rn xs xl e mm_goesBack 103 [some (.inr (.inr 182)), some (.inl v1), some (.inl (rd h 206 v1)), some (.inl (v1 % 10)), some (.inl (v1 / 10)), none] [.inl (rd h 188 (8 * (rd h 206 v1) + 5)), .inl (10 * (v1 / 10) - 10)] (wr h 204 (14 * (v1 / 10) + (rd h 206 v1) - 14) ((rd h 204 (14 * (v1 / 10) + (rd h 206 v1) - 14)) + 1)) _
        refine R_ld (v := .inl (v1 % 10)) dd_goesBack_103 rfl rfl rfl rfl ?_
        refine R_icmp dd_goesBack_104 rfl rfl (fun (c37 : (rd h 188 (8 * (rd h 206 v1) + 5)) ≠ (v1 % 10)) => ?_) (fun (c37 : (rd h 188 (8 * (rd h 206 v1) + 5)) = (v1 % 10)) => ?_)
        · replace k := k.1 c37
          refine R_ld (v := .inr (.inr 182)) dd_goesBack_116 rfl rfl rfl rfl ?_
          refine R_ld (v := .inl (rd h 206 v1)) dd_goesBack_117 rfl rfl rfl rfl ?_
          refine R_ic dd_goesBack_118 (by decide) rfl ?_
          refine R_call (as := [.inr (.inr 182), .inl (rd h 206 v1), .inl 1]) (rest := [.inl (10 * (v1 / 10) - 10)]) (M' := mm_doorOf) (ls0 := [some (.inr (.inr 182)), some (.inl (rd h 206 v1)), some (.inl 1)]) dd_goesBack_119 rfl rfl (cw_v cw_12_347 io_182 rfl rfl (Nat.le_of_ble_eq_true rfl) (Nat.le_of_ble_eq_true rfl)) mt_doorOf rfl (c := e - 1) (by omega) rfl ?_
          refine R_ld (v := .inr (.inr 182)) dd_doorOf_0 rfl rfl rfl rfl ?_
          refine R_gf (v := .inr (.inr 188)) dd_doorOf_1 fd_12_95 io_182 (congrArg (fun z : Int => (Sum.inr (Sum.inr z) : LV)) ((rdw_ne (by decide)).trans (rf_182_10 hF))) rfl ?_
          refine R_ic dd_doorOf_4 (by decide) rfl ?_
          refine R_bi dd_doorOf_5 (by decide) rfl ?_
          refine R_ld (v := .inl (rd h 206 v1)) dd_doorOf_7 rfl rfl rfl rfl ?_
          obtain ⟨s22, k⟩ := k
          refine R_imul (c := 8 * (rd h 206 v1)) dd_doorOf_8 (by omega) s22 rfl ?_
          obtain ⟨s23, k⟩ := k
          refine R_iadd (c := 8 * (rd h 206 v1) + 4) dd_doorOf_9 (by omega) s23 rfl ?_
          refine R_ld (v := .inl 1) dd_doorOf_10 rfl rfl rfl rfl ?_
          obtain ⟨s24, k⟩ := k
          refine R_iadd (c := 8 * (rd h 206 v1) + 5) dd_doorOf_11 (by omega) s24 rfl ?_
          obtain ⟨s25, k⟩ := k
          refine R_iald (v := (rd h 188 (8 * (rd h 206 v1) + 5))) (n := 300) dd_doorOf_12 ia_188 la_188 s25 (rdw_ne (by decide)) rfl ?_
          refine R_iret dd_doorOf_13 rfl ?_
          change Rn xs xl e mm_goesBack 122 [some (.inr (.inr 182)), some (.inl v1), some (.inl (rd h 206 v1)), some (.inl (v1 % 10)), some (.inl (v1 / 10)), none] [.inl (rd h 188 (8 * (rd h 206 v1) + 5)), .inl (10 * (v1 / 10) - 10)] (wr h 204 (14 * (v1 / 10) + (rd h 206 v1) - 14) ((rd h 204 (14 * (v1 / 10) + (rd h 206 v1) - 14)) + 1)) _
          obtain ⟨s26, k⟩ := k
          refine R_iadd (c := 10 * (v1 / 10) + (rd h 188 (8 * (rd h 206 v1) + 5)) - 10) dd_goesBack_122 (by omega) s26 rfl ?_
          exact R_iret dd_goesBack_123 rfl k
        · replace k := k.2 c37
          refine R_ld (v := .inr (.inr 182)) dd_goesBack_107 rfl rfl rfl rfl ?_
          refine R_ld (v := .inl (rd h 206 v1)) dd_goesBack_108 rfl rfl rfl rfl ?_
          refine R_ic dd_goesBack_109 (by decide) rfl ?_
          refine R_call (as := [.inr (.inr 182), .inl (rd h 206 v1), .inl 2]) (rest := [.inl (10 * (v1 / 10) - 10)]) (M' := mm_doorOf) (ls0 := [some (.inr (.inr 182)), some (.inl (rd h 206 v1)), some (.inl 2)]) dd_goesBack_110 rfl rfl (cw_v cw_12_347 io_182 rfl rfl (Nat.le_of_ble_eq_true rfl) (Nat.le_of_ble_eq_true rfl)) mt_doorOf rfl (c := e - 1) (by omega) rfl ?_
          refine R_ld (v := .inr (.inr 182)) dd_doorOf_0 rfl rfl rfl rfl ?_
          refine R_gf (v := .inr (.inr 188)) dd_doorOf_1 fd_12_95 io_182 (congrArg (fun z : Int => (Sum.inr (Sum.inr z) : LV)) ((rdw_ne (by decide)).trans (rf_182_10 hF))) rfl ?_
          refine R_ic dd_doorOf_4 (by decide) rfl ?_
          refine R_bi dd_doorOf_5 (by decide) rfl ?_
          refine R_ld (v := .inl (rd h 206 v1)) dd_doorOf_7 rfl rfl rfl rfl ?_
          obtain ⟨s27, k⟩ := k
          refine R_imul (c := 8 * (rd h 206 v1)) dd_doorOf_8 (by omega) s27 rfl ?_
          obtain ⟨s28, k⟩ := k
          refine R_iadd (c := 8 * (rd h 206 v1) + 4) dd_doorOf_9 (by omega) s28 rfl ?_
          refine R_ld (v := .inl 2) dd_doorOf_10 rfl rfl rfl rfl ?_
          obtain ⟨s29, k⟩ := k
          refine R_iadd (c := 8 * (rd h 206 v1) + 6) dd_doorOf_11 (by omega) s29 rfl ?_
          obtain ⟨s30, k⟩ := k
          refine R_iald (v := (rd h 188 (8 * (rd h 206 v1) + 6))) (n := 300) dd_doorOf_12 ia_188 la_188 s30 (rdw_ne (by decide)) rfl ?_
          refine R_iret dd_doorOf_13 rfl ?_
          change Rn xs xl e mm_goesBack 113 [some (.inr (.inr 182)), some (.inl v1), some (.inl (rd h 206 v1)), some (.inl (v1 % 10)), some (.inl (v1 / 10)), none] [.inl (rd h 188 (8 * (rd h 206 v1) + 6)), .inl (10 * (v1 / 10) - 10)] (wr h 204 (14 * (v1 / 10) + (rd h 206 v1) - 14) ((rd h 204 (14 * (v1 / 10) + (rd h 206 v1) - 14)) + 1)) _
          refine R_goto dd_goesBack_113 rfl ?_
          obtain ⟨s31, k⟩ := k
          refine R_iadd (c := 10 * (v1 / 10) + (rd h 188 (8 * (rd h 206 v1) + 6)) - 10) dd_goesBack_122 (by omega) s31 rfl ?_
          exact R_iret dd_goesBack_123 rfl k
    · replace k := k.2 c35
      refine R_ld (v := .inr (.inr 182)) dd_goesBack_50 rfl rfl rfl rfl ?_
      refine R_gf (v := .inr (.inr 205)) dd_goesBack_51 fd_12_153 io_182 (congrArg (fun z : Int => (Sum.inr (Sum.inr z) : LV)) (rf_182_39 hF)) rfl ?_
      refine R_ld (v := .inl v1) dd_goesBack_54 rfl rfl rfl rfl ?_
      refine R_A dd_goesBack_55 rfl rfl rfl rfl ?_
      refine R_iald (v := (rd h 205 v1)) (n := 250) dd_goesBack_56 ia_205 la_205 (by omega) (rfl) rfl ?_
      refine R_ic dd_goesBack_57 (by decide) rfl ?_
      refine R_isubw dd_goesBack_58 rfl ?_
      refine R_iast (n := 250) dd_goesBack_59 ia_205 la_205 (by omega) rfl ?_
      refine R_ld (v := .inl v1) dd_goesBack_60 rfl rfl rfl rfl ?_
      refine R_bi dd_goesBack_61 (by decide) rfl ?_
      refine R_iadd (c := v1 + 10) dd_goesBack_63 (by omega) (by omega) rfl ?_
      exact R_iret dd_goesBack_64 rfl k
  · replace k := k.2 c34
    refine R_ld (v := .inr (.inr 182)) dd_goesBack_25 rfl rfl rfl rfl ?_
    refine R_gf (v := .inr (.inr 205)) dd_goesBack_26 fd_12_153 io_182 (congrArg (fun z : Int => (Sum.inr (Sum.inr z) : LV)) (rf_182_39 hF)) rfl ?_
    refine R_ld (v := .inl v1) dd_goesBack_29 rfl rfl rfl rfl ?_
    refine R_bi dd_goesBack_30 (by decide) rfl ?_
    refine R_isub (c := v1 - 10) dd_goesBack_32 (by omega) (by omega) rfl ?_
    refine R_A dd_goesBack_33 rfl rfl rfl rfl ?_
    obtain ⟨s32, k⟩ := k
    refine R_iald (v := (rd h 205 (v1 - 10))) (n := 250) dd_goesBack_34 ia_205 la_205 s32 (rfl) rfl ?_
    refine R_ic dd_goesBack_35 (by decide) rfl ?_
    refine R_iaddw dd_goesBack_36 rfl ?_
    obtain ⟨s33, k⟩ := k
    refine R_iast (n := 250) dd_goesBack_37 ia_205 la_205 s33 rfl ?_
    refine R_ld (v := .inl v1) dd_goesBack_38 rfl rfl rfl rfl ?_
    refine R_bi dd_goesBack_39 (by decide) rfl ?_
    refine R_isub (c := v1 - 10) dd_goesBack_41 (by omega) (by omega) rfl ?_
    exact R_iret dd_goesBack_42 rfl k
theorem B_goesBack_164 {xs : Nat → Int} {xl e : Nat} {h : LH} {Q : Option LV → LH → Prop} {v1 v2 v3 v4 v5 w0 w1 : Int} (hF : RF h) (r_w0 : 0 ≤ w0 ∧ w0 ≤ 240) (r_w1 : -1 ≤ w1 ∧ w1 ≤ 9)
    (k : Q (some (.inl (w0 + w1))) h) :
    Rn xs xl e mm_goesBack 164 [some (.inr (.inr 182)), some (.inl v1), some (.inl v2), some (.inl v3), some (.inl v4), some (.inl v5)] [.inl w1, .inl w0] h Q := by
  refine R_iadd (c := w0 + w1) dd_goesBack_164 (by omega) (by omega) rfl ?_
  exact R_iret dd_goesBack_165 rfl k
theorem B_isMore_0 {xs : Nat → Int} {xl e : Nat} {h : LH} {Q : Option LV → LH → Prop} {v1 v2 v3 : Int} (hF : RF h) (r_v1 : 0 ≤ v1 ∧ v1 ≤ 249) (r_v2 : 0 ≤ v2 ∧ v2 ≤ 249) (r_v3 : 0 ≤ v3 ∧ v3 ≤ 23)
    (k : Rn xs xl e mm_isMore 3 [some (.inr (.inr 182)), some (.inl v1), some (.inl v2), some (.inl v3), some (.inl 0)] [] h Q) :
    Rn xs xl e mm_isMore 0 [some (.inr (.inr 182)), some (.inl v1), some (.inl v2), some (.inl v3), none] [] h Q := by
  refine R_ic dd_isMore_0 (by decide) rfl ?_
  refine R_st (ls' := [some (.inr (.inr 182)), some (.inl v1), some (.inl v2), some (.inl v3), some (.inl 0)]) dd_isMore_1 rfl rfl rfl (Nat.le_of_ble_eq_true rfl) rfl rfl ?_
  exact k
theorem B_isMore_3 {xs : Nat → Int} {xl e : Nat} {h : LH} {Q : Option LV → LH → Prop} {v1 v2 v3 v4 : Int} (hF : RF h) (r_v1 : 0 ≤ v1 ∧ v1 ≤ 249) (r_v2 : 0 ≤ v2 ∧ v2 ≤ 249) (r_v3 : 0 ≤ v3 ∧ v3 ≤ 23) (r_v4 : 0 ≤ v4 ∧ v4 ≤ 250)
    (k : (250 ≤ v4 →
        (∃ c, c < e ∧ Rn xs xl c mm_comes 0 [some (.inr (.inr 182)), some (.inl v1), some (.inl 2000)] [] (wr h 182 42 0) (fun r h' => Rn xs xl e mm_isMore 38 [some (.inr (.inr 182)), some (.inl v1), some (.inl v2), some (.inl v3), some (.inl v4)] (r.toList ++ []) h' Q))) ∧
      (v4 < 250 →
        (0 ≤ v4 ∧ v4 < 250) ∧
        Rn xs xl e mm_isMore 3 [some (.inr (.inr 182)), some (.inl v1), some (.inl v2), some (.inl v3), some (.inl (v4 + 1))] [] (wr h 206 v4 (-1)) Q)) :
    Rn xs xl e mm_isMore 3 [some (.inr (.inr 182)), some (.inl v1), some (.inl v2), some (.inl v3), some (.inl v4)] [] h Q := by
  refine R_ld (v := .inl v4) dd_isMore_3 rfl rfl rfl rfl ?_
  refine R_si dd_isMore_5 (by decide) rfl ?_
  refine R_icmp dd_isMore_8 rfl rfl (fun (c3 : 250 ≤ v4) => ?_) (fun (c3 : v4 < 250) => ?_)
  · replace k := k.1 c3
    refine R_ld (v := .inr (.inr 182)) dd_isMore_25 rfl rfl rfl rfl ?_
    refine R_ic dd_isMore_26 (by decide) rfl ?_
    refine R_pf (z := 0) dd_isMore_27 fd_12_438 io_182 fn_12_42 rfl rfl ?_
    refine R_ld (v := .inr (.inr 182)) dd_isMore_30 rfl rfl rfl rfl ?_
    refine R_ld (v := .inl v1) dd_isMore_31 rfl rfl rfl rfl ?_
    refine R_si dd_isMore_32 (by decide) rfl ?_
    obtain ⟨c, hc, k⟩ := k
    exact R_call (as := [.inr (.inr 182), .inl v1, .inl 2000]) (rest := []) (M' := mm_comes) (ls0 := [some (.inr (.inr 182)), some (.inl v1), some (.inl 2000)]) dd_isMore_35 rfl rfl (cw_v cw_12_441 io_182 rfl rfl (Nat.le_of_ble_eq_true rfl) (Nat.le_of_ble_eq_true rfl)) mt_comes rfl hc rfl k
  · replace k := k.2 c3
    refine R_ld (v := .inr (.inr 182)) dd_isMore_11 rfl rfl rfl rfl ?_
    refine R_gf (v := .inr (.inr 206)) dd_isMore_12 fd_12_156 io_182 (congrArg (fun z : Int => (Sum.inr (Sum.inr z) : LV)) (rf_182_40 hF)) rfl ?_
    refine R_ld (v := .inl v4) dd_isMore_15 rfl rfl rfl rfl ?_
    refine R_ic dd_isMore_17 (by decide) rfl ?_
    obtain ⟨s2, k⟩ := k
    refine R_iast (n := 250) dd_isMore_18 ia_206 la_206 s2 rfl ?_
    refine R_inc (y := v4 + 1) (ls' := [some (.inr (.inr 182)), some (.inl v1), some (.inl v2), some (.inl v3), some (.inl (v4 + 1))]) dd_isMore_19 rfl (by decide) (by omega) (by omega) rfl rfl ?_
    refine R_goto dd_isMore_22 rfl ?_
    exact k
theorem B_isMore_38 {xs : Nat → Int} {xl e : Nat} {h : LH} {Q : Option LV → LH → Prop} {v1 v2 v3 v4 : Int} (hF : RF h)
    (k : Rn xs xl e mm_isMore 41 [some (.inr (.inr 182)), some (.inl v1), some (.inl v2), some (.inl v3), some (.inl 0)] [] h Q) :
    Rn xs xl e mm_isMore 38 [some (.inr (.inr 182)), some (.inl v1), some (.inl v2), some (.inl v3), some (.inl v4)] [] h Q := by
  refine R_ic dd_isMore_38 (by decide) rfl ?_
  refine R_st (ls' := [some (.inr (.inr 182)), some (.inl v1), some (.inl v2), some (.inl v3), some (.inl 0)]) dd_isMore_39 rfl rfl rfl (Nat.le_of_ble_eq_true rfl) rfl rfl ?_
  exact k
theorem B_isMore_41 {xs : Nat → Int} {xl e : Nat} {h : LH} {Q : Option LV → LH → Prop} {v1 v2 v3 v4 : Int} (hF : RF h) (r_v1 : 0 ≤ v1 ∧ v1 ≤ 249) (r_v2 : 0 ≤ v2 ∧ v2 ≤ 249) (r_v3 : 0 ≤ v3 ∧ v3 ≤ 23) (r_v4 : 0 ≤ v4 ∧ v4 ≤ 250)
    (k : ((rd h 182 42) ≤ v4 →
        Rn xs xl e mm_isMore 82 [some (.inr (.inr 182)), some (.inl v1), some (.inl v2), some (.inl v3), some (.inl v4)] [] h Q) ∧
      (v4 < (rd h 182 42) →
        ((rd h 206 v2) ≠ (-1) →
          Rn xs xl e mm_isMore 82 [some (.inr (.inr 182)), some (.inl v1), some (.inl v2), some (.inl v3), some (.inl v4)] [] h Q) ∧
        ((rd h 206 v2) = (-1) →
          (0 ≤ v4 ∧ v4 < 250) ∧
          (∃ c, c < e ∧ Rn xs xl c mm_spreads 0 [some (.inr (.inr 182)), some (.inl (rd h 207 v4)), some (.inl (v1 / 10)), some (.inl v3), none, none, none, none] [] h (fun r h' => Rn xs xl e mm_isMore 76 [some (.inr (.inr 182)), some (.inl v1), some (.inl v2), some (.inl v3), some (.inl v4)] (r.toList ++ []) h' Q))))) :
    Rn xs xl e mm_isMore 41 [some (.inr (.inr 182)), some (.inl v1), some (.inl v2), some (.inl v3), some (.inl v4)] [] h Q := by
  refine R_ld (v := .inl v4) dd_isMore_41 rfl rfl rfl rfl ?_
  refine R_ld (v := .inr (.inr 182)) dd_isMore_43 rfl rfl rfl rfl ?_
  refine R_gf (v := .inl (rd h 182 42)) dd_isMore_44 fd_12_438 io_182 (congrArg (fun z : Int => (Sum.inl z : LV)) (rfl)) rfl ?_
  refine R_icmp dd_isMore_47 rfl rfl (fun (c3 : (rd h 182 42) ≤ v4) => ?_) (fun (c3 : v4 < (rd h 182 42)) => ?_)
  · replace k := k.1 c3
    exact k
  · replace k := k.2 c3
    refine R_ld (v := .inr (.inr 182)) dd_isMore_50 rfl rfl rfl rfl ?_
    refine R_gf (v := .inr (.inr 206)) dd_isMore_51 fd_12_156 io_182 (congrArg (fun z : Int => (Sum.inr (Sum.inr z) : LV)) (rf_182_40 hF)) rfl ?_
    refine R_ld (v := .inl v2) dd_isMore_54 rfl rfl rfl rfl ?_
    refine R_iald (v := (rd h 206 v2)) (n := 250) dd_isMore_55 ia_206 la_206 (by omega) (rfl) rfl ?_
    refine R_ic dd_isMore_56 (by decide) rfl ?_
    refine R_icmp dd_isMore_57 rfl rfl (fun (c4 : (rd h 206 v2) ≠ (-1)) => ?_) (fun (c4 : (rd h 206 v2) = (-1)) => ?_)
    · replace k := k.1 c4
      exact k
    · replace k := k.2 c4
      refine R_ld (v := .inr (.inr 182)) dd_isMore_60 rfl rfl rfl rfl ?_
      refine R_ld (v := .inr (.inr 182)) dd_isMore_61 rfl rfl rfl rfl ?_
      refine R_gf (v := .inr (.inr 207)) dd_isMore_62 fd_12_159 io_182 (congrArg (fun z : Int => (Sum.inr (Sum.inr z) : LV)) (rf_182_41 hF)) rfl ?_
      refine R_ld (v := .inl v4) dd_isMore_65 rfl rfl rfl rfl ?_
      obtain ⟨s1, k⟩ := k
      refine R_iald (v := (rd h 207 v4)) (n := 250) dd_isMore_67 ia_207 la_207 s1 (rfl) rfl ?_
      refine R_ld (v := .inl v1) dd_isMore_68 rfl rfl rfl rfl ?_
      refine R_bi dd_isMore_69 (by decide) rfl ?_
      refine R_idiv dd_isMore_71 (by omega) (by decide) rfl ?_
      refine R_ld (v := .inl v3) dd_isMore_72 rfl rfl rfl rfl ?_
      obtain ⟨c, hc, k⟩ := k
      exact R_call (as := [.inr (.inr 182), .inl (rd h 207 v4), .inl (v1 / 10), .inl v3]) (rest := []) (M' := mm_spreads) (ls0 := [some (.inr (.inr 182)), some (.inl (rd h 207 v4)), some (.inl (v1 / 10)), some (.inl v3), none, none, none, none]) dd_isMore_73 rfl rfl (cw_v cw_12_447 io_182 rfl rfl (Nat.le_of_ble_eq_true rfl) (Nat.le_of_ble_eq_true rfl)) mt_spreads rfl hc rfl k
theorem B_isMore_76 {xs : Nat → Int} {xl e : Nat} {h : LH} {Q : Option LV → LH → Prop} {v1 v2 v3 v4 : Int} (hF : RF h) (r_v4 : 0 ≤ v4 ∧ v4 ≤ 249)
    (k : Rn xs xl e mm_isMore 41 [some (.inr (.inr 182)), some (.inl v1), some (.inl v2), some (.inl v3), some (.inl (v4 + 1))] [] h Q) :
    Rn xs xl e mm_isMore 76 [some (.inr (.inr 182)), some (.inl v1), some (.inl v2), some (.inl v3), some (.inl v4)] [] h Q := by
  refine R_inc (y := v4 + 1) (ls' := [some (.inr (.inr 182)), some (.inl v1), some (.inl v2), some (.inl v3), some (.inl (v4 + 1))]) dd_isMore_76 rfl (by decide) (by omega) (by omega) rfl rfl ?_
  refine R_goto dd_isMore_79 rfl ?_
  exact k
theorem B_isMore_82 {xs : Nat → Int} {xl e : Nat} {h : LH} {Q : Option LV → LH → Prop} {v1 v2 v3 v4 : Int} (hF : RF h) (r_v1 : 0 ≤ v1 ∧ v1 ≤ 249) (r_v2 : 0 ≤ v2 ∧ v2 ≤ 249) (r_v3 : 0 ≤ v3 ∧ v3 ≤ 23)
    (k : ((rd h 206 v2) ≠ (-1) →
        Rn xs xl e mm_isMore 97 [some (.inr (.inr 182)), some (.inl v1), some (.inl v2), some (.inl v3), some (.inl v2)] [] h Q) ∧
      ((rd h 206 v2) = (-1) →
        Q (some (.inl 0)) h)) :
    Rn xs xl e mm_isMore 82 [some (.inr (.inr 182)), some (.inl v1), some (.inl v2), some (.inl v3), some (.inl v4)] [] h Q := by
  refine R_ld (v := .inr (.inr 182)) dd_isMore_82 rfl rfl rfl rfl ?_
  refine R_gf (v := .inr (.inr 206)) dd_isMore_83 fd_12_156 io_182 (congrArg (fun z : Int => (Sum.inr (Sum.inr z) : LV)) (rf_182_40 hF)) rfl ?_
  refine R_ld (v := .inl v2) dd_isMore_86 rfl rfl rfl rfl ?_
  refine R_iald (v := (rd h 206 v2)) (n := 250) dd_isMore_87 ia_206 la_206 (by omega) (rfl) rfl ?_
  refine R_ic dd_isMore_88 (by decide) rfl ?_
  refine R_icmp dd_isMore_89 rfl rfl (fun (c1 : (rd h 206 v2) ≠ (-1)) => ?_) (fun (c1 : (rd h 206 v2) = (-1)) => ?_)
  · replace k := k.1 c1
    refine R_ld (v := .inl v2) dd_isMore_94 rfl rfl rfl rfl ?_
    refine R_st (ls' := [some (.inr (.inr 182)), some (.inl v1), some (.inl v2), some (.inl v3), some (.inl v2)]) dd_isMore_95 rfl rfl rfl (Nat.le_of_ble_eq_true rfl) rfl rfl ?_
    exact k
  · replace k := k.2 c1
    refine R_ic dd_isMore_92 (by decide) rfl ?_
    exact R_zret dd_isMore_93 rfl (by decide) k
theorem B_isMore_97 {xs : Nat → Int} {xl e : Nat} {h : LH} {Q : Option LV → LH → Prop} {v1 v2 v3 v4 : Int} (hF : RF h)
    (k : (v4 = v1 →
        Q (some (.inl 1)) h) ∧
      (v4 ≠ v1 →
        (∃ c, c < e ∧ Rn xs xl c mm_goesBack 0 [some (.inr (.inr 182)), some (.inl v4), none, none, none, none] [] h (fun r h' => Rn xs xl e mm_isMore 109 [some (.inr (.inr 182)), some (.inl v1), some (.inl v2), some (.inl v3), some (.inl v4)] (r.toList ++ []) h' Q)))) :
    Rn xs xl e mm_isMore 97 [some (.inr (.inr 182)), some (.inl v1), some (.inl v2), some (.inl v3), some (.inl v4)] [] h Q := by
  refine R_ld (v := .inl v4) dd_isMore_97 rfl rfl rfl rfl ?_
  refine R_ld (v := .inl v1) dd_isMore_99 rfl rfl rfl rfl ?_
  refine R_icmp dd_isMore_100 rfl rfl (fun (c2 : v4 = v1) => ?_) (fun (c2 : v4 ≠ v1) => ?_)
  · replace k := k.1 c2
    refine R_ic dd_isMore_114 (by decide) rfl ?_
    exact R_zret dd_isMore_115 rfl (by decide) k
  · replace k := k.2 c2
    refine R_ld (v := .inr (.inr 182)) dd_isMore_103 rfl rfl rfl rfl ?_
    refine R_ld (v := .inl v4) dd_isMore_104 rfl rfl rfl rfl ?_
    obtain ⟨c, hc, k⟩ := k
    exact R_call (as := [.inr (.inr 182), .inl v4]) (rest := []) (M' := mm_goesBack) (ls0 := [some (.inr (.inr 182)), some (.inl v4), none, none, none, none]) dd_isMore_106 rfl rfl (cw_v cw_12_450 io_182 rfl rfl (Nat.le_of_ble_eq_true rfl) (Nat.le_of_ble_eq_true rfl)) mt_goesBack rfl hc rfl k
theorem B_isMore_109 {xs : Nat → Int} {xl e : Nat} {h : LH} {Q : Option LV → LH → Prop} {v1 v2 v3 v4 w0 : Int} (hF : RF h)
    (k : Rn xs xl e mm_isMore 97 [some (.inr (.inr 182)), some (.inl v1), some (.inl v2), some (.inl v3), some (.inl w0)] [] h Q) :
    Rn xs xl e mm_isMore 109 [some (.inr (.inr 182)), some (.inl v1), some (.inl v2), some (.inl v3), some (.inl v4)] [.inl w0] h Q := by
  refine R_st (ls' := [some (.inr (.inr 182)), some (.inl v1), some (.inl v2), some (.inl v3), some (.inl w0)]) dd_isMore_109 rfl rfl rfl (Nat.le_of_ble_eq_true rfl) rfl rfl ?_
  refine R_goto dd_isMore_111 rfl ?_
  exact k
theorem B_crowd_0 {xs : Nat → Int} {xl e : Nat} {h : LH} {Q : Option LV → LH → Prop} {v1 v2 v3 : Int} (hF : RF h) (he : 2 ≤ e)
    (k : (v1 < 0 →
        Q (some (.inl (-1))) (wr h 182 0 0)) ∧
      (0 ≤ v1 →
        ((rd h 188 0) ≤ v1 →
          Q (some (.inl (-1))) (wr h 182 0 0)) ∧
        (v1 < (rd h 188 0) →
          (v2 < 0 →
            Q (some (.inl (-1))) (wr h 182 0 0)) ∧
          (0 ≤ v2 →
            ((rd h 188 0) ≤ v2 →
              Q (some (.inl (-1))) (wr h 182 0 0)) ∧
            (v2 < (rd h 188 0) →
              (v1 = v2 →
                Q (some (.inl (-1))) (wr h 182 0 0)) ∧
              (v1 ≠ v2 →
                (v3 < (rd h 198 0) →
                  Q (some (.inl (-1))) (wr h 182 0 0)) ∧
                ((rd h 198 0) ≤ v3 →
                  (23 < v3 →
                    Q (some (.inl (-1))) (wr h 182 0 0)) ∧
                  (v3 ≤ 23 →
                    Rn xs xl e mm_crowd 46 [some (.inr (.inr 182)), some (.inl v1), some (.inl v2), some (.inl v3), some (.inl 0)] [] (wr h 182 0 0) Q)))))))) :
    Rn xs xl e mm_crowd 0 [some (.inr (.inr 182)), some (.inl v1), some (.inl v2), some (.inl v3), none] [] h Q := by
  refine R_ld (v := .inr (.inr 182)) dd_crowd_0 rfl rfl rfl rfl ?_
  refine R_ic dd_crowd_1 (by decide) rfl ?_
  refine R_pf (z := 0) dd_crowd_2 fd_12_1 io_182 fn_12_0 rfl rfl ?_
  refine R_ld (v := .inr (.inr 182)) dd_crowd_5 rfl rfl rfl rfl ?_
  refine R_ld (v := .inl v1) dd_crowd_6 rfl rfl rfl rfl ?_
  refine R_call (as := [.inr (.inr 182), .inl v1]) (rest := []) (M' := mm_isRoom) (ls0 := [some (.inr (.inr 182)), some (.inl v1)]) dd_crowd_7 rfl rfl (cw_v cw_12_370 io_182 rfl rfl (Nat.le_of_ble_eq_true rfl) (Nat.le_of_ble_eq_true rfl)) mt_isRoom rfl (c := e - 1) (by omega) rfl ?_
  refine R_ld (v := .inl v1) dd_isRoom_0 rfl rfl rfl rfl ?_
  refine R_if dd_isRoom_1 rfl rfl (fun (c1 : v1 < 0) => ?_) (fun (c1 : 0 ≤ v1) => ?_)
  · replace k := k.1 c1
    refine R_ic dd_isRoom_16 (by decide) rfl ?_
    refine R_zret dd_isRoom_17 rfl (by decide) ?_
    change Rn xs xl e mm_crowd 10 [some (.inr (.inr 182)), some (.inl v1), some (.inl v2), some (.inl v3), none] [.inl 0] (wr h 182 0 0) _
    refine R_if dd_crowd_10 rfl rfl (fun (c2 : 0 = 0) => ?_) (fun (c2 : 0 ≠ 0) => ?_)
    · skip
      refine R_ic dd_crowd_41 (by decide) rfl ?_
      exact R_iret dd_crowd_42 rfl k
    · exact absurd c2 (by omega)
  · replace k := k.2 c1
    refine R_ld (v := .inl v1) dd_isRoom_4 rfl rfl rfl rfl ?_
    refine R_ld (v := .inr (.inr 182)) dd_isRoom_5 rfl rfl rfl rfl ?_
    refine R_call (as := [.inr (.inr 182)]) (rest := [.inl v1]) (M' := mm_rooms) (ls0 := [some (.inr (.inr 182))]) dd_isRoom_6 rfl rfl (cw_v cw_12_332 io_182 rfl rfl (Nat.le_of_ble_eq_true rfl) (Nat.le_of_ble_eq_true rfl)) mt_rooms rfl (c := e - 2) (by omega) rfl ?_
    refine R_ld (v := .inr (.inr 182)) dd_rooms_0 rfl rfl rfl rfl ?_
    refine R_gf (v := .inr (.inr 188)) dd_rooms_1 fd_12_95 io_182 (congrArg (fun z : Int => (Sum.inr (Sum.inr z) : LV)) ((rdw_nei (by omega)).trans (rf_182_10 hF))) rfl ?_
    refine R_ic dd_rooms_4 (by decide) rfl ?_
    refine R_iald (v := (rd h 188 0)) (n := 300) dd_rooms_5 ia_188 la_188 (by decide) (rdw_ne (by decide)) rfl ?_
    refine R_iret dd_rooms_6 rfl ?_
    change Rn xs xl (e - 1) mm_isRoom 9 [some (.inr (.inr 182)), some (.inl v1)] [.inl (rd h 188 0), .inl v1] (wr h 182 0 0) _
    refine R_icmp dd_isRoom_9 rfl rfl (fun (c3 : (rd h 188 0) ≤ v1) => ?_) (fun (c3 : v1 < (rd h 188 0)) => ?_)
    · replace k := k.1 c3
      refine R_ic dd_isRoom_16 (by decide) rfl ?_
      refine R_zret dd_isRoom_17 rfl (by decide) ?_
      change Rn xs xl e mm_crowd 10 [some (.inr (.inr 182)), some (.inl v1), some (.inl v2), some (.inl v3), none] [.inl 0] (wr h 182 0 0) _
      refine R_if dd_crowd_10 rfl rfl (fun (c4 : 0 = 0) => ?_) (fun (c4 : 0 ≠ 0) => ?_)
      · skip
        refine R_ic dd_crowd_41 (by decide) rfl ?_
        exact R_iret dd_crowd_42 rfl k
      · exact absurd c4 (by omega)
    · replace k := k.2 c3
      refine R_ic dd_isRoom_12 (by decide) rfl ?_
      refine R_goto dd_isRoom_13 rfl ?_
      refine R_zret dd_isRoom_17 rfl (by decide) ?_
      change Rn xs xl e mm_crowd 10 [some (.inr (.inr 182)), some (.inl v1), some (.inl v2), some (.inl v3), none] [.inl 1] (wr h 182 0 0) _
      refine R_if dd_crowd_10 rfl rfl (fun (c5 : 1 = 0) => ?_) (fun (c5 : 1 ≠ 0) => ?_)
      · exact absurd c5 (by omega)
      · skip
        refine R_ld (v := .inr (.inr 182)) dd_crowd_13 rfl rfl rfl rfl ?_
        refine R_ld (v := .inl v2) dd_crowd_14 rfl rfl rfl rfl ?_
        refine R_call (as := [.inr (.inr 182), .inl v2]) (rest := []) (M' := mm_isRoom) (ls0 := [some (.inr (.inr 182)), some (.inl v2)]) dd_crowd_15 rfl rfl (cw_v cw_12_370 io_182 rfl rfl (Nat.le_of_ble_eq_true rfl) (Nat.le_of_ble_eq_true rfl)) mt_isRoom rfl (c := e - 1) (by omega) rfl ?_
        refine R_ld (v := .inl v2) dd_isRoom_0 rfl rfl rfl rfl ?_
        refine R_if dd_isRoom_1 rfl rfl (fun (c6 : v2 < 0) => ?_) (fun (c6 : 0 ≤ v2) => ?_)
        · replace k := k.1 c6
          refine R_ic dd_isRoom_16 (by decide) rfl ?_
          refine R_zret dd_isRoom_17 rfl (by decide) ?_
          change Rn xs xl e mm_crowd 18 [some (.inr (.inr 182)), some (.inl v1), some (.inl v2), some (.inl v3), none] [.inl 0] (wr h 182 0 0) _
          refine R_if dd_crowd_18 rfl rfl (fun (c7 : 0 = 0) => ?_) (fun (c7 : 0 ≠ 0) => ?_)
          · skip
            refine R_ic dd_crowd_41 (by decide) rfl ?_
            exact R_iret dd_crowd_42 rfl k
          · exact absurd c7 (by omega)
        · replace k := k.2 c6
          refine R_ld (v := .inl v2) dd_isRoom_4 rfl rfl rfl rfl ?_
          refine R_ld (v := .inr (.inr 182)) dd_isRoom_5 rfl rfl rfl rfl ?_
          refine R_call (as := [.inr (.inr 182)]) (rest := [.inl v2]) (M' := mm_rooms) (ls0 := [some (.inr (.inr 182))]) dd_isRoom_6 rfl rfl (cw_v cw_12_332 io_182 rfl rfl (Nat.le_of_ble_eq_true rfl) (Nat.le_of_ble_eq_true rfl)) mt_rooms rfl (c := e - 2) (by omega) rfl ?_
          refine R_ld (v := .inr (.inr 182)) dd_rooms_0 rfl rfl rfl rfl ?_
          refine R_gf (v := .inr (.inr 188)) dd_rooms_1 fd_12_95 io_182 (congrArg (fun z : Int => (Sum.inr (Sum.inr z) : LV)) ((rdw_nei (by omega)).trans (rf_182_10 hF))) rfl ?_
          refine R_ic dd_rooms_4 (by decide) rfl ?_
          refine R_iald (v := (rd h 188 0)) (n := 300) dd_rooms_5 ia_188 la_188 (by decide) (rdw_ne (by decide)) rfl ?_
          refine R_iret dd_rooms_6 rfl ?_
          change Rn xs xl (e - 1) mm_isRoom 9 [some (.inr (.inr 182)), some (.inl v2)] [.inl (rd h 188 0), .inl v2] (wr h 182 0 0) _
          refine R_icmp dd_isRoom_9 rfl rfl (fun (c8 : (rd h 188 0) ≤ v2) => ?_) (fun (c8 : v2 < (rd h 188 0)) => ?_)
          · replace k := k.1 c8
            refine R_ic dd_isRoom_16 (by decide) rfl ?_
            refine R_zret dd_isRoom_17 rfl (by decide) ?_
            change Rn xs xl e mm_crowd 18 [some (.inr (.inr 182)), some (.inl v1), some (.inl v2), some (.inl v3), none] [.inl 0] (wr h 182 0 0) _
            refine R_if dd_crowd_18 rfl rfl (fun (c9 : 0 = 0) => ?_) (fun (c9 : 0 ≠ 0) => ?_)
            · skip
              refine R_ic dd_crowd_41 (by decide) rfl ?_
              exact R_iret dd_crowd_42 rfl k
            · exact absurd c9 (by omega)
          · replace k := k.2 c8
            refine R_ic dd_isRoom_12 (by decide) rfl ?_
            refine R_goto dd_isRoom_13 rfl ?_
            refine R_zret dd_isRoom_17 rfl (by decide) ?_
            change Rn xs xl e mm_crowd 18 [some (.inr (.inr 182)), some (.inl v1), some (.inl v2), some (.inl v3), none] [.inl 1] (wr h 182 0 0) _
            refine R_if dd_crowd_18 rfl rfl (fun (c10 : 1 = 0) => ?_) (fun (c10 : 1 ≠ 0) => ?_)
            · exact absurd c10 (by omega)
            · skip
              refine R_ld (v := .inl v1) dd_crowd_21 rfl rfl rfl rfl ?_
              refine R_ld (v := .inl v2) dd_crowd_22 rfl rfl rfl rfl ?_
              refine R_icmp dd_crowd_23 rfl rfl (fun (c11 : v1 = v2) => ?_) (fun (c11 : v1 ≠ v2) => ?_)
              · replace k := k.1 c11
                refine R_ic dd_crowd_41 (by decide) rfl ?_
                exact R_iret dd_crowd_42 rfl k
              · replace k := k.2 c11
                refine R_ld (v := .inl v3) dd_crowd_26 rfl rfl rfl rfl ?_
                refine R_ld (v := .inr (.inr 182)) dd_crowd_27 rfl rfl rfl rfl ?_
                refine R_gf (v := .inr (.inr 198)) dd_crowd_28 fd_12_125 io_182 (congrArg (fun z : Int => (Sum.inr (Sum.inr z) : LV)) ((rdw_nei (by omega)).trans (rf_182_24 hF))) rfl ?_
                refine R_ic dd_crowd_31 (by decide) rfl ?_
                refine R_iald (v := (rd h 198 0)) (n := 1610) dd_crowd_32 ia_198 la_198 (by decide) (rdw_ne (by decide)) rfl ?_
                refine R_bi dd_crowd_33 (by decide) rfl ?_
                refine R_call (as := [.inl v3, .inl (rd h 198 0), .inl 23]) (rest := []) (M' := mm_within) (ls0 := [some (.inl v3), some (.inl (rd h 198 0)), some (.inl 23)]) dd_crowd_35 rfl rfl (cw_s cw_12_297 rfl rfl (Nat.le_of_ble_eq_true rfl) (Nat.le_of_ble_eq_true rfl)) mt_within rfl (c := e - 1) (by omega) rfl ?_
                refine R_ld (v := .inl v3) dd_within_0 rfl rfl rfl rfl ?_
                refine R_ld (v := .inl (rd h 198 0)) dd_within_1 rfl rfl rfl rfl ?_
                refine R_icmp dd_within_2 rfl rfl (fun (c12 : v3 < (rd h 198 0)) => ?_) (fun (c12 : (rd h 198 0) ≤ v3) => ?_)
                · replace k := k.1 c12
                  refine R_ic dd_within_14 (by decide) rfl ?_
                  refine R_zret dd_within_15 rfl (by decide) ?_
                  change Rn xs xl e mm_crowd 38 [some (.inr (.inr 182)), some (.inl v1), some (.inl v2), some (.inl v3), none] [.inl 0] (wr h 182 0 0) _
                  refine R_if dd_crowd_38 rfl rfl (fun (c13 : 0 ≠ 0) => ?_) (fun (c13 : 0 = 0) => ?_)
                  · exact absurd c13 (by omega)
                  · skip
                    refine R_ic dd_crowd_41 (by decide) rfl ?_
                    exact R_iret dd_crowd_42 rfl k
                · replace k := k.2 c12
                  refine R_ld (v := .inl v3) dd_within_5 rfl rfl rfl rfl ?_
                  refine R_ld (v := .inl 23) dd_within_6 rfl rfl rfl rfl ?_
                  refine R_icmp dd_within_7 rfl rfl (fun (c14 : 23 < v3) => ?_) (fun (c14 : v3 ≤ 23) => ?_)
                  · replace k := k.1 c14
                    refine R_ic dd_within_14 (by decide) rfl ?_
                    refine R_zret dd_within_15 rfl (by decide) ?_
                    change Rn xs xl e mm_crowd 38 [some (.inr (.inr 182)), some (.inl v1), some (.inl v2), some (.inl v3), none] [.inl 0] (wr h 182 0 0) _
                    refine R_if dd_crowd_38 rfl rfl (fun (c15 : 0 ≠ 0) => ?_) (fun (c15 : 0 = 0) => ?_)
                    · exact absurd c15 (by omega)
                    · skip
                      refine R_ic dd_crowd_41 (by decide) rfl ?_
                      exact R_iret dd_crowd_42 rfl k
                  · replace k := k.2 c14
                    refine R_ic dd_within_10 (by decide) rfl ?_
                    refine R_goto dd_within_11 rfl ?_
                    refine R_zret dd_within_15 rfl (by decide) ?_
                    change Rn xs xl e mm_crowd 38 [some (.inr (.inr 182)), some (.inl v1), some (.inl v2), some (.inl v3), none] [.inl 1] (wr h 182 0 0) _
                    refine R_if dd_crowd_38 rfl rfl (fun (c16 : 1 ≠ 0) => ?_) (fun (c16 : 1 = 0) => ?_)
                    · skip
                      refine R_ic dd_crowd_43 (by decide) rfl ?_
                      refine R_st (ls' := [some (.inr (.inr 182)), some (.inl v1), some (.inl v2), some (.inl v3), some (.inl 0)]) dd_crowd_44 rfl rfl rfl (Nat.le_of_ble_eq_true rfl) rfl rfl ?_
                      exact k
                    · exact absurd c16 (by omega)
theorem B_crowd_46 {xs : Nat → Int} {xl e : Nat} {h : LH} {Q : Option LV → LH → Prop} {v1 v2 v3 v4 : Int} (hF : RF h) (r_v4 : 0 ≤ v4 ∧ v4 ≤ 336)
    (k : (336 ≤ v4 →
        Rn xs xl e mm_crowd 71 [some (.inr (.inr 182)), some (.inl v1), some (.inl v2), some (.inl v3), some (.inl 0)] [] h Q) ∧
      (v4 < 336 →
        (0 ≤ v4 ∧ v4 < 336) ∧
        Rn xs xl e mm_crowd 46 [some (.inr (.inr 182)), some (.inl v1), some (.inl v2), some (.inl v3), some (.inl (v4 + 1))] [] (wr h 204 v4 0) Q)) :
    Rn xs xl e mm_crowd 46 [some (.inr (.inr 182)), some (.inl v1), some (.inl v2), some (.inl v3), some (.inl v4)] [] h Q := by
  refine R_ld (v := .inl v4) dd_crowd_46 rfl rfl rfl rfl ?_
  refine R_si dd_crowd_48 (by decide) rfl ?_
  refine R_icmp dd_crowd_51 rfl rfl (fun (c2 : 336 ≤ v4) => ?_) (fun (c2 : v4 < 336) => ?_)
  · replace k := k.1 c2
    refine R_ic dd_crowd_68 (by decide) rfl ?_
    refine R_st (ls' := [some (.inr (.inr 182)), some (.inl v1), some (.inl v2), some (.inl v3), some (.inl 0)]) dd_crowd_69 rfl rfl rfl (Nat.le_of_ble_eq_true rfl) rfl rfl ?_
    exact k
  · replace k := k.2 c2
    refine R_ld (v := .inr (.inr 182)) dd_crowd_54 rfl rfl rfl rfl ?_
    refine R_gf (v := .inr (.inr 204)) dd_crowd_55 fd_12_150 io_182 (congrArg (fun z : Int => (Sum.inr (Sum.inr z) : LV)) (rf_182_38 hF)) rfl ?_
    refine R_ld (v := .inl v4) dd_crowd_58 rfl rfl rfl rfl ?_
    refine R_ic dd_crowd_60 (by decide) rfl ?_
    obtain ⟨s1, k⟩ := k
    refine R_iast (n := 336) dd_crowd_61 ia_204 la_204 s1 rfl ?_
    refine R_inc (y := v4 + 1) (ls' := [some (.inr (.inr 182)), some (.inl v1), some (.inl v2), some (.inl v3), some (.inl (v4 + 1))]) dd_crowd_62 rfl (by decide) (by omega) (by omega) rfl rfl ?_
    refine R_goto dd_crowd_65 rfl ?_
    exact k
theorem B_crowd_71 {xs : Nat → Int} {xl e : Nat} {h : LH} {Q : Option LV → LH → Prop} {v1 v2 v3 v4 : Int} (hF : RF h) (r_v4 : 0 ≤ v4 ∧ v4 ≤ 250)
    (k : (250 ≤ v4 →
        Rn xs xl e mm_crowd 96 [some (.inr (.inr 182)), some (.inl v1), some (.inl v2), some (.inl v3), some (.inl 0)] [] h Q) ∧
      (v4 < 250 →
        (0 ≤ v4 ∧ v4 < 250) ∧
        Rn xs xl e mm_crowd 71 [some (.inr (.inr 182)), some (.inl v1), some (.inl v2), some (.inl v3), some (.inl (v4 + 1))] [] (wr h 205 v4 0) Q)) :
    Rn xs xl e mm_crowd 71 [some (.inr (.inr 182)), some (.inl v1), some (.inl v2), some (.inl v3), some (.inl v4)] [] h Q := by
  refine R_ld (v := .inl v4) dd_crowd_71 rfl rfl rfl rfl ?_
  refine R_si dd_crowd_73 (by decide) rfl ?_
  refine R_icmp dd_crowd_76 rfl rfl (fun (c2 : 250 ≤ v4) => ?_) (fun (c2 : v4 < 250) => ?_)
  · replace k := k.1 c2
    refine R_ic dd_crowd_93 (by decide) rfl ?_
    refine R_st (ls' := [some (.inr (.inr 182)), some (.inl v1), some (.inl v2), some (.inl v3), some (.inl 0)]) dd_crowd_94 rfl rfl rfl (Nat.le_of_ble_eq_true rfl) rfl rfl ?_
    exact k
  · replace k := k.2 c2
    refine R_ld (v := .inr (.inr 182)) dd_crowd_79 rfl rfl rfl rfl ?_
    refine R_gf (v := .inr (.inr 205)) dd_crowd_80 fd_12_153 io_182 (congrArg (fun z : Int => (Sum.inr (Sum.inr z) : LV)) (rf_182_39 hF)) rfl ?_
    refine R_ld (v := .inl v4) dd_crowd_83 rfl rfl rfl rfl ?_
    refine R_ic dd_crowd_85 (by decide) rfl ?_
    obtain ⟨s1, k⟩ := k
    refine R_iast (n := 250) dd_crowd_86 ia_205 la_205 s1 rfl ?_
    refine R_inc (y := v4 + 1) (ls' := [some (.inr (.inr 182)), some (.inl v1), some (.inl v2), some (.inl v3), some (.inl (v4 + 1))]) dd_crowd_87 rfl (by decide) (by omega) (by omega) rfl rfl ?_
    refine R_goto dd_crowd_90 rfl ?_
    exact k
theorem B_crowd_96 {xs : Nat → Int} {xl e : Nat} {h : LH} {Q : Option LV → LH → Prop} {v1 v2 v3 v4 : Int} (hF : RF h) (r_v1 : 0 ≤ v1 ∧ v1 ≤ 9) (r_v2 : 0 ≤ v2 ∧ v2 ≤ 9) (r_v3 : 0 ≤ v3 ∧ v3 ≤ 23)
    (k : (-2147483648 ≤ 10 * (rd h 198 0) ∧ 10 * (rd h 198 0) ≤ 2147483647) ∧
      (-2147483648 ≤ 10 * (rd h 198 0) + v1 ∧ 10 * (rd h 198 0) + v1 ≤ 2147483647) ∧
      (∃ c, c < e ∧ Rn xs xl c mm_isMore 0 [some (.inr (.inr 182)), some (.inl (10 * (rd h 198 0) + v1)), some (.inl (10 * v3 + v2 + 10)), some (.inl v3), none] [] h (fun r h' => Rn xs xl e mm_crowd 120 [some (.inr (.inr 182)), some (.inl v1), some (.inl v2), some (.inl v3), some (.inl v4)] (r.toList ++ []) h' Q))) :
    Rn xs xl e mm_crowd 96 [some (.inr (.inr 182)), some (.inl v1), some (.inl v2), some (.inl v3), some (.inl v4)] [] h Q := by
  refine R_ld (v := .inr (.inr 182)) dd_crowd_96 rfl rfl rfl rfl ?_
  refine R_bi dd_crowd_97 (by decide) rfl ?_
  refine R_ld (v := .inr (.inr 182)) dd_crowd_99 rfl rfl rfl rfl ?_
  refine R_gf (v := .inr (.inr 198)) dd_crowd_100 fd_12_125 io_182 (congrArg (fun z : Int => (Sum.inr (Sum.inr z) : LV)) (rf_182_24 hF)) rfl ?_
  refine R_ic dd_crowd_103 (by decide) rfl ?_
  refine R_iald (v := (rd h 198 0)) (n := 1610) dd_crowd_104 ia_198 la_198 (by decide) (rfl) rfl ?_
  obtain ⟨s1, k⟩ := k
  refine R_imul (c := 10 * (rd h 198 0)) dd_crowd_105 (by omega) s1 rfl ?_
  refine R_ld (v := .inl v1) dd_crowd_106 rfl rfl rfl rfl ?_
  obtain ⟨s2, k⟩ := k
  refine R_iadd (c := 10 * (rd h 198 0) + v1) dd_crowd_107 (by omega) s2 rfl ?_
  refine R_bi dd_crowd_108 (by decide) rfl ?_
  refine R_ld (v := .inl v3) dd_crowd_110 rfl rfl rfl rfl ?_
  refine R_ic dd_crowd_111 (by decide) rfl ?_
  refine R_iadd (c := v3 + 1) dd_crowd_112 (by omega) (by omega) rfl ?_
  refine R_imul (c := 10 * v3 + 10) dd_crowd_113 (by omega) (by omega) rfl ?_
  refine R_ld (v := .inl v2) dd_crowd_114 rfl rfl rfl rfl ?_
  refine R_iadd (c := 10 * v3 + v2 + 10) dd_crowd_115 (by omega) (by omega) rfl ?_
  refine R_ld (v := .inl v3) dd_crowd_116 rfl rfl rfl rfl ?_
  obtain ⟨c, hc, k⟩ := k
  exact R_call (as := [.inr (.inr 182), .inl (10 * (rd h 198 0) + v1), .inl (10 * v3 + v2 + 10), .inl v3]) (rest := []) (M' := mm_isMore) (ls0 := [some (.inr (.inr 182)), some (.inl (10 * (rd h 198 0) + v1)), some (.inl (10 * v3 + v2 + 10)), some (.inl v3), none]) dd_crowd_117 rfl rfl (cw_v cw_12_453 io_182 rfl rfl (Nat.le_of_ble_eq_true rfl) (Nat.le_of_ble_eq_true rfl)) mt_isMore rfl hc rfl k
theorem B_crowd_120_1 {xs : Nat → Int} {xl e : Nat} {h : LH} {Q : Option LV → LH → Prop} {v1 v2 v3 v4 : Int} (hF : RF h)
    (k : (-2147483648 ≤ v4 + 1 ∧ v4 + 1 ≤ 2147483647) ∧
      Rn xs xl e mm_crowd 96 [some (.inr (.inr 182)), some (.inl v1), some (.inl v2), some (.inl v3), some (.inl (v4 + 1))] [] h Q) :
    Rn xs xl e mm_crowd 120 [some (.inr (.inr 182)), some (.inl v1), some (.inl v2), some (.inl v3), some (.inl v4)] [.inl 1] h Q := by
  refine R_if dd_crowd_120 rfl rfl (fun (c2 : 1 = 0) => ?_) (fun (c2 : 1 ≠ 0) => ?_)
  · exact absurd c2 (by omega)
  · skip
    obtain ⟨s1, k⟩ := k
    refine R_inc (y := v4 + 1) (ls' := [some (.inr (.inr 182)), some (.inl v1), some (.inl v2), some (.inl v3), some (.inl (v4 + 1))]) dd_crowd_123 rfl (by decide) (by omega) s1 rfl rfl ?_
    refine R_goto dd_crowd_126 rfl ?_
    exact k
theorem B_crowd_120_0 {xs : Nat → Int} {xl e : Nat} {h : LH} {Q : Option LV → LH → Prop} {v1 v2 v3 v4 : Int} (hF : RF h)
    (k : Q (some (.inl v4)) h) :
    Rn xs xl e mm_crowd 120 [some (.inr (.inr 182)), some (.inl v1), some (.inl v2), some (.inl v3), some (.inl v4)] [.inl 0] h Q := by
  refine R_if dd_crowd_120 rfl rfl (fun (c1 : 0 = 0) => ?_) (fun (c1 : 0 ≠ 0) => ?_)
  · skip
    refine R_ld (v := .inl v4) dd_crowd_129 rfl rfl rfl rfl ?_
    exact R_iret dd_crowd_131 rfl k
  · exact absurd c1 (by omega)
end
section
/-! LM, part 62: the reference's crowd comes to an end -/
def ps (f : Int → Int) : Nat → Int
  | 0 => 0
  | n + 1 => ps f n + f n
theorem ps_upd {f g : Int → Int} {a : Int} (h : ∀ i, i ≠ a → g i = f i) : ∀ n : Nat, ps g n = ps f n + (if 0 ≤ a ∧ a < n then g a - f a else 0)
  | 0 => by
    rw [if_neg (by omega)]
    rfl
  | n + 1 => by
    have ih := ps_upd h n
    show ps g n + g n = ps f n + f n + _
    by_cases c : a = n
    · subst c
      rw [if_neg (by omega)] at ih
      rw [if_pos (by omega), ih]
      omega
    · rw [h n (fun q => c q.symm), ih]
      by_cases d : 0 ≤ a ∧ a < n
      · rw [if_pos d, if_pos (by omega)]; omega
      · rw [if_neg d, if_neg (by omega)]; omega
theorem ps_le {f : Int → Int} {B : Int} (h : ∀ i : Int, 0 ≤ i → i < 336 → f i ≤ B) (hB : 0 ≤ B) : ∀ n : Nat, n ≤ 336 → ps f n ≤ B * n
  | 0, _ => by simp [ps]
  | n + 1, hn => by
    have := ps_le h hB n (by omega)
    have h2 := h n (by omega) (by omega)
    show ps f n + f n ≤ B * ((n + 1 : Nat) : Int)
    rw [show B * ((n + 1 : Nat) : Int) = B * n + B by rw [Int.natCast_add]; simp [Int.mul_add]]
    omega
section CR
variable {xs : Nat → Int} {xl e : Nat} {h : LH} {Q : Option LV → LH → Prop} {K : KEY} {S : Int → Int}
noncomputable def NT (K : KEY) (S : Int → Int) (d room hr : Int) : Int := NW K (S (0 + 1)) 0 d room hr
def sE (K : KEY) (d hr : Int) : Int := if K.1 (8 * d + 4) = 1 ∧ 12 ≤ hr then K.1 (8 * d + 6) else K.1 (8 * d + 5)
def tE (K : KEY) (d hr : Int) : Int := K.1 (8 * d + 5) + K.1 (8 * d + 6) - sE K d hr
theorem NT_ok {d room hr : Int} (hd : 0 ≤ d ∧ d ≤ 13) (hro : 0 ≤ room ∧ room ≤ 9) (hhr : 0 ≤ hr ∧ hr ≤ 25) : (-1 ≤ NT K S d room hr ∧ NT K S d room hr ≤ 9) ∧ (0 ≤ NT K S d room hr → hr ≤ 23 ∧ room = sE K d hr ∧ NT K S d room hr = tE K d hr ∧ (room = K.1 (8 * d + 5) ∨ room = K.1 (8 * d + 6))) := by
  have q := NW_ok K (S (0 + 1)) (s := 0) (d := d) (room := room) (hr := hr) hd (by omega) hro hhr
  refine ⟨q.1, fun z => ?_⟩
  have q2 := q.2 z
  have lt : hr < 24 := by
    unfold NT NW at z
    split at z
    · assumption
    · omega
  have f : room = sE K d hr := by
    have l := (LF_ok K (S (0 + 1)) 0 hd (s := 0) (by omega) hro hhr).2.2.1 (by
      unfold NT NW at z
      rw [if_pos lt] at z
      exact z) (by omega) rfl
    unfold sE
    split
    · next c => exact l.1 c
    · next c => exact l.2 c
  refine ⟨by omega, f, ?_, q2.2⟩
  unfold tE
  rw [← f]
  exact q2.1
theorem D_toOf {d room hr : Int} (he : 5 ≤ e) (w : WC K S h) (hd : 0 ≤ d ∧ d ≤ 13) (hro : 0 ≤ room ∧ room ≤ 9) (hhr : 0 ≤ hr ∧ hr ≤ 25) (k : ∀ h', WC K S h' → frL h h' → Q (some (.inl (NT K S d room hr))) h') : Rn xs xl e mm_toOf 0 [some (.inr (.inr 182)), some (.inl d), some (.inl room), some (.inl hr)] [] h Q :=
  B_toOf_0 (RF_of w.1.1) ⟨4, by omega, D_leadsNow (by omega) w (by omega) hd (by omega) hro hhr (fun h' w' f' => B_toOf_9 (RF_of w'.1.1) (k h' w' f'))⟩
/-- how a place was come to -/
def okB (K : KEY) (S fl : Int → Int) (x y : Int) : Prop := (y = 400 ∧ 10 ≤ x) ∨ (y = 1200 ∧ x ≤ 239) ∨ (0 ≤ y ∧ y < K.1 1 ∧ 10 ≤ x ∧ fl (14 * (x / 10) + y - 14) ≤ 8 ∧ (0 ≤ K.1 (8 * y + 5) + K.1 (8 * y + 6) - x % 10 ∧ K.1 (8 * y + 5) + K.1 (8 * y + 6) - x % 10 ≤ 9) ∧ NT K S y (K.1 (8 * y + 5) + K.1 (8 * y + 6) - x % 10) (x / 10 - 1) = x % 10) ∨ (0 ≤ y - 800 ∧ y - 800 < K.1 1 ∧ x ≤ 239 ∧ 1 ≤ fl (14 * (x / 10) + y - 800) ∧ 0 ≤ NT K S (y - 800) (x % 10) (x / 10))
noncomputable def par (K : KEY) (S : Int → Int) (x y : Int) : Int := if y = 400 then x - 10 else if y = 1200 then x + 10 else if y < 400 then 10 * (x / 10 - 1) + (K.1 (8 * y + 5) + K.1 (8 * y + 6) - x % 10) else 10 * (x / 10 + 1) + NT K S (y - 800) (x % 10) (x / 10)
def cnt (c : Int → Int) : Nat := ((List.range 250).filter (fun (i : Nat) => decide (c (i : Int) ≠ -1))).length
theorem cnt_lt {c : Int → Int} {x : Int} (hx : 0 ≤ x ∧ x ≤ 249) (h : c x = -1) : cnt c < 250 := by
  have q := filt_lt (l := List.range 250) (p := fun (i : Nat) => decide (c (i : Int) ≠ -1)) (q := fun _ => true) (fun _ _ _ => rfl) ⟨x.toNat, List.mem_range.mpr (by omega), rfl, by
    rw [Int.toNat_of_nonneg hx.1]
    exact decide_eq_false (fun z => z h)⟩
  have e : ((List.range 250).filter (fun _ => true)).length = 250 := by decide +kernel
  rw [e] at q
  exact q
theorem cnt_up {c c' : Int → Int} {x : Int} (hx : 0 ≤ x ∧ x ≤ 249) (h : c x = -1) (h' : c' x ≠ -1) (e : ∀ i, i ≠ x → c' i = c i) : cnt c < cnt c' := by
  refine filt_lt (fun i _ q => ?_) ⟨x.toNat, List.mem_range.mpr (by omega), ?_, ?_⟩
  · have q := of_decide_eq_true q
    refine decide_eq_true ?_
    by_cases z : (i : Int) = x
    · rw [z]; exact h'
    · rw [e _ z]; exact q
  · rw [Int.toNat_of_nonneg hx.1]
    exact decide_eq_true h'
  · rw [Int.toNat_of_nonneg hx.1]
    exact decide_eq_false (fun z => z h)
/-- the search as it stands -/
def BI (K : KEY) (S fl : Int → Int) (src : Int) (g : LH) : Prop := rd g 182 42 ≤ cnt (rd g 206) ∧ (∀ j, 0 ≤ j → j < rd g 182 42 → rd g 206 (rd g 207 j) ≠ -1 ∧ ((j = 0 ∧ rd g 207 j = src) ∨ (okB K S fl (rd g 207 j) (rd g 206 (rd g 207 j)) ∧ ∃ i, 0 ≤ i ∧ i < j ∧ rd g 207 i = par K S (rd g 207 j) (rd g 206 (rd g 207 j))))) ∧ ∀ x, 0 ≤ x → x ≤ 249 → rd g 206 x ≠ -1 → ∃ j, 0 ≤ j ∧ j < rd g 182 42 ∧ rd g 207 j = x
def frB (h h' : LH) : Prop := ∀ a i, a ≠ 196 → a ≠ 197 → a ≠ 206 → a ≠ 207 → ¬ (a = 182 ∧ i = 42) → rd h' a i = rd h a i
theorem frB.trans {h h1 h2 : LH} (a : frB h h1) (b : frB h1 h2) : frB h h2 := fun x i n1 n2 n3 n4 n5 => (b x i n1 n2 n3 n4 n5).trans (a x i n1 n2 n3 n4 n5)
theorem frB_L {h h1 : LH} (a : frL h h1) : frB h h1 := fun x i n1 n2 _ _ _ => a x i n1 n2
theorem WC_same {h h' : LH} (w : WC K S h) (hI : INV h') (f : ∀ a i, (a = 188 ∨ a = 189 ∨ a = 190 ∨ a = 198 ∨ (a = 182 ∧ (i = 28 ∨ i = 29 ∨ i = 30 ∨ i = 31))) → rd h' a i = rd h a i) : WC K S h' := by
  refine ⟨hI, ?_, ?_⟩
  · rw [← w.2.1]
    unfold key
    rw [show rd h' 188 = rd h 188 from funext (fun j => f 188 j (by omega)), show rd h' 189 = rd h 189 from funext (fun j => f 189 j (by omega)), show rd h' 190 = rd h 190 from funext (fun j => f 190 j (by omega)), f 182 28 (by omega), f 182 29 (by omega), f 182 30 (by omega), f 182 31 (by omega)]
  · rw [← w.2.2]
    exact funext (fun j => f 198 j (by omega))
theorem BI_L {fl : Int → Int} {src : Int} {g g' : LH} (f : frL g g') (b : BI K S fl src g) : BI K S fl src g' := by
  have e1 : rd g' 206 = rd g 206 := funext (fun j => f 206 j (by decide) (by decide))
  have e2 : rd g' 207 = rd g 207 := funext (fun j => f 207 j (by decide) (by decide))
  have e3 : rd g' 182 42 = rd g 182 42 := f 182 42 (by decide) (by decide)
  unfold BI
  rw [e1, e2, e3]
  exact b
/-- a place more -/
theorem D_comes {fl : Int → Int} {src x y head x0 : Int} (w : WC K S h) (b : BI K S fl src h) (hx : 0 ≤ x ∧ x ≤ 249) (hy : 0 ≤ y ∧ y ≤ 2000) (h0 : 0 ≤ head ∧ head < rd h 182 42 ∧ rd h 207 head = x0) (ok : okB K S fl x y) (hp : par K S x y = x0) (k : ∀ g, WC K S g → frB h g → BI K S fl src g → (0 ≤ head ∧ head < rd g 182 42 ∧ rd g 207 head = x0) → Q none g) : Rn xs xl e mm_comes 0 [some (.inr (.inr 182)), some (.inl x), some (.inl y)] [] h Q := by
  refine B_comes_0 (RF_of w.1.1) hx ⟨fun _ => k h w (fun _ _ _ _ _ _ _ => rfl) b h0, fun c => ?_⟩
  have lt := cnt_lt hx c
  have t0 := rF_tail0 w.1.1
  have b1 := b.1
  refine ⟨by omega, by omega, ?_⟩
  have i1 := wA_cameBy w.1 (i := x) (v := y) (by omega) (by omega) (by omega)
  have i2 := wA_queue i1 (i := rd h 182 42) (v := x) (by omega) (by omega) (by omega)
  have i3 := wF_tail0 i2 (v := rd h 182 42 + 1) (by omega) (by omega)
  generalize hg : wr (wr (wr h 206 x y) 207 (rd h 182 42) x) 182 42 (rd h 182 42 + 1) = g at *
  have e6 : ∀ i, i ≠ x → rd g 206 i = rd h 206 i := fun i hi => by rw [← hg, rdw_ne (by decide), rdw_ne (by decide), rdw_nei (fun q => hi q.symm)]
  have e6x : rd g 206 x = y := by rw [← hg, rdw_ne (by decide), rdw_ne (by decide), rdw_eq]
  have e7 : ∀ i, i ≠ rd h 182 42 → rd g 207 i = rd h 207 i := fun i hi => by rw [← hg, rdw_ne (by decide), rdw_nei (fun q => hi q.symm), rdw_ne (by decide)]
  have e7t : rd g 207 (rd h 182 42) = x := by rw [← hg, rdw_ne (by decide), rdw_eq]
  have et : rd g 182 42 = rd h 182 42 + 1 := by rw [← hg, rdw_eq]
  have fr : frB h g := by
    intro a i n1 n2 n3 n4 n5
    rw [← hg, rd_wr, if_neg (by rintro ⟨rfl, rfl⟩; exact n5 ⟨rfl, rfl⟩), rdw_ne (fun q => n4 q.symm), rdw_ne (fun q => n3 q.symm)]
  have up := cnt_up (c := rd h 206) (c' := rd g 206) hx c (by rw [e6x]; omega) e6
  have b2 := b.2.1
  have b3 := b.2.2
  clear b
  refine k g (WC_same w i3 (fun a i ha => fr a i (by omega) (by omega) (by omega) (by omega) (by omega))) fr ⟨?_, ?_, ?_⟩ ⟨h0.1, ?_, ?_⟩
  · clear b2 b3
    omega
  · intro j j0 j1
    by_cases hj : j = rd h 182 42
    · rw [hj, e7t, e6x]
      refine ⟨by clear b2 b3; omega, Or.inr ⟨ok, head, h0.1, h0.2.1, ?_⟩⟩
      rw [hp, e7 head (by clear b2 b3; omega)]
      exact h0.2.2
    · obtain ⟨q1, q2⟩ := b2 j j0 (by clear b2 b3; omega)
      have n : rd h 207 j ≠ x := fun z => q1 (by rw [z]; exact c)
      rw [e7 j hj, e6 _ n]
      refine ⟨q1, ?_⟩
      rcases q2 with q | ⟨q2, i, i0, i1', i2'⟩
      · exact Or.inl q
      · exact Or.inr ⟨q2, i, i0, i1', by rw [e7 i (by clear b2 b3; omega)]; exact i2'⟩
  · intro z z0 z1 zc
    by_cases hz : z = x
    · exact ⟨rd h 182 42, by clear b2 b3; omega, by clear b2 b3; omega, by rw [hz]; exact e7t⟩
    · rw [e6 z hz] at zc
      obtain ⟨j, j0, j1, j2⟩ := b3 z z0 z1 zc
      exact ⟨j, j0, by clear b2 b3; omega, by rw [e7 j (by clear b2 b3; omega)]; exact j2⟩
  · clear b2 b3
    omega
  · rw [e7 head (by clear b2 b3; omega)]
    exact h0.2.2
/-- from a place on -/
theorem D_spreads {fl : Int → Int} {src x0 first last head : Int} (he : 6 ≤ e) (w : WC K S h) (b : BI K S fl src h) (efl : ∀ i, rd h 204 i = fl i) (hx : 0 ≤ x0 ∧ x0 ≤ 249) (hf : 0 ≤ first ∧ first ≤ 24) (hl : 0 ≤ last ∧ last ≤ 23) (h0 : 0 ≤ head ∧ head < rd h 182 42 ∧ rd h 207 head = x0) (k : ∀ g, WC K S g → frB h g → BI K S fl src g → Q none g) : Rn xs xl e mm_spreads 0 [some (.inr (.inr 182)), some (.inl x0), some (.inl first), some (.inl last), none, none, none, none] [] h Q := by
  have kb := KB_of w (p := 0) (by omega)
  have kd := kb.1
  have kr := kb.2.1
  have dE : ∀ d, 0 ≤ d → d < K.1 1 → (0 ≤ K.1 (8 * d + 5) ∧ K.1 (8 * d + 5) ≤ 9) ∧ (0 ≤ K.1 (8 * d + 6) ∧ K.1 (8 * d + 6) ≤ 9) := fun d d0 d1 => by have := kb.2.2.2.2.2 d d0 d1; omega
  -- who may come fewer
  have l142 : ∀ (n : Nat) (g : LH) (d : Int) (o7 : Option LV), K.1 1 - d ≤ n → 0 ≤ d → d ≤ K.1 1 → WC K S g → frB h g → BI K S fl src g → (0 ≤ head ∧ head < rd g 182 42 ∧ rd g 207 head = x0) → Rn xs xl e mm_spreads 142 [some (.inr (.inr 182)), some (.inl x0), some (.inl first), some (.inl last), some (.inl (x0 % 10)), some (.inl (x0 / 10)), some (.inl d), o7] [] g Q := by
    intro n
    induction n with
    | zero =>
      intro g d o7 hn d0 d1 gw gf gb gh
      have e1 : rd g 188 1 = K.1 1 := by rw [← gw.2.1]; rfl
      exact B_spreads_142 (RF_of gw.1.1) hx hf hl (by omega) (by omega) (by omega) (by omega) ⟨fun _ => k g gw gf gb, fun c => by omega⟩
    | succ n ih =>
      intro g d o7 hn d0 d1 gw gf gb gh
      have e1 : rd g 188 1 = K.1 1 := by rw [← gw.2.1]; rfl
      have e5 : rd g 188 (8 * d + 5) = K.1 (8 * d + 5) := by rw [← gw.2.1]; rfl
      have e6 : rd g 188 (8 * d + 6) = K.1 (8 * d + 6) := by rw [← gw.2.1]; rfl
      have ef : ∀ i, rd g 204 i = fl i := fun i => (gf 204 i (by decide) (by decide) (by decide) (by decide) (by omega)).trans (efl i)
      have t243 : ∀ (g' : LH) (o7 : Option LV), d < K.1 1 → WC K S g' → frB h g' → BI K S fl src g' → (0 ≤ head ∧ head < rd g' 182 42 ∧ rd g' 207 head = x0) → Rn xs xl e mm_spreads 243 [some (.inr (.inr 182)), some (.inl x0), some (.inl first), some (.inl last), some (.inl (x0 % 10)), some (.inl (x0 / 10)), some (.inl d), o7] [] g' Q := fun g' o7 hd w' f' b' h' => B_spreads_243 (RF_of w'.1.1) hx hf hl (by omega) (ih g' (d + 1) o7 (by omega) (by omega) (by omega) w' f' b' h')
      have go : ∀ o : Int, 0 ≤ o → o ≤ 9 → d < K.1 1 → 1 ≤ x0 / 10 → 0 < rd g 204 (14 * (x0 / 10) + d - 14) → ∃ c, c < e ∧ Rn xs xl c mm_toOf 0 [some (.inr (.inr 182)), some (.inl d), some (.inl o), some (.inl (x0 / 10 - 1))] [] g (fun r h' => Rn xs xl e mm_spreads 218 [some (.inr (.inr 182)), some (.inl x0), some (.inl first), some (.inl last), some (.inl (x0 % 10)), some (.inl (x0 / 10)), some (.inl d), some (.inl o)] (r.toList ++ []) h' Q) := by
        intro o o0 o1 hd h1 hfl
        refine ⟨5, by omega, D_toOf (by omega) gw (by omega) ⟨o0, o1⟩ (by omega) (fun u uw uf => ?_)⟩
        have nt := NT_ok (K := K) (S := S) (d := d) (room := o) (hr := x0 / 10 - 1) (by omega) ⟨o0, o1⟩ (by omega)
        have ub := BI_L uf gb
        have uh : 0 ≤ head ∧ head < rd u 182 42 ∧ rd u 207 head = x0 := by rw [uf 182 42 (by decide) (by decide), uf 207 head (by decide) (by decide)]; exact gh
        refine B_spreads_218 (RF_of uw.1.1) hx hf hl (by omega) (by omega) (by omega) ⟨o0, o1⟩ (by omega) ⟨fun _ => t243 u _ hd uw (gf.trans (frB_L uf)) ub uh, fun c => ⟨0, by omega, ?_⟩⟩
        have p1 : (10 * (x0 / 10) + o - 10) / 10 = x0 / 10 - 1 := by omega
        have p2 : (10 * (x0 / 10) + o - 10) % 10 = o := by omega
        refine D_comes uw ub (by omega) (by omega) uh (Or.inr (Or.inr (Or.inr ?_))) ?_ (fun v vw vf vb vh => t243 v _ hd vw ((gf.trans (frB_L uf)).trans vf) vb vh)
        · rw [p1, p2, show d + 800 - 800 = d by omega, show 14 * (x0 / 10 - 1) + (d + 800) - 800 = 14 * (x0 / 10) + d - 14 by omega, ← ef]
          exact ⟨by omega, by omega, by omega, by omega, by omega⟩
        · unfold par
          rw [if_neg (by omega), if_neg (by omega), if_neg (by omega), p1, p2, show d + 800 - 800 = d by omega, c]
          omega
      refine B_spreads_142 (RF_of gw.1.1) hx hf hl (by omega) (by omega) (by omega) (by omega) ⟨fun _ => k g gw gf gb, fun c => ⟨fun _ => k g gw gf gb, fun c2 => ⟨fun c3 => ⟨by omega, fun _ => t243 g _ (by omega) gw gf gb gh, fun c4 => ?_⟩, fun c3 => ⟨by omega, fun _ => t243 g _ (by omega) gw gf gb gh, fun c4 => ?_⟩⟩⟩⟩
      · have := dE d d0 (by omega)
        exact go _ (by omega) (by omega) (by omega) (by omega) c4
      · have := dE d d0 (by omega)
        exact go _ (by omega) (by omega) (by omega) (by omega) c4
  have t110 : ∀ (g : LH) (o6 o7 : Option LV), WC K S g → frB h g → BI K S fl src g → (0 ≤ head ∧ head < rd g 182 42 ∧ rd g 207 head = x0) → Rn xs xl e mm_spreads 110 [some (.inr (.inr 182)), some (.inl x0), some (.inl first), some (.inl last), some (.inl (x0 % 10)), some (.inl (x0 / 10)), o6, o7] [] g Q := by
    intro g o6 o7 gw gf gb gh
    refine B_spreads_110 (RF_of gw.1.1) hx hf hl (by omega) (by omega) ⟨fun _ => l142 14 g 0 _ (by omega) (by omega) (by omega) gw gf gb gh, fun c => ⟨by omega, fun _ => l142 14 g 0 _ (by omega) (by omega) (by omega) gw gf gb gh, fun c2 => ⟨0, by omega, ?_⟩⟩⟩
    refine D_comes gw gb (by omega) (by omega) gh (Or.inr (Or.inl ⟨rfl, by omega⟩)) ?_ (fun v vw vf vb vh => B_spreads_139 (RF_of vw.1.1) hx hf hl (l142 14 v 0 _ (by omega) (by omega) (by omega) vw (gf.trans vf) vb vh))
    unfold par
    rw [if_neg (by omega), if_pos rfl]
    omega
  -- who may go
  have l32 : ∀ (n : Nat) (g : LH) (d : Int) (o7 : Option LV), K.1 1 - d ≤ n → 0 ≤ d → d ≤ K.1 1 → WC K S g → frB h g → BI K S fl src g → (0 ≤ head ∧ head < rd g 182 42 ∧ rd g 207 head = x0) → Rn xs xl e mm_spreads 32 [some (.inr (.inr 182)), some (.inl x0), some (.inl first), some (.inl last), some (.inl (x0 % 10)), some (.inl (x0 / 10)), some (.inl d), o7] [] g Q := by
    intro n
    induction n with
    | zero =>
      intro g d o7 hn d0 d1 gw gf gb gh
      have e1 : rd g 188 1 = K.1 1 := by rw [← gw.2.1]; rfl
      exact B_spreads_32 (RF_of gw.1.1) hx hf hl (by omega) (by omega) (by omega) (by omega) ⟨fun _ => t110 g _ _ gw gf gb gh, fun c => by omega⟩
    | succ n ih =>
      intro g d o7 hn d0 d1 gw gf gb gh
      have e1 : rd g 188 1 = K.1 1 := by rw [← gw.2.1]; rfl
      refine B_spreads_32 (RF_of gw.1.1) hx hf hl (by omega) (by omega) (by omega) (by omega) ⟨fun _ => t110 g _ _ gw gf gb gh, fun c => ⟨fun _ => t110 g _ _ gw gf gb gh, fun c2 => ⟨5, by omega, ?_⟩⟩⟩
      refine D_toOf (by omega) gw (by omega) (by omega) (by omega) (fun u uw uf => ?_)
      have nt := NT_ok (K := K) (S := S) (d := d) (room := x0 % 10) (hr := x0 / 10) (by omega) (by omega) (by omega)
      have ub := BI_L uf gb
      have uh : 0 ≤ head ∧ head < rd u 182 42 ∧ rd u 207 head = x0 := by rw [uf 182 42 (by decide) (by decide), uf 207 head (by decide) (by decide)]; exact gh
      have ef : ∀ i, rd u 204 i = fl i := fun i => ((gf.trans (frB_L uf)) 204 i (by decide) (by decide) (by decide) (by decide) (by omega)).trans (efl i)
      have eh := rq_d6 uw.1.1 (i := 8 * d + 10) (d := d) (by omega) (by omega) (by omega)
      have t104 : ∀ (g' : LH) (o7 : Option LV), WC K S g' → frB h g' → BI K S fl src g' → (0 ≤ head ∧ head < rd g' 182 42 ∧ rd g' 207 head = x0) → Rn xs xl e mm_spreads 104 [some (.inr (.inr 182)), some (.inl x0), some (.inl first), some (.inl last), some (.inl (x0 % 10)), some (.inl (x0 / 10)), some (.inl d), o7] [] g' Q := fun g' o7 w' f' b' h' => B_spreads_104 (RF_of w'.1.1) hx hf hl (by omega) (ih g' (d + 1) o7 (by omega) (by omega) (by omega) w' f' b' h')
      refine B_spreads_57 (RF_of uw.1.1) hx hf hl (by omega) (by omega) (by omega) (by omega) (by omega) ⟨fun _ => t104 u _ uw (gf.trans (frB_L uf)) ub uh, fun c3 => ⟨fun _ => t104 u _ uw (gf.trans (frB_L uf)) ub uh, fun c4 => ⟨0, by omega, ?_⟩⟩⟩
      have n2 := nt.2 c3
      have p1 : (10 * (x0 / 10) + NT K S d (x0 % 10) (x0 / 10) + 10) / 10 = x0 / 10 + 1 := by omega
      have p2 : (10 * (x0 / 10) + NT K S d (x0 % 10) (x0 / 10) + 10) % 10 = NT K S d (x0 % 10) (x0 / 10) := by omega
      have tE' : NT K S d (x0 % 10) (x0 / 10) = K.1 (8 * d + 5) + K.1 (8 * d + 6) - x0 % 10 := by
        have a := n2.2.2.1
        unfold tE at a
        rw [← n2.2.1] at a
        exact a
      have e4 := ef (14 * (x0 / 10) + d)
      refine D_comes uw ub (by omega) (by omega) uh (Or.inr (Or.inr (Or.inl ?_))) ?_ (fun v vw vf vb vh => t104 v _ vw ((gf.trans (frB_L uf)).trans vf) vb vh)
      · rw [p1, p2, show 14 * (x0 / 10 + 1) + d - 14 = 14 * (x0 / 10) + d by omega, show K.1 (8 * d + 5) + K.1 (8 * d + 6) - NT K S d (x0 % 10) (x0 / 10) = x0 % 10 by omega, show x0 / 10 + 1 - 1 = x0 / 10 by omega]
        exact ⟨d0, by omega, by omega, by omega, by omega, rfl⟩
      · unfold par
        rw [if_neg (by omega), if_neg (by omega), if_pos (by omega), p1, p2]
        omega
  refine B_spreads_0 (RF_of w.1.1) hx hf hl ⟨fun _ => l32 14 h 0 _ (by omega) (by omega) (by omega) w (fun _ _ _ _ _ _ _ => rfl) b h0, fun c => ⟨0, by omega, ?_⟩⟩
  refine D_comes w b (by omega) (by omega) h0 (Or.inl ⟨rfl, by omega⟩) ?_ (fun v vw vf vb vh => B_spreads_29 (RF_of vw.1.1) hx hf hl (l32 14 v 0 _ (by omega) (by omega) (by omega) vw vf vb vh))
  unfold par
  rw [if_pos rfl]
  omega
end CR
end
