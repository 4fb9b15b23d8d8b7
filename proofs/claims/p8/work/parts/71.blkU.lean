/-! LM, by program (wip/p2/hand.py): rows of run, findRun -/
def mm_findRun : LM_M := (⟨"OneSidedModel", "findRun", "()V"⟩, prog_14_method_105_code, 6, none, 12, 1, 0, 1801, 1800, 1000129)
def mm_run : LM_M := (⟨"OneSidedModel", "run", "(I)I"⟩, prog_14_method_106_code, 2, (some .int), 12, 2, 0, 1797, 1795, 1796)
theorem dd_findRun_0 : decode mm_findRun.2.1 0 = .ok (.aload_n 0, 1) := by decide +kernel
theorem dd_findRun_1 : decode mm_findRun.2.1 1 = .ok (.iconst 0, 1) := by decide +kernel
theorem dd_findRun_2 : decode mm_findRun.2.1 2 = .ok (.sipush 1540, 3) := by decide +kernel
theorem dd_findRun_5 : decode mm_findRun.2.1 5 = .ok (.bipush 34, 2) := by decide +kernel
theorem dd_findRun_7 : decode mm_findRun.2.1 7 = .ok (.invokevirtual 328, 3) := by decide +kernel
theorem dd_findRun_10 : decode mm_findRun.2.1 10 = .ok (.iconst 0, 1) := by decide +kernel
theorem dd_findRun_11 : decode mm_findRun.2.1 11 = .ok (.istore_n 1, 1) := by decide +kernel
theorem dd_findRun_12 : decode mm_findRun.2.1 12 = .ok (.aload_n 0, 1) := by decide +kernel
theorem dd_findRun_13 : decode mm_findRun.2.1 13 = .ok (.iconst 0, 1) := by decide +kernel
theorem dd_findRun_14 : decode mm_findRun.2.1 14 = .ok (.putfield 483, 3) := by decide +kernel
theorem fd_12_483 : fld 12 483 = some (12, 52) := by decide +kernel
theorem fn_12_52 : fin 12 52 = false := by decide +kernel
theorem dd_findRun_17 : decode mm_findRun.2.1 17 = .ok (.iconst 1, 1) := by decide +kernel
theorem dd_findRun_18 : decode mm_findRun.2.1 18 = .ok (.istore_n 2, 1) := by decide +kernel
theorem dd_findRun_19 : decode mm_findRun.2.1 19 = .ok (.iload_n 2, 1) := by decide +kernel
theorem dd_findRun_20 : decode mm_findRun.2.1 20 = .ok (.ifCond .eq (239), 3) := by decide +kernel
theorem dd_findRun_23 : decode mm_findRun.2.1 23 = .ok (.aload_n 0, 1) := by decide +kernel
theorem dd_findRun_24 : decode mm_findRun.2.1 24 = .ok (.getfield 125, 3) := by decide +kernel
theorem dd_findRun_27 : decode mm_findRun.2.1 27 = .ok (.sipush 1540, 3) := by decide +kernel
theorem dd_findRun_30 : decode mm_findRun.2.1 30 = .ok (.iaload, 1) := by decide +kernel
theorem dd_findRun_31 : decode mm_findRun.2.1 31 = .ok (.istore_n 3, 1) := by decide +kernel
theorem dd_findRun_32 : decode mm_findRun.2.1 32 = .ok (.iconst 0, 1) := by decide +kernel
theorem dd_findRun_33 : decode mm_findRun.2.1 33 = .ok (.istore 4, 2) := by decide +kernel
theorem dd_findRun_35 : decode mm_findRun.2.1 35 = .ok (.iload 4, 2) := by decide +kernel
theorem dd_findRun_37 : decode mm_findRun.2.1 37 = .ok (.aload_n 0, 1) := by decide +kernel
theorem dd_findRun_38 : decode mm_findRun.2.1 38 = .ok (.invokevirtual 338, 3) := by decide +kernel
theorem dd_findRun_41 : decode mm_findRun.2.1 41 = .ok (.if_icmp .ge (76), 3) := by decide +kernel
theorem dd_findRun_44 : decode mm_findRun.2.1 44 = .ok (.iload_n 3, 1) := by decide +kernel
theorem dd_findRun_45 : decode mm_findRun.2.1 45 = .ok (.bipush 24, 2) := by decide +kernel
theorem dd_findRun_47 : decode mm_findRun.2.1 47 = .ok (.if_icmp .ge (40), 3) := by decide +kernel
theorem dd_findRun_87 : decode mm_findRun.2.1 87 = .ok (.iconst 0, 1) := by decide +kernel
theorem dd_findRun_88 : decode mm_findRun.2.1 88 = .ok (.istore 5, 2) := by decide +kernel
theorem dd_findRun_50 : decode mm_findRun.2.1 50 = .ok (.aload_n 0, 1) := by decide +kernel
theorem dd_findRun_51 : decode mm_findRun.2.1 51 = .ok (.getfield 125, 3) := by decide +kernel
theorem dd_findRun_54 : decode mm_findRun.2.1 54 = .ok (.sipush 1554, 3) := by decide +kernel
theorem dd_findRun_57 : decode mm_findRun.2.1 57 = .ok (.iload 4, 2) := by decide +kernel
theorem dd_findRun_59 : decode mm_findRun.2.1 59 = .ok (.iadd, 1) := by decide +kernel
theorem dd_findRun_60 : decode mm_findRun.2.1 60 = .ok (.iaload, 1) := by decide +kernel
theorem dd_findRun_61 : decode mm_findRun.2.1 61 = .ok (.ifCond .ne (26), 3) := by decide +kernel
theorem dd_findRun_64 : decode mm_findRun.2.1 64 = .ok (.aload_n 0, 1) := by decide +kernel
theorem dd_findRun_65 : decode mm_findRun.2.1 65 = .ok (.sipush 1540, 3) := by decide +kernel
theorem dd_findRun_68 : decode mm_findRun.2.1 68 = .ok (.iload 4, 2) := by decide +kernel
theorem dd_findRun_70 : decode mm_findRun.2.1 70 = .ok (.invokevirtual 416, 3) := by decide +kernel
theorem cw_12_416 : cwOk 12 416 0 226 3 8 12 = true := by decide +kernel
theorem mt_findWay : MTB 226 = some mm_findWay := rfl
theorem dd_findRun_73 : decode mm_findRun.2.1 73 = .ok (.ifCond .lt (14), 3) := by decide +kernel
theorem dd_findRun_76 : decode mm_findRun.2.1 76 = .ok (.aload_n 0, 1) := by decide +kernel
theorem dd_findRun_77 : decode mm_findRun.2.1 77 = .ok (.getfield 400, 3) := by decide +kernel
theorem dd_findRun_80 : decode mm_findRun.2.1 80 = .ok (.ifCond .le (7), 3) := by decide +kernel
theorem dd_findRun_83 : decode mm_findRun.2.1 83 = .ok (.iconst 1, 1) := by decide +kernel
theorem dd_findRun_84 : decode mm_findRun.2.1 84 = .ok (.goto 4, 3) := by decide +kernel
theorem dd_findRun_90 : decode mm_findRun.2.1 90 = .ok (.iload 5, 2) := by decide +kernel
theorem dd_findRun_92 : decode mm_findRun.2.1 92 = .ok (.ifCond .eq (19), 3) := by decide +kernel
theorem dd_findRun_111 : decode mm_findRun.2.1 111 = .ok (.iinc 4 1, 3) := by decide +kernel
theorem dd_findRun_114 : decode mm_findRun.2.1 114 = .ok (.goto (-79), 3) := by decide +kernel
theorem dd_findRun_95 : decode mm_findRun.2.1 95 = .ok (.aload_n 0, 1) := by decide +kernel
theorem dd_findRun_96 : decode mm_findRun.2.1 96 = .ok (.sipush 1540, 3) := by decide +kernel
theorem dd_findRun_99 : decode mm_findRun.2.1 99 = .ok (.iload 4, 2) := by decide +kernel
theorem dd_findRun_101 : decode mm_findRun.2.1 101 = .ok (.aload_n 0, 1) := by decide +kernel
theorem dd_findRun_102 : decode mm_findRun.2.1 102 = .ok (.getfield 144, 3) := by decide +kernel
theorem dd_findRun_105 : decode mm_findRun.2.1 105 = .ok (.iconst 0, 1) := by decide +kernel
theorem dd_findRun_106 : decode mm_findRun.2.1 106 = .ok (.iaload, 1) := by decide +kernel
theorem dd_findRun_107 : decode mm_findRun.2.1 107 = .ok (.invokevirtual 377, 3) := by decide +kernel
theorem dd_findRun_110 : decode mm_findRun.2.1 110 = .ok (.pop, 1) := by decide +kernel
theorem dd_findRun_117 : decode mm_findRun.2.1 117 = .ok (.iconst 0, 1) := by decide +kernel
theorem dd_findRun_118 : decode mm_findRun.2.1 118 = .ok (.istore 4, 2) := by decide +kernel
theorem dd_findRun_120 : decode mm_findRun.2.1 120 = .ok (.iload 4, 2) := by decide +kernel
theorem dd_findRun_122 : decode mm_findRun.2.1 122 = .ok (.aload_n 0, 1) := by decide +kernel
theorem dd_findRun_123 : decode mm_findRun.2.1 123 = .ok (.invokevirtual 338, 3) := by decide +kernel
theorem dd_findRun_126 : decode mm_findRun.2.1 126 = .ok (.if_icmp .ge (107), 3) := by decide +kernel
theorem dd_findRun_129 : decode mm_findRun.2.1 129 = .ok (.aload_n 0, 1) := by decide +kernel
theorem dd_findRun_130 : decode mm_findRun.2.1 130 = .ok (.getfield 125, 3) := by decide +kernel
theorem dd_findRun_133 : decode mm_findRun.2.1 133 = .ok (.sipush 1548, 3) := by decide +kernel
theorem dd_findRun_136 : decode mm_findRun.2.1 136 = .ok (.iload 4, 2) := by decide +kernel
theorem dd_findRun_138 : decode mm_findRun.2.1 138 = .ok (.iadd, 1) := by decide +kernel
theorem dd_findRun_139 : decode mm_findRun.2.1 139 = .ok (.iaload, 1) := by decide +kernel
theorem dd_findRun_140 : decode mm_findRun.2.1 140 = .ok (.iconst 1, 1) := by decide +kernel
theorem dd_findRun_141 : decode mm_findRun.2.1 141 = .ok (.if_icmp .ne (28), 3) := by decide +kernel
theorem dd_findRun_169 : decode mm_findRun.2.1 169 = .ok (.iconst 0, 1) := by decide +kernel
theorem dd_findRun_170 : decode mm_findRun.2.1 170 = .ok (.istore 5, 2) := by decide +kernel
theorem dd_findRun_144 : decode mm_findRun.2.1 144 = .ok (.aload_n 0, 1) := by decide +kernel
theorem dd_findRun_145 : decode mm_findRun.2.1 145 = .ok (.getfield 125, 3) := by decide +kernel
theorem dd_findRun_148 : decode mm_findRun.2.1 148 = .ok (.sipush 1542, 3) := by decide +kernel
theorem dd_findRun_151 : decode mm_findRun.2.1 151 = .ok (.iload 4, 2) := by decide +kernel
theorem dd_findRun_153 : decode mm_findRun.2.1 153 = .ok (.iadd, 1) := by decide +kernel
theorem dd_findRun_154 : decode mm_findRun.2.1 154 = .ok (.iaload, 1) := by decide +kernel
theorem dd_findRun_155 : decode mm_findRun.2.1 155 = .ok (.aload_n 0, 1) := by decide +kernel
theorem dd_findRun_156 : decode mm_findRun.2.1 156 = .ok (.iload 4, 2) := by decide +kernel
theorem dd_findRun_158 : decode mm_findRun.2.1 158 = .ok (.iconst 1, 1) := by decide +kernel
theorem dd_findRun_159 : decode mm_findRun.2.1 159 = .ok (.invokevirtual 325, 3) := by decide +kernel
theorem dd_findRun_162 : decode mm_findRun.2.1 162 = .ok (.if_icmp .ne (7), 3) := by decide +kernel
theorem dd_findRun_165 : decode mm_findRun.2.1 165 = .ok (.iconst 1, 1) := by decide +kernel
theorem dd_findRun_166 : decode mm_findRun.2.1 166 = .ok (.goto 4, 3) := by decide +kernel
theorem dd_findRun_172 : decode mm_findRun.2.1 172 = .ok (.aload_n 0, 1) := by decide +kernel
theorem dd_findRun_173 : decode mm_findRun.2.1 173 = .ok (.dup, 1) := by decide +kernel
theorem dd_findRun_174 : decode mm_findRun.2.1 174 = .ok (.getfield 483, 3) := by decide +kernel
theorem dd_findRun_177 : decode mm_findRun.2.1 177 = .ok (.iload 5, 2) := by decide +kernel
theorem dd_findRun_179 : decode mm_findRun.2.1 179 = .ok (.ifCond .eq (27), 3) := by decide +kernel
theorem dd_findRun_206 : decode mm_findRun.2.1 206 = .ok (.iconst 0, 1) := by decide +kernel
theorem dd_findRun_207 : decode mm_findRun.2.1 207 = .ok (.iadd, 1) := by decide +kernel
theorem dd_findRun_208 : decode mm_findRun.2.1 208 = .ok (.putfield 483, 3) := by decide +kernel
theorem dd_findRun_211 : decode mm_findRun.2.1 211 = .ok (.iload_n 1, 1) := by decide +kernel
theorem dd_findRun_212 : decode mm_findRun.2.1 212 = .ok (.iload 5, 2) := by decide +kernel
theorem dd_findRun_214 : decode mm_findRun.2.1 214 = .ok (.ifCond .eq (10), 3) := by decide +kernel
theorem dd_findRun_224 : decode mm_findRun.2.1 224 = .ok (.iconst 0, 1) := by decide +kernel
theorem dd_findRun_225 : decode mm_findRun.2.1 225 = .ok (.ior, 1) := by decide +kernel
theorem dd_findRun_226 : decode mm_findRun.2.1 226 = .ok (.istore_n 1, 1) := by decide +kernel
theorem dd_findRun_227 : decode mm_findRun.2.1 227 = .ok (.iinc 4 1, 3) := by decide +kernel
theorem dd_findRun_230 : decode mm_findRun.2.1 230 = .ok (.goto (-110), 3) := by decide +kernel
theorem dd_findRun_182 : decode mm_findRun.2.1 182 = .ok (.iload_n 1, 1) := by decide +kernel
theorem dd_findRun_183 : decode mm_findRun.2.1 183 = .ok (.iload 4, 2) := by decide +kernel
theorem dd_findRun_185 : decode mm_findRun.2.1 185 = .ok (.invokestatic 350, 3) := by decide +kernel
theorem dd_findRun_188 : decode mm_findRun.2.1 188 = .ok (.ifCond .ne (18), 3) := by decide +kernel
theorem dd_findRun_191 : decode mm_findRun.2.1 191 = .ok (.iload_n 3, 1) := by decide +kernel
theorem dd_findRun_192 : decode mm_findRun.2.1 192 = .ok (.aload_n 0, 1) := by decide +kernel
theorem dd_findRun_193 : decode mm_findRun.2.1 193 = .ok (.iload 4, 2) := by decide +kernel
theorem dd_findRun_195 : decode mm_findRun.2.1 195 = .ok (.iconst 3, 1) := by decide +kernel
theorem dd_findRun_196 : decode mm_findRun.2.1 196 = .ok (.invokevirtual 325, 3) := by decide +kernel
theorem dd_findRun_199 : decode mm_findRun.2.1 199 = .ok (.if_icmp .gt (7), 3) := by decide +kernel
theorem dd_findRun_217 : decode mm_findRun.2.1 217 = .ok (.iconst 1, 1) := by decide +kernel
theorem dd_findRun_218 : decode mm_findRun.2.1 218 = .ok (.iload 4, 2) := by decide +kernel
theorem dd_findRun_220 : decode mm_findRun.2.1 220 = .ok (.ishl, 1) := by decide +kernel
theorem dd_findRun_221 : decode mm_findRun.2.1 221 = .ok (.goto 4, 3) := by decide +kernel
theorem dd_findRun_202 : decode mm_findRun.2.1 202 = .ok (.iconst 1, 1) := by decide +kernel
theorem dd_findRun_203 : decode mm_findRun.2.1 203 = .ok (.goto 4, 3) := by decide +kernel
theorem dd_findRun_233 : decode mm_findRun.2.1 233 = .ok (.iload_n 3, 1) := by decide +kernel
theorem dd_findRun_234 : decode mm_findRun.2.1 234 = .ok (.bipush 24, 2) := by decide +kernel
theorem dd_findRun_236 : decode mm_findRun.2.1 236 = .ok (.if_icmp .ge (7), 3) := by decide +kernel
theorem dd_findRun_243 : decode mm_findRun.2.1 243 = .ok (.iconst 0, 1) := by decide +kernel
theorem dd_findRun_244 : decode mm_findRun.2.1 244 = .ok (.istore_n 2, 1) := by decide +kernel
theorem dd_findRun_245 : decode mm_findRun.2.1 245 = .ok (.iload_n 2, 1) := by decide +kernel
theorem dd_findRun_246 : decode mm_findRun.2.1 246 = .ok (.ifCond .eq (10), 3) := by decide +kernel
theorem dd_findRun_256 : decode mm_findRun.2.1 256 = .ok (.goto (-237), 3) := by decide +kernel
theorem dd_findRun_239 : decode mm_findRun.2.1 239 = .ok (.iconst 1, 1) := by decide +kernel
theorem dd_findRun_240 : decode mm_findRun.2.1 240 = .ok (.goto 4, 3) := by decide +kernel
theorem dd_findRun_249 : decode mm_findRun.2.1 249 = .ok (.aload_n 0, 1) := by decide +kernel
theorem dd_findRun_250 : decode mm_findRun.2.1 250 = .ok (.sipush 1540, 3) := by decide +kernel
theorem dd_findRun_253 : decode mm_findRun.2.1 253 = .ok (.invokevirtual 383, 3) := by decide +kernel
theorem dd_findRun_259 : decode mm_findRun.2.1 259 = .ok (.aload_n 0, 1) := by decide +kernel
theorem dd_findRun_260 : decode mm_findRun.2.1 260 = .ok (.iconst 0, 1) := by decide +kernel
theorem dd_findRun_261 : decode mm_findRun.2.1 261 = .ok (.putfield 486, 3) := by decide +kernel
theorem fd_12_486 : fld 12 486 = some (12, 53) := by decide +kernel
theorem fn_12_53 : fin 12 53 = false := by decide +kernel
theorem dd_findRun_264 : decode mm_findRun.2.1 264 = .ok (.iconst 0, 1) := by decide +kernel
theorem dd_findRun_265 : decode mm_findRun.2.1 265 = .ok (.istore_n 3, 1) := by decide +kernel
theorem dd_findRun_266 : decode mm_findRun.2.1 266 = .ok (.iload_n 3, 1) := by decide +kernel
theorem dd_findRun_267 : decode mm_findRun.2.1 267 = .ok (.aload_n 0, 1) := by decide +kernel
theorem dd_findRun_268 : decode mm_findRun.2.1 268 = .ok (.invokevirtual 338, 3) := by decide +kernel
theorem dd_findRun_271 : decode mm_findRun.2.1 271 = .ok (.if_icmp .ge (56), 3) := by decide +kernel
theorem dd_findRun_327 : decode mm_findRun.2.1 327 = .ok (.return_, 1) := by decide +kernel
theorem dd_findRun_274 : decode mm_findRun.2.1 274 = .ok (.aload_n 0, 1) := by decide +kernel
theorem dd_findRun_275 : decode mm_findRun.2.1 275 = .ok (.dup, 1) := by decide +kernel
theorem dd_findRun_276 : decode mm_findRun.2.1 276 = .ok (.getfield 486, 3) := by decide +kernel
theorem dd_findRun_279 : decode mm_findRun.2.1 279 = .ok (.aload_n 0, 1) := by decide +kernel
theorem dd_findRun_280 : decode mm_findRun.2.1 280 = .ok (.getfield 125, 3) := by decide +kernel
theorem dd_findRun_283 : decode mm_findRun.2.1 283 = .ok (.sipush 1548, 3) := by decide +kernel
theorem dd_findRun_286 : decode mm_findRun.2.1 286 = .ok (.iload_n 3, 1) := by decide +kernel
theorem dd_findRun_287 : decode mm_findRun.2.1 287 = .ok (.iadd, 1) := by decide +kernel
theorem dd_findRun_288 : decode mm_findRun.2.1 288 = .ok (.iaload, 1) := by decide +kernel
theorem dd_findRun_289 : decode mm_findRun.2.1 289 = .ok (.iconst 1, 1) := by decide +kernel
theorem dd_findRun_290 : decode mm_findRun.2.1 290 = .ok (.if_icmp .ne (26), 3) := by decide +kernel
theorem dd_findRun_316 : decode mm_findRun.2.1 316 = .ok (.iconst 1, 1) := by decide +kernel
theorem dd_findRun_317 : decode mm_findRun.2.1 317 = .ok (.iadd, 1) := by decide +kernel
theorem dd_findRun_318 : decode mm_findRun.2.1 318 = .ok (.putfield 486, 3) := by decide +kernel
theorem dd_findRun_321 : decode mm_findRun.2.1 321 = .ok (.iinc 3 1, 3) := by decide +kernel
theorem dd_findRun_324 : decode mm_findRun.2.1 324 = .ok (.goto (-58), 3) := by decide +kernel
theorem dd_findRun_293 : decode mm_findRun.2.1 293 = .ok (.aload_n 0, 1) := by decide +kernel
theorem dd_findRun_294 : decode mm_findRun.2.1 294 = .ok (.getfield 125, 3) := by decide +kernel
theorem dd_findRun_297 : decode mm_findRun.2.1 297 = .ok (.sipush 1542, 3) := by decide +kernel
theorem dd_findRun_300 : decode mm_findRun.2.1 300 = .ok (.iload_n 3, 1) := by decide +kernel
theorem dd_findRun_301 : decode mm_findRun.2.1 301 = .ok (.iadd, 1) := by decide +kernel
theorem dd_findRun_302 : decode mm_findRun.2.1 302 = .ok (.iaload, 1) := by decide +kernel
theorem dd_findRun_303 : decode mm_findRun.2.1 303 = .ok (.aload_n 0, 1) := by decide +kernel
theorem dd_findRun_304 : decode mm_findRun.2.1 304 = .ok (.iload_n 3, 1) := by decide +kernel
theorem dd_findRun_305 : decode mm_findRun.2.1 305 = .ok (.iconst 1, 1) := by decide +kernel
theorem dd_findRun_306 : decode mm_findRun.2.1 306 = .ok (.invokevirtual 325, 3) := by decide +kernel
theorem dd_findRun_309 : decode mm_findRun.2.1 309 = .ok (.if_icmp .ne (7), 3) := by decide +kernel
theorem dd_findRun_312 : decode mm_findRun.2.1 312 = .ok (.iconst 0, 1) := by decide +kernel
theorem dd_findRun_313 : decode mm_findRun.2.1 313 = .ok (.goto 4, 3) := by decide +kernel
theorem dd_run_0 : decode mm_run.2.1 0 = .ok (.aload_n 0, 1) := by decide +kernel
theorem dd_run_1 : decode mm_run.2.1 1 = .ok (.iconst 0, 1) := by decide +kernel
theorem dd_run_2 : decode mm_run.2.1 2 = .ok (.putfield 1, 3) := by decide +kernel
theorem dd_run_5 : decode mm_run.2.1 5 = .ok (.aload_n 0, 1) := by decide +kernel
theorem dd_run_6 : decode mm_run.2.1 6 = .ok (.invokevirtual 489, 3) := by decide +kernel
theorem cw_12_489 : cwOk 12 489 0 259 1 6 12 = true := by decide +kernel
theorem mt_findRun : MTB 259 = some mm_findRun := rfl
theorem dd_run_9 : decode mm_run.2.1 9 = .ok (.iload_n 1, 1) := by decide +kernel
theorem dd_run_10 : decode mm_run.2.1 10 = .ok (.ifCond .ne (10), 3) := by decide +kernel
theorem dd_run_20 : decode mm_run.2.1 20 = .ok (.iload_n 1, 1) := by decide +kernel
theorem dd_run_21 : decode mm_run.2.1 21 = .ok (.iconst 1, 1) := by decide +kernel
theorem dd_run_22 : decode mm_run.2.1 22 = .ok (.if_icmp .ne (10), 3) := by decide +kernel
theorem dd_run_32 : decode mm_run.2.1 32 = .ok (.iconst (-1), 1) := by decide +kernel
theorem dd_run_33 : decode mm_run.2.1 33 = .ok (.ireturn, 1) := by decide +kernel
theorem dd_run_25 : decode mm_run.2.1 25 = .ok (.aload_n 0, 1) := by decide +kernel
theorem dd_run_26 : decode mm_run.2.1 26 = .ok (.getfield 486, 3) := by decide +kernel
theorem dd_run_29 : decode mm_run.2.1 29 = .ok (.goto 4, 3) := by decide +kernel
theorem dd_run_13 : decode mm_run.2.1 13 = .ok (.aload_n 0, 1) := by decide +kernel
theorem dd_run_14 : decode mm_run.2.1 14 = .ok (.getfield 483, 3) := by decide +kernel
theorem dd_run_17 : decode mm_run.2.1 17 = .ok (.goto 16, 3) := by decide +kernel
theorem B_findRun_0 {xs : Nat → Int} {xl e : Nat} {h : LH} {Q : Option LV → LH → Prop} (hF : RF h)
    (k : (∃ c, c < e ∧ Rn xs xl c mm_copies 0 [some (.inr (.inr 182)), some (.inl 0), some (.inl 1540), some (.inl 34), none] [] h (fun r h' => Rn xs xl e mm_findRun 10 [some (.inr (.inr 182)), none, none, none, none, none] (r.toList ++ []) h' Q))) :
    Rn xs xl e mm_findRun 0 [some (.inr (.inr 182)), none, none, none, none, none] [] h Q := by
  refine R_ld (v := .inr (.inr 182)) dd_findRun_0 rfl rfl rfl rfl ?_
  refine R_ic dd_findRun_1 (by decide) rfl ?_
  refine R_si dd_findRun_2 (by decide) rfl ?_
  refine R_bi dd_findRun_5 (by decide) rfl ?_
  obtain ⟨c, hc, k⟩ := k
  exact R_call (as := [.inr (.inr 182), .inl 0, .inl 1540, .inl 34]) (rest := []) (M' := mm_copies) (ls0 := [some (.inr (.inr 182)), some (.inl 0), some (.inl 1540), some (.inl 34), none]) dd_findRun_7 rfl rfl (cw_v cw_12_328 io_182 rfl rfl (Nat.le_of_ble_eq_true rfl) (Nat.le_of_ble_eq_true rfl)) mt_copies rfl hc rfl k
theorem B_findRun_10 {xs : Nat → Int} {xl e : Nat} {h : LH} {Q : Option LV → LH → Prop} (hF : RF h)
    (k : Rn xs xl e mm_findRun 19 [some (.inr (.inr 182)), some (.inl 0), some (.inl 1), none, none, none] [] (wr h 182 52 0) Q) :
    Rn xs xl e mm_findRun 10 [some (.inr (.inr 182)), none, none, none, none, none] [] h Q := by
  refine R_ic dd_findRun_10 (by decide) rfl ?_
  refine R_st (ls' := [some (.inr (.inr 182)), some (.inl 0), none, none, none, none]) dd_findRun_11 rfl rfl rfl (Nat.le_of_ble_eq_true rfl) rfl rfl ?_
  refine R_ld (v := .inr (.inr 182)) dd_findRun_12 rfl rfl rfl rfl ?_
  refine R_ic dd_findRun_13 (by decide) rfl ?_
  refine R_pf (z := 0) dd_findRun_14 fd_12_483 io_182 fn_12_52 rfl rfl ?_
  refine R_ic dd_findRun_17 (by decide) rfl ?_
  refine R_st (ls' := [some (.inr (.inr 182)), some (.inl 0), some (.inl 1), none, none, none]) dd_findRun_18 rfl rfl rfl (Nat.le_of_ble_eq_true rfl) rfl rfl ?_
  exact k
theorem B_findRun_19 {xs : Nat → Int} {xl e : Nat} {h : LH} {Q : Option LV → LH → Prop} {v1 v2 : Int} {o3 : Option LV} {o4 : Option LV} {o5 : Option LV} (hF : RF h)
    (k : (v2 = 0 →
        Rn xs xl e mm_findRun 259 [some (.inr (.inr 182)), some (.inl v1), some (.inl v2), o3, o4, o5] [] h Q) ∧
      (v2 ≠ 0 →
        Rn xs xl e mm_findRun 35 [some (.inr (.inr 182)), some (.inl v1), some (.inl v2), some (.inl (rd h 198 1540)), some (.inl 0), o5] [] h Q)) :
    Rn xs xl e mm_findRun 19 [some (.inr (.inr 182)), some (.inl v1), some (.inl v2), o3, o4, o5] [] h Q := by
  refine R_ld (v := .inl v2) dd_findRun_19 rfl rfl rfl rfl ?_
  refine R_if dd_findRun_20 rfl rfl (fun (c1 : v2 = 0) => ?_) (fun (c1 : v2 ≠ 0) => ?_)
  · replace k := k.1 c1
    exact k
  · replace k := k.2 c1
    refine R_ld (v := .inr (.inr 182)) dd_findRun_23 rfl rfl rfl rfl ?_
    refine R_gf (v := .inr (.inr 198)) dd_findRun_24 fd_12_125 io_182 (congrArg (fun z : Int => (Sum.inr (Sum.inr z) : LV)) (rf_182_24 hF)) rfl ?_
    refine R_si dd_findRun_27 (by decide) rfl ?_
    refine R_iald (v := (rd h 198 1540)) (n := 1610) dd_findRun_30 ia_198 la_198 (by decide) (rfl) rfl ?_
    refine R_st (ls' := [some (.inr (.inr 182)), some (.inl v1), some (.inl v2), some (.inl (rd h 198 1540)), o4, o5]) dd_findRun_31 rfl rfl rfl (Nat.le_of_ble_eq_true rfl) rfl rfl ?_
    refine R_ic dd_findRun_32 (by decide) rfl ?_
    refine R_st (ls' := [some (.inr (.inr 182)), some (.inl v1), some (.inl v2), some (.inl (rd h 198 1540)), some (.inl 0), o5]) dd_findRun_33 rfl rfl rfl (Nat.le_of_ble_eq_true rfl) rfl rfl ?_
    exact k
theorem B_findRun_35 {xs : Nat → Int} {xl e : Nat} {h : LH} {Q : Option LV → LH → Prop} {v1 v2 v3 v4 : Int} {o5 : Option LV} (hF : RF h) (r_v4 : 0 ≤ v4 ∧ v4 ≤ 6) (he : 1 ≤ e)
    (k : ((rd h 188 2) ≤ v4 →
        Rn xs xl e mm_findRun 117 [some (.inr (.inr 182)), some (.inl v1), some (.inl v2), some (.inl v3), some (.inl v4), o5] [] h Q) ∧
      (v4 < (rd h 188 2) →
        (24 ≤ v3 →
          Rn xs xl e mm_findRun 90 [some (.inr (.inr 182)), some (.inl v1), some (.inl v2), some (.inl v3), some (.inl v4), some (.inl 0)] [] h Q) ∧
        (v3 < 24 →
          ((rd h 198 (v4 + 1554)) ≠ 0 →
            Rn xs xl e mm_findRun 90 [some (.inr (.inr 182)), some (.inl v1), some (.inl v2), some (.inl v3), some (.inl v4), some (.inl 0)] [] h Q) ∧
          ((rd h 198 (v4 + 1554)) = 0 →
            (∃ c, c < e ∧ Rn xs xl c mm_findWay 0 [some (.inr (.inr 182)), some (.inl 1540), some (.inl v4), none, none, none, none, none] [] h (fun r h' => Rn xs xl e mm_findRun 73 [some (.inr (.inr 182)), some (.inl v1), some (.inl v2), some (.inl v3), some (.inl v4), o5] (r.toList ++ []) h' Q)))))) :
    Rn xs xl e mm_findRun 35 [some (.inr (.inr 182)), some (.inl v1), some (.inl v2), some (.inl v3), some (.inl v4), o5] [] h Q := by
  refine R_ld (v := .inl v4) dd_findRun_35 rfl rfl rfl rfl ?_
  refine R_ld (v := .inr (.inr 182)) dd_findRun_37 rfl rfl rfl rfl ?_
  refine R_call (as := [.inr (.inr 182)]) (rest := [.inl v4]) (M' := mm_people) (ls0 := [some (.inr (.inr 182))]) dd_findRun_38 rfl rfl (cw_v cw_12_338 io_182 rfl rfl (Nat.le_of_ble_eq_true rfl) (Nat.le_of_ble_eq_true rfl)) mt_people rfl (c := e - 1) (by omega) rfl ?_
  refine R_ld (v := .inr (.inr 182)) dd_people_0 rfl rfl rfl rfl ?_
  refine R_gf (v := .inr (.inr 188)) dd_people_1 fd_12_95 io_182 (congrArg (fun z : Int => (Sum.inr (Sum.inr z) : LV)) (rf_182_10 hF)) rfl ?_
  refine R_ic dd_people_4 (by decide) rfl ?_
  refine R_iald (v := (rd h 188 2)) (n := 300) dd_people_5 ia_188 la_188 (by decide) (rfl) rfl ?_
  refine R_iret dd_people_6 rfl ?_
  change Rn xs xl e mm_findRun 41 [some (.inr (.inr 182)), some (.inl v1), some (.inl v2), some (.inl v3), some (.inl v4), o5] [.inl (rd h 188 2), .inl v4] h _
  refine R_icmp dd_findRun_41 rfl rfl (fun (c2 : (rd h 188 2) ≤ v4) => ?_) (fun (c2 : v4 < (rd h 188 2)) => ?_)
  · replace k := k.1 c2
    exact k
  · replace k := k.2 c2
    refine R_ld (v := .inl v3) dd_findRun_44 rfl rfl rfl rfl ?_
    refine R_bi dd_findRun_45 (by decide) rfl ?_
    refine R_icmp dd_findRun_47 rfl rfl (fun (c3 : 24 ≤ v3) => ?_) (fun (c3 : v3 < 24) => ?_)
    · replace k := k.1 c3
      refine R_ic dd_findRun_87 (by decide) rfl ?_
      refine R_st (ls' := [some (.inr (.inr 182)), some (.inl v1), some (.inl v2), some (.inl v3), some (.inl v4), some (.inl 0)]) dd_findRun_88 rfl rfl rfl (Nat.le_of_ble_eq_true rfl) rfl rfl ?_
      exact k
    · replace k := k.2 c3
      refine R_ld (v := .inr (.inr 182)) dd_findRun_50 rfl rfl rfl rfl ?_
      refine R_gf (v := .inr (.inr 198)) dd_findRun_51 fd_12_125 io_182 (congrArg (fun z : Int => (Sum.inr (Sum.inr z) : LV)) (rf_182_24 hF)) rfl ?_
      refine R_si dd_findRun_54 (by decide) rfl ?_
      refine R_ld (v := .inl v4) dd_findRun_57 rfl rfl rfl rfl ?_
      refine R_iadd (c := v4 + 1554) dd_findRun_59 (by omega) (by omega) rfl ?_
      refine R_iald (v := (rd h 198 (v4 + 1554))) (n := 1610) dd_findRun_60 ia_198 la_198 (by omega) (rfl) rfl ?_
      refine R_if dd_findRun_61 rfl rfl (fun (c4 : (rd h 198 (v4 + 1554)) ≠ 0) => ?_) (fun (c4 : (rd h 198 (v4 + 1554)) = 0) => ?_)
      · replace k := k.1 c4
        refine R_ic dd_findRun_87 (by decide) rfl ?_
        refine R_st (ls' := [some (.inr (.inr 182)), some (.inl v1), some (.inl v2), some (.inl v3), some (.inl v4), some (.inl 0)]) dd_findRun_88 rfl rfl rfl (Nat.le_of_ble_eq_true rfl) rfl rfl ?_
        exact k
      · replace k := k.2 c4
        refine R_ld (v := .inr (.inr 182)) dd_findRun_64 rfl rfl rfl rfl ?_
        refine R_si dd_findRun_65 (by decide) rfl ?_
        refine R_ld (v := .inl v4) dd_findRun_68 rfl rfl rfl rfl ?_
        obtain ⟨c, hc, k⟩ := k
        exact R_call (as := [.inr (.inr 182), .inl 1540, .inl v4]) (rest := []) (M' := mm_findWay) (ls0 := [some (.inr (.inr 182)), some (.inl 1540), some (.inl v4), none, none, none, none, none]) dd_findRun_70 rfl rfl (cw_v cw_12_416 io_182 rfl rfl (Nat.le_of_ble_eq_true rfl) (Nat.le_of_ble_eq_true rfl)) mt_findWay rfl hc rfl k
theorem B_findRun_73 {xs : Nat → Int} {xl e : Nat} {h : LH} {Q : Option LV → LH → Prop} {v1 v2 v3 v4 w0 : Int} {o5 : Option LV} (hF : RF h)
    (k : (w0 < 0 →
        Rn xs xl e mm_findRun 90 [some (.inr (.inr 182)), some (.inl v1), some (.inl v2), some (.inl v3), some (.inl v4), some (.inl 0)] [] h Q) ∧
      (0 ≤ w0 →
        ((rd h 182 34) ≤ 0 →
          Rn xs xl e mm_findRun 90 [some (.inr (.inr 182)), some (.inl v1), some (.inl v2), some (.inl v3), some (.inl v4), some (.inl 0)] [] h Q) ∧
        (0 < (rd h 182 34) →
          Rn xs xl e mm_findRun 90 [some (.inr (.inr 182)), some (.inl v1), some (.inl v2), some (.inl v3), some (.inl v4), some (.inl 1)] [] h Q))) :
    Rn xs xl e mm_findRun 73 [some (.inr (.inr 182)), some (.inl v1), some (.inl v2), some (.inl v3), some (.inl v4), o5] [.inl w0] h Q := by
  refine R_if dd_findRun_73 rfl rfl (fun (c1 : w0 < 0) => ?_) (fun (c1 : 0 ≤ w0) => ?_)
  · replace k := k.1 c1
    refine R_ic dd_findRun_87 (by decide) rfl ?_
    refine R_st (ls' := [some (.inr (.inr 182)), some (.inl v1), some (.inl v2), some (.inl v3), some (.inl v4), some (.inl 0)]) dd_findRun_88 rfl rfl rfl (Nat.le_of_ble_eq_true rfl) rfl rfl ?_
    exact k
  · replace k := k.2 c1
    refine R_ld (v := .inr (.inr 182)) dd_findRun_76 rfl rfl rfl rfl ?_
    refine R_gf (v := .inl (rd h 182 34)) dd_findRun_77 fd_12_400 io_182 (congrArg (fun z : Int => (Sum.inl z : LV)) (rfl)) rfl ?_
    refine R_if dd_findRun_80 rfl rfl (fun (c2 : (rd h 182 34) ≤ 0) => ?_) (fun (c2 : 0 < (rd h 182 34)) => ?_)
    · replace k := k.1 c2
      refine R_ic dd_findRun_87 (by decide) rfl ?_
      refine R_st (ls' := [some (.inr (.inr 182)), some (.inl v1), some (.inl v2), some (.inl v3), some (.inl v4), some (.inl 0)]) dd_findRun_88 rfl rfl rfl (Nat.le_of_ble_eq_true rfl) rfl rfl ?_
      exact k
    · replace k := k.2 c2
      refine R_ic dd_findRun_83 (by decide) rfl ?_
      refine R_goto dd_findRun_84 rfl ?_
      refine R_st (ls' := [some (.inr (.inr 182)), some (.inl v1), some (.inl v2), some (.inl v3), some (.inl v4), some (.inl 1)]) dd_findRun_88 rfl rfl rfl (Nat.le_of_ble_eq_true rfl) rfl rfl ?_
      exact k
theorem B_findRun_90 {xs : Nat → Int} {xl e : Nat} {h : LH} {Q : Option LV → LH → Prop} {v1 v2 v3 v4 v5 : Int} (hF : RF h) (r_v4 : 0 ≤ v4 ∧ v4 ≤ 5)
    (k : (v5 = 0 →
        Rn xs xl e mm_findRun 35 [some (.inr (.inr 182)), some (.inl v1), some (.inl v2), some (.inl v3), some (.inl (v4 + 1)), some (.inl v5)] [] h Q) ∧
      (v5 ≠ 0 →
        (∃ c, c < e ∧ Rn xs xl c mm_goes 0 [some (.inr (.inr 182)), some (.inl 1540), some (.inl v4), some (.inl (rd h 202 0)), none] [] h (fun r h' => Rn xs xl e mm_findRun 110 [some (.inr (.inr 182)), some (.inl v1), some (.inl v2), some (.inl v3), some (.inl v4), some (.inl v5)] (r.toList ++ []) h' Q)))) :
    Rn xs xl e mm_findRun 90 [some (.inr (.inr 182)), some (.inl v1), some (.inl v2), some (.inl v3), some (.inl v4), some (.inl v5)] [] h Q := by
  refine R_ld (v := .inl v5) dd_findRun_90 rfl rfl rfl rfl ?_
  refine R_if dd_findRun_92 rfl rfl (fun (c2 : v5 = 0) => ?_) (fun (c2 : v5 ≠ 0) => ?_)
  · replace k := k.1 c2
    refine R_inc (y := v4 + 1) (ls' := [some (.inr (.inr 182)), some (.inl v1), some (.inl v2), some (.inl v3), some (.inl (v4 + 1)), some (.inl v5)]) dd_findRun_111 rfl (by decide) (by omega) (by omega) rfl rfl ?_
    refine R_goto dd_findRun_114 rfl ?_
    exact k
  · replace k := k.2 c2
    refine R_ld (v := .inr (.inr 182)) dd_findRun_95 rfl rfl rfl rfl ?_
    refine R_si dd_findRun_96 (by decide) rfl ?_
    refine R_ld (v := .inl v4) dd_findRun_99 rfl rfl rfl rfl ?_
    refine R_ld (v := .inr (.inr 182)) dd_findRun_101 rfl rfl rfl rfl ?_
    refine R_gf (v := .inr (.inr 202)) dd_findRun_102 fd_12_144 io_182 (congrArg (fun z : Int => (Sum.inr (Sum.inr z) : LV)) (rf_182_33 hF)) rfl ?_
    refine R_ic dd_findRun_105 (by decide) rfl ?_
    refine R_iald (v := (rd h 202 0)) (n := 30) dd_findRun_106 ia_202 la_202 (by decide) (rfl) rfl ?_
    obtain ⟨c, hc, k⟩ := k
    exact R_call (as := [.inr (.inr 182), .inl 1540, .inl v4, .inl (rd h 202 0)]) (rest := []) (M' := mm_goes) (ls0 := [some (.inr (.inr 182)), some (.inl 1540), some (.inl v4), some (.inl (rd h 202 0)), none]) dd_findRun_107 rfl rfl (cw_v cw_12_377 io_182 rfl rfl (Nat.le_of_ble_eq_true rfl) (Nat.le_of_ble_eq_true rfl)) mt_goes rfl hc rfl k
theorem B_findRun_110 {xs : Nat → Int} {xl e : Nat} {h : LH} {Q : Option LV → LH → Prop} {v1 v2 v3 v4 v5 w0 : Int} (hF : RF h) (r_v4 : 0 ≤ v4 ∧ v4 ≤ 5)
    (k : Rn xs xl e mm_findRun 35 [some (.inr (.inr 182)), some (.inl v1), some (.inl v2), some (.inl v3), some (.inl (v4 + 1)), some (.inl v5)] [] h Q) :
    Rn xs xl e mm_findRun 110 [some (.inr (.inr 182)), some (.inl v1), some (.inl v2), some (.inl v3), some (.inl v4), some (.inl v5)] [.inl w0] h Q := by
  refine R_A dd_findRun_110 rfl rfl rfl rfl ?_
  refine R_inc (y := v4 + 1) (ls' := [some (.inr (.inr 182)), some (.inl v1), some (.inl v2), some (.inl v3), some (.inl (v4 + 1)), some (.inl v5)]) dd_findRun_111 rfl (by decide) (by omega) (by omega) rfl rfl ?_
  refine R_goto dd_findRun_114 rfl ?_
  exact k
theorem B_findRun_117 {xs : Nat → Int} {xl e : Nat} {h : LH} {Q : Option LV → LH → Prop} {v1 v2 v3 v4 : Int} {o5 : Option LV} (hF : RF h)
    (k : Rn xs xl e mm_findRun 120 [some (.inr (.inr 182)), some (.inl v1), some (.inl v2), some (.inl v3), some (.inl 0), o5] [] h Q) :
    Rn xs xl e mm_findRun 117 [some (.inr (.inr 182)), some (.inl v1), some (.inl v2), some (.inl v3), some (.inl v4), o5] [] h Q := by
  refine R_ic dd_findRun_117 (by decide) rfl ?_
  refine R_st (ls' := [some (.inr (.inr 182)), some (.inl v1), some (.inl v2), some (.inl v3), some (.inl 0), o5]) dd_findRun_118 rfl rfl rfl (Nat.le_of_ble_eq_true rfl) rfl rfl ?_
  exact k
theorem B_findRun_120 {xs : Nat → Int} {xl e : Nat} {h : LH} {Q : Option LV → LH → Prop} {v1 v2 v3 v4 : Int} {o5 : Option LV} (hF : RF h) (r_v4 : 0 ≤ v4 ∧ v4 ≤ 6) (he : 1 ≤ e)
    (k : ((rd h 188 2) ≤ v4 →
        Rn xs xl e mm_findRun 233 [some (.inr (.inr 182)), some (.inl v1), some (.inl v2), some (.inl v3), some (.inl v4), o5] [] h Q) ∧
      (v4 < (rd h 188 2) →
        ((rd h 198 (v4 + 1548)) ≠ 1 →
          Rn xs xl e mm_findRun 172 [some (.inr (.inr 182)), some (.inl v1), some (.inl v2), some (.inl v3), some (.inl v4), some (.inl 0)] [] h Q) ∧
        ((rd h 198 (v4 + 1548)) = 1 →
          ((rd h 198 (v4 + 1542)) ≠ (rd h 188 (4 * v4 + 117)) →
            Rn xs xl e mm_findRun 172 [some (.inr (.inr 182)), some (.inl v1), some (.inl v2), some (.inl v3), some (.inl v4), some (.inl 0)] [] h Q) ∧
          ((rd h 198 (v4 + 1542)) = (rd h 188 (4 * v4 + 117)) →
            Rn xs xl e mm_findRun 172 [some (.inr (.inr 182)), some (.inl v1), some (.inl v2), some (.inl v3), some (.inl v4), some (.inl 1)] [] h Q)))) :
    Rn xs xl e mm_findRun 120 [some (.inr (.inr 182)), some (.inl v1), some (.inl v2), some (.inl v3), some (.inl v4), o5] [] h Q := by
  refine R_ld (v := .inl v4) dd_findRun_120 rfl rfl rfl rfl ?_
  refine R_ld (v := .inr (.inr 182)) dd_findRun_122 rfl rfl rfl rfl ?_
  refine R_call (as := [.inr (.inr 182)]) (rest := [.inl v4]) (M' := mm_people) (ls0 := [some (.inr (.inr 182))]) dd_findRun_123 rfl rfl (cw_v cw_12_338 io_182 rfl rfl (Nat.le_of_ble_eq_true rfl) (Nat.le_of_ble_eq_true rfl)) mt_people rfl (c := e - 1) (by omega) rfl ?_
  refine R_ld (v := .inr (.inr 182)) dd_people_0 rfl rfl rfl rfl ?_
  refine R_gf (v := .inr (.inr 188)) dd_people_1 fd_12_95 io_182 (congrArg (fun z : Int => (Sum.inr (Sum.inr z) : LV)) (rf_182_10 hF)) rfl ?_
  refine R_ic dd_people_4 (by decide) rfl ?_
  refine R_iald (v := (rd h 188 2)) (n := 300) dd_people_5 ia_188 la_188 (by decide) (rfl) rfl ?_
  refine R_iret dd_people_6 rfl ?_
  change Rn xs xl e mm_findRun 126 [some (.inr (.inr 182)), some (.inl v1), some (.inl v2), some (.inl v3), some (.inl v4), o5] [.inl (rd h 188 2), .inl v4] h _
  refine R_icmp dd_findRun_126 rfl rfl (fun (c1 : (rd h 188 2) ≤ v4) => ?_) (fun (c1 : v4 < (rd h 188 2)) => ?_)
  · replace k := k.1 c1
    exact k
  · replace k := k.2 c1
    refine R_ld (v := .inr (.inr 182)) dd_findRun_129 rfl rfl rfl rfl ?_
    refine R_gf (v := .inr (.inr 198)) dd_findRun_130 fd_12_125 io_182 (congrArg (fun z : Int => (Sum.inr (Sum.inr z) : LV)) (rf_182_24 hF)) rfl ?_
    refine R_si dd_findRun_133 (by decide) rfl ?_
    refine R_ld (v := .inl v4) dd_findRun_136 rfl rfl rfl rfl ?_
    refine R_iadd (c := v4 + 1548) dd_findRun_138 (by omega) (by omega) rfl ?_
    refine R_iald (v := (rd h 198 (v4 + 1548))) (n := 1610) dd_findRun_139 ia_198 la_198 (by omega) (rfl) rfl ?_
    refine R_ic dd_findRun_140 (by decide) rfl ?_
    refine R_icmp dd_findRun_141 rfl rfl (fun (c2 : (rd h 198 (v4 + 1548)) ≠ 1) => ?_) (fun (c2 : (rd h 198 (v4 + 1548)) = 1) => ?_)
    · replace k := k.1 c2
      refine R_ic dd_findRun_169 (by decide) rfl ?_
      refine R_st (ls' := [some (.inr (.inr 182)), some (.inl v1), some (.inl v2), some (.inl v3), some (.inl v4), some (.inl 0)]) dd_findRun_170 rfl rfl rfl (Nat.le_of_ble_eq_true rfl) rfl rfl ?_
      exact k
    · replace k := k.2 c2
      refine R_ld (v := .inr (.inr 182)) dd_findRun_144 rfl rfl rfl rfl ?_
      refine R_gf (v := .inr (.inr 198)) dd_findRun_145 fd_12_125 io_182 (congrArg (fun z : Int => (Sum.inr (Sum.inr z) : LV)) (rf_182_24 hF)) rfl ?_
      refine R_si dd_findRun_148 (by decide) rfl ?_
      refine R_ld (v := .inl v4) dd_findRun_151 rfl rfl rfl rfl ?_
      refine R_iadd (c := v4 + 1542) dd_findRun_153 (by omega) (by omega) rfl ?_
      refine R_iald (v := (rd h 198 (v4 + 1542))) (n := 1610) dd_findRun_154 ia_198 la_198 (by omega) (rfl) rfl ?_
      refine R_ld (v := .inr (.inr 182)) dd_findRun_155 rfl rfl rfl rfl ?_
      refine R_ld (v := .inl v4) dd_findRun_156 rfl rfl rfl rfl ?_
      refine R_ic dd_findRun_158 (by decide) rfl ?_
      refine R_call (as := [.inr (.inr 182), .inl v4, .inl 1]) (rest := [.inl (rd h 198 (v4 + 1542))]) (M' := mm_personOf) (ls0 := [some (.inr (.inr 182)), some (.inl v4), some (.inl 1)]) dd_findRun_159 rfl rfl (cw_v cw_12_325 io_182 rfl rfl (Nat.le_of_ble_eq_true rfl) (Nat.le_of_ble_eq_true rfl)) mt_personOf rfl (c := e - 1) (by omega) rfl ?_
      refine R_ld (v := .inr (.inr 182)) dd_personOf_0 rfl rfl rfl rfl ?_
      refine R_gf (v := .inr (.inr 188)) dd_personOf_1 fd_12_95 io_182 (congrArg (fun z : Int => (Sum.inr (Sum.inr z) : LV)) (rf_182_10 hF)) rfl ?_
      refine R_bi dd_personOf_4 (by decide) rfl ?_
      refine R_ic dd_personOf_6 (by decide) rfl ?_
      refine R_ld (v := .inl v4) dd_personOf_7 rfl rfl rfl rfl ?_
      refine R_imul (c := 4 * v4) dd_personOf_8 (by omega) (by omega) rfl ?_
      refine R_iadd (c := 4 * v4 + 116) dd_personOf_9 (by omega) (by omega) rfl ?_
      refine R_ld (v := .inl 1) dd_personOf_10 rfl rfl rfl rfl ?_
      refine R_iadd (c := 4 * v4 + 117) dd_personOf_11 (by omega) (by omega) rfl ?_
      refine R_iald (v := (rd h 188 (4 * v4 + 117))) (n := 300) dd_personOf_12 ia_188 la_188 (by omega) (rfl) rfl ?_
      refine R_iret dd_personOf_13 rfl ?_
      change Rn xs xl e mm_findRun 162 [some (.inr (.inr 182)), some (.inl v1), some (.inl v2), some (.inl v3), some (.inl v4), o5] [.inl (rd h 188 (4 * v4 + 117)), .inl (rd h 198 (v4 + 1542))] h _
      refine R_icmp dd_findRun_162 rfl rfl (fun (c3 : (rd h 198 (v4 + 1542)) ≠ (rd h 188 (4 * v4 + 117))) => ?_) (fun (c3 : (rd h 198 (v4 + 1542)) = (rd h 188 (4 * v4 + 117))) => ?_)
      · replace k := k.1 c3
        refine R_ic dd_findRun_169 (by decide) rfl ?_
        refine R_st (ls' := [some (.inr (.inr 182)), some (.inl v1), some (.inl v2), some (.inl v3), some (.inl v4), some (.inl 0)]) dd_findRun_170 rfl rfl rfl (Nat.le_of_ble_eq_true rfl) rfl rfl ?_
        exact k
      · replace k := k.2 c3
        refine R_ic dd_findRun_165 (by decide) rfl ?_
        refine R_goto dd_findRun_166 rfl ?_
        refine R_st (ls' := [some (.inr (.inr 182)), some (.inl v1), some (.inl v2), some (.inl v3), some (.inl v4), some (.inl 1)]) dd_findRun_170 rfl rfl rfl (Nat.le_of_ble_eq_true rfl) rfl rfl ?_
        exact k
theorem B_findRun_172 {xs : Nat → Int} {xl e : Nat} {h : LH} {Q : Option LV → LH → Prop} {v1 v2 v3 v4 v5 : Int} (hF : RF h) (r_v4 : 0 ≤ v4 ∧ v4 ≤ 5) (he : 1 ≤ e)
    (k : (v5 = 0 →
        Rn xs xl e mm_findRun 120 [some (.inr (.inr 182)), some (.inl (zor v1 0)), some (.inl v2), some (.inl v3), some (.inl (v4 + 1)), some (.inl v5)] [] (wr h 182 52 (w32 ((rd h 182 52) + 0))) Q) ∧
      (v5 ≠ 0 →
        ((zand (zshr v1 v4) 1) ≠ 1 →
          ((rd h 188 (4 * v4 + 119)) < v3 →
            Rn xs xl e mm_findRun 120 [some (.inr (.inr 182)), some (.inl (zor v1 (zshl 1 v4))), some (.inl v2), some (.inl v3), some (.inl (v4 + 1)), some (.inl v5)] [] (wr h 182 52 (w32 ((rd h 182 52) + 0))) Q) ∧
          (v3 ≤ (rd h 188 (4 * v4 + 119)) →
            Rn xs xl e mm_findRun 120 [some (.inr (.inr 182)), some (.inl (zor v1 (zshl 1 v4))), some (.inl v2), some (.inl v3), some (.inl (v4 + 1)), some (.inl v5)] [] (wr h 182 52 (w32 ((rd h 182 52) + 1))) Q)) ∧
        ((zand (zshr v1 v4) 1) = 1 →
          Rn xs xl e mm_findRun 120 [some (.inr (.inr 182)), some (.inl (zor v1 (zshl 1 v4))), some (.inl v2), some (.inl v3), some (.inl (v4 + 1)), some (.inl v5)] [] (wr h 182 52 (w32 ((rd h 182 52) + 0))) Q))) :
    Rn xs xl e mm_findRun 172 [some (.inr (.inr 182)), some (.inl v1), some (.inl v2), some (.inl v3), some (.inl v4), some (.inl v5)] [] h Q := by
  refine R_ld (v := .inr (.inr 182)) dd_findRun_172 rfl rfl rfl rfl ?_
  refine R_A dd_findRun_173 rfl rfl rfl rfl ?_
  refine R_gf (v := .inl (rd h 182 52)) dd_findRun_174 fd_12_483 io_182 (congrArg (fun z : Int => (Sum.inl z : LV)) (rfl)) rfl ?_
  refine R_ld (v := .inl v5) dd_findRun_177 rfl rfl rfl rfl ?_
  refine R_if dd_findRun_179 rfl rfl (fun (c1 : v5 = 0) => ?_) (fun (c1 : v5 ≠ 0) => ?_)
  · replace k := k.1 c1
    refine R_ic dd_findRun_206 (by decide) rfl ?_
    refine R_iaddw dd_findRun_207 rfl ?_
    refine R_pf (z := (w32 ((rd h 182 52) + 0))) dd_findRun_208 fd_12_483 io_182 fn_12_52 rfl rfl ?_
    refine R_ld (v := .inl v1) dd_findRun_211 rfl rfl rfl rfl ?_
    refine R_ld (v := .inl v5) dd_findRun_212 rfl rfl rfl rfl ?_
    refine R_if dd_findRun_214 rfl rfl (fun (c2 : v5 = 0) => ?_) (fun (c2 : v5 ≠ 0) => ?_)
    · skip
      refine R_ic dd_findRun_224 (by decide) rfl ?_
      refine R_A dd_findRun_225 rfl rfl rfl rfl ?_
      refine R_st (ls' := [some (.inr (.inr 182)), some (.inl (zor v1 0)), some (.inl v2), some (.inl v3), some (.inl v4), some (.inl v5)]) dd_findRun_226 rfl rfl rfl (Nat.le_of_ble_eq_true rfl) rfl rfl ?_
      refine R_inc (y := v4 + 1) (ls' := [some (.inr (.inr 182)), some (.inl (zor v1 0)), some (.inl v2), some (.inl v3), some (.inl (v4 + 1)), some (.inl v5)]) dd_findRun_227 rfl (by decide) (by omega) (by omega) rfl rfl ?_
      refine R_goto dd_findRun_230 rfl ?_
      exact k
    · exact absurd c2 (by omega)
  · replace k := k.2 c1
    refine R_ld (v := .inl v1) dd_findRun_182 rfl rfl rfl rfl ?_
    refine R_ld (v := .inl v4) dd_findRun_183 rfl rfl rfl rfl ?_
    refine R_call (as := [.inl v1, .inl v4]) (rest := [.inl (rd h 182 52), .inr (.inr 182)]) (M' := mm_isIn) (ls0 := [some (.inl v1), some (.inl v4)]) dd_findRun_185 rfl rfl (cw_s cw_12_350 rfl rfl (Nat.le_of_ble_eq_true rfl) (Nat.le_of_ble_eq_true rfl)) mt_isIn rfl (c := e - 1) (by omega) rfl ?_
    refine R_ld (v := .inl v1) dd_isIn_0 rfl rfl rfl rfl ?_
    refine R_ld (v := .inl v4) dd_isIn_1 rfl rfl rfl rfl ?_
    refine R_A dd_isIn_2 rfl rfl rfl rfl ?_
    refine R_ic dd_isIn_3 (by decide) rfl ?_
    refine R_A dd_isIn_4 rfl rfl rfl rfl ?_
    refine R_ic dd_isIn_5 (by decide) rfl ?_
    refine R_icmp dd_isIn_6 rfl rfl (fun (c3 : (zand (zshr v1 v4) 1) ≠ 1) => ?_) (fun (c3 : (zand (zshr v1 v4) 1) = 1) => ?_)
    · replace k := k.1 c3
      refine R_ic dd_isIn_13 (by decide) rfl ?_
      refine R_zret dd_isIn_14 rfl (by decide) ?_
      change Rn xs xl e mm_findRun 188 [some (.inr (.inr 182)), some (.inl v1), some (.inl v2), some (.inl v3), some (.inl v4), some (.inl v5)] [.inl 0, .inl (rd h 182 52), .inr (.inr 182)] h _
      refine R_if dd_findRun_188 rfl rfl (fun (c4 : 0 ≠ 0) => ?_) (fun (c4 : 0 = 0) => ?_)
      · exact absurd c4 (by omega)
      · skip
        refine R_ld (v := .inl v3) dd_findRun_191 rfl rfl rfl rfl ?_
        refine R_ld (v := .inr (.inr 182)) dd_findRun_192 rfl rfl rfl rfl ?_
        refine R_ld (v := .inl v4) dd_findRun_193 rfl rfl rfl rfl ?_
        refine R_ic dd_findRun_195 (by decide) rfl ?_
        refine R_call (as := [.inr (.inr 182), .inl v4, .inl 3]) (rest := [.inl v3, .inl (rd h 182 52), .inr (.inr 182)]) (M' := mm_personOf) (ls0 := [some (.inr (.inr 182)), some (.inl v4), some (.inl 3)]) dd_findRun_196 rfl rfl (cw_v cw_12_325 io_182 rfl rfl (Nat.le_of_ble_eq_true rfl) (Nat.le_of_ble_eq_true rfl)) mt_personOf rfl (c := e - 1) (by omega) rfl ?_
        refine R_ld (v := .inr (.inr 182)) dd_personOf_0 rfl rfl rfl rfl ?_
        refine R_gf (v := .inr (.inr 188)) dd_personOf_1 fd_12_95 io_182 (congrArg (fun z : Int => (Sum.inr (Sum.inr z) : LV)) (rf_182_10 hF)) rfl ?_
        refine R_bi dd_personOf_4 (by decide) rfl ?_
        refine R_ic dd_personOf_6 (by decide) rfl ?_
        refine R_ld (v := .inl v4) dd_personOf_7 rfl rfl rfl rfl ?_
        refine R_imul (c := 4 * v4) dd_personOf_8 (by omega) (by omega) rfl ?_
        refine R_iadd (c := 4 * v4 + 116) dd_personOf_9 (by omega) (by omega) rfl ?_
        refine R_ld (v := .inl 3) dd_personOf_10 rfl rfl rfl rfl ?_
        refine R_iadd (c := 4 * v4 + 119) dd_personOf_11 (by omega) (by omega) rfl ?_
        refine R_iald (v := (rd h 188 (4 * v4 + 119))) (n := 300) dd_personOf_12 ia_188 la_188 (by omega) (rfl) rfl ?_
        refine R_iret dd_personOf_13 rfl ?_
        change Rn xs xl e mm_findRun 199 [some (.inr (.inr 182)), some (.inl v1), some (.inl v2), some (.inl v3), some (.inl v4), some (.inl v5)] [.inl (rd h 188 (4 * v4 + 119)), .inl v3, .inl (rd h 182 52), .inr (.inr 182)] h _
        refine R_icmp dd_findRun_199 rfl rfl (fun (c5 : (rd h 188 (4 * v4 + 119)) < v3) => ?_) (fun (c5 : v3 ≤ (rd h 188 (4 * v4 + 119))) => ?_)
        · replace k := k.1 c5
          refine R_ic dd_findRun_206 (by decide) rfl ?_
          refine R_iaddw dd_findRun_207 rfl ?_
          refine R_pf (z := (w32 ((rd h 182 52) + 0))) dd_findRun_208 fd_12_483 io_182 fn_12_52 rfl rfl ?_
          refine R_ld (v := .inl v1) dd_findRun_211 rfl rfl rfl rfl ?_
          refine R_ld (v := .inl v5) dd_findRun_212 rfl rfl rfl rfl ?_
          refine R_if dd_findRun_214 rfl rfl (fun (c6 : v5 = 0) => ?_) (fun (c6 : v5 ≠ 0) => ?_)
          · exact absurd c6 (by omega)
          · skip
            refine R_ic dd_findRun_217 (by decide) rfl ?_
            refine R_ld (v := .inl v4) dd_findRun_218 rfl rfl rfl rfl ?_
            refine R_A dd_findRun_220 rfl rfl rfl rfl ?_
            refine R_goto dd_findRun_221 rfl ?_
            refine R_A dd_findRun_225 rfl rfl rfl rfl ?_
            refine R_st (ls' := [some (.inr (.inr 182)), some (.inl (zor v1 (zshl 1 v4))), some (.inl v2), some (.inl v3), some (.inl v4), some (.inl v5)]) dd_findRun_226 rfl rfl rfl (Nat.le_of_ble_eq_true rfl) rfl rfl ?_
            refine R_inc (y := v4 + 1) (ls' := [some (.inr (.inr 182)), some (.inl (zor v1 (zshl 1 v4))), some (.inl v2), some (.inl v3), some (.inl (v4 + 1)), some (.inl v5)]) dd_findRun_227 rfl (by decide) (by omega) (by omega) rfl rfl ?_
            refine R_goto dd_findRun_230 rfl ?_
            exact k
        · replace k := k.2 c5
          refine R_ic dd_findRun_202 (by decide) rfl ?_
          refine R_goto dd_findRun_203 rfl ?_
          refine R_iaddw dd_findRun_207 rfl ?_
          refine R_pf (z := (w32 ((rd h 182 52) + 1))) dd_findRun_208 fd_12_483 io_182 fn_12_52 rfl rfl ?_
          refine R_ld (v := .inl v1) dd_findRun_211 rfl rfl rfl rfl ?_
          refine R_ld (v := .inl v5) dd_findRun_212 rfl rfl rfl rfl ?_
          refine R_if dd_findRun_214 rfl rfl (fun (c7 : v5 = 0) => ?_) (fun (c7 : v5 ≠ 0) => ?_)
          · exact absurd c7 (by omega)
          · skip
            refine R_ic dd_findRun_217 (by decide) rfl ?_
            refine R_ld (v := .inl v4) dd_findRun_218 rfl rfl rfl rfl ?_
            refine R_A dd_findRun_220 rfl rfl rfl rfl ?_
            refine R_goto dd_findRun_221 rfl ?_
            refine R_A dd_findRun_225 rfl rfl rfl rfl ?_
            refine R_st (ls' := [some (.inr (.inr 182)), some (.inl (zor v1 (zshl 1 v4))), some (.inl v2), some (.inl v3), some (.inl v4), some (.inl v5)]) dd_findRun_226 rfl rfl rfl (Nat.le_of_ble_eq_true rfl) rfl rfl ?_
            refine R_inc (y := v4 + 1) (ls' := [some (.inr (.inr 182)), some (.inl (zor v1 (zshl 1 v4))), some (.inl v2), some (.inl v3), some (.inl (v4 + 1)), some (.inl v5)]) dd_findRun_227 rfl (by decide) (by omega) (by omega) rfl rfl ?_
            refine R_goto dd_findRun_230 rfl ?_
            exact k
    · replace k := k.2 c3
      refine R_ic dd_isIn_9 (by decide) rfl ?_
      refine R_goto dd_isIn_10 rfl ?_
      refine R_zret dd_isIn_14 rfl (by decide) ?_
      change Rn xs xl e mm_findRun 188 [some (.inr (.inr 182)), some (.inl v1), some (.inl v2), some (.inl v3), some (.inl v4), some (.inl v5)] [.inl 1, .inl (rd h 182 52), .inr (.inr 182)] h _
      refine R_if dd_findRun_188 rfl rfl (fun (c8 : 1 ≠ 0) => ?_) (fun (c8 : 1 = 0) => ?_)
      · skip
        refine R_ic dd_findRun_206 (by decide) rfl ?_
        refine R_iaddw dd_findRun_207 rfl ?_
        refine R_pf (z := (w32 ((rd h 182 52) + 0))) dd_findRun_208 fd_12_483 io_182 fn_12_52 rfl rfl ?_
        refine R_ld (v := .inl v1) dd_findRun_211 rfl rfl rfl rfl ?_
        refine R_ld (v := .inl v5) dd_findRun_212 rfl rfl rfl rfl ?_
        refine R_if dd_findRun_214 rfl rfl (fun (c9 : v5 = 0) => ?_) (fun (c9 : v5 ≠ 0) => ?_)
        · exact absurd c9 (by omega)
        · skip
          refine R_ic dd_findRun_217 (by decide) rfl ?_
          refine R_ld (v := .inl v4) dd_findRun_218 rfl rfl rfl rfl ?_
          refine R_A dd_findRun_220 rfl rfl rfl rfl ?_
          refine R_goto dd_findRun_221 rfl ?_
          refine R_A dd_findRun_225 rfl rfl rfl rfl ?_
          refine R_st (ls' := [some (.inr (.inr 182)), some (.inl (zor v1 (zshl 1 v4))), some (.inl v2), some (.inl v3), some (.inl v4), some (.inl v5)]) dd_findRun_226 rfl rfl rfl (Nat.le_of_ble_eq_true rfl) rfl rfl ?_
          refine R_inc (y := v4 + 1) (ls' := [some (.inr (.inr 182)), some (.inl (zor v1 (zshl 1 v4))), some (.inl v2), some (.inl v3), some (.inl (v4 + 1)), some (.inl v5)]) dd_findRun_227 rfl (by decide) (by omega) (by omega) rfl rfl ?_
          refine R_goto dd_findRun_230 rfl ?_
          exact k
      · exact absurd c8 (by omega)
theorem B_findRun_233 {xs : Nat → Int} {xl e : Nat} {h : LH} {Q : Option LV → LH → Prop} {v1 v2 v3 v4 : Int} {o5 : Option LV} (hF : RF h)
    (k : (24 ≤ v3 →
        Rn xs xl e mm_findRun 19 [some (.inr (.inr 182)), some (.inl v1), some (.inl 0), some (.inl v3), some (.inl v4), o5] [] h Q) ∧
      (v3 < 24 →
        (∃ c, c < e ∧ Rn xs xl c mm_passes 0 [some (.inr (.inr 182)), some (.inl 1540), none] [] h (fun r h' => Rn xs xl e mm_findRun 256 [some (.inr (.inr 182)), some (.inl v1), some (.inl 1), some (.inl v3), some (.inl v4), o5] (r.toList ++ []) h' Q)))) :
    Rn xs xl e mm_findRun 233 [some (.inr (.inr 182)), some (.inl v1), some (.inl v2), some (.inl v3), some (.inl v4), o5] [] h Q := by
  refine R_ld (v := .inl v3) dd_findRun_233 rfl rfl rfl rfl ?_
  refine R_bi dd_findRun_234 (by decide) rfl ?_
  refine R_icmp dd_findRun_236 rfl rfl (fun (c2 : 24 ≤ v3) => ?_) (fun (c2 : v3 < 24) => ?_)
  · replace k := k.1 c2
    refine R_ic dd_findRun_243 (by decide) rfl ?_
    refine R_st (ls' := [some (.inr (.inr 182)), some (.inl v1), some (.inl 0), some (.inl v3), some (.inl v4), o5]) dd_findRun_244 rfl rfl rfl (Nat.le_of_ble_eq_true rfl) rfl rfl ?_
    refine R_ld (v := .inl 0) dd_findRun_245 rfl rfl rfl rfl ?_
    refine R_if dd_findRun_246 rfl rfl (fun (c3 : 0 = 0) => ?_) (fun (c3 : 0 ≠ 0) => ?_)
    · skip
      refine R_goto dd_findRun_256 rfl ?_
      exact k
    · exact absurd c3 (by omega)
  · replace k := k.2 c2
    refine R_ic dd_findRun_239 (by decide) rfl ?_
    refine R_goto dd_findRun_240 rfl ?_
    refine R_st (ls' := [some (.inr (.inr 182)), some (.inl v1), some (.inl 1), some (.inl v3), some (.inl v4), o5]) dd_findRun_244 rfl rfl rfl (Nat.le_of_ble_eq_true rfl) rfl rfl ?_
    refine R_ld (v := .inl 1) dd_findRun_245 rfl rfl rfl rfl ?_
    refine R_if dd_findRun_246 rfl rfl (fun (c4 : 1 = 0) => ?_) (fun (c4 : 1 ≠ 0) => ?_)
    · exact absurd c4 (by omega)
    · skip
      refine R_ld (v := .inr (.inr 182)) dd_findRun_249 rfl rfl rfl rfl ?_
      refine R_si dd_findRun_250 (by decide) rfl ?_
      obtain ⟨c, hc, k⟩ := k
      exact R_call (as := [.inr (.inr 182), .inl 1540]) (rest := []) (M' := mm_passes) (ls0 := [some (.inr (.inr 182)), some (.inl 1540), none]) dd_findRun_253 rfl rfl (cw_v cw_12_383 io_182 rfl rfl (Nat.le_of_ble_eq_true rfl) (Nat.le_of_ble_eq_true rfl)) mt_passes rfl hc rfl k
theorem B_findRun_256 {xs : Nat → Int} {xl e : Nat} {h : LH} {Q : Option LV → LH → Prop} {v1 v2 v3 v4 : Int} {o5 : Option LV} (hF : RF h)
    (k : Rn xs xl e mm_findRun 19 [some (.inr (.inr 182)), some (.inl v1), some (.inl v2), some (.inl v3), some (.inl v4), o5] [] h Q) :
    Rn xs xl e mm_findRun 256 [some (.inr (.inr 182)), some (.inl v1), some (.inl v2), some (.inl v3), some (.inl v4), o5] [] h Q := by
  refine R_goto dd_findRun_256 rfl ?_
  exact k
theorem B_findRun_259 {xs : Nat → Int} {xl e : Nat} {h : LH} {Q : Option LV → LH → Prop} {v1 v2 : Int} {o3 : Option LV} {o4 : Option LV} {o5 : Option LV} (hF : RF h)
    (k : Rn xs xl e mm_findRun 266 [some (.inr (.inr 182)), some (.inl v1), some (.inl v2), some (.inl 0), o4, o5] [] (wr h 182 53 0) Q) :
    Rn xs xl e mm_findRun 259 [some (.inr (.inr 182)), some (.inl v1), some (.inl v2), o3, o4, o5] [] h Q := by
  refine R_ld (v := .inr (.inr 182)) dd_findRun_259 rfl rfl rfl rfl ?_
  refine R_ic dd_findRun_260 (by decide) rfl ?_
  refine R_pf (z := 0) dd_findRun_261 fd_12_486 io_182 fn_12_53 rfl rfl ?_
  refine R_ic dd_findRun_264 (by decide) rfl ?_
  refine R_st (ls' := [some (.inr (.inr 182)), some (.inl v1), some (.inl v2), some (.inl 0), o4, o5]) dd_findRun_265 rfl rfl rfl (Nat.le_of_ble_eq_true rfl) rfl rfl ?_
  exact k
theorem B_findRun_266 {xs : Nat → Int} {xl e : Nat} {h : LH} {Q : Option LV → LH → Prop} {v1 v2 v3 : Int} {o4 : Option LV} {o5 : Option LV} (hF : RF h) (r_v3 : 0 ≤ v3 ∧ v3 ≤ 6) (he : 1 ≤ e)
    (k : ((rd h 188 2) ≤ v3 →
        Q none h) ∧
      (v3 < (rd h 188 2) →
        ((rd h 198 (v3 + 1548)) ≠ 1 →
          Rn xs xl e mm_findRun 266 [some (.inr (.inr 182)), some (.inl v1), some (.inl v2), some (.inl (v3 + 1)), o4, o5] [] (wr h 182 53 (w32 ((rd h 182 53) + 1))) Q) ∧
        ((rd h 198 (v3 + 1548)) = 1 →
          ((rd h 198 (v3 + 1542)) ≠ (rd h 188 (4 * v3 + 117)) →
            Rn xs xl e mm_findRun 266 [some (.inr (.inr 182)), some (.inl v1), some (.inl v2), some (.inl (v3 + 1)), o4, o5] [] (wr h 182 53 (w32 ((rd h 182 53) + 1))) Q) ∧
          ((rd h 198 (v3 + 1542)) = (rd h 188 (4 * v3 + 117)) →
            Rn xs xl e mm_findRun 266 [some (.inr (.inr 182)), some (.inl v1), some (.inl v2), some (.inl (v3 + 1)), o4, o5] [] (wr h 182 53 (w32 ((rd h 182 53) + 0))) Q)))) :
    Rn xs xl e mm_findRun 266 [some (.inr (.inr 182)), some (.inl v1), some (.inl v2), some (.inl v3), o4, o5] [] h Q := by
  refine R_ld (v := .inl v3) dd_findRun_266 rfl rfl rfl rfl ?_
  refine R_ld (v := .inr (.inr 182)) dd_findRun_267 rfl rfl rfl rfl ?_
  refine R_call (as := [.inr (.inr 182)]) (rest := [.inl v3]) (M' := mm_people) (ls0 := [some (.inr (.inr 182))]) dd_findRun_268 rfl rfl (cw_v cw_12_338 io_182 rfl rfl (Nat.le_of_ble_eq_true rfl) (Nat.le_of_ble_eq_true rfl)) mt_people rfl (c := e - 1) (by omega) rfl ?_
  refine R_ld (v := .inr (.inr 182)) dd_people_0 rfl rfl rfl rfl ?_
  refine R_gf (v := .inr (.inr 188)) dd_people_1 fd_12_95 io_182 (congrArg (fun z : Int => (Sum.inr (Sum.inr z) : LV)) (rf_182_10 hF)) rfl ?_
  refine R_ic dd_people_4 (by decide) rfl ?_
  refine R_iald (v := (rd h 188 2)) (n := 300) dd_people_5 ia_188 la_188 (by decide) (rfl) rfl ?_
  refine R_iret dd_people_6 rfl ?_
  change Rn xs xl e mm_findRun 271 [some (.inr (.inr 182)), some (.inl v1), some (.inl v2), some (.inl v3), o4, o5] [.inl (rd h 188 2), .inl v3] h _
  refine R_icmp dd_findRun_271 rfl rfl (fun (c1 : (rd h 188 2) ≤ v3) => ?_) (fun (c1 : v3 < (rd h 188 2)) => ?_)
  · replace k := k.1 c1
    exact R_vret dd_findRun_327 rfl k
  · replace k := k.2 c1
    refine R_ld (v := .inr (.inr 182)) dd_findRun_274 rfl rfl rfl rfl ?_
    refine R_A dd_findRun_275 rfl rfl rfl rfl ?_
    refine R_gf (v := .inl (rd h 182 53)) dd_findRun_276 fd_12_486 io_182 (congrArg (fun z : Int => (Sum.inl z : LV)) (rfl)) rfl ?_
    refine R_ld (v := .inr (.inr 182)) dd_findRun_279 rfl rfl rfl rfl ?_
    refine R_gf (v := .inr (.inr 198)) dd_findRun_280 fd_12_125 io_182 (congrArg (fun z : Int => (Sum.inr (Sum.inr z) : LV)) (rf_182_24 hF)) rfl ?_
    refine R_si dd_findRun_283 (by decide) rfl ?_
    refine R_ld (v := .inl v3) dd_findRun_286 rfl rfl rfl rfl ?_
    refine R_iadd (c := v3 + 1548) dd_findRun_287 (by omega) (by omega) rfl ?_
    refine R_iald (v := (rd h 198 (v3 + 1548))) (n := 1610) dd_findRun_288 ia_198 la_198 (by omega) (rfl) rfl ?_
    refine R_ic dd_findRun_289 (by decide) rfl ?_
    refine R_icmp dd_findRun_290 rfl rfl (fun (c2 : (rd h 198 (v3 + 1548)) ≠ 1) => ?_) (fun (c2 : (rd h 198 (v3 + 1548)) = 1) => ?_)
    · replace k := k.1 c2
      refine R_ic dd_findRun_316 (by decide) rfl ?_
      refine R_iaddw dd_findRun_317 rfl ?_
      refine R_pf (z := (w32 ((rd h 182 53) + 1))) dd_findRun_318 fd_12_486 io_182 fn_12_53 rfl rfl ?_
      refine R_inc (y := v3 + 1) (ls' := [some (.inr (.inr 182)), some (.inl v1), some (.inl v2), some (.inl (v3 + 1)), o4, o5]) dd_findRun_321 rfl (by decide) (by omega) (by omega) rfl rfl ?_
      refine R_goto dd_findRun_324 rfl ?_
      exact k
    · replace k := k.2 c2
      refine R_ld (v := .inr (.inr 182)) dd_findRun_293 rfl rfl rfl rfl ?_
      refine R_gf (v := .inr (.inr 198)) dd_findRun_294 fd_12_125 io_182 (congrArg (fun z : Int => (Sum.inr (Sum.inr z) : LV)) (rf_182_24 hF)) rfl ?_
      refine R_si dd_findRun_297 (by decide) rfl ?_
      refine R_ld (v := .inl v3) dd_findRun_300 rfl rfl rfl rfl ?_
      refine R_iadd (c := v3 + 1542) dd_findRun_301 (by omega) (by omega) rfl ?_
      refine R_iald (v := (rd h 198 (v3 + 1542))) (n := 1610) dd_findRun_302 ia_198 la_198 (by omega) (rfl) rfl ?_
      refine R_ld (v := .inr (.inr 182)) dd_findRun_303 rfl rfl rfl rfl ?_
      refine R_ld (v := .inl v3) dd_findRun_304 rfl rfl rfl rfl ?_
      refine R_ic dd_findRun_305 (by decide) rfl ?_
      refine R_call (as := [.inr (.inr 182), .inl v3, .inl 1]) (rest := [.inl (rd h 198 (v3 + 1542)), .inl (rd h 182 53), .inr (.inr 182)]) (M' := mm_personOf) (ls0 := [some (.inr (.inr 182)), some (.inl v3), some (.inl 1)]) dd_findRun_306 rfl rfl (cw_v cw_12_325 io_182 rfl rfl (Nat.le_of_ble_eq_true rfl) (Nat.le_of_ble_eq_true rfl)) mt_personOf rfl (c := e - 1) (by omega) rfl ?_
      refine R_ld (v := .inr (.inr 182)) dd_personOf_0 rfl rfl rfl rfl ?_
      refine R_gf (v := .inr (.inr 188)) dd_personOf_1 fd_12_95 io_182 (congrArg (fun z : Int => (Sum.inr (Sum.inr z) : LV)) (rf_182_10 hF)) rfl ?_
      refine R_bi dd_personOf_4 (by decide) rfl ?_
      refine R_ic dd_personOf_6 (by decide) rfl ?_
      refine R_ld (v := .inl v3) dd_personOf_7 rfl rfl rfl rfl ?_
      refine R_imul (c := 4 * v3) dd_personOf_8 (by omega) (by omega) rfl ?_
      refine R_iadd (c := 4 * v3 + 116) dd_personOf_9 (by omega) (by omega) rfl ?_
      refine R_ld (v := .inl 1) dd_personOf_10 rfl rfl rfl rfl ?_
      refine R_iadd (c := 4 * v3 + 117) dd_personOf_11 (by omega) (by omega) rfl ?_
      refine R_iald (v := (rd h 188 (4 * v3 + 117))) (n := 300) dd_personOf_12 ia_188 la_188 (by omega) (rfl) rfl ?_
      refine R_iret dd_personOf_13 rfl ?_
      change Rn xs xl e mm_findRun 309 [some (.inr (.inr 182)), some (.inl v1), some (.inl v2), some (.inl v3), o4, o5] [.inl (rd h 188 (4 * v3 + 117)), .inl (rd h 198 (v3 + 1542)), .inl (rd h 182 53), .inr (.inr 182)] h _
      refine R_icmp dd_findRun_309 rfl rfl (fun (c3 : (rd h 198 (v3 + 1542)) ≠ (rd h 188 (4 * v3 + 117))) => ?_) (fun (c3 : (rd h 198 (v3 + 1542)) = (rd h 188 (4 * v3 + 117))) => ?_)
      · replace k := k.1 c3
        refine R_ic dd_findRun_316 (by decide) rfl ?_
        refine R_iaddw dd_findRun_317 rfl ?_
        refine R_pf (z := (w32 ((rd h 182 53) + 1))) dd_findRun_318 fd_12_486 io_182 fn_12_53 rfl rfl ?_
        refine R_inc (y := v3 + 1) (ls' := [some (.inr (.inr 182)), some (.inl v1), some (.inl v2), some (.inl (v3 + 1)), o4, o5]) dd_findRun_321 rfl (by decide) (by omega) (by omega) rfl rfl ?_
        refine R_goto dd_findRun_324 rfl ?_
        exact k
      · replace k := k.2 c3
        refine R_ic dd_findRun_312 (by decide) rfl ?_
        refine R_goto dd_findRun_313 rfl ?_
        refine R_iaddw dd_findRun_317 rfl ?_
        refine R_pf (z := (w32 ((rd h 182 53) + 0))) dd_findRun_318 fd_12_486 io_182 fn_12_53 rfl rfl ?_
        refine R_inc (y := v3 + 1) (ls' := [some (.inr (.inr 182)), some (.inl v1), some (.inl v2), some (.inl (v3 + 1)), o4, o5]) dd_findRun_321 rfl (by decide) (by omega) (by omega) rfl rfl ?_
        refine R_goto dd_findRun_324 rfl ?_
        exact k
theorem B_run_0 {xs : Nat → Int} {xl e : Nat} {h : LH} {Q : Option LV → LH → Prop} {v1 : Int} (hF : RF h)
    (k : (∃ c, c < e ∧ Rn xs xl c mm_findRun 0 [some (.inr (.inr 182)), none, none, none, none, none] [] (wr h 182 0 0) (fun r h' => Rn xs xl e mm_run 9 [some (.inr (.inr 182)), some (.inl v1)] (r.toList ++ []) h' Q))) :
    Rn xs xl e mm_run 0 [some (.inr (.inr 182)), some (.inl v1)] [] h Q := by
  refine R_ld (v := .inr (.inr 182)) dd_run_0 rfl rfl rfl rfl ?_
  refine R_ic dd_run_1 (by decide) rfl ?_
  refine R_pf (z := 0) dd_run_2 fd_12_1 io_182 fn_12_0 rfl rfl ?_
  refine R_ld (v := .inr (.inr 182)) dd_run_5 rfl rfl rfl rfl ?_
  obtain ⟨c, hc, k⟩ := k
  exact R_call (as := [.inr (.inr 182)]) (rest := []) (M' := mm_findRun) (ls0 := [some (.inr (.inr 182)), none, none, none, none, none]) dd_run_6 rfl rfl (cw_v cw_12_489 io_182 rfl rfl (Nat.le_of_ble_eq_true rfl) (Nat.le_of_ble_eq_true rfl)) mt_findRun rfl hc rfl k
theorem B_run_9 {xs : Nat → Int} {xl e : Nat} {h : LH} {Q : Option LV → LH → Prop} {v1 : Int} (hF : RF h)
    (k : (v1 ≠ 0 →
        (v1 ≠ 1 →
          Q (some (.inl (-1))) h) ∧
        (v1 = 1 →
          Q (some (.inl (rd h 182 53))) h)) ∧
      (v1 = 0 →
        Q (some (.inl (rd h 182 52))) h)) :
    Rn xs xl e mm_run 9 [some (.inr (.inr 182)), some (.inl v1)] [] h Q := by
  refine R_ld (v := .inl v1) dd_run_9 rfl rfl rfl rfl ?_
  refine R_if dd_run_10 rfl rfl (fun (c1 : v1 ≠ 0) => ?_) (fun (c1 : v1 = 0) => ?_)
  · replace k := k.1 c1
    refine R_ld (v := .inl v1) dd_run_20 rfl rfl rfl rfl ?_
    refine R_ic dd_run_21 (by decide) rfl ?_
    refine R_icmp dd_run_22 rfl rfl (fun (c2 : v1 ≠ 1) => ?_) (fun (c2 : v1 = 1) => ?_)
    · replace k := k.1 c2
      refine R_ic dd_run_32 (by decide) rfl ?_
      exact R_iret dd_run_33 rfl k
    · replace k := k.2 c2
      refine R_ld (v := .inr (.inr 182)) dd_run_25 rfl rfl rfl rfl ?_
      refine R_gf (v := .inl (rd h 182 53)) dd_run_26 fd_12_486 io_182 (congrArg (fun z : Int => (Sum.inl z : LV)) (rfl)) rfl ?_
      refine R_goto dd_run_29 rfl ?_
      exact R_iret dd_run_33 rfl k
  · replace k := k.2 c1
    refine R_ld (v := .inr (.inr 182)) dd_run_13 rfl rfl rfl rfl ?_
    refine R_gf (v := .inl (rd h 182 52)) dd_run_14 fd_12_483 io_182 (congrArg (fun z : Int => (Sum.inl z : LV)) (rfl)) rfl ?_
    refine R_goto dd_run_17 rfl ?_
    exact R_iret dd_run_33 rfl k
