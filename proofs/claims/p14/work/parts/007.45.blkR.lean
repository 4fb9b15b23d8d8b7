/-! LM, by program (wip/p2/hand.py): rows of quarter, day, cutAll, startsDay -/
def mm_isSignOf : LM_M := (⟨"OneSidedModel", "isSignOf", "(I)Z"⟩, prog_14_method_8_code, 1, (some .boolean), 12, 1, 1, 1436, 1435, 0)
def mm_cutAll : LM_M := (⟨"OneSidedModel", "cutAll", "()V"⟩, prog_14_method_9_code, 7, none, 12, 1, 0, 1421, 1420, 1000065)
def mm_isLetter : LM_M := (⟨"OneSidedModel", "isLetter", "(I)Z"⟩, prog_14_method_5_code, 1, (some .boolean), 12, 1, 1, 1424, 1423, 0)
def mm_isDigit : LM_M := (⟨"OneSidedModel", "isDigit", "(I)Z"⟩, prog_14_method_6_code, 1, (some .boolean), 12, 1, 1, 1431, 1430, 0)
def mm_rank : LM_M := (⟨"OneSidedModel", "rank", "(I)I"⟩, prog_14_method_7_code, 1, (some .int), 12, 1, 1, 1428, 1427, 0)
def mm_quarter : LM_M := (⟨"OneSidedModel", "quarter", "()I"⟩, prog_14_method_24_code, 2, (some .int), 12, 1, 0, 1417, 1415, 1416)
def mm_begins : LM_M := (⟨"OneSidedModel", "begins", "()V"⟩, prog_14_method_43_code, 2, none, 12, 1, 0, 1238, 1237, 1000062)
def mm_day : LM_M := (⟨"OneSidedModel", "day", "()I"⟩, prog_14_method_31_code, 2, (some .int), 12, 1, 0, 1536, 1534, 1535)
def mm_startsDay : LM_M := (⟨"OneSidedModel", "startsDay", "(I)V"⟩, prog_14_method_44_code, 3, none, 12, 2, 0, 1242, 1241, 1000063)
def mm_personOf : LM_M := (⟨"OneSidedModel", "personOf", "(II)I"⟩, prog_14_method_50_code, 3, (some .int), 12, 3, 0, 1246, 1245, 1000064)
theorem dd_isSignOf_0 : decode mm_isSignOf.2.1 0 = .ok (.iload_n 0, 1) := by decide +kernel
theorem dd_isSignOf_1 : decode mm_isSignOf.2.1 1 = .ok (.bipush 40, 2) := by decide +kernel
theorem dd_isSignOf_3 : decode mm_isSignOf.2.1 3 = .ok (.if_icmp .eq (45), 3) := by decide +kernel
theorem dd_isSignOf_48 : decode mm_isSignOf.2.1 48 = .ok (.iconst 1, 1) := by decide +kernel
theorem dd_isSignOf_49 : decode mm_isSignOf.2.1 49 = .ok (.goto 4, 3) := by decide +kernel
theorem dd_isSignOf_53 : decode mm_isSignOf.2.1 53 = .ok (.ireturn, 1) := by decide +kernel
theorem dd_isSignOf_6 : decode mm_isSignOf.2.1 6 = .ok (.iload_n 0, 1) := by decide +kernel
theorem dd_isSignOf_7 : decode mm_isSignOf.2.1 7 = .ok (.bipush 41, 2) := by decide +kernel
theorem dd_isSignOf_9 : decode mm_isSignOf.2.1 9 = .ok (.if_icmp .eq (39), 3) := by decide +kernel
theorem dd_isSignOf_12 : decode mm_isSignOf.2.1 12 = .ok (.iload_n 0, 1) := by decide +kernel
theorem dd_isSignOf_13 : decode mm_isSignOf.2.1 13 = .ok (.bipush 59, 2) := by decide +kernel
theorem dd_isSignOf_15 : decode mm_isSignOf.2.1 15 = .ok (.if_icmp .eq (33), 3) := by decide +kernel
theorem dd_isSignOf_18 : decode mm_isSignOf.2.1 18 = .ok (.iload_n 0, 1) := by decide +kernel
theorem dd_isSignOf_19 : decode mm_isSignOf.2.1 19 = .ok (.bipush 61, 2) := by decide +kernel
theorem dd_isSignOf_21 : decode mm_isSignOf.2.1 21 = .ok (.if_icmp .eq (27), 3) := by decide +kernel
theorem dd_isSignOf_24 : decode mm_isSignOf.2.1 24 = .ok (.iload_n 0, 1) := by decide +kernel
theorem dd_isSignOf_25 : decode mm_isSignOf.2.1 25 = .ok (.bipush 60, 2) := by decide +kernel
theorem dd_isSignOf_27 : decode mm_isSignOf.2.1 27 = .ok (.if_icmp .eq (21), 3) := by decide +kernel
theorem dd_isSignOf_30 : decode mm_isSignOf.2.1 30 = .ok (.iload_n 0, 1) := by decide +kernel
theorem dd_isSignOf_31 : decode mm_isSignOf.2.1 31 = .ok (.bipush 43, 2) := by decide +kernel
theorem dd_isSignOf_33 : decode mm_isSignOf.2.1 33 = .ok (.if_icmp .eq (15), 3) := by decide +kernel
theorem dd_isSignOf_36 : decode mm_isSignOf.2.1 36 = .ok (.iload_n 0, 1) := by decide +kernel
theorem dd_isSignOf_37 : decode mm_isSignOf.2.1 37 = .ok (.bipush 45, 2) := by decide +kernel
theorem dd_isSignOf_39 : decode mm_isSignOf.2.1 39 = .ok (.if_icmp .eq (9), 3) := by decide +kernel
theorem dd_isSignOf_42 : decode mm_isSignOf.2.1 42 = .ok (.iload_n 0, 1) := by decide +kernel
theorem dd_isSignOf_43 : decode mm_isSignOf.2.1 43 = .ok (.bipush 42, 2) := by decide +kernel
theorem dd_isSignOf_45 : decode mm_isSignOf.2.1 45 = .ok (.if_icmp .ne (7), 3) := by decide +kernel
theorem dd_isSignOf_52 : decode mm_isSignOf.2.1 52 = .ok (.iconst 0, 1) := by decide +kernel
theorem dd_cutAll_0 : decode mm_cutAll.2.1 0 = .ok (.aload_n 0, 1) := by decide +kernel
theorem dd_cutAll_1 : decode mm_cutAll.2.1 1 = .ok (.aload_n 0, 1) := by decide +kernel
theorem dd_cutAll_2 : decode mm_cutAll.2.1 2 = .ok (.getfield 11, 3) := by decide +kernel
theorem fd_12_11 : fld 12 11 = some (12, 2) := by decide +kernel
theorem dd_cutAll_5 : decode mm_cutAll.2.1 5 = .ok (.putfield 188, 3) := by decide +kernel
theorem fd_12_188 : fld 12 188 = some (12, 3) := by decide +kernel
theorem fn_12_3 : fin 12 3 = false := by decide +kernel
theorem dd_cutAll_8 : decode mm_cutAll.2.1 8 = .ok (.aload_n 0, 1) := by decide +kernel
theorem dd_cutAll_9 : decode mm_cutAll.2.1 9 = .ok (.iconst 0, 1) := by decide +kernel
theorem dd_cutAll_10 : decode mm_cutAll.2.1 10 = .ok (.putfield 11, 3) := by decide +kernel
theorem fn_12_2 : fin 12 2 = false := by decide +kernel
theorem dd_cutAll_13 : decode mm_cutAll.2.1 13 = .ok (.iconst 0, 1) := by decide +kernel
theorem dd_cutAll_14 : decode mm_cutAll.2.1 14 = .ok (.istore_n 1, 1) := by decide +kernel
theorem dd_cutAll_15 : decode mm_cutAll.2.1 15 = .ok (.iconst 0, 1) := by decide +kernel
theorem dd_cutAll_16 : decode mm_cutAll.2.1 16 = .ok (.istore_n 2, 1) := by decide +kernel
theorem dd_cutAll_17 : decode mm_cutAll.2.1 17 = .ok (.iload_n 2, 1) := by decide +kernel
theorem dd_cutAll_18 : decode mm_cutAll.2.1 18 = .ok (.aload_n 0, 1) := by decide +kernel
theorem dd_cutAll_19 : decode mm_cutAll.2.1 19 = .ok (.getfield 188, 3) := by decide +kernel
theorem dd_cutAll_22 : decode mm_cutAll.2.1 22 = .ok (.if_icmp .ge (257), 3) := by decide +kernel
theorem dd_cutAll_279 : decode mm_cutAll.2.1 279 = .ok (.aload_n 0, 1) := by decide +kernel
theorem dd_cutAll_280 : decode mm_cutAll.2.1 280 = .ok (.getfield 24, 3) := by decide +kernel
theorem dd_cutAll_283 : decode mm_cutAll.2.1 283 = .ok (.iload_n 1, 1) := by decide +kernel
theorem dd_cutAll_284 : decode mm_cutAll.2.1 284 = .ok (.iconst 0, 1) := by decide +kernel
theorem dd_cutAll_285 : decode mm_cutAll.2.1 285 = .ok (.iastore, 1) := by decide +kernel
theorem dd_cutAll_286 : decode mm_cutAll.2.1 286 = .ok (.aload_n 0, 1) := by decide +kernel
theorem dd_cutAll_287 : decode mm_cutAll.2.1 287 = .ok (.getfield 27, 3) := by decide +kernel
theorem dd_cutAll_290 : decode mm_cutAll.2.1 290 = .ok (.iload_n 1, 1) := by decide +kernel
theorem dd_cutAll_291 : decode mm_cutAll.2.1 291 = .ok (.aload_n 0, 1) := by decide +kernel
theorem dd_cutAll_292 : decode mm_cutAll.2.1 292 = .ok (.getfield 188, 3) := by decide +kernel
theorem dd_cutAll_295 : decode mm_cutAll.2.1 295 = .ok (.iastore, 1) := by decide +kernel
theorem dd_cutAll_296 : decode mm_cutAll.2.1 296 = .ok (.aload_n 0, 1) := by decide +kernel
theorem dd_cutAll_297 : decode mm_cutAll.2.1 297 = .ok (.iconst 0, 1) := by decide +kernel
theorem dd_cutAll_298 : decode mm_cutAll.2.1 298 = .ok (.putfield 207, 3) := by decide +kernel
theorem dd_cutAll_301 : decode mm_cutAll.2.1 301 = .ok (.aload_n 0, 1) := by decide +kernel
theorem dd_cutAll_302 : decode mm_cutAll.2.1 302 = .ok (.iconst 0, 1) := by decide +kernel
theorem dd_cutAll_303 : decode mm_cutAll.2.1 303 = .ok (.putfield 210, 3) := by decide +kernel
theorem dd_cutAll_306 : decode mm_cutAll.2.1 306 = .ok (.return_, 1) := by decide +kernel
theorem dd_cutAll_25 : decode mm_cutAll.2.1 25 = .ok (.aload_n 0, 1) := by decide +kernel
theorem dd_cutAll_26 : decode mm_cutAll.2.1 26 = .ok (.getfield 14, 3) := by decide +kernel
theorem fd_12_14 : fld 12 14 = some (12, 1) := by decide +kernel
theorem rf_182_1 {h : LH} (hF : RF h) : rd h 182 1 = 183 := hF 182 1 183 (by decide +kernel) (by decide +kernel)
theorem dd_cutAll_29 : decode mm_cutAll.2.1 29 = .ok (.iload_n 2, 1) := by decide +kernel
theorem dd_cutAll_30 : decode mm_cutAll.2.1 30 = .ok (.iaload, 1) := by decide +kernel
theorem ia_183 : isA NC 183 1 = true := by decide +kernel
theorem la_183 : (lay (183 : Int).toNat).2.2 = 1000 := by decide +kernel
theorem dd_cutAll_31 : decode mm_cutAll.2.1 31 = .ok (.istore_n 3, 1) := by decide +kernel
theorem dd_cutAll_32 : decode mm_cutAll.2.1 32 = .ok (.iload_n 3, 1) := by decide +kernel
theorem dd_cutAll_33 : decode mm_cutAll.2.1 33 = .ok (.bipush 10, 2) := by decide +kernel
theorem dd_cutAll_35 : decode mm_cutAll.2.1 35 = .ok (.if_icmp .eq (9), 3) := by decide +kernel
theorem dd_cutAll_44 : decode mm_cutAll.2.1 44 = .ok (.iinc 2 1, 3) := by decide +kernel
theorem dd_cutAll_47 : decode mm_cutAll.2.1 47 = .ok (.goto (-30), 3) := by decide +kernel
theorem dd_cutAll_38 : decode mm_cutAll.2.1 38 = .ok (.iload_n 3, 1) := by decide +kernel
theorem dd_cutAll_39 : decode mm_cutAll.2.1 39 = .ok (.bipush 32, 2) := by decide +kernel
theorem dd_cutAll_41 : decode mm_cutAll.2.1 41 = .ok (.if_icmp .ne (9), 3) := by decide +kernel
theorem dd_cutAll_50 : decode mm_cutAll.2.1 50 = .ok (.iload_n 2, 1) := by decide +kernel
theorem dd_cutAll_51 : decode mm_cutAll.2.1 51 = .ok (.istore 4, 2) := by decide +kernel
theorem dd_cutAll_53 : decode mm_cutAll.2.1 53 = .ok (.lconst 0, 1) := by decide +kernel
theorem dd_cutAll_54 : decode mm_cutAll.2.1 54 = .ok (.lstore 5, 2) := by decide +kernel
theorem dd_cutAll_56 : decode mm_cutAll.2.1 56 = .ok (.aload_n 0, 1) := by decide +kernel
theorem dd_cutAll_57 : decode mm_cutAll.2.1 57 = .ok (.getfield 27, 3) := by decide +kernel
theorem dd_cutAll_60 : decode mm_cutAll.2.1 60 = .ok (.iload_n 1, 1) := by decide +kernel
theorem dd_cutAll_61 : decode mm_cutAll.2.1 61 = .ok (.iload_n 2, 1) := by decide +kernel
theorem dd_cutAll_62 : decode mm_cutAll.2.1 62 = .ok (.iastore, 1) := by decide +kernel
theorem dd_cutAll_63 : decode mm_cutAll.2.1 63 = .ok (.iload_n 3, 1) := by decide +kernel
theorem dd_cutAll_64 : decode mm_cutAll.2.1 64 = .ok (.invokestatic 184, 3) := by decide +kernel
theorem cw_12_184 : cwOk 12 184 1 164 1 1 12 = true := by decide +kernel
theorem mt_isLetter : MTB 164 = some mm_isLetter := rfl
theorem dd_isLetter_0 : decode mm_isLetter.2.1 0 = .ok (.iload_n 0, 1) := by decide +kernel
theorem dd_isLetter_1 : decode mm_isLetter.2.1 1 = .ok (.bipush 97, 2) := by decide +kernel
theorem dd_isLetter_3 : decode mm_isLetter.2.1 3 = .ok (.if_icmp .lt (13), 3) := by decide +kernel
theorem dd_isLetter_16 : decode mm_isLetter.2.1 16 = .ok (.iconst 0, 1) := by decide +kernel
theorem dd_isLetter_17 : decode mm_isLetter.2.1 17 = .ok (.ireturn, 1) := by decide +kernel
theorem dd_cutAll_67 : decode mm_cutAll.2.1 67 = .ok (.ifCond .eq (85), 3) := by decide +kernel
theorem dd_cutAll_152 : decode mm_cutAll.2.1 152 = .ok (.iload_n 3, 1) := by decide +kernel
theorem dd_cutAll_153 : decode mm_cutAll.2.1 153 = .ok (.invokestatic 197, 3) := by decide +kernel
theorem cw_12_197 : cwOk 12 197 1 166 1 1 12 = true := by decide +kernel
theorem mt_isDigit : MTB 166 = some mm_isDigit := rfl
theorem dd_isDigit_0 : decode mm_isDigit.2.1 0 = .ok (.iload_n 0, 1) := by decide +kernel
theorem dd_isDigit_1 : decode mm_isDigit.2.1 1 = .ok (.bipush 48, 2) := by decide +kernel
theorem dd_isDigit_3 : decode mm_isDigit.2.1 3 = .ok (.if_icmp .lt (13), 3) := by decide +kernel
theorem dd_isDigit_16 : decode mm_isDigit.2.1 16 = .ok (.iconst 0, 1) := by decide +kernel
theorem dd_isDigit_17 : decode mm_isDigit.2.1 17 = .ok (.ireturn, 1) := by decide +kernel
theorem dd_cutAll_156 : decode mm_cutAll.2.1 156 = .ok (.ifCond .eq (84), 3) := by decide +kernel
theorem dd_isDigit_6 : decode mm_isDigit.2.1 6 = .ok (.iload_n 0, 1) := by decide +kernel
theorem dd_isDigit_7 : decode mm_isDigit.2.1 7 = .ok (.bipush 57, 2) := by decide +kernel
theorem dd_isDigit_9 : decode mm_isDigit.2.1 9 = .ok (.if_icmp .gt (7), 3) := by decide +kernel
theorem dd_isDigit_12 : decode mm_isDigit.2.1 12 = .ok (.iconst 1, 1) := by decide +kernel
theorem dd_isDigit_13 : decode mm_isDigit.2.1 13 = .ok (.goto 4, 3) := by decide +kernel
theorem dd_isLetter_6 : decode mm_isLetter.2.1 6 = .ok (.iload_n 0, 1) := by decide +kernel
theorem dd_isLetter_7 : decode mm_isLetter.2.1 7 = .ok (.bipush 122, 2) := by decide +kernel
theorem dd_isLetter_9 : decode mm_isLetter.2.1 9 = .ok (.if_icmp .gt (7), 3) := by decide +kernel
theorem dd_isLetter_12 : decode mm_isLetter.2.1 12 = .ok (.iconst 1, 1) := by decide +kernel
theorem dd_isLetter_13 : decode mm_isLetter.2.1 13 = .ok (.goto 4, 3) := by decide +kernel
theorem dd_cutAll_70 : decode mm_cutAll.2.1 70 = .ok (.iload_n 2, 1) := by decide +kernel
theorem dd_cutAll_71 : decode mm_cutAll.2.1 71 = .ok (.aload_n 0, 1) := by decide +kernel
theorem dd_cutAll_72 : decode mm_cutAll.2.1 72 = .ok (.getfield 188, 3) := by decide +kernel
theorem dd_cutAll_75 : decode mm_cutAll.2.1 75 = .ok (.if_icmp .ge (54), 3) := by decide +kernel
theorem dd_cutAll_78 : decode mm_cutAll.2.1 78 = .ok (.aload_n 0, 1) := by decide +kernel
theorem dd_cutAll_79 : decode mm_cutAll.2.1 79 = .ok (.getfield 14, 3) := by decide +kernel
theorem dd_cutAll_82 : decode mm_cutAll.2.1 82 = .ok (.iload_n 2, 1) := by decide +kernel
theorem dd_cutAll_83 : decode mm_cutAll.2.1 83 = .ok (.iaload, 1) := by decide +kernel
theorem dd_cutAll_84 : decode mm_cutAll.2.1 84 = .ok (.invokestatic 184, 3) := by decide +kernel
theorem dd_cutAll_87 : decode mm_cutAll.2.1 87 = .ok (.ifCond .eq (42), 3) := by decide +kernel
theorem dd_cutAll_90 : decode mm_cutAll.2.1 90 = .ok (.iload_n 2, 1) := by decide +kernel
theorem dd_cutAll_91 : decode mm_cutAll.2.1 91 = .ok (.iload 4, 2) := by decide +kernel
theorem dd_cutAll_93 : decode mm_cutAll.2.1 93 = .ok (.isub, 1) := by decide +kernel
theorem dd_cutAll_94 : decode mm_cutAll.2.1 94 = .ok (.bipush 8, 2) := by decide +kernel
theorem dd_cutAll_96 : decode mm_cutAll.2.1 96 = .ok (.if_icmp .ge (23), 3) := by decide +kernel
theorem dd_cutAll_119 : decode mm_cutAll.2.1 119 = .ok (.lload 5, 2) := by decide +kernel
theorem dd_cutAll_121 : decode mm_cutAll.2.1 121 = .ok (.lstore 5, 2) := by decide +kernel
theorem dd_cutAll_99 : decode mm_cutAll.2.1 99 = .ok (.ldc2_w 191, 3) := by decide +kernel
theorem dd_cutAll_102 : decode mm_cutAll.2.1 102 = .ok (.lload 5, 2) := by decide +kernel
theorem dd_cutAll_104 : decode mm_cutAll.2.1 104 = .ok (.lmul, 1) := by decide +kernel
theorem dd_cutAll_105 : decode mm_cutAll.2.1 105 = .ok (.aload_n 0, 1) := by decide +kernel
theorem dd_cutAll_106 : decode mm_cutAll.2.1 106 = .ok (.getfield 14, 3) := by decide +kernel
theorem dd_cutAll_109 : decode mm_cutAll.2.1 109 = .ok (.iload_n 2, 1) := by decide +kernel
theorem dd_cutAll_110 : decode mm_cutAll.2.1 110 = .ok (.iaload, 1) := by decide +kernel
theorem dd_cutAll_111 : decode mm_cutAll.2.1 111 = .ok (.invokestatic 193, 3) := by decide +kernel
theorem cw_12_193 : cwOk 12 193 1 165 1 1 12 = true := by decide +kernel
theorem mt_rank : MTB 165 = some mm_rank := rfl
theorem dd_rank_0 : decode mm_rank.2.1 0 = .ok (.iload_n 0, 1) := by decide +kernel
theorem dd_rank_1 : decode mm_rank.2.1 1 = .ok (.invokestatic 184, 3) := by decide +kernel
theorem dd_rank_4 : decode mm_rank.2.1 4 = .ok (.ifCond .eq (10), 3) := by decide +kernel
theorem dd_rank_14 : decode mm_rank.2.1 14 = .ok (.iload_n 0, 1) := by decide +kernel
theorem dd_rank_15 : decode mm_rank.2.1 15 = .ok (.bipush 21, 2) := by decide +kernel
theorem dd_rank_17 : decode mm_rank.2.1 17 = .ok (.isub, 1) := by decide +kernel
theorem dd_rank_18 : decode mm_rank.2.1 18 = .ok (.ireturn, 1) := by decide +kernel
theorem dd_cutAll_114 : decode mm_cutAll.2.1 114 = .ok (.i2l, 1) := by decide +kernel
theorem dd_cutAll_115 : decode mm_cutAll.2.1 115 = .ok (.ladd, 1) := by decide +kernel
theorem dd_cutAll_116 : decode mm_cutAll.2.1 116 = .ok (.goto 5, 3) := by decide +kernel
theorem dd_rank_7 : decode mm_rank.2.1 7 = .ok (.iload_n 0, 1) := by decide +kernel
theorem dd_rank_8 : decode mm_rank.2.1 8 = .ok (.bipush 96, 2) := by decide +kernel
theorem dd_rank_10 : decode mm_rank.2.1 10 = .ok (.isub, 1) := by decide +kernel
theorem dd_rank_11 : decode mm_rank.2.1 11 = .ok (.goto 7, 3) := by decide +kernel
theorem dd_cutAll_123 : decode mm_cutAll.2.1 123 = .ok (.iinc 2 1, 3) := by decide +kernel
theorem dd_cutAll_126 : decode mm_cutAll.2.1 126 = .ok (.goto (-56), 3) := by decide +kernel
theorem dd_cutAll_129 : decode mm_cutAll.2.1 129 = .ok (.aload_n 0, 1) := by decide +kernel
theorem dd_cutAll_130 : decode mm_cutAll.2.1 130 = .ok (.getfield 24, 3) := by decide +kernel
theorem dd_cutAll_133 : decode mm_cutAll.2.1 133 = .ok (.iload_n 1, 1) := by decide +kernel
theorem dd_cutAll_134 : decode mm_cutAll.2.1 134 = .ok (.iload_n 2, 1) := by decide +kernel
theorem dd_cutAll_135 : decode mm_cutAll.2.1 135 = .ok (.iload 4, 2) := by decide +kernel
theorem dd_cutAll_137 : decode mm_cutAll.2.1 137 = .ok (.isub, 1) := by decide +kernel
theorem dd_cutAll_138 : decode mm_cutAll.2.1 138 = .ok (.bipush 8, 2) := by decide +kernel
theorem dd_cutAll_140 : decode mm_cutAll.2.1 140 = .ok (.if_icmp .le (7), 3) := by decide +kernel
theorem dd_cutAll_147 : decode mm_cutAll.2.1 147 = .ok (.iconst 1, 1) := by decide +kernel
theorem dd_cutAll_148 : decode mm_cutAll.2.1 148 = .ok (.iastore, 1) := by decide +kernel
theorem dd_cutAll_149 : decode mm_cutAll.2.1 149 = .ok (.goto 116, 3) := by decide +kernel
theorem dd_cutAll_143 : decode mm_cutAll.2.1 143 = .ok (.iconst 4, 1) := by decide +kernel
theorem dd_cutAll_144 : decode mm_cutAll.2.1 144 = .ok (.goto 4, 3) := by decide +kernel
theorem dd_cutAll_159 : decode mm_cutAll.2.1 159 = .ok (.iload_n 2, 1) := by decide +kernel
theorem dd_cutAll_160 : decode mm_cutAll.2.1 160 = .ok (.aload_n 0, 1) := by decide +kernel
theorem dd_cutAll_161 : decode mm_cutAll.2.1 161 = .ok (.getfield 188, 3) := by decide +kernel
theorem dd_cutAll_164 : decode mm_cutAll.2.1 164 = .ok (.if_icmp .ge (54), 3) := by decide +kernel
theorem dd_cutAll_167 : decode mm_cutAll.2.1 167 = .ok (.aload_n 0, 1) := by decide +kernel
theorem dd_cutAll_168 : decode mm_cutAll.2.1 168 = .ok (.getfield 14, 3) := by decide +kernel
theorem dd_cutAll_171 : decode mm_cutAll.2.1 171 = .ok (.iload_n 2, 1) := by decide +kernel
theorem dd_cutAll_172 : decode mm_cutAll.2.1 172 = .ok (.iaload, 1) := by decide +kernel
theorem dd_cutAll_173 : decode mm_cutAll.2.1 173 = .ok (.invokestatic 197, 3) := by decide +kernel
theorem dd_cutAll_176 : decode mm_cutAll.2.1 176 = .ok (.ifCond .eq (42), 3) := by decide +kernel
theorem dd_cutAll_179 : decode mm_cutAll.2.1 179 = .ok (.iload_n 2, 1) := by decide +kernel
theorem dd_cutAll_180 : decode mm_cutAll.2.1 180 = .ok (.iload 4, 2) := by decide +kernel
theorem dd_cutAll_182 : decode mm_cutAll.2.1 182 = .ok (.isub, 1) := by decide +kernel
theorem dd_cutAll_183 : decode mm_cutAll.2.1 183 = .ok (.iconst 4, 1) := by decide +kernel
theorem dd_cutAll_184 : decode mm_cutAll.2.1 184 = .ok (.if_icmp .ge (24), 3) := by decide +kernel
theorem dd_cutAll_208 : decode mm_cutAll.2.1 208 = .ok (.lload 5, 2) := by decide +kernel
theorem dd_cutAll_210 : decode mm_cutAll.2.1 210 = .ok (.lstore 5, 2) := by decide +kernel
theorem dd_cutAll_187 : decode mm_cutAll.2.1 187 = .ok (.ldc2_w 200, 3) := by decide +kernel
theorem dd_cutAll_190 : decode mm_cutAll.2.1 190 = .ok (.lload 5, 2) := by decide +kernel
theorem dd_cutAll_192 : decode mm_cutAll.2.1 192 = .ok (.lmul, 1) := by decide +kernel
theorem dd_cutAll_193 : decode mm_cutAll.2.1 193 = .ok (.aload_n 0, 1) := by decide +kernel
theorem dd_cutAll_194 : decode mm_cutAll.2.1 194 = .ok (.getfield 14, 3) := by decide +kernel
theorem dd_cutAll_197 : decode mm_cutAll.2.1 197 = .ok (.iload_n 2, 1) := by decide +kernel
theorem dd_cutAll_198 : decode mm_cutAll.2.1 198 = .ok (.iaload, 1) := by decide +kernel
theorem dd_cutAll_199 : decode mm_cutAll.2.1 199 = .ok (.i2l, 1) := by decide +kernel
theorem dd_cutAll_200 : decode mm_cutAll.2.1 200 = .ok (.ladd, 1) := by decide +kernel
theorem dd_cutAll_201 : decode mm_cutAll.2.1 201 = .ok (.ldc2_w 202, 3) := by decide +kernel
theorem dd_cutAll_204 : decode mm_cutAll.2.1 204 = .ok (.lsub, 1) := by decide +kernel
theorem dd_cutAll_205 : decode mm_cutAll.2.1 205 = .ok (.goto 5, 3) := by decide +kernel
theorem dd_cutAll_212 : decode mm_cutAll.2.1 212 = .ok (.iinc 2 1, 3) := by decide +kernel
theorem dd_cutAll_215 : decode mm_cutAll.2.1 215 = .ok (.goto (-56), 3) := by decide +kernel
theorem dd_cutAll_218 : decode mm_cutAll.2.1 218 = .ok (.aload_n 0, 1) := by decide +kernel
theorem dd_cutAll_219 : decode mm_cutAll.2.1 219 = .ok (.getfield 24, 3) := by decide +kernel
theorem dd_cutAll_222 : decode mm_cutAll.2.1 222 = .ok (.iload_n 1, 1) := by decide +kernel
theorem dd_cutAll_223 : decode mm_cutAll.2.1 223 = .ok (.iload_n 2, 1) := by decide +kernel
theorem dd_cutAll_224 : decode mm_cutAll.2.1 224 = .ok (.iload 4, 2) := by decide +kernel
theorem dd_cutAll_226 : decode mm_cutAll.2.1 226 = .ok (.isub, 1) := by decide +kernel
theorem dd_cutAll_227 : decode mm_cutAll.2.1 227 = .ok (.iconst 4, 1) := by decide +kernel
theorem dd_cutAll_228 : decode mm_cutAll.2.1 228 = .ok (.if_icmp .le (7), 3) := by decide +kernel
theorem dd_cutAll_235 : decode mm_cutAll.2.1 235 = .ok (.iconst 2, 1) := by decide +kernel
theorem dd_cutAll_236 : decode mm_cutAll.2.1 236 = .ok (.iastore, 1) := by decide +kernel
theorem dd_cutAll_237 : decode mm_cutAll.2.1 237 = .ok (.goto 28, 3) := by decide +kernel
theorem dd_cutAll_231 : decode mm_cutAll.2.1 231 = .ok (.iconst 4, 1) := by decide +kernel
theorem dd_cutAll_232 : decode mm_cutAll.2.1 232 = .ok (.goto 4, 3) := by decide +kernel
theorem dd_cutAll_240 : decode mm_cutAll.2.1 240 = .ok (.iload_n 3, 1) := by decide +kernel
theorem dd_cutAll_241 : decode mm_cutAll.2.1 241 = .ok (.i2l, 1) := by decide +kernel
theorem dd_cutAll_242 : decode mm_cutAll.2.1 242 = .ok (.lstore 5, 2) := by decide +kernel
theorem dd_cutAll_244 : decode mm_cutAll.2.1 244 = .ok (.aload_n 0, 1) := by decide +kernel
theorem dd_cutAll_245 : decode mm_cutAll.2.1 245 = .ok (.getfield 24, 3) := by decide +kernel
theorem dd_cutAll_248 : decode mm_cutAll.2.1 248 = .ok (.iload_n 1, 1) := by decide +kernel
theorem dd_cutAll_249 : decode mm_cutAll.2.1 249 = .ok (.iload_n 3, 1) := by decide +kernel
theorem dd_cutAll_250 : decode mm_cutAll.2.1 250 = .ok (.invokestatic 204, 3) := by decide +kernel
theorem cw_12_204 : cwOk 12 204 1 167 1 1 12 = true := by decide +kernel
theorem mt_isSignOf : MTB 167 = some mm_isSignOf := rfl
theorem dd_cutAll_253 : decode mm_cutAll.2.1 253 = .ok (.ifCond .eq (7), 3) := by decide +kernel
theorem dd_cutAll_260 : decode mm_cutAll.2.1 260 = .ok (.iconst 4, 1) := by decide +kernel
theorem dd_cutAll_261 : decode mm_cutAll.2.1 261 = .ok (.iastore, 1) := by decide +kernel
theorem dd_cutAll_262 : decode mm_cutAll.2.1 262 = .ok (.iinc 2 1, 3) := by decide +kernel
theorem dd_cutAll_256 : decode mm_cutAll.2.1 256 = .ok (.iconst 3, 1) := by decide +kernel
theorem dd_cutAll_257 : decode mm_cutAll.2.1 257 = .ok (.goto 4, 3) := by decide +kernel
theorem dd_cutAll_265 : decode mm_cutAll.2.1 265 = .ok (.aload_n 0, 1) := by decide +kernel
theorem dd_cutAll_266 : decode mm_cutAll.2.1 266 = .ok (.getfield 30, 3) := by decide +kernel
theorem dd_cutAll_269 : decode mm_cutAll.2.1 269 = .ok (.iload_n 1, 1) := by decide +kernel
theorem dd_cutAll_270 : decode mm_cutAll.2.1 270 = .ok (.lload 5, 2) := by decide +kernel
theorem dd_cutAll_272 : decode mm_cutAll.2.1 272 = .ok (.lastore, 1) := by decide +kernel
theorem dd_cutAll_273 : decode mm_cutAll.2.1 273 = .ok (.iinc 1 1, 3) := by decide +kernel
theorem dd_cutAll_276 : decode mm_cutAll.2.1 276 = .ok (.goto (-259), 3) := by decide +kernel
theorem dd_quarter_0 : decode mm_quarter.2.1 0 = .ok (.aload_n 0, 1) := by decide +kernel
theorem dd_quarter_1 : decode mm_quarter.2.1 1 = .ok (.iconst 0, 1) := by decide +kernel
theorem dd_quarter_2 : decode mm_quarter.2.1 2 = .ok (.putfield 1, 3) := by decide +kernel
theorem fd_12_1 : fld 12 1 = some (12, 0) := by decide +kernel
theorem fn_12_0 : fin 12 0 = false := by decide +kernel
theorem dd_quarter_5 : decode mm_quarter.2.1 5 = .ok (.aload_n 0, 1) := by decide +kernel
theorem dd_quarter_6 : decode mm_quarter.2.1 6 = .ok (.invokevirtual 241, 3) := by decide +kernel
theorem cw_12_241 : cwOk 12 241 0 163 1 7 12 = true := by decide +kernel
theorem mt_cutAll : MTB 163 = some mm_cutAll := rfl
theorem dd_quarter_9 : decode mm_quarter.2.1 9 = .ok (.aload_n 0, 1) := by decide +kernel
theorem dd_quarter_10 : decode mm_quarter.2.1 10 = .ok (.iconst 0, 1) := by decide +kernel
theorem dd_quarter_11 : decode mm_quarter.2.1 11 = .ok (.putfield 244, 3) := by decide +kernel
theorem dd_quarter_14 : decode mm_quarter.2.1 14 = .ok (.aload_n 0, 1) := by decide +kernel
theorem dd_quarter_15 : decode mm_quarter.2.1 15 = .ok (.iconst 0, 1) := by decide +kernel
theorem dd_quarter_16 : decode mm_quarter.2.1 16 = .ok (.putfield 235, 3) := by decide +kernel
theorem dd_quarter_19 : decode mm_quarter.2.1 19 = .ok (.aload_n 0, 1) := by decide +kernel
theorem dd_quarter_20 : decode mm_quarter.2.1 20 = .ok (.sipush 150, 3) := by decide +kernel
theorem dd_quarter_23 : decode mm_quarter.2.1 23 = .ok (.invokevirtual 177, 3) := by decide +kernel
theorem cw_12_177 : cwOk 12 177 0 158 2 3 12 = true := by decide +kernel
theorem mt_standsAsAlways : MTB 158 = some mm_standsAsAlways := rfl
theorem dd_quarter_26 : decode mm_quarter.2.1 26 = .ok (.aload_n 0, 1) := by decide +kernel
theorem dd_quarter_27 : decode mm_quarter.2.1 27 = .ok (.iconst 0, 1) := by decide +kernel
theorem dd_quarter_28 : decode mm_quarter.2.1 28 = .ok (.invokevirtual 225, 3) := by decide +kernel
theorem dd_quarter_31 : decode mm_quarter.2.1 31 = .ok (.aload_n 0, 1) := by decide +kernel
theorem dd_quarter_32 : decode mm_quarter.2.1 32 = .ok (.getfield 95, 3) := by decide +kernel
theorem dd_quarter_35 : decode mm_quarter.2.1 35 = .ok (.sipush 150, 3) := by decide +kernel
theorem dd_quarter_38 : decode mm_quarter.2.1 38 = .ok (.aload_n 0, 1) := by decide +kernel
theorem dd_quarter_39 : decode mm_quarter.2.1 39 = .ok (.iconst 2, 1) := by decide +kernel
theorem dd_quarter_40 : decode mm_quarter.2.1 40 = .ok (.bipush 10, 2) := by decide +kernel
theorem dd_quarter_42 : decode mm_quarter.2.1 42 = .ok (.invokevirtual 228, 3) := by decide +kernel
theorem dd_quarter_45 : decode mm_quarter.2.1 45 = .ok (.iastore, 1) := by decide +kernel
theorem dd_quarter_46 : decode mm_quarter.2.1 46 = .ok (.aload_n 0, 1) := by decide +kernel
theorem dd_quarter_47 : decode mm_quarter.2.1 47 = .ok (.bipush 59, 2) := by decide +kernel
theorem dd_quarter_49 : decode mm_quarter.2.1 49 = .ok (.invokevirtual 247, 3) := by decide +kernel
theorem dd_quarter_52 : decode mm_quarter.2.1 52 = .ok (.aload_n 0, 1) := by decide +kernel
theorem dd_quarter_53 : decode mm_quarter.2.1 53 = .ok (.getfield 210, 3) := by decide +kernel
theorem dd_quarter_56 : decode mm_quarter.2.1 56 = .ok (.ifCond .ne (59), 3) := by decide +kernel
theorem dd_quarter_59 : decode mm_quarter.2.1 59 = .ok (.aload_n 0, 1) := by decide +kernel
theorem dd_quarter_60 : decode mm_quarter.2.1 60 = .ok (.getfield 24, 3) := by decide +kernel
theorem dd_quarter_63 : decode mm_quarter.2.1 63 = .ok (.aload_n 0, 1) := by decide +kernel
theorem dd_quarter_64 : decode mm_quarter.2.1 64 = .ok (.getfield 207, 3) := by decide +kernel
theorem dd_quarter_67 : decode mm_quarter.2.1 67 = .ok (.iaload, 1) := by decide +kernel
theorem dd_quarter_68 : decode mm_quarter.2.1 68 = .ok (.ifCond .eq (47), 3) := by decide +kernel
theorem dd_quarter_71 : decode mm_quarter.2.1 71 = .ok (.aload_n 0, 1) := by decide +kernel
theorem dd_quarter_72 : decode mm_quarter.2.1 72 = .ok (.iconst 1, 1) := by decide +kernel
theorem dd_quarter_73 : decode mm_quarter.2.1 73 = .ok (.invokevirtual 219, 3) := by decide +kernel
theorem dd_quarter_76 : decode mm_quarter.2.1 76 = .ok (.ifCond .eq (10), 3) := by decide +kernel
theorem dd_quarter_79 : decode mm_quarter.2.1 79 = .ok (.aload_n 0, 1) := by decide +kernel
theorem dd_quarter_80 : decode mm_quarter.2.1 80 = .ok (.invokevirtual 250, 3) := by decide +kernel
theorem cw_12_250 : cwOk 12 250 0 175 1 5 12 = true := by decide +kernel
theorem mt_readDoor : MTB 175 = some mm_readDoor := rfl
theorem dd_quarter_86 : decode mm_quarter.2.1 86 = .ok (.aload_n 0, 1) := by decide +kernel
theorem dd_quarter_87 : decode mm_quarter.2.1 87 = .ok (.bipush 7, 2) := by decide +kernel
theorem dd_quarter_89 : decode mm_quarter.2.1 89 = .ok (.invokevirtual 219, 3) := by decide +kernel
theorem dd_quarter_83 : decode mm_quarter.2.1 83 = .ok (.goto 23, 3) := by decide +kernel
theorem dd_quarter_92 : decode mm_quarter.2.1 92 = .ok (.ifCond .eq (10), 3) := by decide +kernel
theorem dd_quarter_95 : decode mm_quarter.2.1 95 = .ok (.aload_n 0, 1) := by decide +kernel
theorem dd_quarter_96 : decode mm_quarter.2.1 96 = .ok (.invokevirtual 253, 3) := by decide +kernel
theorem cw_12_253 : cwOk 12 253 0 183 1 3 12 = true := by decide +kernel
theorem mt_readPerson : MTB 183 = some mm_readPerson := rfl
theorem dd_quarter_102 : decode mm_quarter.2.1 102 = .ok (.aload_n 0, 1) := by decide +kernel
theorem dd_quarter_103 : decode mm_quarter.2.1 103 = .ok (.invokevirtual 256, 3) := by decide +kernel
theorem cw_12_256 : cwOk 12 256 0 184 1 1 12 = true := by decide +kernel
theorem mt_readLet : MTB 184 = some mm_readLet := rfl
theorem dd_quarter_99 : decode mm_quarter.2.1 99 = .ok (.goto 7, 3) := by decide +kernel
theorem dd_quarter_106 : decode mm_quarter.2.1 106 = .ok (.aload_n 0, 1) := by decide +kernel
theorem dd_quarter_107 : decode mm_quarter.2.1 107 = .ok (.bipush 59, 2) := by decide +kernel
theorem dd_quarter_109 : decode mm_quarter.2.1 109 = .ok (.invokevirtual 247, 3) := by decide +kernel
theorem dd_quarter_112 : decode mm_quarter.2.1 112 = .ok (.goto (-60), 3) := by decide +kernel
theorem dd_quarter_115 : decode mm_quarter.2.1 115 = .ok (.aload_n 0, 1) := by decide +kernel
theorem dd_quarter_116 : decode mm_quarter.2.1 116 = .ok (.getfield 210, 3) := by decide +kernel
theorem dd_quarter_119 : decode mm_quarter.2.1 119 = .ok (.ifCond .le (8), 3) := by decide +kernel
theorem dd_quarter_127 : decode mm_quarter.2.1 127 = .ok (.iconst 0, 1) := by decide +kernel
theorem dd_quarter_128 : decode mm_quarter.2.1 128 = .ok (.istore_n 1, 1) := by decide +kernel
theorem dd_quarter_122 : decode mm_quarter.2.1 122 = .ok (.aload_n 0, 1) := by decide +kernel
theorem dd_quarter_123 : decode mm_quarter.2.1 123 = .ok (.getfield 210, 3) := by decide +kernel
theorem dd_quarter_126 : decode mm_quarter.2.1 126 = .ok (.ireturn, 1) := by decide +kernel
theorem dd_quarter_129 : decode mm_quarter.2.1 129 = .ok (.iload_n 1, 1) := by decide +kernel
theorem dd_quarter_130 : decode mm_quarter.2.1 130 = .ok (.sipush 150, 3) := by decide +kernel
theorem dd_quarter_133 : decode mm_quarter.2.1 133 = .ok (.if_icmp .ge (25), 3) := by decide +kernel
theorem dd_quarter_158 : decode mm_quarter.2.1 158 = .ok (.iconst 0, 1) := by decide +kernel
theorem dd_quarter_159 : decode mm_quarter.2.1 159 = .ok (.istore_n 1, 1) := by decide +kernel
theorem dd_quarter_136 : decode mm_quarter.2.1 136 = .ok (.aload_n 0, 1) := by decide +kernel
theorem dd_quarter_137 : decode mm_quarter.2.1 137 = .ok (.getfield 95, 3) := by decide +kernel
theorem dd_quarter_140 : decode mm_quarter.2.1 140 = .ok (.iload_n 1, 1) := by decide +kernel
theorem dd_quarter_141 : decode mm_quarter.2.1 141 = .ok (.aload_n 0, 1) := by decide +kernel
theorem dd_quarter_142 : decode mm_quarter.2.1 142 = .ok (.getfield 95, 3) := by decide +kernel
theorem dd_quarter_145 : decode mm_quarter.2.1 145 = .ok (.sipush 150, 3) := by decide +kernel
theorem dd_quarter_148 : decode mm_quarter.2.1 148 = .ok (.iload_n 1, 1) := by decide +kernel
theorem dd_quarter_149 : decode mm_quarter.2.1 149 = .ok (.iadd, 1) := by decide +kernel
theorem dd_quarter_150 : decode mm_quarter.2.1 150 = .ok (.iaload, 1) := by decide +kernel
theorem dd_quarter_151 : decode mm_quarter.2.1 151 = .ok (.iastore, 1) := by decide +kernel
theorem dd_quarter_152 : decode mm_quarter.2.1 152 = .ok (.iinc 1 1, 3) := by decide +kernel
theorem dd_quarter_155 : decode mm_quarter.2.1 155 = .ok (.goto (-26), 3) := by decide +kernel
theorem dd_quarter_160 : decode mm_quarter.2.1 160 = .ok (.iload_n 1, 1) := by decide +kernel
theorem dd_quarter_161 : decode mm_quarter.2.1 161 = .ok (.aload_n 0, 1) := by decide +kernel
theorem dd_quarter_162 : decode mm_quarter.2.1 162 = .ok (.getfield 244, 3) := by decide +kernel
theorem dd_quarter_165 : decode mm_quarter.2.1 165 = .ok (.if_icmp .ge (41), 3) := by decide +kernel
theorem dd_quarter_206 : decode mm_quarter.2.1 206 = .ok (.iconst 0, 1) := by decide +kernel
theorem dd_quarter_207 : decode mm_quarter.2.1 207 = .ok (.istore_n 1, 1) := by decide +kernel
theorem dd_quarter_168 : decode mm_quarter.2.1 168 = .ok (.aload_n 0, 1) := by decide +kernel
theorem dd_quarter_169 : decode mm_quarter.2.1 169 = .ok (.getfield 98, 3) := by decide +kernel
theorem dd_quarter_172 : decode mm_quarter.2.1 172 = .ok (.iload_n 1, 1) := by decide +kernel
theorem dd_quarter_173 : decode mm_quarter.2.1 173 = .ok (.aload_n 0, 1) := by decide +kernel
theorem dd_quarter_174 : decode mm_quarter.2.1 174 = .ok (.getfield 98, 3) := by decide +kernel
theorem dd_quarter_177 : decode mm_quarter.2.1 177 = .ok (.sipush 1100, 3) := by decide +kernel
theorem dd_quarter_180 : decode mm_quarter.2.1 180 = .ok (.iload_n 1, 1) := by decide +kernel
theorem dd_quarter_181 : decode mm_quarter.2.1 181 = .ok (.iadd, 1) := by decide +kernel
theorem dd_quarter_182 : decode mm_quarter.2.1 182 = .ok (.iaload, 1) := by decide +kernel
theorem dd_quarter_183 : decode mm_quarter.2.1 183 = .ok (.iastore, 1) := by decide +kernel
theorem dd_quarter_184 : decode mm_quarter.2.1 184 = .ok (.aload_n 0, 1) := by decide +kernel
theorem dd_quarter_185 : decode mm_quarter.2.1 185 = .ok (.getfield 101, 3) := by decide +kernel
theorem dd_quarter_188 : decode mm_quarter.2.1 188 = .ok (.iload_n 1, 1) := by decide +kernel
theorem dd_quarter_189 : decode mm_quarter.2.1 189 = .ok (.aload_n 0, 1) := by decide +kernel
theorem dd_quarter_190 : decode mm_quarter.2.1 190 = .ok (.getfield 101, 3) := by decide +kernel
theorem dd_quarter_193 : decode mm_quarter.2.1 193 = .ok (.sipush 1100, 3) := by decide +kernel
theorem dd_quarter_196 : decode mm_quarter.2.1 196 = .ok (.iload_n 1, 1) := by decide +kernel
theorem dd_quarter_197 : decode mm_quarter.2.1 197 = .ok (.iadd, 1) := by decide +kernel
theorem dd_quarter_198 : decode mm_quarter.2.1 198 = .ok (.iaload, 1) := by decide +kernel
theorem dd_quarter_199 : decode mm_quarter.2.1 199 = .ok (.iastore, 1) := by decide +kernel
theorem dd_quarter_200 : decode mm_quarter.2.1 200 = .ok (.iinc 1 1, 3) := by decide +kernel
theorem dd_quarter_203 : decode mm_quarter.2.1 203 = .ok (.goto (-43), 3) := by decide +kernel
theorem dd_quarter_208 : decode mm_quarter.2.1 208 = .ok (.iload_n 1, 1) := by decide +kernel
theorem dd_quarter_209 : decode mm_quarter.2.1 209 = .ok (.aload_n 0, 1) := by decide +kernel
theorem dd_quarter_210 : decode mm_quarter.2.1 210 = .ok (.getfield 235, 3) := by decide +kernel
theorem dd_quarter_213 : decode mm_quarter.2.1 213 = .ok (.if_icmp .ge (33), 3) := by decide +kernel
theorem dd_quarter_246 : decode mm_quarter.2.1 246 = .ok (.aload_n 0, 1) := by decide +kernel
theorem dd_quarter_247 : decode mm_quarter.2.1 247 = .ok (.aload_n 0, 1) := by decide +kernel
theorem dd_quarter_248 : decode mm_quarter.2.1 248 = .ok (.getfield 235, 3) := by decide +kernel
theorem dd_quarter_251 : decode mm_quarter.2.1 251 = .ok (.putfield 238, 3) := by decide +kernel
theorem fn_12_18 : fin 12 18 = false := by decide +kernel
theorem dd_quarter_254 : decode mm_quarter.2.1 254 = .ok (.aload_n 0, 1) := by decide +kernel
theorem dd_quarter_255 : decode mm_quarter.2.1 255 = .ok (.invokevirtual 181, 3) := by decide +kernel
theorem cw_12_181 : cwOk 12 181 0 159 1 2 12 = true := by decide +kernel
theorem mt_begins : MTB 159 = some mm_begins := rfl
theorem dd_quarter_216 : decode mm_quarter.2.1 216 = .ok (.aload_n 0, 1) := by decide +kernel
theorem dd_quarter_217 : decode mm_quarter.2.1 217 = .ok (.getfield 104, 3) := by decide +kernel
theorem dd_quarter_220 : decode mm_quarter.2.1 220 = .ok (.iload_n 1, 1) := by decide +kernel
theorem dd_quarter_221 : decode mm_quarter.2.1 221 = .ok (.aload_n 0, 1) := by decide +kernel
theorem dd_quarter_222 : decode mm_quarter.2.1 222 = .ok (.getfield 107, 3) := by decide +kernel
theorem dd_quarter_225 : decode mm_quarter.2.1 225 = .ok (.iload_n 1, 1) := by decide +kernel
theorem dd_quarter_226 : decode mm_quarter.2.1 226 = .ok (.laload, 1) := by decide +kernel
theorem dd_quarter_227 : decode mm_quarter.2.1 227 = .ok (.lastore, 1) := by decide +kernel
theorem dd_quarter_228 : decode mm_quarter.2.1 228 = .ok (.aload_n 0, 1) := by decide +kernel
theorem dd_quarter_229 : decode mm_quarter.2.1 229 = .ok (.getfield 110, 3) := by decide +kernel
theorem dd_quarter_232 : decode mm_quarter.2.1 232 = .ok (.iload_n 1, 1) := by decide +kernel
theorem dd_quarter_233 : decode mm_quarter.2.1 233 = .ok (.aload_n 0, 1) := by decide +kernel
theorem dd_quarter_234 : decode mm_quarter.2.1 234 = .ok (.getfield 113, 3) := by decide +kernel
theorem dd_quarter_237 : decode mm_quarter.2.1 237 = .ok (.iload_n 1, 1) := by decide +kernel
theorem dd_quarter_238 : decode mm_quarter.2.1 238 = .ok (.iaload, 1) := by decide +kernel
theorem dd_quarter_239 : decode mm_quarter.2.1 239 = .ok (.iastore, 1) := by decide +kernel
theorem dd_quarter_240 : decode mm_quarter.2.1 240 = .ok (.iinc 1 1, 3) := by decide +kernel
theorem dd_quarter_243 : decode mm_quarter.2.1 243 = .ok (.goto (-35), 3) := by decide +kernel
theorem dd_quarter_258 : decode mm_quarter.2.1 258 = .ok (.iconst 0, 1) := by decide +kernel
theorem dd_quarter_259 : decode mm_quarter.2.1 259 = .ok (.ireturn, 1) := by decide +kernel
theorem dd_day_0 : decode mm_day.2.1 0 = .ok (.aload_n 0, 1) := by decide +kernel
theorem dd_day_1 : decode mm_day.2.1 1 = .ok (.iconst 0, 1) := by decide +kernel
theorem dd_day_2 : decode mm_day.2.1 2 = .ok (.putfield 1, 3) := by decide +kernel
theorem dd_day_5 : decode mm_day.2.1 5 = .ok (.aload_n 0, 1) := by decide +kernel
theorem dd_day_6 : decode mm_day.2.1 6 = .ok (.invokevirtual 241, 3) := by decide +kernel
theorem dd_day_9 : decode mm_day.2.1 9 = .ok (.aload_n 0, 1) := by decide +kernel
theorem dd_day_10 : decode mm_day.2.1 10 = .ok (.iconst 0, 1) := by decide +kernel
theorem dd_day_11 : decode mm_day.2.1 11 = .ok (.putfield 288, 3) := by decide +kernel
theorem dd_day_14 : decode mm_day.2.1 14 = .ok (.aload_n 0, 1) := by decide +kernel
theorem dd_day_15 : decode mm_day.2.1 15 = .ok (.getfield 210, 3) := by decide +kernel
theorem dd_day_18 : decode mm_day.2.1 18 = .ok (.ifCond .ne (71), 3) := by decide +kernel
theorem dd_day_21 : decode mm_day.2.1 21 = .ok (.aload_n 0, 1) := by decide +kernel
theorem dd_day_22 : decode mm_day.2.1 22 = .ok (.getfield 24, 3) := by decide +kernel
theorem dd_day_25 : decode mm_day.2.1 25 = .ok (.aload_n 0, 1) := by decide +kernel
theorem dd_day_26 : decode mm_day.2.1 26 = .ok (.getfield 207, 3) := by decide +kernel
theorem dd_day_29 : decode mm_day.2.1 29 = .ok (.iaload, 1) := by decide +kernel
theorem dd_day_30 : decode mm_day.2.1 30 = .ok (.ifCond .eq (59), 3) := by decide +kernel
theorem dd_day_33 : decode mm_day.2.1 33 = .ok (.aload_n 0, 1) := by decide +kernel
theorem dd_day_34 : decode mm_day.2.1 34 = .ok (.bipush 12, 2) := by decide +kernel
theorem dd_day_36 : decode mm_day.2.1 36 = .ok (.invokevirtual 219, 3) := by decide +kernel
theorem dd_day_39 : decode mm_day.2.1 39 = .ok (.ifCond .ne (20), 3) := by decide +kernel
theorem dd_day_59 : decode mm_day.2.1 59 = .ok (.aload_n 0, 1) := by decide +kernel
theorem dd_day_60 : decode mm_day.2.1 60 = .ok (.getfield 288, 3) := by decide +kernel
theorem dd_day_63 : decode mm_day.2.1 63 = .ok (.bipush 24, 2) := by decide +kernel
theorem dd_day_65 : decode mm_day.2.1 65 = .ok (.if_icmp .ne (11), 3) := by decide +kernel
theorem dd_day_76 : decode mm_day.2.1 76 = .ok (.aload_n 0, 1) := by decide +kernel
theorem dd_day_77 : decode mm_day.2.1 77 = .ok (.invokevirtual 291, 3) := by decide +kernel
theorem cw_12_291 : cwOk 12 291 0 193 1 3 12 = true := by decide +kernel
theorem mt_readTurn : MTB 193 = some mm_readTurn := rfl
theorem dd_day_68 : decode mm_day.2.1 68 = .ok (.aload_n 0, 1) := by decide +kernel
theorem dd_day_69 : decode mm_day.2.1 69 = .ok (.iconst 5, 1) := by decide +kernel
theorem dd_day_70 : decode mm_day.2.1 70 = .ok (.invokevirtual 216, 3) := by decide +kernel
theorem dd_day_42 : decode mm_day.2.1 42 = .ok (.aload_n 0, 1) := by decide +kernel
theorem dd_day_43 : decode mm_day.2.1 43 = .ok (.bipush 13, 2) := by decide +kernel
theorem dd_day_45 : decode mm_day.2.1 45 = .ok (.invokevirtual 219, 3) := by decide +kernel
theorem dd_day_48 : decode mm_day.2.1 48 = .ok (.ifCond .ne (11), 3) := by decide +kernel
theorem dd_day_51 : decode mm_day.2.1 51 = .ok (.aload_n 0, 1) := by decide +kernel
theorem dd_day_52 : decode mm_day.2.1 52 = .ok (.iconst 1, 1) := by decide +kernel
theorem dd_day_53 : decode mm_day.2.1 53 = .ok (.invokevirtual 216, 3) := by decide +kernel
theorem dd_day_56 : decode mm_day.2.1 56 = .ok (.goto 24, 3) := by decide +kernel
theorem dd_day_73 : decode mm_day.2.1 73 = .ok (.goto 7, 3) := by decide +kernel
theorem dd_day_80 : decode mm_day.2.1 80 = .ok (.aload_n 0, 1) := by decide +kernel
theorem dd_day_81 : decode mm_day.2.1 81 = .ok (.bipush 59, 2) := by decide +kernel
theorem dd_day_83 : decode mm_day.2.1 83 = .ok (.invokevirtual 247, 3) := by decide +kernel
theorem dd_day_86 : decode mm_day.2.1 86 = .ok (.goto (-72), 3) := by decide +kernel
theorem dd_day_89 : decode mm_day.2.1 89 = .ok (.aload_n 0, 1) := by decide +kernel
theorem dd_day_90 : decode mm_day.2.1 90 = .ok (.getfield 210, 3) := by decide +kernel
theorem dd_day_93 : decode mm_day.2.1 93 = .ok (.ifCond .le (8), 3) := by decide +kernel
theorem dd_day_101 : decode mm_day.2.1 101 = .ok (.aload_n 0, 1) := by decide +kernel
theorem dd_day_102 : decode mm_day.2.1 102 = .ok (.getfield 116, 3) := by decide +kernel
theorem dd_day_105 : decode mm_day.2.1 105 = .ok (.iconst 0, 1) := by decide +kernel
theorem dd_day_106 : decode mm_day.2.1 106 = .ok (.aload_n 0, 1) := by decide +kernel
theorem dd_day_107 : decode mm_day.2.1 107 = .ok (.getfield 288, 3) := by decide +kernel
theorem dd_day_110 : decode mm_day.2.1 110 = .ok (.iastore, 1) := by decide +kernel
theorem dd_day_111 : decode mm_day.2.1 111 = .ok (.iconst 0, 1) := by decide +kernel
theorem dd_day_112 : decode mm_day.2.1 112 = .ok (.istore_n 1, 1) := by decide +kernel
theorem dd_day_96 : decode mm_day.2.1 96 = .ok (.aload_n 0, 1) := by decide +kernel
theorem dd_day_97 : decode mm_day.2.1 97 = .ok (.getfield 210, 3) := by decide +kernel
theorem dd_day_100 : decode mm_day.2.1 100 = .ok (.ireturn, 1) := by decide +kernel
theorem dd_day_113 : decode mm_day.2.1 113 = .ok (.iload_n 1, 1) := by decide +kernel
theorem dd_day_114 : decode mm_day.2.1 114 = .ok (.iconst 2, 1) := by decide +kernel
theorem dd_day_115 : decode mm_day.2.1 115 = .ok (.aload_n 0, 1) := by decide +kernel
theorem dd_day_116 : decode mm_day.2.1 116 = .ok (.getfield 288, 3) := by decide +kernel
theorem dd_day_119 : decode mm_day.2.1 119 = .ok (.imul, 1) := by decide +kernel
theorem dd_day_120 : decode mm_day.2.1 120 = .ok (.if_icmp .ge (26), 3) := by decide +kernel
theorem dd_day_146 : decode mm_day.2.1 146 = .ok (.iconst 0, 1) := by decide +kernel
theorem dd_day_147 : decode mm_day.2.1 147 = .ok (.ireturn, 1) := by decide +kernel
theorem dd_day_123 : decode mm_day.2.1 123 = .ok (.aload_n 0, 1) := by decide +kernel
theorem dd_day_124 : decode mm_day.2.1 124 = .ok (.getfield 116, 3) := by decide +kernel
theorem dd_day_127 : decode mm_day.2.1 127 = .ok (.iconst 1, 1) := by decide +kernel
theorem dd_day_128 : decode mm_day.2.1 128 = .ok (.iload_n 1, 1) := by decide +kernel
theorem dd_day_129 : decode mm_day.2.1 129 = .ok (.iadd, 1) := by decide +kernel
theorem dd_day_130 : decode mm_day.2.1 130 = .ok (.aload_n 0, 1) := by decide +kernel
theorem dd_day_131 : decode mm_day.2.1 131 = .ok (.getfield 116, 3) := by decide +kernel
theorem dd_day_134 : decode mm_day.2.1 134 = .ok (.bipush 50, 2) := by decide +kernel
theorem dd_day_136 : decode mm_day.2.1 136 = .ok (.iload_n 1, 1) := by decide +kernel
theorem dd_day_137 : decode mm_day.2.1 137 = .ok (.iadd, 1) := by decide +kernel
theorem dd_day_138 : decode mm_day.2.1 138 = .ok (.iaload, 1) := by decide +kernel
theorem dd_day_139 : decode mm_day.2.1 139 = .ok (.iastore, 1) := by decide +kernel
theorem dd_day_140 : decode mm_day.2.1 140 = .ok (.iinc 1 1, 3) := by decide +kernel
theorem dd_day_143 : decode mm_day.2.1 143 = .ok (.goto (-30), 3) := by decide +kernel
theorem dd_startsDay_0 : decode mm_startsDay.2.1 0 = .ok (.aload_n 0, 1) := by decide +kernel
theorem dd_startsDay_1 : decode mm_startsDay.2.1 1 = .ok (.getfield 125, 3) := by decide +kernel
theorem dd_startsDay_4 : decode mm_startsDay.2.1 4 = .ok (.iload_n 1, 1) := by decide +kernel
theorem dd_startsDay_5 : decode mm_startsDay.2.1 5 = .ok (.iconst 0, 1) := by decide +kernel
theorem dd_startsDay_6 : decode mm_startsDay.2.1 6 = .ok (.iadd, 1) := by decide +kernel
theorem dd_startsDay_7 : decode mm_startsDay.2.1 7 = .ok (.iconst 0, 1) := by decide +kernel
theorem dd_startsDay_8 : decode mm_startsDay.2.1 8 = .ok (.iastore, 1) := by decide +kernel
theorem dd_startsDay_9 : decode mm_startsDay.2.1 9 = .ok (.iconst 0, 1) := by decide +kernel
theorem dd_startsDay_10 : decode mm_startsDay.2.1 10 = .ok (.istore_n 2, 1) := by decide +kernel
theorem dd_startsDay_11 : decode mm_startsDay.2.1 11 = .ok (.iload_n 2, 1) := by decide +kernel
theorem dd_startsDay_12 : decode mm_startsDay.2.1 12 = .ok (.bipush 6, 2) := by decide +kernel
theorem dd_startsDay_14 : decode mm_startsDay.2.1 14 = .ok (.if_icmp .ge (68), 3) := by decide +kernel
theorem dd_startsDay_82 : decode mm_startsDay.2.1 82 = .ok (.iconst 0, 1) := by decide +kernel
theorem dd_startsDay_83 : decode mm_startsDay.2.1 83 = .ok (.istore_n 2, 1) := by decide +kernel
theorem dd_startsDay_17 : decode mm_startsDay.2.1 17 = .ok (.aload_n 0, 1) := by decide +kernel
theorem dd_startsDay_18 : decode mm_startsDay.2.1 18 = .ok (.getfield 125, 3) := by decide +kernel
theorem dd_startsDay_21 : decode mm_startsDay.2.1 21 = .ok (.iload_n 1, 1) := by decide +kernel
theorem dd_startsDay_22 : decode mm_startsDay.2.1 22 = .ok (.iconst 2, 1) := by decide +kernel
theorem dd_startsDay_23 : decode mm_startsDay.2.1 23 = .ok (.iadd, 1) := by decide +kernel
theorem dd_startsDay_24 : decode mm_startsDay.2.1 24 = .ok (.iload_n 2, 1) := by decide +kernel
theorem dd_startsDay_25 : decode mm_startsDay.2.1 25 = .ok (.iadd, 1) := by decide +kernel
theorem dd_startsDay_26 : decode mm_startsDay.2.1 26 = .ok (.aload_n 0, 1) := by decide +kernel
theorem dd_startsDay_27 : decode mm_startsDay.2.1 27 = .ok (.iload_n 2, 1) := by decide +kernel
theorem dd_startsDay_28 : decode mm_startsDay.2.1 28 = .ok (.iconst 1, 1) := by decide +kernel
theorem dd_startsDay_29 : decode mm_startsDay.2.1 29 = .ok (.invokevirtual 325, 3) := by decide +kernel
theorem cw_12_325 : cwOk 12 325 0 161 3 3 12 = true := by decide +kernel
theorem mt_personOf : MTB 161 = some mm_personOf := rfl
theorem dd_personOf_0 : decode mm_personOf.2.1 0 = .ok (.aload_n 0, 1) := by decide +kernel
theorem dd_personOf_1 : decode mm_personOf.2.1 1 = .ok (.getfield 95, 3) := by decide +kernel
theorem dd_personOf_4 : decode mm_personOf.2.1 4 = .ok (.bipush 116, 2) := by decide +kernel
theorem dd_personOf_6 : decode mm_personOf.2.1 6 = .ok (.iconst 4, 1) := by decide +kernel
theorem dd_personOf_7 : decode mm_personOf.2.1 7 = .ok (.iload_n 1, 1) := by decide +kernel
theorem dd_personOf_8 : decode mm_personOf.2.1 8 = .ok (.imul, 1) := by decide +kernel
theorem dd_personOf_9 : decode mm_personOf.2.1 9 = .ok (.iadd, 1) := by decide +kernel
theorem dd_personOf_10 : decode mm_personOf.2.1 10 = .ok (.iload_n 2, 1) := by decide +kernel
theorem dd_personOf_11 : decode mm_personOf.2.1 11 = .ok (.iadd, 1) := by decide +kernel
theorem dd_personOf_12 : decode mm_personOf.2.1 12 = .ok (.iaload, 1) := by decide +kernel
theorem dd_personOf_13 : decode mm_personOf.2.1 13 = .ok (.ireturn, 1) := by decide +kernel
theorem dd_startsDay_32 : decode mm_startsDay.2.1 32 = .ok (.iastore, 1) := by decide +kernel
theorem dd_startsDay_33 : decode mm_startsDay.2.1 33 = .ok (.aload_n 0, 1) := by decide +kernel
theorem dd_startsDay_34 : decode mm_startsDay.2.1 34 = .ok (.getfield 125, 3) := by decide +kernel
theorem dd_startsDay_37 : decode mm_startsDay.2.1 37 = .ok (.iload_n 1, 1) := by decide +kernel
theorem dd_startsDay_38 : decode mm_startsDay.2.1 38 = .ok (.bipush 8, 2) := by decide +kernel
theorem dd_startsDay_40 : decode mm_startsDay.2.1 40 = .ok (.iadd, 1) := by decide +kernel
theorem dd_startsDay_41 : decode mm_startsDay.2.1 41 = .ok (.iload_n 2, 1) := by decide +kernel
theorem dd_startsDay_42 : decode mm_startsDay.2.1 42 = .ok (.iadd, 1) := by decide +kernel
theorem dd_startsDay_43 : decode mm_startsDay.2.1 43 = .ok (.aload_n 0, 1) := by decide +kernel
theorem dd_startsDay_44 : decode mm_startsDay.2.1 44 = .ok (.iload_n 2, 1) := by decide +kernel
theorem dd_startsDay_45 : decode mm_startsDay.2.1 45 = .ok (.iconst 1, 1) := by decide +kernel
theorem dd_startsDay_46 : decode mm_startsDay.2.1 46 = .ok (.invokevirtual 325, 3) := by decide +kernel
theorem dd_startsDay_49 : decode mm_startsDay.2.1 49 = .ok (.aload_n 0, 1) := by decide +kernel
theorem dd_startsDay_50 : decode mm_startsDay.2.1 50 = .ok (.iload_n 2, 1) := by decide +kernel
theorem dd_startsDay_51 : decode mm_startsDay.2.1 51 = .ok (.iconst 2, 1) := by decide +kernel
theorem dd_startsDay_52 : decode mm_startsDay.2.1 52 = .ok (.invokevirtual 325, 3) := by decide +kernel
theorem dd_startsDay_55 : decode mm_startsDay.2.1 55 = .ok (.if_icmp .ne (7), 3) := by decide +kernel
theorem dd_startsDay_62 : decode mm_startsDay.2.1 62 = .ok (.iconst 0, 1) := by decide +kernel
theorem dd_startsDay_63 : decode mm_startsDay.2.1 63 = .ok (.iastore, 1) := by decide +kernel
theorem dd_startsDay_64 : decode mm_startsDay.2.1 64 = .ok (.aload_n 0, 1) := by decide +kernel
theorem dd_startsDay_65 : decode mm_startsDay.2.1 65 = .ok (.getfield 125, 3) := by decide +kernel
theorem dd_startsDay_68 : decode mm_startsDay.2.1 68 = .ok (.iload_n 1, 1) := by decide +kernel
theorem dd_startsDay_69 : decode mm_startsDay.2.1 69 = .ok (.bipush 14, 2) := by decide +kernel
theorem dd_startsDay_71 : decode mm_startsDay.2.1 71 = .ok (.iadd, 1) := by decide +kernel
theorem dd_startsDay_72 : decode mm_startsDay.2.1 72 = .ok (.iload_n 2, 1) := by decide +kernel
theorem dd_startsDay_73 : decode mm_startsDay.2.1 73 = .ok (.iadd, 1) := by decide +kernel
theorem dd_startsDay_74 : decode mm_startsDay.2.1 74 = .ok (.iconst 0, 1) := by decide +kernel
theorem dd_startsDay_75 : decode mm_startsDay.2.1 75 = .ok (.iastore, 1) := by decide +kernel
theorem dd_startsDay_76 : decode mm_startsDay.2.1 76 = .ok (.iinc 2 1, 3) := by decide +kernel
theorem dd_startsDay_79 : decode mm_startsDay.2.1 79 = .ok (.goto (-68), 3) := by decide +kernel
theorem dd_startsDay_58 : decode mm_startsDay.2.1 58 = .ok (.iconst 1, 1) := by decide +kernel
theorem dd_startsDay_59 : decode mm_startsDay.2.1 59 = .ok (.goto 4, 3) := by decide +kernel
theorem dd_startsDay_84 : decode mm_startsDay.2.1 84 = .ok (.iload_n 2, 1) := by decide +kernel
theorem dd_startsDay_85 : decode mm_startsDay.2.1 85 = .ok (.bipush 14, 2) := by decide +kernel
theorem dd_startsDay_87 : decode mm_startsDay.2.1 87 = .ok (.if_icmp .ge (21), 3) := by decide +kernel
theorem dd_startsDay_108 : decode mm_startsDay.2.1 108 = .ok (.return_, 1) := by decide +kernel
theorem dd_startsDay_90 : decode mm_startsDay.2.1 90 = .ok (.aload_n 0, 1) := by decide +kernel
theorem dd_startsDay_91 : decode mm_startsDay.2.1 91 = .ok (.getfield 125, 3) := by decide +kernel
theorem dd_startsDay_94 : decode mm_startsDay.2.1 94 = .ok (.iload_n 1, 1) := by decide +kernel
theorem dd_startsDay_95 : decode mm_startsDay.2.1 95 = .ok (.bipush 20, 2) := by decide +kernel
theorem dd_startsDay_97 : decode mm_startsDay.2.1 97 = .ok (.iadd, 1) := by decide +kernel
theorem dd_startsDay_98 : decode mm_startsDay.2.1 98 = .ok (.iload_n 2, 1) := by decide +kernel
theorem dd_startsDay_99 : decode mm_startsDay.2.1 99 = .ok (.iadd, 1) := by decide +kernel
theorem dd_startsDay_100 : decode mm_startsDay.2.1 100 = .ok (.iconst 0, 1) := by decide +kernel
theorem dd_startsDay_101 : decode mm_startsDay.2.1 101 = .ok (.iastore, 1) := by decide +kernel
theorem dd_startsDay_102 : decode mm_startsDay.2.1 102 = .ok (.iinc 2 1, 3) := by decide +kernel
theorem dd_startsDay_105 : decode mm_startsDay.2.1 105 = .ok (.goto (-21), 3) := by decide +kernel
theorem dd_begins_0 : decode mm_begins.2.1 0 = .ok (.aload_n 0, 1) := by decide +kernel
theorem dd_begins_1 : decode mm_begins.2.1 1 = .ok (.iconst 0, 1) := by decide +kernel
theorem dd_begins_2 : decode mm_begins.2.1 2 = .ok (.invokevirtual 319, 3) := by decide +kernel
theorem cw_12_319 : cwOk 12 319 0 160 2 3 12 = true := by decide +kernel
theorem mt_startsDay : MTB 160 = some mm_startsDay := rfl
theorem dd_begins_5 : decode mm_begins.2.1 5 = .ok (.aload_n 0, 1) := by decide +kernel
theorem dd_begins_6 : decode mm_begins.2.1 6 = .ok (.getfield 125, 3) := by decide +kernel
theorem dd_begins_9 : decode mm_begins.2.1 9 = .ok (.iconst 1, 1) := by decide +kernel
theorem dd_begins_10 : decode mm_begins.2.1 10 = .ok (.iconst 0, 1) := by decide +kernel
theorem dd_begins_11 : decode mm_begins.2.1 11 = .ok (.iastore, 1) := by decide +kernel
theorem dd_begins_12 : decode mm_begins.2.1 12 = .ok (.aload_n 0, 1) := by decide +kernel
theorem dd_begins_13 : decode mm_begins.2.1 13 = .ok (.getfield 125, 3) := by decide +kernel
theorem dd_begins_16 : decode mm_begins.2.1 16 = .ok (.bipush 34, 2) := by decide +kernel
theorem dd_begins_18 : decode mm_begins.2.1 18 = .ok (.iconst 0, 1) := by decide +kernel
theorem dd_begins_19 : decode mm_begins.2.1 19 = .ok (.iastore, 1) := by decide +kernel
theorem dd_begins_20 : decode mm_begins.2.1 20 = .ok (.aload_n 0, 1) := by decide +kernel
theorem dd_begins_21 : decode mm_begins.2.1 21 = .ok (.getfield 116, 3) := by decide +kernel
theorem dd_begins_24 : decode mm_begins.2.1 24 = .ok (.iconst 0, 1) := by decide +kernel
theorem dd_begins_25 : decode mm_begins.2.1 25 = .ok (.iconst 0, 1) := by decide +kernel
theorem dd_begins_26 : decode mm_begins.2.1 26 = .ok (.iastore, 1) := by decide +kernel
theorem dd_begins_27 : decode mm_begins.2.1 27 = .ok (.aload_n 0, 1) := by decide +kernel
theorem dd_begins_28 : decode mm_begins.2.1 28 = .ok (.iconst 0, 1) := by decide +kernel
theorem dd_begins_29 : decode mm_begins.2.1 29 = .ok (.putfield 322, 3) := by decide +kernel
theorem fd_12_322 : fld 12 322 = some (12, 25) := by decide +kernel
theorem fn_12_25 : fin 12 25 = false := by decide +kernel
theorem dd_begins_32 : decode mm_begins.2.1 32 = .ok (.iconst 0, 1) := by decide +kernel
theorem dd_begins_33 : decode mm_begins.2.1 33 = .ok (.istore_n 1, 1) := by decide +kernel
theorem dd_begins_34 : decode mm_begins.2.1 34 = .ok (.iload_n 1, 1) := by decide +kernel
theorem dd_begins_35 : decode mm_begins.2.1 35 = .ok (.iconst 4, 1) := by decide +kernel
theorem dd_begins_36 : decode mm_begins.2.1 36 = .ok (.if_icmp .ge (16), 3) := by decide +kernel
theorem dd_begins_52 : decode mm_begins.2.1 52 = .ok (.return_, 1) := by decide +kernel
theorem dd_begins_39 : decode mm_begins.2.1 39 = .ok (.aload_n 0, 1) := by decide +kernel
theorem dd_begins_40 : decode mm_begins.2.1 40 = .ok (.getfield 128, 3) := by decide +kernel
theorem fd_12_128 : fld 12 128 = some (12, 26) := by decide +kernel
theorem rf_182_26 {h : LH} (hF : RF h) : rd h 182 26 = 199 := hF 182 26 199 (by decide +kernel) (by decide +kernel)
theorem dd_begins_43 : decode mm_begins.2.1 43 = .ok (.iload_n 1, 1) := by decide +kernel
theorem dd_begins_44 : decode mm_begins.2.1 44 = .ok (.iconst 0, 1) := by decide +kernel
theorem dd_begins_45 : decode mm_begins.2.1 45 = .ok (.bastore, 1) := by decide +kernel
theorem ia_199 : isA NC 199 4 = true := by decide +kernel
theorem la_199 : (lay (199 : Int).toNat).2.2 = 4 := by decide +kernel
theorem dd_begins_46 : decode mm_begins.2.1 46 = .ok (.iinc 1 1, 3) := by decide +kernel
theorem dd_begins_49 : decode mm_begins.2.1 49 = .ok (.goto (-15), 3) := by decide +kernel
theorem B_isSignOf_0 {xs : Nat → Int} {xl e : Nat} {h : LH} {Q : Option LV → LH → Prop} {v0 : Int} (hF : RF h)
    (k : (v0 = 40 →
        Q (some (.inl 1)) h) ∧
      (v0 ≠ 40 →
        (v0 = 41 →
          Q (some (.inl 1)) h) ∧
        (v0 ≠ 41 →
          (v0 = 59 →
            Q (some (.inl 1)) h) ∧
          (v0 ≠ 59 →
            (v0 = 61 →
              Q (some (.inl 1)) h) ∧
            (v0 ≠ 61 →
              (v0 = 60 →
                Q (some (.inl 1)) h) ∧
              (v0 ≠ 60 →
                (v0 = 43 →
                  Q (some (.inl 1)) h) ∧
                (v0 ≠ 43 →
                  (v0 = 45 →
                    Q (some (.inl 1)) h) ∧
                  (v0 ≠ 45 →
                    (v0 ≠ 42 →
                      Q (some (.inl 0)) h) ∧
                    (v0 = 42 →
                      Q (some (.inl 1)) h))))))))) :
    Rn xs xl e mm_isSignOf 0 [some (.inl v0)] [] h Q := by
  refine R_ld (v := .inl v0) dd_isSignOf_0 rfl rfl rfl rfl ?_
  refine R_bi dd_isSignOf_1 (by decide) rfl ?_
  refine R_icmp dd_isSignOf_3 rfl rfl (fun (c1 : v0 = 40) => ?_) (fun (c1 : v0 ≠ 40) => ?_)
  · replace k := k.1 c1
    refine R_ic dd_isSignOf_48 (by decide) rfl ?_
    refine R_goto dd_isSignOf_49 rfl ?_
    exact R_zret dd_isSignOf_53 rfl (by decide) k
  · replace k := k.2 c1
    refine R_ld (v := .inl v0) dd_isSignOf_6 rfl rfl rfl rfl ?_
    refine R_bi dd_isSignOf_7 (by decide) rfl ?_
    refine R_icmp dd_isSignOf_9 rfl rfl (fun (c2 : v0 = 41) => ?_) (fun (c2 : v0 ≠ 41) => ?_)
    · replace k := k.1 c2
      refine R_ic dd_isSignOf_48 (by decide) rfl ?_
      refine R_goto dd_isSignOf_49 rfl ?_
      exact R_zret dd_isSignOf_53 rfl (by decide) k
    · replace k := k.2 c2
      refine R_ld (v := .inl v0) dd_isSignOf_12 rfl rfl rfl rfl ?_
      refine R_bi dd_isSignOf_13 (by decide) rfl ?_
      refine R_icmp dd_isSignOf_15 rfl rfl (fun (c3 : v0 = 59) => ?_) (fun (c3 : v0 ≠ 59) => ?_)
      · replace k := k.1 c3
        refine R_ic dd_isSignOf_48 (by decide) rfl ?_
        refine R_goto dd_isSignOf_49 rfl ?_
        exact R_zret dd_isSignOf_53 rfl (by decide) k
      · replace k := k.2 c3
        refine R_ld (v := .inl v0) dd_isSignOf_18 rfl rfl rfl rfl ?_
        refine R_bi dd_isSignOf_19 (by decide) rfl ?_
        refine R_icmp dd_isSignOf_21 rfl rfl (fun (c4 : v0 = 61) => ?_) (fun (c4 : v0 ≠ 61) => ?_)
        · replace k := k.1 c4
          refine R_ic dd_isSignOf_48 (by decide) rfl ?_
          refine R_goto dd_isSignOf_49 rfl ?_
          exact R_zret dd_isSignOf_53 rfl (by decide) k
        · replace k := k.2 c4
          refine R_ld (v := .inl v0) dd_isSignOf_24 rfl rfl rfl rfl ?_
          refine R_bi dd_isSignOf_25 (by decide) rfl ?_
          refine R_icmp dd_isSignOf_27 rfl rfl (fun (c5 : v0 = 60) => ?_) (fun (c5 : v0 ≠ 60) => ?_)
          · replace k := k.1 c5
            refine R_ic dd_isSignOf_48 (by decide) rfl ?_
            refine R_goto dd_isSignOf_49 rfl ?_
            exact R_zret dd_isSignOf_53 rfl (by decide) k
          · replace k := k.2 c5
            refine R_ld (v := .inl v0) dd_isSignOf_30 rfl rfl rfl rfl ?_
            refine R_bi dd_isSignOf_31 (by decide) rfl ?_
            refine R_icmp dd_isSignOf_33 rfl rfl (fun (c6 : v0 = 43) => ?_) (fun (c6 : v0 ≠ 43) => ?_)
            · replace k := k.1 c6
              refine R_ic dd_isSignOf_48 (by decide) rfl ?_
              refine R_goto dd_isSignOf_49 rfl ?_
              exact R_zret dd_isSignOf_53 rfl (by decide) k
            · replace k := k.2 c6
              refine R_ld (v := .inl v0) dd_isSignOf_36 rfl rfl rfl rfl ?_
              refine R_bi dd_isSignOf_37 (by decide) rfl ?_
              refine R_icmp dd_isSignOf_39 rfl rfl (fun (c7 : v0 = 45) => ?_) (fun (c7 : v0 ≠ 45) => ?_)
              · replace k := k.1 c7
                refine R_ic dd_isSignOf_48 (by decide) rfl ?_
                refine R_goto dd_isSignOf_49 rfl ?_
                exact R_zret dd_isSignOf_53 rfl (by decide) k
              · replace k := k.2 c7
                refine R_ld (v := .inl v0) dd_isSignOf_42 rfl rfl rfl rfl ?_
                refine R_bi dd_isSignOf_43 (by decide) rfl ?_
                refine R_icmp dd_isSignOf_45 rfl rfl (fun (c8 : v0 ≠ 42) => ?_) (fun (c8 : v0 = 42) => ?_)
                · replace k := k.1 c8
                  refine R_ic dd_isSignOf_52 (by decide) rfl ?_
                  exact R_zret dd_isSignOf_53 rfl (by decide) k
                · replace k := k.2 c8
                  refine R_ic dd_isSignOf_48 (by decide) rfl ?_
                  refine R_goto dd_isSignOf_49 rfl ?_
                  exact R_zret dd_isSignOf_53 rfl (by decide) k
theorem B_cutAll_0 {xs : Nat → Int} {xl e : Nat} {h : LH} {Q : Option LV → LH → Prop} (hF : RF h)
    (k : Rn xs xl e mm_cutAll 17 [some (.inr (.inr 182)), some (.inl 0), some (.inl 0), none, none, none, none] [] (wr (wr h 182 3 (rd h 182 2)) 182 2 0) Q) :
    Rn xs xl e mm_cutAll 0 [some (.inr (.inr 182)), none, none, none, none, none, none] [] h Q := by
  refine R_ld (v := .inr (.inr 182)) dd_cutAll_0 rfl rfl rfl rfl ?_
  refine R_ld (v := .inr (.inr 182)) dd_cutAll_1 rfl rfl rfl rfl ?_
  refine R_gf (v := .inl (rd h 182 2)) dd_cutAll_2 fd_12_11 io_182 (congrArg (fun z : Int => (Sum.inl z : LV)) (rfl)) rfl ?_
  refine R_pf (z := (rd h 182 2)) dd_cutAll_5 fd_12_188 io_182 fn_12_3 rfl rfl ?_
  refine R_ld (v := .inr (.inr 182)) dd_cutAll_8 rfl rfl rfl rfl ?_
  refine R_ic dd_cutAll_9 (by decide) rfl ?_
  refine R_pf (z := 0) dd_cutAll_10 fd_12_11 io_182 fn_12_2 rfl rfl ?_
  refine R_ic dd_cutAll_13 (by decide) rfl ?_
  refine R_st (ls' := [some (.inr (.inr 182)), some (.inl 0), none, none, none, none, none]) dd_cutAll_14 rfl rfl rfl (Nat.le_of_ble_eq_true rfl) rfl rfl ?_
  refine R_ic dd_cutAll_15 (by decide) rfl ?_
  refine R_st (ls' := [some (.inr (.inr 182)), some (.inl 0), some (.inl 0), none, none, none, none]) dd_cutAll_16 rfl rfl rfl (Nat.le_of_ble_eq_true rfl) rfl rfl ?_
  exact k
theorem B_cutAll_17 {xs : Nat → Int} {xl e : Nat} {h : LH} {Q : Option LV → LH → Prop} {v1 v2 : Int} {o3 : Option LV} {o4 : Option LV} {o5 : Option LV} {o6 : Option LV} (hF : RF h) (he : 1 ≤ e)
    (k : ((rd h 182 3) ≤ v2 →
        (0 ≤ v1 ∧ v1 < 1002) ∧
        (0 ≤ v1 ∧ v1 < 1002) ∧
        Q none (wr (wr (wr (wr h 184 v1 0) 185 v1 (rd h 182 3)) 182 7 0) 182 8 0)) ∧
      (v2 < (rd h 182 3) →
        (0 ≤ v2 ∧ v2 < 1000) ∧
        ((rd h 183 v2) = 10 →
          (-2147483648 ≤ v2 + 1 ∧ v2 + 1 ≤ 2147483647) ∧
          Rn xs xl e mm_cutAll 17 [some (.inr (.inr 182)), some (.inl v1), some (.inl (v2 + 1)), some (.inl (rd h 183 v2)), o4, o5, o6] [] h Q) ∧
        ((rd h 183 v2) ≠ 10 →
          ((rd h 183 v2) ≠ 32 →
            (0 ≤ v1 ∧ v1 < 1002) ∧
            ((rd h 183 v2) < 97 →
              ((rd h 183 v2) < 48 →
                Rn xs xl e mm_cutAll 240 [some (.inr (.inr 182)), some (.inl v1), some (.inl v2), some (.inl (rd h 183 v2)), some (.inl v2), some (.inr (.inl 0)), none] [] (wr h 185 v1 v2) Q) ∧
              (48 ≤ (rd h 183 v2) →
                (57 < (rd h 183 v2) →
                  Rn xs xl e mm_cutAll 240 [some (.inr (.inr 182)), some (.inl v1), some (.inl v2), some (.inl (rd h 183 v2)), some (.inl v2), some (.inr (.inl 0)), none] [] (wr h 185 v1 v2) Q) ∧
                ((rd h 183 v2) ≤ 57 →
                  Rn xs xl e mm_cutAll 159 [some (.inr (.inr 182)), some (.inl v1), some (.inl v2), some (.inl (rd h 183 v2)), some (.inl v2), some (.inr (.inl 0)), none] [] (wr h 185 v1 v2) Q))) ∧
            (97 ≤ (rd h 183 v2) →
              (122 < (rd h 183 v2) →
                ((rd h 183 v2) < 48 →
                  Rn xs xl e mm_cutAll 240 [some (.inr (.inr 182)), some (.inl v1), some (.inl v2), some (.inl (rd h 183 v2)), some (.inl v2), some (.inr (.inl 0)), none] [] (wr h 185 v1 v2) Q) ∧
                (48 ≤ (rd h 183 v2) →
                  (57 < (rd h 183 v2) →
                    Rn xs xl e mm_cutAll 240 [some (.inr (.inr 182)), some (.inl v1), some (.inl v2), some (.inl (rd h 183 v2)), some (.inl v2), some (.inr (.inl 0)), none] [] (wr h 185 v1 v2) Q) ∧
                  ((rd h 183 v2) ≤ 57 →
                    Rn xs xl e mm_cutAll 159 [some (.inr (.inr 182)), some (.inl v1), some (.inl v2), some (.inl (rd h 183 v2)), some (.inl v2), some (.inr (.inl 0)), none] [] (wr h 185 v1 v2) Q))) ∧
              ((rd h 183 v2) ≤ 122 →
                Rn xs xl e mm_cutAll 70 [some (.inr (.inr 182)), some (.inl v1), some (.inl v2), some (.inl (rd h 183 v2)), some (.inl v2), some (.inr (.inl 0)), none] [] (wr h 185 v1 v2) Q))) ∧
          ((rd h 183 v2) = 32 →
            (-2147483648 ≤ v2 + 1 ∧ v2 + 1 ≤ 2147483647) ∧
            Rn xs xl e mm_cutAll 17 [some (.inr (.inr 182)), some (.inl v1), some (.inl (v2 + 1)), some (.inl (rd h 183 v2)), o4, o5, o6] [] h Q)))) :
    Rn xs xl e mm_cutAll 17 [some (.inr (.inr 182)), some (.inl v1), some (.inl v2), o3, o4, o5, o6] [] h Q := by
  refine R_ld (v := .inl v2) dd_cutAll_17 rfl rfl rfl rfl ?_
  refine R_ld (v := .inr (.inr 182)) dd_cutAll_18 rfl rfl rfl rfl ?_
  refine R_gf (v := .inl (rd h 182 3)) dd_cutAll_19 fd_12_188 io_182 (congrArg (fun z : Int => (Sum.inl z : LV)) (rfl)) rfl ?_
  refine R_icmp dd_cutAll_22 rfl rfl (fun (c7 : (rd h 182 3) ≤ v2) => ?_) (fun (c7 : v2 < (rd h 182 3)) => ?_)
  · replace k := k.1 c7
    refine R_ld (v := .inr (.inr 182)) dd_cutAll_279 rfl rfl rfl rfl ?_
    refine R_gf (v := .inr (.inr 184)) dd_cutAll_280 fd_12_24 io_182 (congrArg (fun z : Int => (Sum.inr (Sum.inr z) : LV)) (rf_182_4 hF)) rfl ?_
    refine R_ld (v := .inl v1) dd_cutAll_283 rfl rfl rfl rfl ?_
    refine R_ic dd_cutAll_284 (by decide) rfl ?_
    obtain ⟨s1, k⟩ := k
    refine R_iast (n := 1002) dd_cutAll_285 ia_184 la_184 s1 rfl ?_
    refine R_ld (v := .inr (.inr 182)) dd_cutAll_286 rfl rfl rfl rfl ?_
    refine R_gf (v := .inr (.inr 185)) dd_cutAll_287 fd_12_27 io_182 (congrArg (fun z : Int => (Sum.inr (Sum.inr z) : LV)) ((rdw_ne (by decide)).trans (rf_182_5 hF))) rfl ?_
    refine R_ld (v := .inl v1) dd_cutAll_290 rfl rfl rfl rfl ?_
    refine R_ld (v := .inr (.inr 182)) dd_cutAll_291 rfl rfl rfl rfl ?_
    refine R_gf (v := .inl (rd h 182 3)) dd_cutAll_292 fd_12_188 io_182 (congrArg (fun z : Int => (Sum.inl z : LV)) (rdw_ne (by decide))) rfl ?_
    obtain ⟨s2, k⟩ := k
    refine R_iast (n := 1002) dd_cutAll_295 ia_185 la_185 s2 rfl ?_
    refine R_ld (v := .inr (.inr 182)) dd_cutAll_296 rfl rfl rfl rfl ?_
    refine R_ic dd_cutAll_297 (by decide) rfl ?_
    refine R_pf (z := 0) dd_cutAll_298 fd_12_207 io_182 fn_12_7 rfl rfl ?_
    refine R_ld (v := .inr (.inr 182)) dd_cutAll_301 rfl rfl rfl rfl ?_
    refine R_ic dd_cutAll_302 (by decide) rfl ?_
    refine R_pf (z := 0) dd_cutAll_303 fd_12_210 io_182 fn_12_8 rfl rfl ?_
    exact R_vret dd_cutAll_306 rfl k
  · replace k := k.2 c7
    refine R_ld (v := .inr (.inr 182)) dd_cutAll_25 rfl rfl rfl rfl ?_
    refine R_gf (v := .inr (.inr 183)) dd_cutAll_26 fd_12_14 io_182 (congrArg (fun z : Int => (Sum.inr (Sum.inr z) : LV)) (rf_182_1 hF)) rfl ?_
    refine R_ld (v := .inl v2) dd_cutAll_29 rfl rfl rfl rfl ?_
    obtain ⟨s3, k⟩ := k
    refine R_iald (v := (rd h 183 v2)) (n := 1000) dd_cutAll_30 ia_183 la_183 s3 (rfl) rfl ?_
    refine R_st (ls' := [some (.inr (.inr 182)), some (.inl v1), some (.inl v2), some (.inl (rd h 183 v2)), o4, o5, o6]) dd_cutAll_31 rfl rfl rfl (Nat.le_of_ble_eq_true rfl) rfl rfl ?_
    refine R_ld (v := .inl (rd h 183 v2)) dd_cutAll_32 rfl rfl rfl rfl ?_
    refine R_bi dd_cutAll_33 (by decide) rfl ?_
    refine R_icmp dd_cutAll_35 rfl rfl (fun (c8 : (rd h 183 v2) = 10) => ?_) (fun (c8 : (rd h 183 v2) ≠ 10) => ?_)
    · replace k := k.1 c8
      obtain ⟨s4, k⟩ := k
      refine R_inc (y := v2 + 1) (ls' := [some (.inr (.inr 182)), some (.inl v1), some (.inl (v2 + 1)), some (.inl (rd h 183 v2)), o4, o5, o6]) dd_cutAll_44 rfl (by decide) (by omega) s4 rfl rfl ?_
      refine R_goto dd_cutAll_47 rfl ?_
      exact k
    · replace k := k.2 c8
      refine R_ld (v := .inl (rd h 183 v2)) dd_cutAll_38 rfl rfl rfl rfl ?_
      refine R_bi dd_cutAll_39 (by decide) rfl ?_
      refine R_icmp dd_cutAll_41 rfl rfl (fun (c9 : (rd h 183 v2) ≠ 32) => ?_) (fun (c9 : (rd h 183 v2) = 32) => ?_)
      · replace k := k.1 c9
        refine R_ld (v := .inl v2) dd_cutAll_50 rfl rfl rfl rfl ?_
        refine R_st (ls' := [some (.inr (.inr 182)), some (.inl v1), some (.inl v2), some (.inl (rd h 183 v2)), some (.inl v2), o5, o6]) dd_cutAll_51 rfl rfl rfl (Nat.le_of_ble_eq_true rfl) rfl rfl ?_
        refine R_A dd_cutAll_53 rfl rfl rfl rfl ?_
        refine R_st (ls' := [some (.inr (.inr 182)), some (.inl v1), some (.inl v2), some (.inl (rd h 183 v2)), some (.inl v2), some (.inr (.inl 0)), none]) dd_cutAll_54 rfl rfl rfl (Nat.le_of_ble_eq_true rfl) rfl rfl ?_
        refine R_ld (v := .inr (.inr 182)) dd_cutAll_56 rfl rfl rfl rfl ?_
        refine R_gf (v := .inr (.inr 185)) dd_cutAll_57 fd_12_27 io_182 (congrArg (fun z : Int => (Sum.inr (Sum.inr z) : LV)) (rf_182_5 hF)) rfl ?_
        refine R_ld (v := .inl v1) dd_cutAll_60 rfl rfl rfl rfl ?_
        refine R_ld (v := .inl v2) dd_cutAll_61 rfl rfl rfl rfl ?_
        obtain ⟨s5, k⟩ := k
        refine R_iast (n := 1002) dd_cutAll_62 ia_185 la_185 s5 rfl ?_
        refine R_ld (v := .inl (rd h 183 v2)) dd_cutAll_63 rfl rfl rfl rfl ?_
        refine R_call (as := [.inl (rd h 183 v2)]) (rest := []) (M' := mm_isLetter) (ls0 := [some (.inl (rd h 183 v2))]) dd_cutAll_64 rfl rfl (cw_s cw_12_184 rfl rfl (Nat.le_of_ble_eq_true rfl) (Nat.le_of_ble_eq_true rfl)) mt_isLetter rfl (c := e - 1) (by omega) rfl ?_
        refine R_ld (v := .inl (rd h 183 v2)) dd_isLetter_0 rfl rfl rfl rfl ?_
        refine R_bi dd_isLetter_1 (by decide) rfl ?_
        refine R_icmp dd_isLetter_3 rfl rfl (fun (c10 : (rd h 183 v2) < 97) => ?_) (fun (c10 : 97 ≤ (rd h 183 v2)) => ?_)
        · replace k := k.1 c10
          refine R_ic dd_isLetter_16 (by decide) rfl ?_
          refine R_zret dd_isLetter_17 rfl (by decide) ?_
          change Rn xs xl e mm_cutAll 67 [some (.inr (.inr 182)), some (.inl v1), some (.inl v2), some (.inl (rd h 183 v2)), some (.inl v2), some (.inr (.inl 0)), none] [.inl 0] (wr h 185 v1 v2) _
          refine R_if dd_cutAll_67 rfl rfl (fun (c11 : 0 = 0) => ?_) (fun (c11 : 0 ≠ 0) => ?_)
          · skip
            refine R_ld (v := .inl (rd h 183 v2)) dd_cutAll_152 rfl rfl rfl rfl ?_
            refine R_call (as := [.inl (rd h 183 v2)]) (rest := []) (M' := mm_isDigit) (ls0 := [some (.inl (rd h 183 v2))]) dd_cutAll_153 rfl rfl (cw_s cw_12_197 rfl rfl (Nat.le_of_ble_eq_true rfl) (Nat.le_of_ble_eq_true rfl)) mt_isDigit rfl (c := e - 1) (by omega) rfl ?_
            refine R_ld (v := .inl (rd h 183 v2)) dd_isDigit_0 rfl rfl rfl rfl ?_
            refine R_bi dd_isDigit_1 (by decide) rfl ?_
            refine R_icmp dd_isDigit_3 rfl rfl (fun (c12 : (rd h 183 v2) < 48) => ?_) (fun (c12 : 48 ≤ (rd h 183 v2)) => ?_)
            · replace k := k.1 c12
              refine R_ic dd_isDigit_16 (by decide) rfl ?_
              refine R_zret dd_isDigit_17 rfl (by decide) ?_
              change Rn xs xl e mm_cutAll 156 [some (.inr (.inr 182)), some (.inl v1), some (.inl v2), some (.inl (rd h 183 v2)), some (.inl v2), some (.inr (.inl 0)), none] [.inl 0] (wr h 185 v1 v2) _
              refine R_if dd_cutAll_156 rfl rfl (fun (c13 : 0 = 0) => ?_) (fun (c13 : 0 ≠ 0) => ?_)
              · skip
                exact k
              · exact absurd c13 (by omega)
            · replace k := k.2 c12
              refine R_ld (v := .inl (rd h 183 v2)) dd_isDigit_6 rfl rfl rfl rfl ?_
              refine R_bi dd_isDigit_7 (by decide) rfl ?_
              refine R_icmp dd_isDigit_9 rfl rfl (fun (c14 : 57 < (rd h 183 v2)) => ?_) (fun (c14 : (rd h 183 v2) ≤ 57) => ?_)
              · replace k := k.1 c14
                refine R_ic dd_isDigit_16 (by decide) rfl ?_
                refine R_zret dd_isDigit_17 rfl (by decide) ?_
                change Rn xs xl e mm_cutAll 156 [some (.inr (.inr 182)), some (.inl v1), some (.inl v2), some (.inl (rd h 183 v2)), some (.inl v2), some (.inr (.inl 0)), none] [.inl 0] (wr h 185 v1 v2) _
                refine R_if dd_cutAll_156 rfl rfl (fun (c15 : 0 = 0) => ?_) (fun (c15 : 0 ≠ 0) => ?_)
                · skip
                  exact k
                · exact absurd c15 (by omega)
              · replace k := k.2 c14
                refine R_ic dd_isDigit_12 (by decide) rfl ?_
                refine R_goto dd_isDigit_13 rfl ?_
                refine R_zret dd_isDigit_17 rfl (by decide) ?_
                change Rn xs xl e mm_cutAll 156 [some (.inr (.inr 182)), some (.inl v1), some (.inl v2), some (.inl (rd h 183 v2)), some (.inl v2), some (.inr (.inl 0)), none] [.inl 1] (wr h 185 v1 v2) _
                refine R_if dd_cutAll_156 rfl rfl (fun (c16 : 1 = 0) => ?_) (fun (c16 : 1 ≠ 0) => ?_)
                · exact absurd c16 (by omega)
                · skip
                  exact k
          · exact absurd c11 (by omega)
        · replace k := k.2 c10
          refine R_ld (v := .inl (rd h 183 v2)) dd_isLetter_6 rfl rfl rfl rfl ?_
          refine R_bi dd_isLetter_7 (by decide) rfl ?_
          refine R_icmp dd_isLetter_9 rfl rfl (fun (c17 : 122 < (rd h 183 v2)) => ?_) (fun (c17 : (rd h 183 v2) ≤ 122) => ?_)
          · replace k := k.1 c17
            refine R_ic dd_isLetter_16 (by decide) rfl ?_
            refine R_zret dd_isLetter_17 rfl (by decide) ?_
            change Rn xs xl e mm_cutAll 67 [some (.inr (.inr 182)), some (.inl v1), some (.inl v2), some (.inl (rd h 183 v2)), some (.inl v2), some (.inr (.inl 0)), none] [.inl 0] (wr h 185 v1 v2) _
            refine R_if dd_cutAll_67 rfl rfl (fun (c18 : 0 = 0) => ?_) (fun (c18 : 0 ≠ 0) => ?_)
            · skip
              refine R_ld (v := .inl (rd h 183 v2)) dd_cutAll_152 rfl rfl rfl rfl ?_
              refine R_call (as := [.inl (rd h 183 v2)]) (rest := []) (M' := mm_isDigit) (ls0 := [some (.inl (rd h 183 v2))]) dd_cutAll_153 rfl rfl (cw_s cw_12_197 rfl rfl (Nat.le_of_ble_eq_true rfl) (Nat.le_of_ble_eq_true rfl)) mt_isDigit rfl (c := e - 1) (by omega) rfl ?_
              refine R_ld (v := .inl (rd h 183 v2)) dd_isDigit_0 rfl rfl rfl rfl ?_
              refine R_bi dd_isDigit_1 (by decide) rfl ?_
              refine R_icmp dd_isDigit_3 rfl rfl (fun (c19 : (rd h 183 v2) < 48) => ?_) (fun (c19 : 48 ≤ (rd h 183 v2)) => ?_)
              · replace k := k.1 c19
                refine R_ic dd_isDigit_16 (by decide) rfl ?_
                refine R_zret dd_isDigit_17 rfl (by decide) ?_
                change Rn xs xl e mm_cutAll 156 [some (.inr (.inr 182)), some (.inl v1), some (.inl v2), some (.inl (rd h 183 v2)), some (.inl v2), some (.inr (.inl 0)), none] [.inl 0] (wr h 185 v1 v2) _
                refine R_if dd_cutAll_156 rfl rfl (fun (c20 : 0 = 0) => ?_) (fun (c20 : 0 ≠ 0) => ?_)
                · skip
                  exact k
                · exact absurd c20 (by omega)
              · replace k := k.2 c19
                refine R_ld (v := .inl (rd h 183 v2)) dd_isDigit_6 rfl rfl rfl rfl ?_
                refine R_bi dd_isDigit_7 (by decide) rfl ?_
                refine R_icmp dd_isDigit_9 rfl rfl (fun (c21 : 57 < (rd h 183 v2)) => ?_) (fun (c21 : (rd h 183 v2) ≤ 57) => ?_)
                · replace k := k.1 c21
                  refine R_ic dd_isDigit_16 (by decide) rfl ?_
                  refine R_zret dd_isDigit_17 rfl (by decide) ?_
                  change Rn xs xl e mm_cutAll 156 [some (.inr (.inr 182)), some (.inl v1), some (.inl v2), some (.inl (rd h 183 v2)), some (.inl v2), some (.inr (.inl 0)), none] [.inl 0] (wr h 185 v1 v2) _
                  refine R_if dd_cutAll_156 rfl rfl (fun (c22 : 0 = 0) => ?_) (fun (c22 : 0 ≠ 0) => ?_)
                  · skip
                    exact k
                  · exact absurd c22 (by omega)
                · replace k := k.2 c21
                  refine R_ic dd_isDigit_12 (by decide) rfl ?_
                  refine R_goto dd_isDigit_13 rfl ?_
                  refine R_zret dd_isDigit_17 rfl (by decide) ?_
                  change Rn xs xl e mm_cutAll 156 [some (.inr (.inr 182)), some (.inl v1), some (.inl v2), some (.inl (rd h 183 v2)), some (.inl v2), some (.inr (.inl 0)), none] [.inl 1] (wr h 185 v1 v2) _
                  refine R_if dd_cutAll_156 rfl rfl (fun (c23 : 1 = 0) => ?_) (fun (c23 : 1 ≠ 0) => ?_)
                  · exact absurd c23 (by omega)
                  · skip
                    exact k
            · exact absurd c18 (by omega)
          · replace k := k.2 c17
            refine R_ic dd_isLetter_12 (by decide) rfl ?_
            refine R_goto dd_isLetter_13 rfl ?_
            refine R_zret dd_isLetter_17 rfl (by decide) ?_
            change Rn xs xl e mm_cutAll 67 [some (.inr (.inr 182)), some (.inl v1), some (.inl v2), some (.inl (rd h 183 v2)), some (.inl v2), some (.inr (.inl 0)), none] [.inl 1] (wr h 185 v1 v2) _
            refine R_if dd_cutAll_67 rfl rfl (fun (c24 : 1 = 0) => ?_) (fun (c24 : 1 ≠ 0) => ?_)
            · exact absurd c24 (by omega)
            · skip
              exact k
      · replace k := k.2 c9
        obtain ⟨s6, k⟩ := k
        refine R_inc (y := v2 + 1) (ls' := [some (.inr (.inr 182)), some (.inl v1), some (.inl (v2 + 1)), some (.inl (rd h 183 v2)), o4, o5, o6]) dd_cutAll_44 rfl (by decide) (by omega) s6 rfl rfl ?_
        refine R_goto dd_cutAll_47 rfl ?_
        exact k
theorem B_cutAll_70 {xs : Nat → Int} {xl e : Nat} {h : LH} {Q : Option LV → LH → Prop} {v1 v2 v3 v4 v5 : Int} (hF : RF h) (he : 2 ≤ e)
    (k : ((rd h 182 3) ≤ v2 →
        Rn xs xl e mm_cutAll 129 [some (.inr (.inr 182)), some (.inl v1), some (.inl v2), some (.inl v3), some (.inl v4), some (.inr (.inl v5)), none] [] h Q) ∧
      (v2 < (rd h 182 3) →
        (0 ≤ v2 ∧ v2 < 1000) ∧
        ((rd h 183 v2) < 97 →
          Rn xs xl e mm_cutAll 129 [some (.inr (.inr 182)), some (.inl v1), some (.inl v2), some (.inl v3), some (.inl v4), some (.inr (.inl v5)), none] [] h Q) ∧
        (97 ≤ (rd h 183 v2) →
          (122 < (rd h 183 v2) →
            Rn xs xl e mm_cutAll 129 [some (.inr (.inr 182)), some (.inl v1), some (.inl v2), some (.inl v3), some (.inl v4), some (.inr (.inl v5)), none] [] h Q) ∧
          ((rd h 183 v2) ≤ 122 →
            (-2147483648 ≤ v2 - v4 ∧ v2 - v4 ≤ 2147483647) ∧
            (8 ≤ (v2 - v4) →
              Rn xs xl e mm_cutAll 123 [some (.inr (.inr 182)), some (.inl v1), some (.inl v2), some (.inl v3), some (.inl v4), some (.inr (.inl v5)), none] [] h Q) ∧
            ((v2 - v4) < 8 →
              (0 ≤ v2 ∧ v2 < 1000) ∧
              ((rd h 183 v2) < 97 →
                (-2147483648 ≤ (rd h 183 v2) - 21 ∧ (rd h 183 v2) - 21 ≤ 2147483647) ∧
                Rn xs xl e mm_cutAll 123 [some (.inr (.inr 182)), some (.inl v1), some (.inl v2), some (.inl v3), some (.inl v4), some (.inr (.inl (w64 ((w64 ((37) * v5)) + ((rd h 183 v2) - 21))))), none] [] h Q) ∧
              (97 ≤ (rd h 183 v2) →
                (122 < (rd h 183 v2) →
                  (-2147483648 ≤ (rd h 183 v2) - 21 ∧ (rd h 183 v2) - 21 ≤ 2147483647) ∧
                  Rn xs xl e mm_cutAll 123 [some (.inr (.inr 182)), some (.inl v1), some (.inl v2), some (.inl v3), some (.inl v4), some (.inr (.inl (w64 ((w64 ((37) * v5)) + ((rd h 183 v2) - 21))))), none] [] h Q) ∧
                ((rd h 183 v2) ≤ 122 →
                  (-2147483648 ≤ (rd h 183 v2) - 96 ∧ (rd h 183 v2) - 96 ≤ 2147483647) ∧
                  Rn xs xl e mm_cutAll 123 [some (.inr (.inr 182)), some (.inl v1), some (.inl v2), some (.inl v3), some (.inl v4), some (.inr (.inl (w64 ((w64 ((37) * v5)) + ((rd h 183 v2) - 96))))), none] [] h Q))))))) :
    Rn xs xl e mm_cutAll 70 [some (.inr (.inr 182)), some (.inl v1), some (.inl v2), some (.inl v3), some (.inl v4), some (.inr (.inl v5)), none] [] h Q := by
  refine R_ld (v := .inl v2) dd_cutAll_70 rfl rfl rfl rfl ?_
  refine R_ld (v := .inr (.inr 182)) dd_cutAll_71 rfl rfl rfl rfl ?_
  refine R_gf (v := .inl (rd h 182 3)) dd_cutAll_72 fd_12_188 io_182 (congrArg (fun z : Int => (Sum.inl z : LV)) (rfl)) rfl ?_
  refine R_icmp dd_cutAll_75 rfl rfl (fun (c7 : (rd h 182 3) ≤ v2) => ?_) (fun (c7 : v2 < (rd h 182 3)) => ?_)
  · replace k := k.1 c7
    exact k
  · replace k := k.2 c7
    refine R_ld (v := .inr (.inr 182)) dd_cutAll_78 rfl rfl rfl rfl ?_
    refine R_gf (v := .inr (.inr 183)) dd_cutAll_79 fd_12_14 io_182 (congrArg (fun z : Int => (Sum.inr (Sum.inr z) : LV)) (rf_182_1 hF)) rfl ?_
    refine R_ld (v := .inl v2) dd_cutAll_82 rfl rfl rfl rfl ?_
    obtain ⟨s1, k⟩ := k
    refine R_iald (v := (rd h 183 v2)) (n := 1000) dd_cutAll_83 ia_183 la_183 s1 (rfl) rfl ?_
    refine R_call (as := [.inl (rd h 183 v2)]) (rest := []) (M' := mm_isLetter) (ls0 := [some (.inl (rd h 183 v2))]) dd_cutAll_84 rfl rfl (cw_s cw_12_184 rfl rfl (Nat.le_of_ble_eq_true rfl) (Nat.le_of_ble_eq_true rfl)) mt_isLetter rfl (c := e - 1) (by omega) rfl ?_
    refine R_ld (v := .inl (rd h 183 v2)) dd_isLetter_0 rfl rfl rfl rfl ?_
    refine R_bi dd_isLetter_1 (by decide) rfl ?_
    refine R_icmp dd_isLetter_3 rfl rfl (fun (c8 : (rd h 183 v2) < 97) => ?_) (fun (c8 : 97 ≤ (rd h 183 v2)) => ?_)
    · replace k := k.1 c8
      refine R_ic dd_isLetter_16 (by decide) rfl ?_
      refine R_zret dd_isLetter_17 rfl (by decide) ?_
      change Rn xs xl e mm_cutAll 87 [some (.inr (.inr 182)), some (.inl v1), some (.inl v2), some (.inl v3), some (.inl v4), some (.inr (.inl v5)), none] [.inl 0] h _
      refine R_if dd_cutAll_87 rfl rfl (fun (c9 : 0 = 0) => ?_) (fun (c9 : 0 ≠ 0) => ?_)
      · skip
        exact k
      · exact absurd c9 (by omega)
    · replace k := k.2 c8
      refine R_ld (v := .inl (rd h 183 v2)) dd_isLetter_6 rfl rfl rfl rfl ?_
      refine R_bi dd_isLetter_7 (by decide) rfl ?_
      refine R_icmp dd_isLetter_9 rfl rfl (fun (c10 : 122 < (rd h 183 v2)) => ?_) (fun (c10 : (rd h 183 v2) ≤ 122) => ?_)
      · replace k := k.1 c10
        refine R_ic dd_isLetter_16 (by decide) rfl ?_
        refine R_zret dd_isLetter_17 rfl (by decide) ?_
        change Rn xs xl e mm_cutAll 87 [some (.inr (.inr 182)), some (.inl v1), some (.inl v2), some (.inl v3), some (.inl v4), some (.inr (.inl v5)), none] [.inl 0] h _
        refine R_if dd_cutAll_87 rfl rfl (fun (c11 : 0 = 0) => ?_) (fun (c11 : 0 ≠ 0) => ?_)
        · skip
          exact k
        · exact absurd c11 (by omega)
      · replace k := k.2 c10
        refine R_ic dd_isLetter_12 (by decide) rfl ?_
        refine R_goto dd_isLetter_13 rfl ?_
        refine R_zret dd_isLetter_17 rfl (by decide) ?_
        change Rn xs xl e mm_cutAll 87 [some (.inr (.inr 182)), some (.inl v1), some (.inl v2), some (.inl v3), some (.inl v4), some (.inr (.inl v5)), none] [.inl 1] h _
        refine R_if dd_cutAll_87 rfl rfl (fun (c12 : 1 = 0) => ?_) (fun (c12 : 1 ≠ 0) => ?_)
        · exact absurd c12 (by omega)
        · skip
          refine R_ld (v := .inl v2) dd_cutAll_90 rfl rfl rfl rfl ?_
          refine R_ld (v := .inl v4) dd_cutAll_91 rfl rfl rfl rfl ?_
          obtain ⟨s2, k⟩ := k
          refine R_isub (c := v2 - v4) dd_cutAll_93 (by omega) s2 rfl ?_
          refine R_bi dd_cutAll_94 (by decide) rfl ?_
          refine R_icmp dd_cutAll_96 rfl rfl (fun (c13 : 8 ≤ (v2 - v4)) => ?_) (fun (c13 : (v2 - v4) < 8) => ?_)
          · replace k := k.1 c13
            refine R_ld (v := .inr (.inl v5)) dd_cutAll_119 rfl rfl rfl rfl ?_
            refine R_st (ls' := [some (.inr (.inr 182)), some (.inl v1), some (.inl v2), some (.inl v3), some (.inl v4), some (.inr (.inl v5)), none]) dd_cutAll_121 rfl rfl rfl (Nat.le_of_ble_eq_true rfl) rfl rfl ?_
            exact k
          · replace k := k.2 c13
            refine R_C (v := .inr (.inl (37))) dd_cutAll_99 rfl rfl (by decide +kernel) rfl ?_
            refine R_ld (v := .inr (.inl v5)) dd_cutAll_102 rfl rfl rfl rfl ?_
            refine R_A dd_cutAll_104 rfl rfl rfl rfl ?_
            refine R_ld (v := .inr (.inr 182)) dd_cutAll_105 rfl rfl rfl rfl ?_
            refine R_gf (v := .inr (.inr 183)) dd_cutAll_106 fd_12_14 io_182 (congrArg (fun z : Int => (Sum.inr (Sum.inr z) : LV)) (rf_182_1 hF)) rfl ?_
            refine R_ld (v := .inl v2) dd_cutAll_109 rfl rfl rfl rfl ?_
            obtain ⟨s3, k⟩ := k
            refine R_iald (v := (rd h 183 v2)) (n := 1000) dd_cutAll_110 ia_183 la_183 s3 (rfl) rfl ?_
            refine R_call (as := [.inl (rd h 183 v2)]) (rest := [.inr (.inl (w64 ((37) * v5)))]) (M' := mm_rank) (ls0 := [some (.inl (rd h 183 v2))]) dd_cutAll_111 rfl rfl (cw_s cw_12_193 rfl rfl (Nat.le_of_ble_eq_true rfl) (Nat.le_of_ble_eq_true rfl)) mt_rank rfl (c := e - 1) (by omega) rfl ?_
            refine R_ld (v := .inl (rd h 183 v2)) dd_rank_0 rfl rfl rfl rfl ?_
            refine R_call (as := [.inl (rd h 183 v2)]) (rest := []) (M' := mm_isLetter) (ls0 := [some (.inl (rd h 183 v2))]) dd_rank_1 rfl rfl (cw_s cw_12_184 rfl rfl (Nat.le_of_ble_eq_true rfl) (Nat.le_of_ble_eq_true rfl)) mt_isLetter rfl (c := e - 2) (by omega) rfl ?_
            refine R_ld (v := .inl (rd h 183 v2)) dd_isLetter_0 rfl rfl rfl rfl ?_
            refine R_bi dd_isLetter_1 (by decide) rfl ?_
            refine R_icmp dd_isLetter_3 rfl rfl (fun (c14 : (rd h 183 v2) < 97) => ?_) (fun (c14 : 97 ≤ (rd h 183 v2)) => ?_)
            · replace k := k.1 c14
              refine R_ic dd_isLetter_16 (by decide) rfl ?_
              refine R_zret dd_isLetter_17 rfl (by decide) ?_
              change Rn xs xl (e - 1) mm_rank 4 [some (.inl (rd h 183 v2))] [.inl 0] h _
              refine R_if dd_rank_4 rfl rfl (fun (c15 : 0 = 0) => ?_) (fun (c15 : 0 ≠ 0) => ?_)
              · skip
                refine R_ld (v := .inl (rd h 183 v2)) dd_rank_14 rfl rfl rfl rfl ?_
                refine R_bi dd_rank_15 (by decide) rfl ?_
                obtain ⟨s4, k⟩ := k
                refine R_isub (c := (rd h 183 v2) - 21) dd_rank_17 (by omega) s4 rfl ?_
                refine R_iret dd_rank_18 rfl ?_
                change Rn xs xl e mm_cutAll 114 [some (.inr (.inr 182)), some (.inl v1), some (.inl v2), some (.inl v3), some (.inl v4), some (.inr (.inl v5)), none] [.inl ((rd h 183 v2) - 21), .inr (.inl (w64 ((37) * v5)))] h _
                refine R_A dd_cutAll_114 rfl rfl rfl rfl ?_
                refine R_A dd_cutAll_115 rfl rfl rfl rfl ?_
                refine R_goto dd_cutAll_116 rfl ?_
                refine R_st (ls' := [some (.inr (.inr 182)), some (.inl v1), some (.inl v2), some (.inl v3), some (.inl v4), some (.inr (.inl (w64 ((w64 ((37) * v5)) + ((rd h 183 v2) - 21))))), none]) dd_cutAll_121 rfl rfl rfl (Nat.le_of_ble_eq_true rfl) rfl rfl ?_
                exact k
              · exact absurd c15 (by omega)
            · replace k := k.2 c14
              refine R_ld (v := .inl (rd h 183 v2)) dd_isLetter_6 rfl rfl rfl rfl ?_
              refine R_bi dd_isLetter_7 (by decide) rfl ?_
              refine R_icmp dd_isLetter_9 rfl rfl (fun (c16 : 122 < (rd h 183 v2)) => ?_) (fun (c16 : (rd h 183 v2) ≤ 122) => ?_)
              · replace k := k.1 c16
                refine R_ic dd_isLetter_16 (by decide) rfl ?_
                refine R_zret dd_isLetter_17 rfl (by decide) ?_
                change Rn xs xl (e - 1) mm_rank 4 [some (.inl (rd h 183 v2))] [.inl 0] h _
                refine R_if dd_rank_4 rfl rfl (fun (c17 : 0 = 0) => ?_) (fun (c17 : 0 ≠ 0) => ?_)
                · skip
                  refine R_ld (v := .inl (rd h 183 v2)) dd_rank_14 rfl rfl rfl rfl ?_
                  refine R_bi dd_rank_15 (by decide) rfl ?_
                  obtain ⟨s5, k⟩ := k
                  refine R_isub (c := (rd h 183 v2) - 21) dd_rank_17 (by omega) s5 rfl ?_
                  refine R_iret dd_rank_18 rfl ?_
                  change Rn xs xl e mm_cutAll 114 [some (.inr (.inr 182)), some (.inl v1), some (.inl v2), some (.inl v3), some (.inl v4), some (.inr (.inl v5)), none] [.inl ((rd h 183 v2) - 21), .inr (.inl (w64 ((37) * v5)))] h _
                  refine R_A dd_cutAll_114 rfl rfl rfl rfl ?_
                  refine R_A dd_cutAll_115 rfl rfl rfl rfl ?_
                  refine R_goto dd_cutAll_116 rfl ?_
                  refine R_st (ls' := [some (.inr (.inr 182)), some (.inl v1), some (.inl v2), some (.inl v3), some (.inl v4), some (.inr (.inl (w64 ((w64 ((37) * v5)) + ((rd h 183 v2) - 21))))), none]) dd_cutAll_121 rfl rfl rfl (Nat.le_of_ble_eq_true rfl) rfl rfl ?_
                  exact k
                · exact absurd c17 (by omega)
              · replace k := k.2 c16
                refine R_ic dd_isLetter_12 (by decide) rfl ?_
                refine R_goto dd_isLetter_13 rfl ?_
                refine R_zret dd_isLetter_17 rfl (by decide) ?_
                change Rn xs xl (e - 1) mm_rank 4 [some (.inl (rd h 183 v2))] [.inl 1] h _
                refine R_if dd_rank_4 rfl rfl (fun (c18 : 1 = 0) => ?_) (fun (c18 : 1 ≠ 0) => ?_)
                · exact absurd c18 (by omega)
                · skip
                  refine R_ld (v := .inl (rd h 183 v2)) dd_rank_7 rfl rfl rfl rfl ?_
                  refine R_bi dd_rank_8 (by decide) rfl ?_
                  obtain ⟨s6, k⟩ := k
                  refine R_isub (c := (rd h 183 v2) - 96) dd_rank_10 (by omega) s6 rfl ?_
                  refine R_goto dd_rank_11 rfl ?_
                  refine R_iret dd_rank_18 rfl ?_
                  change Rn xs xl e mm_cutAll 114 [some (.inr (.inr 182)), some (.inl v1), some (.inl v2), some (.inl v3), some (.inl v4), some (.inr (.inl v5)), none] [.inl ((rd h 183 v2) - 96), .inr (.inl (w64 ((37) * v5)))] h _
                  refine R_A dd_cutAll_114 rfl rfl rfl rfl ?_
                  refine R_A dd_cutAll_115 rfl rfl rfl rfl ?_
                  refine R_goto dd_cutAll_116 rfl ?_
                  refine R_st (ls' := [some (.inr (.inr 182)), some (.inl v1), some (.inl v2), some (.inl v3), some (.inl v4), some (.inr (.inl (w64 ((w64 ((37) * v5)) + ((rd h 183 v2) - 96))))), none]) dd_cutAll_121 rfl rfl rfl (Nat.le_of_ble_eq_true rfl) rfl rfl ?_
                  exact k
theorem B_cutAll_123 {xs : Nat → Int} {xl e : Nat} {h : LH} {Q : Option LV → LH → Prop} {v1 v2 v3 v4 v5 : Int} (hF : RF h)
    (k : (-2147483648 ≤ v2 + 1 ∧ v2 + 1 ≤ 2147483647) ∧
      Rn xs xl e mm_cutAll 70 [some (.inr (.inr 182)), some (.inl v1), some (.inl (v2 + 1)), some (.inl v3), some (.inl v4), some (.inr (.inl v5)), none] [] h Q) :
    Rn xs xl e mm_cutAll 123 [some (.inr (.inr 182)), some (.inl v1), some (.inl v2), some (.inl v3), some (.inl v4), some (.inr (.inl v5)), none] [] h Q := by
  obtain ⟨s1, k⟩ := k
  refine R_inc (y := v2 + 1) (ls' := [some (.inr (.inr 182)), some (.inl v1), some (.inl (v2 + 1)), some (.inl v3), some (.inl v4), some (.inr (.inl v5)), none]) dd_cutAll_123 rfl (by decide) (by omega) s1 rfl rfl ?_
  refine R_goto dd_cutAll_126 rfl ?_
  exact k
theorem B_cutAll_129 {xs : Nat → Int} {xl e : Nat} {h : LH} {Q : Option LV → LH → Prop} {v1 v2 v3 v4 v5 : Int} (hF : RF h)
    (k : (-2147483648 ≤ v2 - v4 ∧ v2 - v4 ≤ 2147483647) ∧
      ((v2 - v4) ≤ 8 →
        (0 ≤ v1 ∧ v1 < 1002) ∧
        Rn xs xl e mm_cutAll 265 [some (.inr (.inr 182)), some (.inl v1), some (.inl v2), some (.inl v3), some (.inl v4), some (.inr (.inl v5)), none] [] (wr h 184 v1 1) Q) ∧
      (8 < (v2 - v4) →
        (0 ≤ v1 ∧ v1 < 1002) ∧
        Rn xs xl e mm_cutAll 265 [some (.inr (.inr 182)), some (.inl v1), some (.inl v2), some (.inl v3), some (.inl v4), some (.inr (.inl v5)), none] [] (wr h 184 v1 4) Q)) :
    Rn xs xl e mm_cutAll 129 [some (.inr (.inr 182)), some (.inl v1), some (.inl v2), some (.inl v3), some (.inl v4), some (.inr (.inl v5)), none] [] h Q := by
  refine R_ld (v := .inr (.inr 182)) dd_cutAll_129 rfl rfl rfl rfl ?_
  refine R_gf (v := .inr (.inr 184)) dd_cutAll_130 fd_12_24 io_182 (congrArg (fun z : Int => (Sum.inr (Sum.inr z) : LV)) (rf_182_4 hF)) rfl ?_
  refine R_ld (v := .inl v1) dd_cutAll_133 rfl rfl rfl rfl ?_
  refine R_ld (v := .inl v2) dd_cutAll_134 rfl rfl rfl rfl ?_
  refine R_ld (v := .inl v4) dd_cutAll_135 rfl rfl rfl rfl ?_
  obtain ⟨s1, k⟩ := k
  refine R_isub (c := v2 - v4) dd_cutAll_137 (by omega) s1 rfl ?_
  refine R_bi dd_cutAll_138 (by decide) rfl ?_
  refine R_icmp dd_cutAll_140 rfl rfl (fun (c4 : (v2 - v4) ≤ 8) => ?_) (fun (c4 : 8 < (v2 - v4)) => ?_)
  · replace k := k.1 c4
    refine R_ic dd_cutAll_147 (by decide) rfl ?_
    obtain ⟨s2, k⟩ := k
    refine R_iast (n := 1002) dd_cutAll_148 ia_184 la_184 s2 rfl ?_
    refine R_goto dd_cutAll_149 rfl ?_
    exact k
  · replace k := k.2 c4
    refine R_ic dd_cutAll_143 (by decide) rfl ?_
    refine R_goto dd_cutAll_144 rfl ?_
    obtain ⟨s3, k⟩ := k
    refine R_iast (n := 1002) dd_cutAll_148 ia_184 la_184 s3 rfl ?_
    refine R_goto dd_cutAll_149 rfl ?_
    exact k
theorem B_cutAll_159 {xs : Nat → Int} {xl e : Nat} {h : LH} {Q : Option LV → LH → Prop} {v1 v2 v3 v4 v5 : Int} (hF : RF h) (he : 1 ≤ e)
    (k : ((rd h 182 3) ≤ v2 →
        Rn xs xl e mm_cutAll 218 [some (.inr (.inr 182)), some (.inl v1), some (.inl v2), some (.inl v3), some (.inl v4), some (.inr (.inl v5)), none] [] h Q) ∧
      (v2 < (rd h 182 3) →
        (0 ≤ v2 ∧ v2 < 1000) ∧
        ((rd h 183 v2) < 48 →
          Rn xs xl e mm_cutAll 218 [some (.inr (.inr 182)), some (.inl v1), some (.inl v2), some (.inl v3), some (.inl v4), some (.inr (.inl v5)), none] [] h Q) ∧
        (48 ≤ (rd h 183 v2) →
          (57 < (rd h 183 v2) →
            Rn xs xl e mm_cutAll 218 [some (.inr (.inr 182)), some (.inl v1), some (.inl v2), some (.inl v3), some (.inl v4), some (.inr (.inl v5)), none] [] h Q) ∧
          ((rd h 183 v2) ≤ 57 →
            (-2147483648 ≤ v2 - v4 ∧ v2 - v4 ≤ 2147483647) ∧
            (4 ≤ (v2 - v4) →
              Rn xs xl e mm_cutAll 212 [some (.inr (.inr 182)), some (.inl v1), some (.inl v2), some (.inl v3), some (.inl v4), some (.inr (.inl v5)), none] [] h Q) ∧
            ((v2 - v4) < 4 →
              (0 ≤ v2 ∧ v2 < 1000) ∧
              Rn xs xl e mm_cutAll 212 [some (.inr (.inr 182)), some (.inl v1), some (.inl v2), some (.inl v3), some (.inl v4), some (.inr (.inl (w64 ((w64 ((w64 ((10) * v5)) + (rd h 183 v2))) - (48))))), none] [] h Q))))) :
    Rn xs xl e mm_cutAll 159 [some (.inr (.inr 182)), some (.inl v1), some (.inl v2), some (.inl v3), some (.inl v4), some (.inr (.inl v5)), none] [] h Q := by
  refine R_ld (v := .inl v2) dd_cutAll_159 rfl rfl rfl rfl ?_
  refine R_ld (v := .inr (.inr 182)) dd_cutAll_160 rfl rfl rfl rfl ?_
  refine R_gf (v := .inl (rd h 182 3)) dd_cutAll_161 fd_12_188 io_182 (congrArg (fun z : Int => (Sum.inl z : LV)) (rfl)) rfl ?_
  refine R_icmp dd_cutAll_164 rfl rfl (fun (c4 : (rd h 182 3) ≤ v2) => ?_) (fun (c4 : v2 < (rd h 182 3)) => ?_)
  · replace k := k.1 c4
    exact k
  · replace k := k.2 c4
    refine R_ld (v := .inr (.inr 182)) dd_cutAll_167 rfl rfl rfl rfl ?_
    refine R_gf (v := .inr (.inr 183)) dd_cutAll_168 fd_12_14 io_182 (congrArg (fun z : Int => (Sum.inr (Sum.inr z) : LV)) (rf_182_1 hF)) rfl ?_
    refine R_ld (v := .inl v2) dd_cutAll_171 rfl rfl rfl rfl ?_
    obtain ⟨s1, k⟩ := k
    refine R_iald (v := (rd h 183 v2)) (n := 1000) dd_cutAll_172 ia_183 la_183 s1 (rfl) rfl ?_
    refine R_call (as := [.inl (rd h 183 v2)]) (rest := []) (M' := mm_isDigit) (ls0 := [some (.inl (rd h 183 v2))]) dd_cutAll_173 rfl rfl (cw_s cw_12_197 rfl rfl (Nat.le_of_ble_eq_true rfl) (Nat.le_of_ble_eq_true rfl)) mt_isDigit rfl (c := e - 1) (by omega) rfl ?_
    refine R_ld (v := .inl (rd h 183 v2)) dd_isDigit_0 rfl rfl rfl rfl ?_
    refine R_bi dd_isDigit_1 (by decide) rfl ?_
    refine R_icmp dd_isDigit_3 rfl rfl (fun (c5 : (rd h 183 v2) < 48) => ?_) (fun (c5 : 48 ≤ (rd h 183 v2)) => ?_)
    · replace k := k.1 c5
      refine R_ic dd_isDigit_16 (by decide) rfl ?_
      refine R_zret dd_isDigit_17 rfl (by decide) ?_
      change Rn xs xl e mm_cutAll 176 [some (.inr (.inr 182)), some (.inl v1), some (.inl v2), some (.inl v3), some (.inl v4), some (.inr (.inl v5)), none] [.inl 0] h _
      refine R_if dd_cutAll_176 rfl rfl (fun (c6 : 0 = 0) => ?_) (fun (c6 : 0 ≠ 0) => ?_)
      · skip
        exact k
      · exact absurd c6 (by omega)
    · replace k := k.2 c5
      refine R_ld (v := .inl (rd h 183 v2)) dd_isDigit_6 rfl rfl rfl rfl ?_
      refine R_bi dd_isDigit_7 (by decide) rfl ?_
      refine R_icmp dd_isDigit_9 rfl rfl (fun (c7 : 57 < (rd h 183 v2)) => ?_) (fun (c7 : (rd h 183 v2) ≤ 57) => ?_)
      · replace k := k.1 c7
        refine R_ic dd_isDigit_16 (by decide) rfl ?_
        refine R_zret dd_isDigit_17 rfl (by decide) ?_
        change Rn xs xl e mm_cutAll 176 [some (.inr (.inr 182)), some (.inl v1), some (.inl v2), some (.inl v3), some (.inl v4), some (.inr (.inl v5)), none] [.inl 0] h _
        refine R_if dd_cutAll_176 rfl rfl (fun (c8 : 0 = 0) => ?_) (fun (c8 : 0 ≠ 0) => ?_)
        · skip
          exact k
        · exact absurd c8 (by omega)
      · replace k := k.2 c7
        refine R_ic dd_isDigit_12 (by decide) rfl ?_
        refine R_goto dd_isDigit_13 rfl ?_
        refine R_zret dd_isDigit_17 rfl (by decide) ?_
        change Rn xs xl e mm_cutAll 176 [some (.inr (.inr 182)), some (.inl v1), some (.inl v2), some (.inl v3), some (.inl v4), some (.inr (.inl v5)), none] [.inl 1] h _
        refine R_if dd_cutAll_176 rfl rfl (fun (c9 : 1 = 0) => ?_) (fun (c9 : 1 ≠ 0) => ?_)
        · exact absurd c9 (by omega)
        · skip
          refine R_ld (v := .inl v2) dd_cutAll_179 rfl rfl rfl rfl ?_
          refine R_ld (v := .inl v4) dd_cutAll_180 rfl rfl rfl rfl ?_
          obtain ⟨s2, k⟩ := k
          refine R_isub (c := v2 - v4) dd_cutAll_182 (by omega) s2 rfl ?_
          refine R_ic dd_cutAll_183 (by decide) rfl ?_
          refine R_icmp dd_cutAll_184 rfl rfl (fun (c10 : 4 ≤ (v2 - v4)) => ?_) (fun (c10 : (v2 - v4) < 4) => ?_)
          · replace k := k.1 c10
            refine R_ld (v := .inr (.inl v5)) dd_cutAll_208 rfl rfl rfl rfl ?_
            refine R_st (ls' := [some (.inr (.inr 182)), some (.inl v1), some (.inl v2), some (.inl v3), some (.inl v4), some (.inr (.inl v5)), none]) dd_cutAll_210 rfl rfl rfl (Nat.le_of_ble_eq_true rfl) rfl rfl ?_
            exact k
          · replace k := k.2 c10
            refine R_C (v := .inr (.inl (10))) dd_cutAll_187 rfl rfl (by decide +kernel) rfl ?_
            refine R_ld (v := .inr (.inl v5)) dd_cutAll_190 rfl rfl rfl rfl ?_
            refine R_A dd_cutAll_192 rfl rfl rfl rfl ?_
            refine R_ld (v := .inr (.inr 182)) dd_cutAll_193 rfl rfl rfl rfl ?_
            refine R_gf (v := .inr (.inr 183)) dd_cutAll_194 fd_12_14 io_182 (congrArg (fun z : Int => (Sum.inr (Sum.inr z) : LV)) (rf_182_1 hF)) rfl ?_
            refine R_ld (v := .inl v2) dd_cutAll_197 rfl rfl rfl rfl ?_
            obtain ⟨s3, k⟩ := k
            refine R_iald (v := (rd h 183 v2)) (n := 1000) dd_cutAll_198 ia_183 la_183 s3 (rfl) rfl ?_
            refine R_A dd_cutAll_199 rfl rfl rfl rfl ?_
            refine R_A dd_cutAll_200 rfl rfl rfl rfl ?_
            refine R_C (v := .inr (.inl (48))) dd_cutAll_201 rfl rfl (by decide +kernel) rfl ?_
            refine R_A dd_cutAll_204 rfl rfl rfl rfl ?_
            refine R_goto dd_cutAll_205 rfl ?_
            refine R_st (ls' := [some (.inr (.inr 182)), some (.inl v1), some (.inl v2), some (.inl v3), some (.inl v4), some (.inr (.inl (w64 ((w64 ((w64 ((10) * v5)) + (rd h 183 v2))) - (48))))), none]) dd_cutAll_210 rfl rfl rfl (Nat.le_of_ble_eq_true rfl) rfl rfl ?_
            exact k
theorem B_cutAll_212 {xs : Nat → Int} {xl e : Nat} {h : LH} {Q : Option LV → LH → Prop} {v1 v2 v3 v4 v5 : Int} (hF : RF h)
    (k : (-2147483648 ≤ v2 + 1 ∧ v2 + 1 ≤ 2147483647) ∧
      Rn xs xl e mm_cutAll 159 [some (.inr (.inr 182)), some (.inl v1), some (.inl (v2 + 1)), some (.inl v3), some (.inl v4), some (.inr (.inl v5)), none] [] h Q) :
    Rn xs xl e mm_cutAll 212 [some (.inr (.inr 182)), some (.inl v1), some (.inl v2), some (.inl v3), some (.inl v4), some (.inr (.inl v5)), none] [] h Q := by
  obtain ⟨s1, k⟩ := k
  refine R_inc (y := v2 + 1) (ls' := [some (.inr (.inr 182)), some (.inl v1), some (.inl (v2 + 1)), some (.inl v3), some (.inl v4), some (.inr (.inl v5)), none]) dd_cutAll_212 rfl (by decide) (by omega) s1 rfl rfl ?_
  refine R_goto dd_cutAll_215 rfl ?_
  exact k
theorem B_cutAll_218 {xs : Nat → Int} {xl e : Nat} {h : LH} {Q : Option LV → LH → Prop} {v1 v2 v3 v4 v5 : Int} (hF : RF h)
    (k : (-2147483648 ≤ v2 - v4 ∧ v2 - v4 ≤ 2147483647) ∧
      ((v2 - v4) ≤ 4 →
        (0 ≤ v1 ∧ v1 < 1002) ∧
        Rn xs xl e mm_cutAll 265 [some (.inr (.inr 182)), some (.inl v1), some (.inl v2), some (.inl v3), some (.inl v4), some (.inr (.inl v5)), none] [] (wr h 184 v1 2) Q) ∧
      (4 < (v2 - v4) →
        (0 ≤ v1 ∧ v1 < 1002) ∧
        Rn xs xl e mm_cutAll 265 [some (.inr (.inr 182)), some (.inl v1), some (.inl v2), some (.inl v3), some (.inl v4), some (.inr (.inl v5)), none] [] (wr h 184 v1 4) Q)) :
    Rn xs xl e mm_cutAll 218 [some (.inr (.inr 182)), some (.inl v1), some (.inl v2), some (.inl v3), some (.inl v4), some (.inr (.inl v5)), none] [] h Q := by
  refine R_ld (v := .inr (.inr 182)) dd_cutAll_218 rfl rfl rfl rfl ?_
  refine R_gf (v := .inr (.inr 184)) dd_cutAll_219 fd_12_24 io_182 (congrArg (fun z : Int => (Sum.inr (Sum.inr z) : LV)) (rf_182_4 hF)) rfl ?_
  refine R_ld (v := .inl v1) dd_cutAll_222 rfl rfl rfl rfl ?_
  refine R_ld (v := .inl v2) dd_cutAll_223 rfl rfl rfl rfl ?_
  refine R_ld (v := .inl v4) dd_cutAll_224 rfl rfl rfl rfl ?_
  obtain ⟨s1, k⟩ := k
  refine R_isub (c := v2 - v4) dd_cutAll_226 (by omega) s1 rfl ?_
  refine R_ic dd_cutAll_227 (by decide) rfl ?_
  refine R_icmp dd_cutAll_228 rfl rfl (fun (c4 : (v2 - v4) ≤ 4) => ?_) (fun (c4 : 4 < (v2 - v4)) => ?_)
  · replace k := k.1 c4
    refine R_ic dd_cutAll_235 (by decide) rfl ?_
    obtain ⟨s2, k⟩ := k
    refine R_iast (n := 1002) dd_cutAll_236 ia_184 la_184 s2 rfl ?_
    refine R_goto dd_cutAll_237 rfl ?_
    exact k
  · replace k := k.2 c4
    refine R_ic dd_cutAll_231 (by decide) rfl ?_
    refine R_goto dd_cutAll_232 rfl ?_
    obtain ⟨s3, k⟩ := k
    refine R_iast (n := 1002) dd_cutAll_236 ia_184 la_184 s3 rfl ?_
    refine R_goto dd_cutAll_237 rfl ?_
    exact k
theorem B_cutAll_240 {xs : Nat → Int} {xl e : Nat} {h : LH} {Q : Option LV → LH → Prop} {v1 v2 v3 v4 v5 : Int} (hF : RF h)
    (k : (∃ c, c < e ∧ Rn xs xl c mm_isSignOf 0 [some (.inl v3)] [] h (fun r h' => Rn xs xl e mm_cutAll 253 [some (.inr (.inr 182)), some (.inl v1), some (.inl v2), some (.inl v3), some (.inl v4), some (.inr (.inl v3)), none] (r.toList ++ [.inl v1, .inr (.inr 184)]) h' Q))) :
    Rn xs xl e mm_cutAll 240 [some (.inr (.inr 182)), some (.inl v1), some (.inl v2), some (.inl v3), some (.inl v4), some (.inr (.inl v5)), none] [] h Q := by
  refine R_ld (v := .inl v3) dd_cutAll_240 rfl rfl rfl rfl ?_
  refine R_A dd_cutAll_241 rfl rfl rfl rfl ?_
  refine R_st (ls' := [some (.inr (.inr 182)), some (.inl v1), some (.inl v2), some (.inl v3), some (.inl v4), some (.inr (.inl v3)), none]) dd_cutAll_242 rfl rfl rfl (Nat.le_of_ble_eq_true rfl) rfl rfl ?_
  refine R_ld (v := .inr (.inr 182)) dd_cutAll_244 rfl rfl rfl rfl ?_
  refine R_gf (v := .inr (.inr 184)) dd_cutAll_245 fd_12_24 io_182 (congrArg (fun z : Int => (Sum.inr (Sum.inr z) : LV)) (rf_182_4 hF)) rfl ?_
  refine R_ld (v := .inl v1) dd_cutAll_248 rfl rfl rfl rfl ?_
  refine R_ld (v := .inl v3) dd_cutAll_249 rfl rfl rfl rfl ?_
  obtain ⟨c, hc, k⟩ := k
  exact R_call (as := [.inl v3]) (rest := [.inl v1, .inr (.inr 184)]) (M' := mm_isSignOf) (ls0 := [some (.inl v3)]) dd_cutAll_250 rfl rfl (cw_s cw_12_204 rfl rfl (Nat.le_of_ble_eq_true rfl) (Nat.le_of_ble_eq_true rfl)) mt_isSignOf rfl hc rfl k
theorem B_cutAll_253 {xs : Nat → Int} {xl e : Nat} {h : LH} {Q : Option LV → LH → Prop} {v1 v2 v3 v4 v5 w1 w2 : Int} (hF : RF h)
    (k : (w2 = 0 →
        (0 ≤ w1 ∧ w1 < 1002) ∧
        (-2147483648 ≤ v2 + 1 ∧ v2 + 1 ≤ 2147483647) ∧
        Rn xs xl e mm_cutAll 265 [some (.inr (.inr 182)), some (.inl v1), some (.inl (v2 + 1)), some (.inl v3), some (.inl v4), some (.inr (.inl v5)), none] [] (wr h 184 w1 4) Q) ∧
      (w2 ≠ 0 →
        (0 ≤ w1 ∧ w1 < 1002) ∧
        (-2147483648 ≤ v2 + 1 ∧ v2 + 1 ≤ 2147483647) ∧
        Rn xs xl e mm_cutAll 265 [some (.inr (.inr 182)), some (.inl v1), some (.inl (v2 + 1)), some (.inl v3), some (.inl v4), some (.inr (.inl v5)), none] [] (wr h 184 w1 3) Q)) :
    Rn xs xl e mm_cutAll 253 [some (.inr (.inr 182)), some (.inl v1), some (.inl v2), some (.inl v3), some (.inl v4), some (.inr (.inl v5)), none] [.inl w2, .inl w1, .inr (.inr 184)] h Q := by
  refine R_if dd_cutAll_253 rfl rfl (fun (c5 : w2 = 0) => ?_) (fun (c5 : w2 ≠ 0) => ?_)
  · replace k := k.1 c5
    refine R_ic dd_cutAll_260 (by decide) rfl ?_
    obtain ⟨s1, k⟩ := k
    refine R_iast (n := 1002) dd_cutAll_261 ia_184 la_184 s1 rfl ?_
    obtain ⟨s2, k⟩ := k
    refine R_inc (y := v2 + 1) (ls' := [some (.inr (.inr 182)), some (.inl v1), some (.inl (v2 + 1)), some (.inl v3), some (.inl v4), some (.inr (.inl v5)), none]) dd_cutAll_262 rfl (by decide) (by omega) s2 rfl rfl ?_
    exact k
  · replace k := k.2 c5
    refine R_ic dd_cutAll_256 (by decide) rfl ?_
    refine R_goto dd_cutAll_257 rfl ?_
    obtain ⟨s3, k⟩ := k
    refine R_iast (n := 1002) dd_cutAll_261 ia_184 la_184 s3 rfl ?_
    obtain ⟨s4, k⟩ := k
    refine R_inc (y := v2 + 1) (ls' := [some (.inr (.inr 182)), some (.inl v1), some (.inl (v2 + 1)), some (.inl v3), some (.inl v4), some (.inr (.inl v5)), none]) dd_cutAll_262 rfl (by decide) (by omega) s4 rfl rfl ?_
    exact k
theorem B_cutAll_265 {xs : Nat → Int} {xl e : Nat} {h : LH} {Q : Option LV → LH → Prop} {v1 v2 v3 v4 v5 : Int} (hF : RF h)
    (k : (0 ≤ v1 ∧ v1 < 1002) ∧
      (-2147483648 ≤ v1 + 1 ∧ v1 + 1 ≤ 2147483647) ∧
      Rn xs xl e mm_cutAll 17 [some (.inr (.inr 182)), some (.inl (v1 + 1)), some (.inl v2), some (.inl v3), some (.inl v4), some (.inr (.inl v5)), none] [] (wr h 186 v1 v5) Q) :
    Rn xs xl e mm_cutAll 265 [some (.inr (.inr 182)), some (.inl v1), some (.inl v2), some (.inl v3), some (.inl v4), some (.inr (.inl v5)), none] [] h Q := by
  refine R_ld (v := .inr (.inr 182)) dd_cutAll_265 rfl rfl rfl rfl ?_
  refine R_gf (v := .inr (.inr 186)) dd_cutAll_266 fd_12_30 io_182 (congrArg (fun z : Int => (Sum.inr (Sum.inr z) : LV)) (rf_182_6 hF)) rfl ?_
  refine R_ld (v := .inl v1) dd_cutAll_269 rfl rfl rfl rfl ?_
  refine R_ld (v := .inr (.inl v5)) dd_cutAll_270 rfl rfl rfl rfl ?_
  obtain ⟨s1, k⟩ := k
  refine R_last (n := 1002) dd_cutAll_272 ia_186 la_186 s1 rfl ?_
  obtain ⟨s2, k⟩ := k
  refine R_inc (y := v1 + 1) (ls' := [some (.inr (.inr 182)), some (.inl (v1 + 1)), some (.inl v2), some (.inl v3), some (.inl v4), some (.inr (.inl v5)), none]) dd_cutAll_273 rfl (by decide) (by omega) s2 rfl rfl ?_
  refine R_goto dd_cutAll_276 rfl ?_
  exact k
theorem B_quarter_0 {xs : Nat → Int} {xl e : Nat} {h : LH} {Q : Option LV → LH → Prop} (hF : RF h)
    (k : (∃ c, c < e ∧ Rn xs xl c mm_cutAll 0 [some (.inr (.inr 182)), none, none, none, none, none, none] [] (wr h 182 0 0) (fun r h' => Rn xs xl e mm_quarter 9 [some (.inr (.inr 182)), none] (r.toList ++ []) h' Q))) :
    Rn xs xl e mm_quarter 0 [some (.inr (.inr 182)), none] [] h Q := by
  refine R_ld (v := .inr (.inr 182)) dd_quarter_0 rfl rfl rfl rfl ?_
  refine R_ic dd_quarter_1 (by decide) rfl ?_
  refine R_pf (z := 0) dd_quarter_2 fd_12_1 io_182 fn_12_0 rfl rfl ?_
  refine R_ld (v := .inr (.inr 182)) dd_quarter_5 rfl rfl rfl rfl ?_
  obtain ⟨c, hc, k⟩ := k
  exact R_call (as := [.inr (.inr 182)]) (rest := []) (M' := mm_cutAll) (ls0 := [some (.inr (.inr 182)), none, none, none, none, none, none]) dd_quarter_6 rfl rfl (cw_v cw_12_241 io_182 rfl rfl (Nat.le_of_ble_eq_true rfl) (Nat.le_of_ble_eq_true rfl)) mt_cutAll rfl hc rfl k
theorem B_quarter_9 {xs : Nat → Int} {xl e : Nat} {h : LH} {Q : Option LV → LH → Prop} (hF : RF h)
    (k : (∃ c, c < e ∧ Rn xs xl c mm_standsAsAlways 0 [some (.inr (.inr 182)), some (.inl 150), none] [] (wr (wr h 182 13 0) 182 19 0) (fun r h' => Rn xs xl e mm_quarter 26 [some (.inr (.inr 182)), none] (r.toList ++ []) h' Q))) :
    Rn xs xl e mm_quarter 9 [some (.inr (.inr 182)), none] [] h Q := by
  refine R_ld (v := .inr (.inr 182)) dd_quarter_9 rfl rfl rfl rfl ?_
  refine R_ic dd_quarter_10 (by decide) rfl ?_
  refine R_pf (z := 0) dd_quarter_11 fd_12_244 io_182 fn_12_13 rfl rfl ?_
  refine R_ld (v := .inr (.inr 182)) dd_quarter_14 rfl rfl rfl rfl ?_
  refine R_ic dd_quarter_15 (by decide) rfl ?_
  refine R_pf (z := 0) dd_quarter_16 fd_12_235 io_182 fn_12_19 rfl rfl ?_
  refine R_ld (v := .inr (.inr 182)) dd_quarter_19 rfl rfl rfl rfl ?_
  refine R_si dd_quarter_20 (by decide) rfl ?_
  obtain ⟨c, hc, k⟩ := k
  exact R_call (as := [.inr (.inr 182), .inl 150]) (rest := []) (M' := mm_standsAsAlways) (ls0 := [some (.inr (.inr 182)), some (.inl 150), none]) dd_quarter_23 rfl rfl (cw_v cw_12_177 io_182 rfl rfl (Nat.le_of_ble_eq_true rfl) (Nat.le_of_ble_eq_true rfl)) mt_standsAsAlways rfl hc rfl k
theorem B_quarter_26 {xs : Nat → Int} {xl e : Nat} {h : LH} {Q : Option LV → LH → Prop} (hF : RF h)
    (k : (∃ c, c < e ∧ Rn xs xl c mm_takeWord 0 [some (.inr (.inr 182)), some (.inl 0)] [] h (fun r h' => Rn xs xl e mm_quarter 31 [some (.inr (.inr 182)), none] (r.toList ++ []) h' Q))) :
    Rn xs xl e mm_quarter 26 [some (.inr (.inr 182)), none] [] h Q := by
  refine R_ld (v := .inr (.inr 182)) dd_quarter_26 rfl rfl rfl rfl ?_
  refine R_ic dd_quarter_27 (by decide) rfl ?_
  obtain ⟨c, hc, k⟩ := k
  exact R_call (as := [.inr (.inr 182), .inl 0]) (rest := []) (M' := mm_takeWord) (ls0 := [some (.inr (.inr 182)), some (.inl 0)]) dd_quarter_28 rfl rfl (cw_v cw_12_225 io_182 rfl rfl (Nat.le_of_ble_eq_true rfl) (Nat.le_of_ble_eq_true rfl)) mt_takeWord rfl hc rfl k
theorem B_quarter_31 {xs : Nat → Int} {xl e : Nat} {h : LH} {Q : Option LV → LH → Prop} (hF : RF h)
    (k : (∃ c, c < e ∧ Rn xs xl c mm_takeNumber 0 [some (.inr (.inr 182)), some (.inl 2), some (.inl 10)] [] h (fun r h' => Rn xs xl e mm_quarter 45 [some (.inr (.inr 182)), none] (r.toList ++ [.inl 150, .inr (.inr 188)]) h' Q))) :
    Rn xs xl e mm_quarter 31 [some (.inr (.inr 182)), none] [] h Q := by
  refine R_ld (v := .inr (.inr 182)) dd_quarter_31 rfl rfl rfl rfl ?_
  refine R_gf (v := .inr (.inr 188)) dd_quarter_32 fd_12_95 io_182 (congrArg (fun z : Int => (Sum.inr (Sum.inr z) : LV)) (rf_182_10 hF)) rfl ?_
  refine R_si dd_quarter_35 (by decide) rfl ?_
  refine R_ld (v := .inr (.inr 182)) dd_quarter_38 rfl rfl rfl rfl ?_
  refine R_ic dd_quarter_39 (by decide) rfl ?_
  refine R_bi dd_quarter_40 (by decide) rfl ?_
  obtain ⟨c, hc, k⟩ := k
  exact R_call (as := [.inr (.inr 182), .inl 2, .inl 10]) (rest := [.inl 150, .inr (.inr 188)]) (M' := mm_takeNumber) (ls0 := [some (.inr (.inr 182)), some (.inl 2), some (.inl 10)]) dd_quarter_42 rfl rfl (cw_v cw_12_228 io_182 rfl rfl (Nat.le_of_ble_eq_true rfl) (Nat.le_of_ble_eq_true rfl)) mt_takeNumber rfl hc rfl k
theorem B_quarter_45 {xs : Nat → Int} {xl e : Nat} {h : LH} {Q : Option LV → LH → Prop} {w2 : Int} (hF : RF h)
    (k : (∃ c, c < e ∧ Rn xs xl c mm_takeSign 0 [some (.inr (.inr 182)), some (.inl 59)] [] (wr h 188 150 w2) (fun r h' => Rn xs xl e mm_quarter 52 [some (.inr (.inr 182)), none] (r.toList ++ []) h' Q))) :
    Rn xs xl e mm_quarter 45 [some (.inr (.inr 182)), none] [.inl w2, .inl 150, .inr (.inr 188)] h Q := by
  refine R_iast (n := 300) dd_quarter_45 ia_188 la_188 (by decide) rfl ?_
  refine R_ld (v := .inr (.inr 182)) dd_quarter_46 rfl rfl rfl rfl ?_
  refine R_bi dd_quarter_47 (by decide) rfl ?_
  obtain ⟨c, hc, k⟩ := k
  exact R_call (as := [.inr (.inr 182), .inl 59]) (rest := []) (M' := mm_takeSign) (ls0 := [some (.inr (.inr 182)), some (.inl 59)]) dd_quarter_49 rfl rfl (cw_v cw_12_247 io_182 rfl rfl (Nat.le_of_ble_eq_true rfl) (Nat.le_of_ble_eq_true rfl)) mt_takeSign rfl hc rfl k
theorem B_quarter_52 {xs : Nat → Int} {xl e : Nat} {h : LH} {Q : Option LV → LH → Prop} (hF : RF h)
    (k : ((rd h 182 8) ≠ 0 →
        Rn xs xl e mm_quarter 115 [some (.inr (.inr 182)), none] [] h Q) ∧
      ((rd h 182 8) = 0 →
        (0 ≤ (rd h 182 7) ∧ (rd h 182 7) < 1002) ∧
        ((rd h 184 (rd h 182 7)) = 0 →
          Rn xs xl e mm_quarter 115 [some (.inr (.inr 182)), none] [] h Q) ∧
        ((rd h 184 (rd h 182 7)) ≠ 0 →
          (∃ c, c < e ∧ Rn xs xl c mm_isWord 0 [some (.inr (.inr 182)), some (.inl 1)] [] h (fun r h' => Rn xs xl e mm_quarter 76 [some (.inr (.inr 182)), none] (r.toList ++ []) h' Q))))) :
    Rn xs xl e mm_quarter 52 [some (.inr (.inr 182)), none] [] h Q := by
  refine R_ld (v := .inr (.inr 182)) dd_quarter_52 rfl rfl rfl rfl ?_
  refine R_gf (v := .inl (rd h 182 8)) dd_quarter_53 fd_12_210 io_182 (congrArg (fun z : Int => (Sum.inl z : LV)) (rfl)) rfl ?_
  refine R_if dd_quarter_56 rfl rfl (fun (c3 : (rd h 182 8) ≠ 0) => ?_) (fun (c3 : (rd h 182 8) = 0) => ?_)
  · replace k := k.1 c3
    exact k
  · replace k := k.2 c3
    refine R_ld (v := .inr (.inr 182)) dd_quarter_59 rfl rfl rfl rfl ?_
    refine R_gf (v := .inr (.inr 184)) dd_quarter_60 fd_12_24 io_182 (congrArg (fun z : Int => (Sum.inr (Sum.inr z) : LV)) (rf_182_4 hF)) rfl ?_
    refine R_ld (v := .inr (.inr 182)) dd_quarter_63 rfl rfl rfl rfl ?_
    refine R_gf (v := .inl (rd h 182 7)) dd_quarter_64 fd_12_207 io_182 (congrArg (fun z : Int => (Sum.inl z : LV)) (rfl)) rfl ?_
    obtain ⟨s1, k⟩ := k
    refine R_iald (v := (rd h 184 (rd h 182 7))) (n := 1002) dd_quarter_67 ia_184 la_184 s1 (rfl) rfl ?_
    refine R_if dd_quarter_68 rfl rfl (fun (c4 : (rd h 184 (rd h 182 7)) = 0) => ?_) (fun (c4 : (rd h 184 (rd h 182 7)) ≠ 0) => ?_)
    · replace k := k.1 c4
      exact k
    · replace k := k.2 c4
      refine R_ld (v := .inr (.inr 182)) dd_quarter_71 rfl rfl rfl rfl ?_
      refine R_ic dd_quarter_72 (by decide) rfl ?_
      obtain ⟨c, hc, k⟩ := k
      exact R_call (as := [.inr (.inr 182), .inl 1]) (rest := []) (M' := mm_isWord) (ls0 := [some (.inr (.inr 182)), some (.inl 1)]) dd_quarter_73 rfl rfl (cw_v cw_12_219 io_182 rfl rfl (Nat.le_of_ble_eq_true rfl) (Nat.le_of_ble_eq_true rfl)) mt_isWord rfl hc rfl k
theorem B_quarter_76_1 {xs : Nat → Int} {xl e : Nat} {h : LH} {Q : Option LV → LH → Prop} (hF : RF h)
    (k : (∃ c, c < e ∧ Rn xs xl c mm_readDoor 0 [some (.inr (.inr 182)), none, none, none, none] [] h (fun r h' => Rn xs xl e mm_quarter 83 [some (.inr (.inr 182)), none] (r.toList ++ []) h' Q))) :
    Rn xs xl e mm_quarter 76 [some (.inr (.inr 182)), none] [.inl 1] h Q := by
  refine R_if dd_quarter_76 rfl rfl (fun (c2 : 1 = 0) => ?_) (fun (c2 : 1 ≠ 0) => ?_)
  · exact absurd c2 (by omega)
  · skip
    refine R_ld (v := .inr (.inr 182)) dd_quarter_79 rfl rfl rfl rfl ?_
    obtain ⟨c, hc, k⟩ := k
    exact R_call (as := [.inr (.inr 182)]) (rest := []) (M' := mm_readDoor) (ls0 := [some (.inr (.inr 182)), none, none, none, none]) dd_quarter_80 rfl rfl (cw_v cw_12_250 io_182 rfl rfl (Nat.le_of_ble_eq_true rfl) (Nat.le_of_ble_eq_true rfl)) mt_readDoor rfl hc rfl k
theorem B_quarter_76_0 {xs : Nat → Int} {xl e : Nat} {h : LH} {Q : Option LV → LH → Prop} (hF : RF h)
    (k : (∃ c, c < e ∧ Rn xs xl c mm_isWord 0 [some (.inr (.inr 182)), some (.inl 7)] [] h (fun r h' => Rn xs xl e mm_quarter 92 [some (.inr (.inr 182)), none] (r.toList ++ []) h' Q))) :
    Rn xs xl e mm_quarter 76 [some (.inr (.inr 182)), none] [.inl 0] h Q := by
  refine R_if dd_quarter_76 rfl rfl (fun (c2 : 0 = 0) => ?_) (fun (c2 : 0 ≠ 0) => ?_)
  · skip
    refine R_ld (v := .inr (.inr 182)) dd_quarter_86 rfl rfl rfl rfl ?_
    refine R_bi dd_quarter_87 (by decide) rfl ?_
    obtain ⟨c, hc, k⟩ := k
    exact R_call (as := [.inr (.inr 182), .inl 7]) (rest := []) (M' := mm_isWord) (ls0 := [some (.inr (.inr 182)), some (.inl 7)]) dd_quarter_89 rfl rfl (cw_v cw_12_219 io_182 rfl rfl (Nat.le_of_ble_eq_true rfl) (Nat.le_of_ble_eq_true rfl)) mt_isWord rfl hc rfl k
  · exact absurd c2 (by omega)
theorem B_quarter_83 {xs : Nat → Int} {xl e : Nat} {h : LH} {Q : Option LV → LH → Prop} (hF : RF h)
    (k : Rn xs xl e mm_quarter 106 [some (.inr (.inr 182)), none] [] h Q) :
    Rn xs xl e mm_quarter 83 [some (.inr (.inr 182)), none] [] h Q := by
  refine R_goto dd_quarter_83 rfl ?_
  exact k
theorem B_quarter_92_1 {xs : Nat → Int} {xl e : Nat} {h : LH} {Q : Option LV → LH → Prop} (hF : RF h)
    (k : (∃ c, c < e ∧ Rn xs xl c mm_readPerson 0 [some (.inr (.inr 182)), none, none] [] h (fun r h' => Rn xs xl e mm_quarter 99 [some (.inr (.inr 182)), none] (r.toList ++ []) h' Q))) :
    Rn xs xl e mm_quarter 92 [some (.inr (.inr 182)), none] [.inl 1] h Q := by
  refine R_if dd_quarter_92 rfl rfl (fun (c2 : 1 = 0) => ?_) (fun (c2 : 1 ≠ 0) => ?_)
  · exact absurd c2 (by omega)
  · skip
    refine R_ld (v := .inr (.inr 182)) dd_quarter_95 rfl rfl rfl rfl ?_
    obtain ⟨c, hc, k⟩ := k
    exact R_call (as := [.inr (.inr 182)]) (rest := []) (M' := mm_readPerson) (ls0 := [some (.inr (.inr 182)), none, none]) dd_quarter_96 rfl rfl (cw_v cw_12_253 io_182 rfl rfl (Nat.le_of_ble_eq_true rfl) (Nat.le_of_ble_eq_true rfl)) mt_readPerson rfl hc rfl k
theorem B_quarter_92_0 {xs : Nat → Int} {xl e : Nat} {h : LH} {Q : Option LV → LH → Prop} (hF : RF h)
    (k : (∃ c, c < e ∧ Rn xs xl c mm_readLet 0 [some (.inr (.inr 182))] [] h (fun r h' => Rn xs xl e mm_quarter 106 [some (.inr (.inr 182)), none] (r.toList ++ []) h' Q))) :
    Rn xs xl e mm_quarter 92 [some (.inr (.inr 182)), none] [.inl 0] h Q := by
  refine R_if dd_quarter_92 rfl rfl (fun (c2 : 0 = 0) => ?_) (fun (c2 : 0 ≠ 0) => ?_)
  · skip
    refine R_ld (v := .inr (.inr 182)) dd_quarter_102 rfl rfl rfl rfl ?_
    obtain ⟨c, hc, k⟩ := k
    exact R_call (as := [.inr (.inr 182)]) (rest := []) (M' := mm_readLet) (ls0 := [some (.inr (.inr 182))]) dd_quarter_103 rfl rfl (cw_v cw_12_256 io_182 rfl rfl (Nat.le_of_ble_eq_true rfl) (Nat.le_of_ble_eq_true rfl)) mt_readLet rfl hc rfl k
  · exact absurd c2 (by omega)
theorem B_quarter_99 {xs : Nat → Int} {xl e : Nat} {h : LH} {Q : Option LV → LH → Prop} (hF : RF h)
    (k : Rn xs xl e mm_quarter 106 [some (.inr (.inr 182)), none] [] h Q) :
    Rn xs xl e mm_quarter 99 [some (.inr (.inr 182)), none] [] h Q := by
  refine R_goto dd_quarter_99 rfl ?_
  exact k
theorem B_quarter_106 {xs : Nat → Int} {xl e : Nat} {h : LH} {Q : Option LV → LH → Prop} (hF : RF h)
    (k : (∃ c, c < e ∧ Rn xs xl c mm_takeSign 0 [some (.inr (.inr 182)), some (.inl 59)] [] h (fun r h' => Rn xs xl e mm_quarter 112 [some (.inr (.inr 182)), none] (r.toList ++ []) h' Q))) :
    Rn xs xl e mm_quarter 106 [some (.inr (.inr 182)), none] [] h Q := by
  refine R_ld (v := .inr (.inr 182)) dd_quarter_106 rfl rfl rfl rfl ?_
  refine R_bi dd_quarter_107 (by decide) rfl ?_
  obtain ⟨c, hc, k⟩ := k
  exact R_call (as := [.inr (.inr 182), .inl 59]) (rest := []) (M' := mm_takeSign) (ls0 := [some (.inr (.inr 182)), some (.inl 59)]) dd_quarter_109 rfl rfl (cw_v cw_12_247 io_182 rfl rfl (Nat.le_of_ble_eq_true rfl) (Nat.le_of_ble_eq_true rfl)) mt_takeSign rfl hc rfl k
theorem B_quarter_112 {xs : Nat → Int} {xl e : Nat} {h : LH} {Q : Option LV → LH → Prop} (hF : RF h)
    (k : Rn xs xl e mm_quarter 52 [some (.inr (.inr 182)), none] [] h Q) :
    Rn xs xl e mm_quarter 112 [some (.inr (.inr 182)), none] [] h Q := by
  refine R_goto dd_quarter_112 rfl ?_
  exact k
theorem B_quarter_115 {xs : Nat → Int} {xl e : Nat} {h : LH} {Q : Option LV → LH → Prop} (hF : RF h)
    (k : ((rd h 182 8) ≤ 0 →
        Rn xs xl e mm_quarter 129 [some (.inr (.inr 182)), some (.inl 0)] [] h Q) ∧
      (0 < (rd h 182 8) →
        Q (some (.inl (rd h 182 8))) h)) :
    Rn xs xl e mm_quarter 115 [some (.inr (.inr 182)), none] [] h Q := by
  refine R_ld (v := .inr (.inr 182)) dd_quarter_115 rfl rfl rfl rfl ?_
  refine R_gf (v := .inl (rd h 182 8)) dd_quarter_116 fd_12_210 io_182 (congrArg (fun z : Int => (Sum.inl z : LV)) (rfl)) rfl ?_
  refine R_if dd_quarter_119 rfl rfl (fun (c1 : (rd h 182 8) ≤ 0) => ?_) (fun (c1 : 0 < (rd h 182 8)) => ?_)
  · replace k := k.1 c1
    refine R_ic dd_quarter_127 (by decide) rfl ?_
    refine R_st (ls' := [some (.inr (.inr 182)), some (.inl 0)]) dd_quarter_128 rfl rfl rfl (Nat.le_of_ble_eq_true rfl) rfl rfl ?_
    exact k
  · replace k := k.2 c1
    refine R_ld (v := .inr (.inr 182)) dd_quarter_122 rfl rfl rfl rfl ?_
    refine R_gf (v := .inl (rd h 182 8)) dd_quarter_123 fd_12_210 io_182 (congrArg (fun z : Int => (Sum.inl z : LV)) (rfl)) rfl ?_
    exact R_iret dd_quarter_126 rfl k
theorem B_quarter_129 {xs : Nat → Int} {xl e : Nat} {h : LH} {Q : Option LV → LH → Prop} {v1 : Int} (hF : RF h)
    (k : (150 ≤ v1 →
        Rn xs xl e mm_quarter 160 [some (.inr (.inr 182)), some (.inl 0)] [] h Q) ∧
      (v1 < 150 →
        (-2147483648 ≤ v1 + 150 ∧ v1 + 150 ≤ 2147483647) ∧
        (0 ≤ v1 + 150 ∧ v1 + 150 < 300) ∧
        (0 ≤ v1 ∧ v1 < 300) ∧
        (-2147483648 ≤ v1 + 1 ∧ v1 + 1 ≤ 2147483647) ∧
        Rn xs xl e mm_quarter 129 [some (.inr (.inr 182)), some (.inl (v1 + 1))] [] (wr h 188 v1 (rd h 188 (v1 + 150))) Q)) :
    Rn xs xl e mm_quarter 129 [some (.inr (.inr 182)), some (.inl v1)] [] h Q := by
  refine R_ld (v := .inl v1) dd_quarter_129 rfl rfl rfl rfl ?_
  refine R_si dd_quarter_130 (by decide) rfl ?_
  refine R_icmp dd_quarter_133 rfl rfl (fun (c5 : 150 ≤ v1) => ?_) (fun (c5 : v1 < 150) => ?_)
  · replace k := k.1 c5
    refine R_ic dd_quarter_158 (by decide) rfl ?_
    refine R_st (ls' := [some (.inr (.inr 182)), some (.inl 0)]) dd_quarter_159 rfl rfl rfl (Nat.le_of_ble_eq_true rfl) rfl rfl ?_
    exact k
  · replace k := k.2 c5
    refine R_ld (v := .inr (.inr 182)) dd_quarter_136 rfl rfl rfl rfl ?_
    refine R_gf (v := .inr (.inr 188)) dd_quarter_137 fd_12_95 io_182 (congrArg (fun z : Int => (Sum.inr (Sum.inr z) : LV)) (rf_182_10 hF)) rfl ?_
    refine R_ld (v := .inl v1) dd_quarter_140 rfl rfl rfl rfl ?_
    refine R_ld (v := .inr (.inr 182)) dd_quarter_141 rfl rfl rfl rfl ?_
    refine R_gf (v := .inr (.inr 188)) dd_quarter_142 fd_12_95 io_182 (congrArg (fun z : Int => (Sum.inr (Sum.inr z) : LV)) (rf_182_10 hF)) rfl ?_
    refine R_si dd_quarter_145 (by decide) rfl ?_
    refine R_ld (v := .inl v1) dd_quarter_148 rfl rfl rfl rfl ?_
    obtain ⟨s1, k⟩ := k
    refine R_iadd (c := v1 + 150) dd_quarter_149 (by omega) s1 rfl ?_
    obtain ⟨s2, k⟩ := k
    refine R_iald (v := (rd h 188 (v1 + 150))) (n := 300) dd_quarter_150 ia_188 la_188 s2 (rfl) rfl ?_
    obtain ⟨s3, k⟩ := k
    refine R_iast (n := 300) dd_quarter_151 ia_188 la_188 s3 rfl ?_
    obtain ⟨s4, k⟩ := k
    refine R_inc (y := v1 + 1) (ls' := [some (.inr (.inr 182)), some (.inl (v1 + 1))]) dd_quarter_152 rfl (by decide) (by omega) s4 rfl rfl ?_
    refine R_goto dd_quarter_155 rfl ?_
    exact k
theorem B_quarter_160 {xs : Nat → Int} {xl e : Nat} {h : LH} {Q : Option LV → LH → Prop} {v1 : Int} (hF : RF h)
    (k : ((rd h 182 13) ≤ v1 →
        Rn xs xl e mm_quarter 208 [some (.inr (.inr 182)), some (.inl 0)] [] h Q) ∧
      (v1 < (rd h 182 13) →
        (-2147483648 ≤ v1 + 1100 ∧ v1 + 1100 ≤ 2147483647) ∧
        (0 ≤ v1 + 1100 ∧ v1 + 1100 < 2200) ∧
        (0 ≤ v1 ∧ v1 < 2200) ∧
        (-2147483648 ≤ v1 + 1100 ∧ v1 + 1100 ≤ 2147483647) ∧
        (0 ≤ v1 + 1100 ∧ v1 + 1100 < 2200) ∧
        (0 ≤ v1 ∧ v1 < 2200) ∧
        (-2147483648 ≤ v1 + 1 ∧ v1 + 1 ≤ 2147483647) ∧
        Rn xs xl e mm_quarter 160 [some (.inr (.inr 182)), some (.inl (v1 + 1))] [] (wr (wr h 189 v1 (rd h 189 (v1 + 1100))) 190 v1 (rd h 190 (v1 + 1100))) Q)) :
    Rn xs xl e mm_quarter 160 [some (.inr (.inr 182)), some (.inl v1)] [] h Q := by
  refine R_ld (v := .inl v1) dd_quarter_160 rfl rfl rfl rfl ?_
  refine R_ld (v := .inr (.inr 182)) dd_quarter_161 rfl rfl rfl rfl ?_
  refine R_gf (v := .inl (rd h 182 13)) dd_quarter_162 fd_12_244 io_182 (congrArg (fun z : Int => (Sum.inl z : LV)) (rfl)) rfl ?_
  refine R_icmp dd_quarter_165 rfl rfl (fun (c8 : (rd h 182 13) ≤ v1) => ?_) (fun (c8 : v1 < (rd h 182 13)) => ?_)
  · replace k := k.1 c8
    refine R_ic dd_quarter_206 (by decide) rfl ?_
    refine R_st (ls' := [some (.inr (.inr 182)), some (.inl 0)]) dd_quarter_207 rfl rfl rfl (Nat.le_of_ble_eq_true rfl) rfl rfl ?_
    exact k
  · replace k := k.2 c8
    refine R_ld (v := .inr (.inr 182)) dd_quarter_168 rfl rfl rfl rfl ?_
    refine R_gf (v := .inr (.inr 189)) dd_quarter_169 fd_12_98 io_182 (congrArg (fun z : Int => (Sum.inr (Sum.inr z) : LV)) (rf_182_11 hF)) rfl ?_
    refine R_ld (v := .inl v1) dd_quarter_172 rfl rfl rfl rfl ?_
    refine R_ld (v := .inr (.inr 182)) dd_quarter_173 rfl rfl rfl rfl ?_
    refine R_gf (v := .inr (.inr 189)) dd_quarter_174 fd_12_98 io_182 (congrArg (fun z : Int => (Sum.inr (Sum.inr z) : LV)) (rf_182_11 hF)) rfl ?_
    refine R_si dd_quarter_177 (by decide) rfl ?_
    refine R_ld (v := .inl v1) dd_quarter_180 rfl rfl rfl rfl ?_
    obtain ⟨s1, k⟩ := k
    refine R_iadd (c := v1 + 1100) dd_quarter_181 (by omega) s1 rfl ?_
    obtain ⟨s2, k⟩ := k
    refine R_iald (v := (rd h 189 (v1 + 1100))) (n := 2200) dd_quarter_182 ia_189 la_189 s2 (rfl) rfl ?_
    obtain ⟨s3, k⟩ := k
    refine R_iast (n := 2200) dd_quarter_183 ia_189 la_189 s3 rfl ?_
    refine R_ld (v := .inr (.inr 182)) dd_quarter_184 rfl rfl rfl rfl ?_
    refine R_gf (v := .inr (.inr 190)) dd_quarter_185 fd_12_101 io_182 (congrArg (fun z : Int => (Sum.inr (Sum.inr z) : LV)) ((rdw_ne (by decide)).trans (rf_182_12 hF))) rfl ?_
    refine R_ld (v := .inl v1) dd_quarter_188 rfl rfl rfl rfl ?_
    refine R_ld (v := .inr (.inr 182)) dd_quarter_189 rfl rfl rfl rfl ?_
    refine R_gf (v := .inr (.inr 190)) dd_quarter_190 fd_12_101 io_182 (congrArg (fun z : Int => (Sum.inr (Sum.inr z) : LV)) ((rdw_ne (by decide)).trans (rf_182_12 hF))) rfl ?_
    refine R_si dd_quarter_193 (by decide) rfl ?_
    refine R_ld (v := .inl v1) dd_quarter_196 rfl rfl rfl rfl ?_
    obtain ⟨s4, k⟩ := k
    refine R_iadd (c := v1 + 1100) dd_quarter_197 (by omega) s4 rfl ?_
    obtain ⟨s5, k⟩ := k
    refine R_iald (v := (rd h 190 (v1 + 1100))) (n := 2200) dd_quarter_198 ia_190 la_190 s5 (rdw_ne (by decide)) rfl ?_
    obtain ⟨s6, k⟩ := k
    refine R_iast (n := 2200) dd_quarter_199 ia_190 la_190 s6 rfl ?_
    obtain ⟨s7, k⟩ := k
    refine R_inc (y := v1 + 1) (ls' := [some (.inr (.inr 182)), some (.inl (v1 + 1))]) dd_quarter_200 rfl (by decide) (by omega) s7 rfl rfl ?_
    refine R_goto dd_quarter_203 rfl ?_
    exact k
theorem B_quarter_208 {xs : Nat → Int} {xl e : Nat} {h : LH} {Q : Option LV → LH → Prop} {v1 : Int} (hF : RF h)
    (k : ((rd h 182 19) ≤ v1 →
        (∃ c, c < e ∧ Rn xs xl c mm_begins 0 [some (.inr (.inr 182)), none] [] (wr h 182 18 (rd h 182 19)) (fun r h' => Rn xs xl e mm_quarter 258 [some (.inr (.inr 182)), some (.inl v1)] (r.toList ++ []) h' Q))) ∧
      (v1 < (rd h 182 19) →
        (0 ≤ v1 ∧ v1 < 20) ∧
        (0 ≤ v1 ∧ v1 < 20) ∧
        (0 ≤ v1 ∧ v1 < 20) ∧
        (0 ≤ v1 ∧ v1 < 20) ∧
        (-2147483648 ≤ v1 + 1 ∧ v1 + 1 ≤ 2147483647) ∧
        Rn xs xl e mm_quarter 208 [some (.inr (.inr 182)), some (.inl (v1 + 1))] [] (wr (wr h 191 v1 (rd h 192 v1)) 193 v1 (rd h 194 v1)) Q)) :
    Rn xs xl e mm_quarter 208 [some (.inr (.inr 182)), some (.inl v1)] [] h Q := by
  refine R_ld (v := .inl v1) dd_quarter_208 rfl rfl rfl rfl ?_
  refine R_ld (v := .inr (.inr 182)) dd_quarter_209 rfl rfl rfl rfl ?_
  refine R_gf (v := .inl (rd h 182 19)) dd_quarter_210 fd_12_235 io_182 (congrArg (fun z : Int => (Sum.inl z : LV)) (rfl)) rfl ?_
  refine R_icmp dd_quarter_213 rfl rfl (fun (c7 : (rd h 182 19) ≤ v1) => ?_) (fun (c7 : v1 < (rd h 182 19)) => ?_)
  · replace k := k.1 c7
    refine R_ld (v := .inr (.inr 182)) dd_quarter_246 rfl rfl rfl rfl ?_
    refine R_ld (v := .inr (.inr 182)) dd_quarter_247 rfl rfl rfl rfl ?_
    refine R_gf (v := .inl (rd h 182 19)) dd_quarter_248 fd_12_235 io_182 (congrArg (fun z : Int => (Sum.inl z : LV)) (rfl)) rfl ?_
    refine R_pf (z := (rd h 182 19)) dd_quarter_251 fd_12_238 io_182 fn_12_18 rfl rfl ?_
    refine R_ld (v := .inr (.inr 182)) dd_quarter_254 rfl rfl rfl rfl ?_
    obtain ⟨c, hc, k⟩ := k
    exact R_call (as := [.inr (.inr 182)]) (rest := []) (M' := mm_begins) (ls0 := [some (.inr (.inr 182)), none]) dd_quarter_255 rfl rfl (cw_v cw_12_181 io_182 rfl rfl (Nat.le_of_ble_eq_true rfl) (Nat.le_of_ble_eq_true rfl)) mt_begins rfl hc rfl k
  · replace k := k.2 c7
    refine R_ld (v := .inr (.inr 182)) dd_quarter_216 rfl rfl rfl rfl ?_
    refine R_gf (v := .inr (.inr 191)) dd_quarter_217 fd_12_104 io_182 (congrArg (fun z : Int => (Sum.inr (Sum.inr z) : LV)) (rf_182_14 hF)) rfl ?_
    refine R_ld (v := .inl v1) dd_quarter_220 rfl rfl rfl rfl ?_
    refine R_ld (v := .inr (.inr 182)) dd_quarter_221 rfl rfl rfl rfl ?_
    refine R_gf (v := .inr (.inr 192)) dd_quarter_222 fd_12_107 io_182 (congrArg (fun z : Int => (Sum.inr (Sum.inr z) : LV)) (rf_182_15 hF)) rfl ?_
    refine R_ld (v := .inl v1) dd_quarter_225 rfl rfl rfl rfl ?_
    obtain ⟨s2, k⟩ := k
    refine R_lald (v := (rd h 192 v1)) (n := 20) dd_quarter_226 ia_192 la_192 s2 (rfl) rfl ?_
    obtain ⟨s3, k⟩ := k
    refine R_last (n := 20) dd_quarter_227 ia_191 la_191 s3 rfl ?_
    refine R_ld (v := .inr (.inr 182)) dd_quarter_228 rfl rfl rfl rfl ?_
    refine R_gf (v := .inr (.inr 193)) dd_quarter_229 fd_12_110 io_182 (congrArg (fun z : Int => (Sum.inr (Sum.inr z) : LV)) ((rdw_ne (by decide)).trans (rf_182_16 hF))) rfl ?_
    refine R_ld (v := .inl v1) dd_quarter_232 rfl rfl rfl rfl ?_
    refine R_ld (v := .inr (.inr 182)) dd_quarter_233 rfl rfl rfl rfl ?_
    refine R_gf (v := .inr (.inr 194)) dd_quarter_234 fd_12_113 io_182 (congrArg (fun z : Int => (Sum.inr (Sum.inr z) : LV)) ((rdw_ne (by decide)).trans (rf_182_17 hF))) rfl ?_
    refine R_ld (v := .inl v1) dd_quarter_237 rfl rfl rfl rfl ?_
    obtain ⟨s4, k⟩ := k
    refine R_iald (v := (rd h 194 v1)) (n := 20) dd_quarter_238 ia_194 la_194 s4 (rdw_ne (by decide)) rfl ?_
    obtain ⟨s5, k⟩ := k
    refine R_iast (n := 20) dd_quarter_239 ia_193 la_193 s5 rfl ?_
    obtain ⟨s6, k⟩ := k
    refine R_inc (y := v1 + 1) (ls' := [some (.inr (.inr 182)), some (.inl (v1 + 1))]) dd_quarter_240 rfl (by decide) (by omega) s6 rfl rfl ?_
    refine R_goto dd_quarter_243 rfl ?_
    exact k
theorem B_quarter_258 {xs : Nat → Int} {xl e : Nat} {h : LH} {Q : Option LV → LH → Prop} {v1 : Int} (hF : RF h)
    (k : Q (some (.inl 0)) h) :
    Rn xs xl e mm_quarter 258 [some (.inr (.inr 182)), some (.inl v1)] [] h Q := by
  refine R_ic dd_quarter_258 (by decide) rfl ?_
  exact R_iret dd_quarter_259 rfl k
theorem B_day_0 {xs : Nat → Int} {xl e : Nat} {h : LH} {Q : Option LV → LH → Prop} (hF : RF h)
    (k : (∃ c, c < e ∧ Rn xs xl c mm_cutAll 0 [some (.inr (.inr 182)), none, none, none, none, none, none] [] (wr h 182 0 0) (fun r h' => Rn xs xl e mm_day 9 [some (.inr (.inr 182)), none] (r.toList ++ []) h' Q))) :
    Rn xs xl e mm_day 0 [some (.inr (.inr 182)), none] [] h Q := by
  refine R_ld (v := .inr (.inr 182)) dd_day_0 rfl rfl rfl rfl ?_
  refine R_ic dd_day_1 (by decide) rfl ?_
  refine R_pf (z := 0) dd_day_2 fd_12_1 io_182 fn_12_0 rfl rfl ?_
  refine R_ld (v := .inr (.inr 182)) dd_day_5 rfl rfl rfl rfl ?_
  obtain ⟨c, hc, k⟩ := k
  exact R_call (as := [.inr (.inr 182)]) (rest := []) (M' := mm_cutAll) (ls0 := [some (.inr (.inr 182)), none, none, none, none, none, none]) dd_day_6 rfl rfl (cw_v cw_12_241 io_182 rfl rfl (Nat.le_of_ble_eq_true rfl) (Nat.le_of_ble_eq_true rfl)) mt_cutAll rfl hc rfl k
theorem B_day_9 {xs : Nat → Int} {xl e : Nat} {h : LH} {Q : Option LV → LH → Prop} (hF : RF h)
    (k : Rn xs xl e mm_day 14 [some (.inr (.inr 182)), none] [] (wr h 182 21 0) Q) :
    Rn xs xl e mm_day 9 [some (.inr (.inr 182)), none] [] h Q := by
  refine R_ld (v := .inr (.inr 182)) dd_day_9 rfl rfl rfl rfl ?_
  refine R_ic dd_day_10 (by decide) rfl ?_
  refine R_pf (z := 0) dd_day_11 fd_12_288 io_182 fn_12_21 rfl rfl ?_
  exact k
theorem B_day_14 {xs : Nat → Int} {xl e : Nat} {h : LH} {Q : Option LV → LH → Prop} (hF : RF h)
    (k : ((rd h 182 8) ≠ 0 →
        Rn xs xl e mm_day 89 [some (.inr (.inr 182)), none] [] h Q) ∧
      ((rd h 182 8) = 0 →
        (0 ≤ (rd h 182 7) ∧ (rd h 182 7) < 1002) ∧
        ((rd h 184 (rd h 182 7)) = 0 →
          Rn xs xl e mm_day 89 [some (.inr (.inr 182)), none] [] h Q) ∧
        ((rd h 184 (rd h 182 7)) ≠ 0 →
          (∃ c, c < e ∧ Rn xs xl c mm_isWord 0 [some (.inr (.inr 182)), some (.inl 12)] [] h (fun r h' => Rn xs xl e mm_day 39 [some (.inr (.inr 182)), none] (r.toList ++ []) h' Q))))) :
    Rn xs xl e mm_day 14 [some (.inr (.inr 182)), none] [] h Q := by
  refine R_ld (v := .inr (.inr 182)) dd_day_14 rfl rfl rfl rfl ?_
  refine R_gf (v := .inl (rd h 182 8)) dd_day_15 fd_12_210 io_182 (congrArg (fun z : Int => (Sum.inl z : LV)) (rfl)) rfl ?_
  refine R_if dd_day_18 rfl rfl (fun (c3 : (rd h 182 8) ≠ 0) => ?_) (fun (c3 : (rd h 182 8) = 0) => ?_)
  · replace k := k.1 c3
    exact k
  · replace k := k.2 c3
    refine R_ld (v := .inr (.inr 182)) dd_day_21 rfl rfl rfl rfl ?_
    refine R_gf (v := .inr (.inr 184)) dd_day_22 fd_12_24 io_182 (congrArg (fun z : Int => (Sum.inr (Sum.inr z) : LV)) (rf_182_4 hF)) rfl ?_
    refine R_ld (v := .inr (.inr 182)) dd_day_25 rfl rfl rfl rfl ?_
    refine R_gf (v := .inl (rd h 182 7)) dd_day_26 fd_12_207 io_182 (congrArg (fun z : Int => (Sum.inl z : LV)) (rfl)) rfl ?_
    obtain ⟨s1, k⟩ := k
    refine R_iald (v := (rd h 184 (rd h 182 7))) (n := 1002) dd_day_29 ia_184 la_184 s1 (rfl) rfl ?_
    refine R_if dd_day_30 rfl rfl (fun (c4 : (rd h 184 (rd h 182 7)) = 0) => ?_) (fun (c4 : (rd h 184 (rd h 182 7)) ≠ 0) => ?_)
    · replace k := k.1 c4
      exact k
    · replace k := k.2 c4
      refine R_ld (v := .inr (.inr 182)) dd_day_33 rfl rfl rfl rfl ?_
      refine R_bi dd_day_34 (by decide) rfl ?_
      obtain ⟨c, hc, k⟩ := k
      exact R_call (as := [.inr (.inr 182), .inl 12]) (rest := []) (M' := mm_isWord) (ls0 := [some (.inr (.inr 182)), some (.inl 12)]) dd_day_36 rfl rfl (cw_v cw_12_219 io_182 rfl rfl (Nat.le_of_ble_eq_true rfl) (Nat.le_of_ble_eq_true rfl)) mt_isWord rfl hc rfl k
theorem B_day_39_1 {xs : Nat → Int} {xl e : Nat} {h : LH} {Q : Option LV → LH → Prop} (hF : RF h)
    (k : ((rd h 182 21) ≠ 24 →
        (∃ c, c < e ∧ Rn xs xl c mm_readTurn 0 [some (.inr (.inr 182)), none, none] [] h (fun r h' => Rn xs xl e mm_day 80 [some (.inr (.inr 182)), none] (r.toList ++ []) h' Q))) ∧
      ((rd h 182 21) = 24 →
        (∃ c, c < e ∧ Rn xs xl c mm_wrong 0 [some (.inr (.inr 182)), some (.inl 5)] [] h (fun r h' => Rn xs xl e mm_day 73 [some (.inr (.inr 182)), none] (r.toList ++ []) h' Q)))) :
    Rn xs xl e mm_day 39 [some (.inr (.inr 182)), none] [.inl 1] h Q := by
  refine R_if dd_day_39 rfl rfl (fun (c3 : 1 ≠ 0) => ?_) (fun (c3 : 1 = 0) => ?_)
  · skip
    refine R_ld (v := .inr (.inr 182)) dd_day_59 rfl rfl rfl rfl ?_
    refine R_gf (v := .inl (rd h 182 21)) dd_day_60 fd_12_288 io_182 (congrArg (fun z : Int => (Sum.inl z : LV)) (rfl)) rfl ?_
    refine R_bi dd_day_63 (by decide) rfl ?_
    refine R_icmp dd_day_65 rfl rfl (fun (c4 : (rd h 182 21) ≠ 24) => ?_) (fun (c4 : (rd h 182 21) = 24) => ?_)
    · replace k := k.1 c4
      refine R_ld (v := .inr (.inr 182)) dd_day_76 rfl rfl rfl rfl ?_
      obtain ⟨c, hc, k⟩ := k
      exact R_call (as := [.inr (.inr 182)]) (rest := []) (M' := mm_readTurn) (ls0 := [some (.inr (.inr 182)), none, none]) dd_day_77 rfl rfl (cw_v cw_12_291 io_182 rfl rfl (Nat.le_of_ble_eq_true rfl) (Nat.le_of_ble_eq_true rfl)) mt_readTurn rfl hc rfl k
    · replace k := k.2 c4
      refine R_ld (v := .inr (.inr 182)) dd_day_68 rfl rfl rfl rfl ?_
      refine R_ic dd_day_69 (by decide) rfl ?_
      obtain ⟨c, hc, k⟩ := k
      exact R_call (as := [.inr (.inr 182), .inl 5]) (rest := []) (M' := mm_wrong) (ls0 := [some (.inr (.inr 182)), some (.inl 5)]) dd_day_70 rfl rfl (cw_v cw_12_216 io_182 rfl rfl (Nat.le_of_ble_eq_true rfl) (Nat.le_of_ble_eq_true rfl)) mt_wrong rfl hc rfl k
  · exact absurd c3 (by omega)
theorem B_day_39_0 {xs : Nat → Int} {xl e : Nat} {h : LH} {Q : Option LV → LH → Prop} (hF : RF h)
    (k : (∃ c, c < e ∧ Rn xs xl c mm_isWord 0 [some (.inr (.inr 182)), some (.inl 13)] [] h (fun r h' => Rn xs xl e mm_day 48 [some (.inr (.inr 182)), none] (r.toList ++ []) h' Q))) :
    Rn xs xl e mm_day 39 [some (.inr (.inr 182)), none] [.inl 0] h Q := by
  refine R_if dd_day_39 rfl rfl (fun (c2 : 0 ≠ 0) => ?_) (fun (c2 : 0 = 0) => ?_)
  · exact absurd c2 (by omega)
  · skip
    refine R_ld (v := .inr (.inr 182)) dd_day_42 rfl rfl rfl rfl ?_
    refine R_bi dd_day_43 (by decide) rfl ?_
    obtain ⟨c, hc, k⟩ := k
    exact R_call (as := [.inr (.inr 182), .inl 13]) (rest := []) (M' := mm_isWord) (ls0 := [some (.inr (.inr 182)), some (.inl 13)]) dd_day_45 rfl rfl (cw_v cw_12_219 io_182 rfl rfl (Nat.le_of_ble_eq_true rfl) (Nat.le_of_ble_eq_true rfl)) mt_isWord rfl hc rfl k
theorem B_day_48_1 {xs : Nat → Int} {xl e : Nat} {h : LH} {Q : Option LV → LH → Prop} (hF : RF h)
    (k : ((rd h 182 21) ≠ 24 →
        (∃ c, c < e ∧ Rn xs xl c mm_readTurn 0 [some (.inr (.inr 182)), none, none] [] h (fun r h' => Rn xs xl e mm_day 80 [some (.inr (.inr 182)), none] (r.toList ++ []) h' Q))) ∧
      ((rd h 182 21) = 24 →
        (∃ c, c < e ∧ Rn xs xl c mm_wrong 0 [some (.inr (.inr 182)), some (.inl 5)] [] h (fun r h' => Rn xs xl e mm_day 73 [some (.inr (.inr 182)), none] (r.toList ++ []) h' Q)))) :
    Rn xs xl e mm_day 48 [some (.inr (.inr 182)), none] [.inl 1] h Q := by
  refine R_if dd_day_48 rfl rfl (fun (c3 : 1 ≠ 0) => ?_) (fun (c3 : 1 = 0) => ?_)
  · skip
    refine R_ld (v := .inr (.inr 182)) dd_day_59 rfl rfl rfl rfl ?_
    refine R_gf (v := .inl (rd h 182 21)) dd_day_60 fd_12_288 io_182 (congrArg (fun z : Int => (Sum.inl z : LV)) (rfl)) rfl ?_
    refine R_bi dd_day_63 (by decide) rfl ?_
    refine R_icmp dd_day_65 rfl rfl (fun (c4 : (rd h 182 21) ≠ 24) => ?_) (fun (c4 : (rd h 182 21) = 24) => ?_)
    · replace k := k.1 c4
      refine R_ld (v := .inr (.inr 182)) dd_day_76 rfl rfl rfl rfl ?_
      obtain ⟨c, hc, k⟩ := k
      exact R_call (as := [.inr (.inr 182)]) (rest := []) (M' := mm_readTurn) (ls0 := [some (.inr (.inr 182)), none, none]) dd_day_77 rfl rfl (cw_v cw_12_291 io_182 rfl rfl (Nat.le_of_ble_eq_true rfl) (Nat.le_of_ble_eq_true rfl)) mt_readTurn rfl hc rfl k
    · replace k := k.2 c4
      refine R_ld (v := .inr (.inr 182)) dd_day_68 rfl rfl rfl rfl ?_
      refine R_ic dd_day_69 (by decide) rfl ?_
      obtain ⟨c, hc, k⟩ := k
      exact R_call (as := [.inr (.inr 182), .inl 5]) (rest := []) (M' := mm_wrong) (ls0 := [some (.inr (.inr 182)), some (.inl 5)]) dd_day_70 rfl rfl (cw_v cw_12_216 io_182 rfl rfl (Nat.le_of_ble_eq_true rfl) (Nat.le_of_ble_eq_true rfl)) mt_wrong rfl hc rfl k
  · exact absurd c3 (by omega)
theorem B_day_48_0 {xs : Nat → Int} {xl e : Nat} {h : LH} {Q : Option LV → LH → Prop} (hF : RF h)
    (k : (∃ c, c < e ∧ Rn xs xl c mm_wrong 0 [some (.inr (.inr 182)), some (.inl 1)] [] h (fun r h' => Rn xs xl e mm_day 56 [some (.inr (.inr 182)), none] (r.toList ++ []) h' Q))) :
    Rn xs xl e mm_day 48 [some (.inr (.inr 182)), none] [.inl 0] h Q := by
  refine R_if dd_day_48 rfl rfl (fun (c2 : 0 ≠ 0) => ?_) (fun (c2 : 0 = 0) => ?_)
  · exact absurd c2 (by omega)
  · skip
    refine R_ld (v := .inr (.inr 182)) dd_day_51 rfl rfl rfl rfl ?_
    refine R_ic dd_day_52 (by decide) rfl ?_
    obtain ⟨c, hc, k⟩ := k
    exact R_call (as := [.inr (.inr 182), .inl 1]) (rest := []) (M' := mm_wrong) (ls0 := [some (.inr (.inr 182)), some (.inl 1)]) dd_day_53 rfl rfl (cw_v cw_12_216 io_182 rfl rfl (Nat.le_of_ble_eq_true rfl) (Nat.le_of_ble_eq_true rfl)) mt_wrong rfl hc rfl k
theorem B_day_56 {xs : Nat → Int} {xl e : Nat} {h : LH} {Q : Option LV → LH → Prop} (hF : RF h)
    (k : Rn xs xl e mm_day 80 [some (.inr (.inr 182)), none] [] h Q) :
    Rn xs xl e mm_day 56 [some (.inr (.inr 182)), none] [] h Q := by
  refine R_goto dd_day_56 rfl ?_
  exact k
theorem B_day_73 {xs : Nat → Int} {xl e : Nat} {h : LH} {Q : Option LV → LH → Prop} (hF : RF h)
    (k : Rn xs xl e mm_day 80 [some (.inr (.inr 182)), none] [] h Q) :
    Rn xs xl e mm_day 73 [some (.inr (.inr 182)), none] [] h Q := by
  refine R_goto dd_day_73 rfl ?_
  exact k
theorem B_day_80 {xs : Nat → Int} {xl e : Nat} {h : LH} {Q : Option LV → LH → Prop} (hF : RF h)
    (k : (∃ c, c < e ∧ Rn xs xl c mm_takeSign 0 [some (.inr (.inr 182)), some (.inl 59)] [] h (fun r h' => Rn xs xl e mm_day 86 [some (.inr (.inr 182)), none] (r.toList ++ []) h' Q))) :
    Rn xs xl e mm_day 80 [some (.inr (.inr 182)), none] [] h Q := by
  refine R_ld (v := .inr (.inr 182)) dd_day_80 rfl rfl rfl rfl ?_
  refine R_bi dd_day_81 (by decide) rfl ?_
  obtain ⟨c, hc, k⟩ := k
  exact R_call (as := [.inr (.inr 182), .inl 59]) (rest := []) (M' := mm_takeSign) (ls0 := [some (.inr (.inr 182)), some (.inl 59)]) dd_day_83 rfl rfl (cw_v cw_12_247 io_182 rfl rfl (Nat.le_of_ble_eq_true rfl) (Nat.le_of_ble_eq_true rfl)) mt_takeSign rfl hc rfl k
theorem B_day_86 {xs : Nat → Int} {xl e : Nat} {h : LH} {Q : Option LV → LH → Prop} (hF : RF h)
    (k : Rn xs xl e mm_day 14 [some (.inr (.inr 182)), none] [] h Q) :
    Rn xs xl e mm_day 86 [some (.inr (.inr 182)), none] [] h Q := by
  refine R_goto dd_day_86 rfl ?_
  exact k
theorem B_day_89 {xs : Nat → Int} {xl e : Nat} {h : LH} {Q : Option LV → LH → Prop} (hF : RF h)
    (k : ((rd h 182 8) ≤ 0 →
        Rn xs xl e mm_day 113 [some (.inr (.inr 182)), some (.inl 0)] [] (wr h 195 0 (rd h 182 21)) Q) ∧
      (0 < (rd h 182 8) →
        Q (some (.inl (rd h 182 8))) h)) :
    Rn xs xl e mm_day 89 [some (.inr (.inr 182)), none] [] h Q := by
  refine R_ld (v := .inr (.inr 182)) dd_day_89 rfl rfl rfl rfl ?_
  refine R_gf (v := .inl (rd h 182 8)) dd_day_90 fd_12_210 io_182 (congrArg (fun z : Int => (Sum.inl z : LV)) (rfl)) rfl ?_
  refine R_if dd_day_93 rfl rfl (fun (c1 : (rd h 182 8) ≤ 0) => ?_) (fun (c1 : 0 < (rd h 182 8)) => ?_)
  · replace k := k.1 c1
    refine R_ld (v := .inr (.inr 182)) dd_day_101 rfl rfl rfl rfl ?_
    refine R_gf (v := .inr (.inr 195)) dd_day_102 fd_12_116 io_182 (congrArg (fun z : Int => (Sum.inr (Sum.inr z) : LV)) (rf_182_20 hF)) rfl ?_
    refine R_ic dd_day_105 (by decide) rfl ?_
    refine R_ld (v := .inr (.inr 182)) dd_day_106 rfl rfl rfl rfl ?_
    refine R_gf (v := .inl (rd h 182 21)) dd_day_107 fd_12_288 io_182 (congrArg (fun z : Int => (Sum.inl z : LV)) (rfl)) rfl ?_
    refine R_iast (n := 100) dd_day_110 ia_195 la_195 (by decide) rfl ?_
    refine R_ic dd_day_111 (by decide) rfl ?_
    refine R_st (ls' := [some (.inr (.inr 182)), some (.inl 0)]) dd_day_112 rfl rfl rfl (Nat.le_of_ble_eq_true rfl) rfl rfl ?_
    exact k
  · replace k := k.2 c1
    refine R_ld (v := .inr (.inr 182)) dd_day_96 rfl rfl rfl rfl ?_
    refine R_gf (v := .inl (rd h 182 8)) dd_day_97 fd_12_210 io_182 (congrArg (fun z : Int => (Sum.inl z : LV)) (rfl)) rfl ?_
    exact R_iret dd_day_100 rfl k
theorem B_day_113 {xs : Nat → Int} {xl e : Nat} {h : LH} {Q : Option LV → LH → Prop} {v1 : Int} (hF : RF h)
    (k : (-2147483648 ≤ 2 * (rd h 182 21) ∧ 2 * (rd h 182 21) ≤ 2147483647) ∧
      ((2 * (rd h 182 21)) ≤ v1 →
        Q (some (.inl 0)) h) ∧
      (v1 < (2 * (rd h 182 21)) →
        (-2147483648 ≤ v1 + 1 ∧ v1 + 1 ≤ 2147483647) ∧
        (-2147483648 ≤ v1 + 50 ∧ v1 + 50 ≤ 2147483647) ∧
        (0 ≤ v1 + 50 ∧ v1 + 50 < 100) ∧
        (0 ≤ v1 + 1 ∧ v1 + 1 < 100) ∧
        (-2147483648 ≤ v1 + 1 ∧ v1 + 1 ≤ 2147483647) ∧
        Rn xs xl e mm_day 113 [some (.inr (.inr 182)), some (.inl (v1 + 1))] [] (wr h 195 (v1 + 1) (rd h 195 (v1 + 50))) Q)) :
    Rn xs xl e mm_day 113 [some (.inr (.inr 182)), some (.inl v1)] [] h Q := by
  refine R_ld (v := .inl v1) dd_day_113 rfl rfl rfl rfl ?_
  refine R_ic dd_day_114 (by decide) rfl ?_
  refine R_ld (v := .inr (.inr 182)) dd_day_115 rfl rfl rfl rfl ?_
  refine R_gf (v := .inl (rd h 182 21)) dd_day_116 fd_12_288 io_182 (congrArg (fun z : Int => (Sum.inl z : LV)) (rfl)) rfl ?_
  obtain ⟨s1, k⟩ := k
  refine R_imul (c := 2 * (rd h 182 21)) dd_day_119 (by omega) s1 rfl ?_
  refine R_icmp dd_day_120 rfl rfl (fun (c7 : (2 * (rd h 182 21)) ≤ v1) => ?_) (fun (c7 : v1 < (2 * (rd h 182 21))) => ?_)
  · replace k := k.1 c7
    refine R_ic dd_day_146 (by decide) rfl ?_
    exact R_iret dd_day_147 rfl k
  · replace k := k.2 c7
    refine R_ld (v := .inr (.inr 182)) dd_day_123 rfl rfl rfl rfl ?_
    refine R_gf (v := .inr (.inr 195)) dd_day_124 fd_12_116 io_182 (congrArg (fun z : Int => (Sum.inr (Sum.inr z) : LV)) (rf_182_20 hF)) rfl ?_
    refine R_ic dd_day_127 (by decide) rfl ?_
    refine R_ld (v := .inl v1) dd_day_128 rfl rfl rfl rfl ?_
    obtain ⟨s2, k⟩ := k
    refine R_iadd (c := v1 + 1) dd_day_129 (by omega) s2 rfl ?_
    refine R_ld (v := .inr (.inr 182)) dd_day_130 rfl rfl rfl rfl ?_
    refine R_gf (v := .inr (.inr 195)) dd_day_131 fd_12_116 io_182 (congrArg (fun z : Int => (Sum.inr (Sum.inr z) : LV)) (rf_182_20 hF)) rfl ?_
    refine R_bi dd_day_134 (by decide) rfl ?_
    refine R_ld (v := .inl v1) dd_day_136 rfl rfl rfl rfl ?_
    obtain ⟨s3, k⟩ := k
    refine R_iadd (c := v1 + 50) dd_day_137 (by omega) s3 rfl ?_
    obtain ⟨s4, k⟩ := k
    refine R_iald (v := (rd h 195 (v1 + 50))) (n := 100) dd_day_138 ia_195 la_195 s4 (rfl) rfl ?_
    obtain ⟨s5, k⟩ := k
    refine R_iast (n := 100) dd_day_139 ia_195 la_195 s5 rfl ?_
    obtain ⟨s6, k⟩ := k
    refine R_inc (y := v1 + 1) (ls' := [some (.inr (.inr 182)), some (.inl (v1 + 1))]) dd_day_140 rfl (by decide) (by omega) s6 rfl rfl ?_
    refine R_goto dd_day_143 rfl ?_
    exact k
theorem B_startsDay_0 {xs : Nat → Int} {xl e : Nat} {h : LH} {Q : Option LV → LH → Prop} {v1 : Int} (hF : RF h)
    (k : (-2147483648 ≤ v1 ∧ v1 ≤ 2147483647) ∧
      (0 ≤ v1 ∧ v1 < 1610) ∧
      Rn xs xl e mm_startsDay 11 [some (.inr (.inr 182)), some (.inl v1), some (.inl 0)] [] (wr h 198 v1 0) Q) :
    Rn xs xl e mm_startsDay 0 [some (.inr (.inr 182)), some (.inl v1), none] [] h Q := by
  refine R_ld (v := .inr (.inr 182)) dd_startsDay_0 rfl rfl rfl rfl ?_
  refine R_gf (v := .inr (.inr 198)) dd_startsDay_1 fd_12_125 io_182 (congrArg (fun z : Int => (Sum.inr (Sum.inr z) : LV)) (rf_182_24 hF)) rfl ?_
  refine R_ld (v := .inl v1) dd_startsDay_4 rfl rfl rfl rfl ?_
  refine R_ic dd_startsDay_5 (by decide) rfl ?_
  obtain ⟨s1, k⟩ := k
  refine R_iadd (c := v1) dd_startsDay_6 (by omega) s1 rfl ?_
  refine R_ic dd_startsDay_7 (by decide) rfl ?_
  obtain ⟨s2, k⟩ := k
  refine R_iast (n := 1610) dd_startsDay_8 ia_198 la_198 s2 rfl ?_
  refine R_ic dd_startsDay_9 (by decide) rfl ?_
  refine R_st (ls' := [some (.inr (.inr 182)), some (.inl v1), some (.inl 0)]) dd_startsDay_10 rfl rfl rfl (Nat.le_of_ble_eq_true rfl) rfl rfl ?_
  exact k
theorem B_startsDay_11 {xs : Nat → Int} {xl e : Nat} {h : LH} {Q : Option LV → LH → Prop} {v1 v2 : Int} (hF : RF h) (he : 1 ≤ e)
    (k : (6 ≤ v2 →
        Rn xs xl e mm_startsDay 84 [some (.inr (.inr 182)), some (.inl v1), some (.inl 0)] [] h Q) ∧
      (v2 < 6 →
        (-2147483648 ≤ v1 + 2 ∧ v1 + 2 ≤ 2147483647) ∧
        (-2147483648 ≤ v1 + v2 + 2 ∧ v1 + v2 + 2 ≤ 2147483647) ∧
        (-2147483648 ≤ 4 * v2 ∧ 4 * v2 ≤ 2147483647) ∧
        (-2147483648 ≤ 4 * v2 + 116 ∧ 4 * v2 + 116 ≤ 2147483647) ∧
        (-2147483648 ≤ 4 * v2 + 117 ∧ 4 * v2 + 117 ≤ 2147483647) ∧
        (0 ≤ 4 * v2 + 117 ∧ 4 * v2 + 117 < 300) ∧
        (0 ≤ v1 + v2 + 2 ∧ v1 + v2 + 2 < 1610) ∧
        (-2147483648 ≤ v1 + 8 ∧ v1 + 8 ≤ 2147483647) ∧
        (-2147483648 ≤ v1 + v2 + 8 ∧ v1 + v2 + 8 ≤ 2147483647) ∧
        (-2147483648 ≤ 4 * v2 ∧ 4 * v2 ≤ 2147483647) ∧
        (-2147483648 ≤ 4 * v2 + 116 ∧ 4 * v2 + 116 ≤ 2147483647) ∧
        (-2147483648 ≤ 4 * v2 + 117 ∧ 4 * v2 + 117 ≤ 2147483647) ∧
        (0 ≤ 4 * v2 + 117 ∧ 4 * v2 + 117 < 300) ∧
        (-2147483648 ≤ 4 * v2 ∧ 4 * v2 ≤ 2147483647) ∧
        (-2147483648 ≤ 4 * v2 + 116 ∧ 4 * v2 + 116 ≤ 2147483647) ∧
        (-2147483648 ≤ 4 * v2 + 118 ∧ 4 * v2 + 118 ≤ 2147483647) ∧
        (0 ≤ 4 * v2 + 118 ∧ 4 * v2 + 118 < 300) ∧
        ((rd h 188 (4 * v2 + 117)) ≠ (rd h 188 (4 * v2 + 118)) →
          (0 ≤ v1 + v2 + 8 ∧ v1 + v2 + 8 < 1610) ∧
          (-2147483648 ≤ v1 + 14 ∧ v1 + 14 ≤ 2147483647) ∧
          (-2147483648 ≤ v1 + v2 + 14 ∧ v1 + v2 + 14 ≤ 2147483647) ∧
          (0 ≤ v1 + v2 + 14 ∧ v1 + v2 + 14 < 1610) ∧
          (-2147483648 ≤ v2 + 1 ∧ v2 + 1 ≤ 2147483647) ∧
          Rn xs xl e mm_startsDay 11 [some (.inr (.inr 182)), some (.inl v1), some (.inl (v2 + 1))] [] (wr (wr (wr h 198 (v1 + v2 + 2) (rd h 188 (4 * v2 + 117))) 198 (v1 + v2 + 8) 0) 198 (v1 + v2 + 14) 0) Q) ∧
        ((rd h 188 (4 * v2 + 117)) = (rd h 188 (4 * v2 + 118)) →
          (0 ≤ v1 + v2 + 8 ∧ v1 + v2 + 8 < 1610) ∧
          (-2147483648 ≤ v1 + 14 ∧ v1 + 14 ≤ 2147483647) ∧
          (-2147483648 ≤ v1 + v2 + 14 ∧ v1 + v2 + 14 ≤ 2147483647) ∧
          (0 ≤ v1 + v2 + 14 ∧ v1 + v2 + 14 < 1610) ∧
          (-2147483648 ≤ v2 + 1 ∧ v2 + 1 ≤ 2147483647) ∧
          Rn xs xl e mm_startsDay 11 [some (.inr (.inr 182)), some (.inl v1), some (.inl (v2 + 1))] [] (wr (wr (wr h 198 (v1 + v2 + 2) (rd h 188 (4 * v2 + 117))) 198 (v1 + v2 + 8) 1) 198 (v1 + v2 + 14) 0) Q))) :
    Rn xs xl e mm_startsDay 11 [some (.inr (.inr 182)), some (.inl v1), some (.inl v2)] [] h Q := by
  refine R_ld (v := .inl v2) dd_startsDay_11 rfl rfl rfl rfl ?_
  refine R_bi dd_startsDay_12 (by decide) rfl ?_
  refine R_icmp dd_startsDay_14 rfl rfl (fun (c28 : 6 ≤ v2) => ?_) (fun (c28 : v2 < 6) => ?_)
  · replace k := k.1 c28
    refine R_ic dd_startsDay_82 (by decide) rfl ?_
    refine R_st (ls' := [some (.inr (.inr 182)), some (.inl v1), some (.inl 0)]) dd_startsDay_83 rfl rfl rfl (Nat.le_of_ble_eq_true rfl) rfl rfl ?_
    exact k
  · replace k := k.2 c28
    refine R_ld (v := .inr (.inr 182)) dd_startsDay_17 rfl rfl rfl rfl ?_
    refine R_gf (v := .inr (.inr 198)) dd_startsDay_18 fd_12_125 io_182 (congrArg (fun z : Int => (Sum.inr (Sum.inr z) : LV)) (rf_182_24 hF)) rfl ?_
    refine R_ld (v := .inl v1) dd_startsDay_21 rfl rfl rfl rfl ?_
    refine R_ic dd_startsDay_22 (by decide) rfl ?_
    obtain ⟨s1, k⟩ := k
    refine R_iadd (c := v1 + 2) dd_startsDay_23 (by omega) s1 rfl ?_
    refine R_ld (v := .inl v2) dd_startsDay_24 rfl rfl rfl rfl ?_
    obtain ⟨s2, k⟩ := k
    refine R_iadd (c := v1 + v2 + 2) dd_startsDay_25 (by omega) s2 rfl ?_
    refine R_ld (v := .inr (.inr 182)) dd_startsDay_26 rfl rfl rfl rfl ?_
    refine R_ld (v := .inl v2) dd_startsDay_27 rfl rfl rfl rfl ?_
    refine R_ic dd_startsDay_28 (by decide) rfl ?_
    refine R_call (as := [.inr (.inr 182), .inl v2, .inl 1]) (rest := [.inl (v1 + v2 + 2), .inr (.inr 198)]) (M' := mm_personOf) (ls0 := [some (.inr (.inr 182)), some (.inl v2), some (.inl 1)]) dd_startsDay_29 rfl rfl (cw_v cw_12_325 io_182 rfl rfl (Nat.le_of_ble_eq_true rfl) (Nat.le_of_ble_eq_true rfl)) mt_personOf rfl (c := e - 1) (by omega) rfl ?_
    refine R_ld (v := .inr (.inr 182)) dd_personOf_0 rfl rfl rfl rfl ?_
    refine R_gf (v := .inr (.inr 188)) dd_personOf_1 fd_12_95 io_182 (congrArg (fun z : Int => (Sum.inr (Sum.inr z) : LV)) (rf_182_10 hF)) rfl ?_
    refine R_bi dd_personOf_4 (by decide) rfl ?_
    refine R_ic dd_personOf_6 (by decide) rfl ?_
    refine R_ld (v := .inl v2) dd_personOf_7 rfl rfl rfl rfl ?_
    obtain ⟨s3, k⟩ := k
    refine R_imul (c := 4 * v2) dd_personOf_8 (by omega) s3 rfl ?_
    obtain ⟨s4, k⟩ := k
    refine R_iadd (c := 4 * v2 + 116) dd_personOf_9 (by omega) s4 rfl ?_
    refine R_ld (v := .inl 1) dd_personOf_10 rfl rfl rfl rfl ?_
    obtain ⟨s5, k⟩ := k
    refine R_iadd (c := 4 * v2 + 117) dd_personOf_11 (by omega) s5 rfl ?_
    obtain ⟨s6, k⟩ := k
    refine R_iald (v := (rd h 188 (4 * v2 + 117))) (n := 300) dd_personOf_12 ia_188 la_188 s6 (rfl) rfl ?_
    refine R_iret dd_personOf_13 rfl ?_
    change Rn xs xl e mm_startsDay 32 [some (.inr (.inr 182)), some (.inl v1), some (.inl v2)] [.inl (rd h 188 (4 * v2 + 117)), .inl (v1 + v2 + 2), .inr (.inr 198)] h _
    obtain ⟨s7, k⟩ := k
    refine R_iast (n := 1610) dd_startsDay_32 ia_198 la_198 s7 rfl ?_
    refine R_ld (v := .inr (.inr 182)) dd_startsDay_33 rfl rfl rfl rfl ?_
    refine R_gf (v := .inr (.inr 198)) dd_startsDay_34 fd_12_125 io_182 (congrArg (fun z : Int => (Sum.inr (Sum.inr z) : LV)) ((rdw_ne (by decide)).trans (rf_182_24 hF))) rfl ?_
    refine R_ld (v := .inl v1) dd_startsDay_37 rfl rfl rfl rfl ?_
    refine R_bi dd_startsDay_38 (by decide) rfl ?_
    obtain ⟨s8, k⟩ := k
    refine R_iadd (c := v1 + 8) dd_startsDay_40 (by omega) s8 rfl ?_
    refine R_ld (v := .inl v2) dd_startsDay_41 rfl rfl rfl rfl ?_
    obtain ⟨s9, k⟩ := k
    refine R_iadd (c := v1 + v2 + 8) dd_startsDay_42 (by omega) s9 rfl ?_
    refine R_ld (v := .inr (.inr 182)) dd_startsDay_43 rfl rfl rfl rfl ?_
    refine R_ld (v := .inl v2) dd_startsDay_44 rfl rfl rfl rfl ?_
    refine R_ic dd_startsDay_45 (by decide) rfl ?_
    refine R_call (as := [.inr (.inr 182), .inl v2, .inl 1]) (rest := [.inl (v1 + v2 + 8), .inr (.inr 198)]) (M' := mm_personOf) (ls0 := [some (.inr (.inr 182)), some (.inl v2), some (.inl 1)]) dd_startsDay_46 rfl rfl (cw_v cw_12_325 io_182 rfl rfl (Nat.le_of_ble_eq_true rfl) (Nat.le_of_ble_eq_true rfl)) mt_personOf rfl (c := e - 1) (by omega) rfl ?_
    refine R_ld (v := .inr (.inr 182)) dd_personOf_0 rfl rfl rfl rfl ?_
    refine R_gf (v := .inr (.inr 188)) dd_personOf_1 fd_12_95 io_182 (congrArg (fun z : Int => (Sum.inr (Sum.inr z) : LV)) ((rdw_ne (by decide)).trans (rf_182_10 hF))) rfl ?_
    refine R_bi dd_personOf_4 (by decide) rfl ?_
    refine R_ic dd_personOf_6 (by decide) rfl ?_
    refine R_ld (v := .inl v2) dd_personOf_7 rfl rfl rfl rfl ?_
    obtain ⟨s10, k⟩ := k
    refine R_imul (c := 4 * v2) dd_personOf_8 (by omega) s10 rfl ?_
    obtain ⟨s11, k⟩ := k
    refine R_iadd (c := 4 * v2 + 116) dd_personOf_9 (by omega) s11 rfl ?_
    refine R_ld (v := .inl 1) dd_personOf_10 rfl rfl rfl rfl ?_
    obtain ⟨s12, k⟩ := k
    refine R_iadd (c := 4 * v2 + 117) dd_personOf_11 (by omega) s12 rfl ?_
    obtain ⟨s13, k⟩ := k
    refine R_iald (v := (rd h 188 (4 * v2 + 117))) (n := 300) dd_personOf_12 ia_188 la_188 s13 (rdw_ne (by decide)) rfl ?_
    refine R_iret dd_personOf_13 rfl ?_
    change Rn xs xl e mm_startsDay 49 [some (.inr (.inr 182)), some (.inl v1), some (.inl v2)] [.inl (rd h 188 (4 * v2 + 117)), .inl (v1 + v2 + 8), .inr (.inr 198)] (wr h 198 (v1 + v2 + 2) (rd h 188 (4 * v2 + 117))) _
    refine R_ld (v := .inr (.inr 182)) dd_startsDay_49 rfl rfl rfl rfl ?_
    refine R_ld (v := .inl v2) dd_startsDay_50 rfl rfl rfl rfl ?_
    refine R_ic dd_startsDay_51 (by decide) rfl ?_
    refine R_call (as := [.inr (.inr 182), .inl v2, .inl 2]) (rest := [.inl (rd h 188 (4 * v2 + 117)), .inl (v1 + v2 + 8), .inr (.inr 198)]) (M' := mm_personOf) (ls0 := [some (.inr (.inr 182)), some (.inl v2), some (.inl 2)]) dd_startsDay_52 rfl rfl (cw_v cw_12_325 io_182 rfl rfl (Nat.le_of_ble_eq_true rfl) (Nat.le_of_ble_eq_true rfl)) mt_personOf rfl (c := e - 1) (by omega) rfl ?_
    refine R_ld (v := .inr (.inr 182)) dd_personOf_0 rfl rfl rfl rfl ?_
    refine R_gf (v := .inr (.inr 188)) dd_personOf_1 fd_12_95 io_182 (congrArg (fun z : Int => (Sum.inr (Sum.inr z) : LV)) ((rdw_ne (by decide)).trans (rf_182_10 hF))) rfl ?_
    refine R_bi dd_personOf_4 (by decide) rfl ?_
    refine R_ic dd_personOf_6 (by decide) rfl ?_
    refine R_ld (v := .inl v2) dd_personOf_7 rfl rfl rfl rfl ?_
    obtain ⟨s14, k⟩ := k
    refine R_imul (c := 4 * v2) dd_personOf_8 (by omega) s14 rfl ?_
    obtain ⟨s15, k⟩ := k
    refine R_iadd (c := 4 * v2 + 116) dd_personOf_9 (by omega) s15 rfl ?_
    refine R_ld (v := .inl 2) dd_personOf_10 rfl rfl rfl rfl ?_
    obtain ⟨s16, k⟩ := k
    refine R_iadd (c := 4 * v2 + 118) dd_personOf_11 (by omega) s16 rfl ?_
    obtain ⟨s17, k⟩ := k
    refine R_iald (v := (rd h 188 (4 * v2 + 118))) (n := 300) dd_personOf_12 ia_188 la_188 s17 (rdw_ne (by decide)) rfl ?_
    refine R_iret dd_personOf_13 rfl ?_
    change Rn xs xl e mm_startsDay 55 [some (.inr (.inr 182)), some (.inl v1), some (.inl v2)] [.inl (rd h 188 (4 * v2 + 118)), .inl (rd h 188 (4 * v2 + 117)), .inl (v1 + v2 + 8), .inr (.inr 198)] (wr h 198 (v1 + v2 + 2) (rd h 188 (4 * v2 + 117))) _
    refine R_icmp dd_startsDay_55 rfl rfl (fun (c29 : (rd h 188 (4 * v2 + 117)) ≠ (rd h 188 (4 * v2 + 118))) => ?_) (fun (c29 : (rd h 188 (4 * v2 + 117)) = (rd h 188 (4 * v2 + 118))) => ?_)
    · replace k := k.1 c29
      refine R_ic dd_startsDay_62 (by decide) rfl ?_
      obtain ⟨s18, k⟩ := k
      refine R_iast (n := 1610) dd_startsDay_63 ia_198 la_198 s18 rfl ?_
      refine R_ld (v := .inr (.inr 182)) dd_startsDay_64 rfl rfl rfl rfl ?_
      refine R_gf (v := .inr (.inr 198)) dd_startsDay_65 fd_12_125 io_182 (congrArg (fun z : Int => (Sum.inr (Sum.inr z) : LV)) ((rdw_ne (by decide)).trans ((rdw_ne (by decide)).trans (rf_182_24 hF)))) rfl ?_
      refine R_ld (v := .inl v1) dd_startsDay_68 rfl rfl rfl rfl ?_
      refine R_bi dd_startsDay_69 (by decide) rfl ?_
      obtain ⟨s19, k⟩ := k
      refine R_iadd (c := v1 + 14) dd_startsDay_71 (by omega) s19 rfl ?_
      refine R_ld (v := .inl v2) dd_startsDay_72 rfl rfl rfl rfl ?_
      obtain ⟨s20, k⟩ := k
      refine R_iadd (c := v1 + v2 + 14) dd_startsDay_73 (by omega) s20 rfl ?_
      refine R_ic dd_startsDay_74 (by decide) rfl ?_
      obtain ⟨s21, k⟩ := k
      refine R_iast (n := 1610) dd_startsDay_75 ia_198 la_198 s21 rfl ?_
      obtain ⟨s22, k⟩ := k
      refine R_inc (y := v2 + 1) (ls' := [some (.inr (.inr 182)), some (.inl v1), some (.inl (v2 + 1))]) dd_startsDay_76 rfl (by decide) (by omega) s22 rfl rfl ?_
      refine R_goto dd_startsDay_79 rfl ?_
      exact k
    · replace k := k.2 c29
      refine R_ic dd_startsDay_58 (by decide) rfl ?_
      refine R_goto dd_startsDay_59 rfl ?_
      obtain ⟨s23, k⟩ := k
      refine R_iast (n := 1610) dd_startsDay_63 ia_198 la_198 s23 rfl ?_
      refine R_ld (v := .inr (.inr 182)) dd_startsDay_64 rfl rfl rfl rfl ?_
      refine R_gf (v := .inr (.inr 198)) dd_startsDay_65 fd_12_125 io_182 (congrArg (fun z : Int => (Sum.inr (Sum.inr z) : LV)) ((rdw_ne (by decide)).trans ((rdw_ne (by decide)).trans (rf_182_24 hF)))) rfl ?_
      refine R_ld (v := .inl v1) dd_startsDay_68 rfl rfl rfl rfl ?_
      refine R_bi dd_startsDay_69 (by decide) rfl ?_
      obtain ⟨s24, k⟩ := k
      refine R_iadd (c := v1 + 14) dd_startsDay_71 (by omega) s24 rfl ?_
      refine R_ld (v := .inl v2) dd_startsDay_72 rfl rfl rfl rfl ?_
      obtain ⟨s25, k⟩ := k
      refine R_iadd (c := v1 + v2 + 14) dd_startsDay_73 (by omega) s25 rfl ?_
      refine R_ic dd_startsDay_74 (by decide) rfl ?_
      obtain ⟨s26, k⟩ := k
      refine R_iast (n := 1610) dd_startsDay_75 ia_198 la_198 s26 rfl ?_
      obtain ⟨s27, k⟩ := k
      refine R_inc (y := v2 + 1) (ls' := [some (.inr (.inr 182)), some (.inl v1), some (.inl (v2 + 1))]) dd_startsDay_76 rfl (by decide) (by omega) s27 rfl rfl ?_
      refine R_goto dd_startsDay_79 rfl ?_
      exact k
theorem B_startsDay_84 {xs : Nat → Int} {xl e : Nat} {h : LH} {Q : Option LV → LH → Prop} {v1 v2 : Int} (hF : RF h)
    (k : (14 ≤ v2 →
        Q none h) ∧
      (v2 < 14 →
        (-2147483648 ≤ v1 + 20 ∧ v1 + 20 ≤ 2147483647) ∧
        (-2147483648 ≤ v1 + v2 + 20 ∧ v1 + v2 + 20 ≤ 2147483647) ∧
        (0 ≤ v1 + v2 + 20 ∧ v1 + v2 + 20 < 1610) ∧
        (-2147483648 ≤ v2 + 1 ∧ v2 + 1 ≤ 2147483647) ∧
        Rn xs xl e mm_startsDay 84 [some (.inr (.inr 182)), some (.inl v1), some (.inl (v2 + 1))] [] (wr h 198 (v1 + v2 + 20) 0) Q)) :
    Rn xs xl e mm_startsDay 84 [some (.inr (.inr 182)), some (.inl v1), some (.inl v2)] [] h Q := by
  refine R_ld (v := .inl v2) dd_startsDay_84 rfl rfl rfl rfl ?_
  refine R_bi dd_startsDay_85 (by decide) rfl ?_
  refine R_icmp dd_startsDay_87 rfl rfl (fun (c5 : 14 ≤ v2) => ?_) (fun (c5 : v2 < 14) => ?_)
  · replace k := k.1 c5
    exact R_vret dd_startsDay_108 rfl k
  · replace k := k.2 c5
    refine R_ld (v := .inr (.inr 182)) dd_startsDay_90 rfl rfl rfl rfl ?_
    refine R_gf (v := .inr (.inr 198)) dd_startsDay_91 fd_12_125 io_182 (congrArg (fun z : Int => (Sum.inr (Sum.inr z) : LV)) (rf_182_24 hF)) rfl ?_
    refine R_ld (v := .inl v1) dd_startsDay_94 rfl rfl rfl rfl ?_
    refine R_bi dd_startsDay_95 (by decide) rfl ?_
    obtain ⟨s1, k⟩ := k
    refine R_iadd (c := v1 + 20) dd_startsDay_97 (by omega) s1 rfl ?_
    refine R_ld (v := .inl v2) dd_startsDay_98 rfl rfl rfl rfl ?_
    obtain ⟨s2, k⟩ := k
    refine R_iadd (c := v1 + v2 + 20) dd_startsDay_99 (by omega) s2 rfl ?_
    refine R_ic dd_startsDay_100 (by decide) rfl ?_
    obtain ⟨s3, k⟩ := k
    refine R_iast (n := 1610) dd_startsDay_101 ia_198 la_198 s3 rfl ?_
    obtain ⟨s4, k⟩ := k
    refine R_inc (y := v2 + 1) (ls' := [some (.inr (.inr 182)), some (.inl v1), some (.inl (v2 + 1))]) dd_startsDay_102 rfl (by decide) (by omega) s4 rfl rfl ?_
    refine R_goto dd_startsDay_105 rfl ?_
    exact k
theorem B_begins_0 {xs : Nat → Int} {xl e : Nat} {h : LH} {Q : Option LV → LH → Prop} (hF : RF h)
    (k : (∃ c, c < e ∧ Rn xs xl c mm_startsDay 0 [some (.inr (.inr 182)), some (.inl 0), none] [] h (fun r h' => Rn xs xl e mm_begins 5 [some (.inr (.inr 182)), none] (r.toList ++ []) h' Q))) :
    Rn xs xl e mm_begins 0 [some (.inr (.inr 182)), none] [] h Q := by
  refine R_ld (v := .inr (.inr 182)) dd_begins_0 rfl rfl rfl rfl ?_
  refine R_ic dd_begins_1 (by decide) rfl ?_
  obtain ⟨c, hc, k⟩ := k
  exact R_call (as := [.inr (.inr 182), .inl 0]) (rest := []) (M' := mm_startsDay) (ls0 := [some (.inr (.inr 182)), some (.inl 0), none]) dd_begins_2 rfl rfl (cw_v cw_12_319 io_182 rfl rfl (Nat.le_of_ble_eq_true rfl) (Nat.le_of_ble_eq_true rfl)) mt_startsDay rfl hc rfl k
theorem B_begins_5 {xs : Nat → Int} {xl e : Nat} {h : LH} {Q : Option LV → LH → Prop} (hF : RF h)
    (k : Rn xs xl e mm_begins 34 [some (.inr (.inr 182)), some (.inl 0)] [] (wr (wr (wr (wr h 198 1 0) 198 34 0) 195 0 0) 182 25 0) Q) :
    Rn xs xl e mm_begins 5 [some (.inr (.inr 182)), none] [] h Q := by
  refine R_ld (v := .inr (.inr 182)) dd_begins_5 rfl rfl rfl rfl ?_
  refine R_gf (v := .inr (.inr 198)) dd_begins_6 fd_12_125 io_182 (congrArg (fun z : Int => (Sum.inr (Sum.inr z) : LV)) (rf_182_24 hF)) rfl ?_
  refine R_ic dd_begins_9 (by decide) rfl ?_
  refine R_ic dd_begins_10 (by decide) rfl ?_
  refine R_iast (n := 1610) dd_begins_11 ia_198 la_198 (by decide) rfl ?_
  refine R_ld (v := .inr (.inr 182)) dd_begins_12 rfl rfl rfl rfl ?_
  refine R_gf (v := .inr (.inr 198)) dd_begins_13 fd_12_125 io_182 (congrArg (fun z : Int => (Sum.inr (Sum.inr z) : LV)) ((rdw_ne (by decide)).trans (rf_182_24 hF))) rfl ?_
  refine R_bi dd_begins_16 (by decide) rfl ?_
  refine R_ic dd_begins_18 (by decide) rfl ?_
  refine R_iast (n := 1610) dd_begins_19 ia_198 la_198 (by decide) rfl ?_
  refine R_ld (v := .inr (.inr 182)) dd_begins_20 rfl rfl rfl rfl ?_
  refine R_gf (v := .inr (.inr 195)) dd_begins_21 fd_12_116 io_182 (congrArg (fun z : Int => (Sum.inr (Sum.inr z) : LV)) ((rdw_ne (by decide)).trans ((rdw_ne (by decide)).trans (rf_182_20 hF)))) rfl ?_
  refine R_ic dd_begins_24 (by decide) rfl ?_
  refine R_ic dd_begins_25 (by decide) rfl ?_
  refine R_iast (n := 100) dd_begins_26 ia_195 la_195 (by decide) rfl ?_
  refine R_ld (v := .inr (.inr 182)) dd_begins_27 rfl rfl rfl rfl ?_
  refine R_ic dd_begins_28 (by decide) rfl ?_
  refine R_pf (z := 0) dd_begins_29 fd_12_322 io_182 fn_12_25 rfl rfl ?_
  refine R_ic dd_begins_32 (by decide) rfl ?_
  refine R_st (ls' := [some (.inr (.inr 182)), some (.inl 0)]) dd_begins_33 rfl rfl rfl (Nat.le_of_ble_eq_true rfl) rfl rfl ?_
  exact k
theorem B_begins_34 {xs : Nat → Int} {xl e : Nat} {h : LH} {Q : Option LV → LH → Prop} {v1 : Int} (hF : RF h)
    (k : (4 ≤ v1 →
        Q none h) ∧
      (v1 < 4 →
        (0 ≤ v1 ∧ v1 < 4) ∧
        (-2147483648 ≤ v1 + 1 ∧ v1 + 1 ≤ 2147483647) ∧
        Rn xs xl e mm_begins 34 [some (.inr (.inr 182)), some (.inl (v1 + 1))] [] (wr h 199 v1 0) Q)) :
    Rn xs xl e mm_begins 34 [some (.inr (.inr 182)), some (.inl v1)] [] h Q := by
  refine R_ld (v := .inl v1) dd_begins_34 rfl rfl rfl rfl ?_
  refine R_ic dd_begins_35 (by decide) rfl ?_
  refine R_icmp dd_begins_36 rfl rfl (fun (c3 : 4 ≤ v1) => ?_) (fun (c3 : v1 < 4) => ?_)
  · replace k := k.1 c3
    exact R_vret dd_begins_52 rfl k
  · replace k := k.2 c3
    refine R_ld (v := .inr (.inr 182)) dd_begins_39 rfl rfl rfl rfl ?_
    refine R_gf (v := .inr (.inr 199)) dd_begins_40 fd_12_128 io_182 (congrArg (fun z : Int => (Sum.inr (Sum.inr z) : LV)) (rf_182_26 hF)) rfl ?_
    refine R_ld (v := .inl v1) dd_begins_43 rfl rfl rfl rfl ?_
    refine R_ic dd_begins_44 (by decide) rfl ?_
    obtain ⟨s1, k⟩ := k
    refine R_zast (n := 4) dd_begins_45 ia_199 la_199 s1 (by decide) rfl ?_
    obtain ⟨s2, k⟩ := k
    refine R_inc (y := v1 + 1) (ls' := [some (.inr (.inr 182)), some (.inl (v1 + 1))]) dd_begins_46 rfl (by decide) (by omega) s2 rfl rfl ?_
    refine R_goto dd_begins_49 rfl ?_
    exact k
