section
/-! LM, by program (wip/p2/hand.py): rows of the parser, the law -/
def mm_wrong : LM_M := (⟨"OneSidedModel", "wrong", "(I)V"⟩, prog_14_method_10_code, 2, none, 12, 2, 0, 1452, 1451, 1000069)
def mm_isSign : LM_M := (⟨"OneSidedModel", "isSign", "(I)Z"⟩, prog_14_method_11_code, 2, (some .boolean), 12, 2, 0, 1464, 1463, 1000072)
def mm_isWord : LM_M := (⟨"OneSidedModel", "isWord", "(I)Z"⟩, prog_14_method_12_code, 2, (some .boolean), 12, 2, 0, 1448, 1447, 1000068)
def mm_takeSign : LM_M := (⟨"OneSidedModel", "takeSign", "(I)V"⟩, prog_14_method_13_code, 2, none, 12, 2, 0, 1460, 1459, 1000071)
def mm_hasSign : LM_M := (⟨"OneSidedModel", "hasSign", "(I)Z"⟩, prog_14_method_14_code, 3, (some .boolean), 12, 2, 0, 1532, 1531, 1000089)
def mm_hasWord : LM_M := (⟨"OneSidedModel", "hasWord", "(I)Z"⟩, prog_14_method_15_code, 3, (some .boolean), 12, 2, 0, 1444, 1443, 1000067)
def mm_takeWord : LM_M := (⟨"OneSidedModel", "takeWord", "(I)V"⟩, prog_14_method_16_code, 2, none, 12, 2, 0, 1440, 1439, 1000066)
def mm_wordHere : LM_M := (⟨"OneSidedModel", "wordHere", "(II)I"⟩, prog_14_method_21_code, 5, (some .int), 12, 3, 0, 1480, 1479, 1000076)
def mm_emit : LM_M := (⟨"OneSidedModel", "emit", "(II)V"⟩, prog_14_method_34_code, 3, none, 12, 3, 0, 1528, 1527, 1000088)
def mm_products : LM_M := (⟨"OneSidedModel", "products", "(I)V"⟩, prog_14_method_38_code, 2, none, 12, 2, 0, 1520, 1519, 1000086)
def mm_takePart : LM_M := (⟨"OneSidedModel", "takePart", "(I)V"⟩, prog_14_method_39_code, 4, none, 12, 2, 0, 1524, 1523, 1000087)
def mm_sums : LM_M := (⟨"OneSidedModel", "sums", "(I)V"⟩, prog_14_method_37_code, 3, none, 12, 2, 0, 1516, 1515, 1000085)
def mm_all : LM_M := (⟨"OneSidedModel", "all", "(I)V"⟩, prog_14_method_35_code, 3, none, 12, 2, 0, 1508, 1507, 1000083)
def mm_test : LM_M := (⟨"OneSidedModel", "test", "(I)V"⟩, prog_14_method_36_code, 3, none, 12, 2, 0, 1512, 1511, 1000084)
theorem dd_wrong_0 : decode mm_wrong.2.1 0 = .ok (.aload_n 0, 1) := by decide +kernel
theorem dd_wrong_1 : decode mm_wrong.2.1 1 = .ok (.getfield 210, 3) := by decide +kernel
theorem fd_12_210 : fld 12 210 = some (12, 8) := by decide +kernel
theorem dd_wrong_4 : decode mm_wrong.2.1 4 = .ok (.ifCond .ne (21), 3) := by decide +kernel
theorem dd_wrong_25 : decode mm_wrong.2.1 25 = .ok (.return_, 1) := by decide +kernel
theorem dd_wrong_7 : decode mm_wrong.2.1 7 = .ok (.aload_n 0, 1) := by decide +kernel
theorem dd_wrong_8 : decode mm_wrong.2.1 8 = .ok (.iload_n 1, 1) := by decide +kernel
theorem dd_wrong_9 : decode mm_wrong.2.1 9 = .ok (.bipush 16, 2) := by decide +kernel
theorem dd_wrong_11 : decode mm_wrong.2.1 11 = .ok (.aload_n 0, 1) := by decide +kernel
theorem dd_wrong_12 : decode mm_wrong.2.1 12 = .ok (.getfield 27, 3) := by decide +kernel
theorem fd_12_27 : fld 12 27 = some (12, 5) := by decide +kernel
theorem rf_182_5 {h : LH} (hF : RF h) : rd h 182 5 = 185 := hF 182 5 185 (by decide +kernel) (by decide +kernel)
theorem dd_wrong_15 : decode mm_wrong.2.1 15 = .ok (.aload_n 0, 1) := by decide +kernel
theorem dd_wrong_16 : decode mm_wrong.2.1 16 = .ok (.getfield 207, 3) := by decide +kernel
theorem fd_12_207 : fld 12 207 = some (12, 7) := by decide +kernel
theorem dd_wrong_19 : decode mm_wrong.2.1 19 = .ok (.iaload, 1) := by decide +kernel
theorem ia_185 : isA NC 185 1 = true := by decide +kernel
theorem la_185 : (lay (185 : Int).toNat).2.2 = 1002 := by decide +kernel
theorem dd_wrong_20 : decode mm_wrong.2.1 20 = .ok (.imul, 1) := by decide +kernel
theorem dd_wrong_21 : decode mm_wrong.2.1 21 = .ok (.iadd, 1) := by decide +kernel
theorem dd_wrong_22 : decode mm_wrong.2.1 22 = .ok (.putfield 210, 3) := by decide +kernel
theorem fn_12_8 : fin 12 8 = false := by decide +kernel
theorem dd_isSign_0 : decode mm_isSign.2.1 0 = .ok (.aload_n 0, 1) := by decide +kernel
theorem dd_isSign_1 : decode mm_isSign.2.1 1 = .ok (.getfield 210, 3) := by decide +kernel
theorem dd_isSign_4 : decode mm_isSign.2.1 4 = .ok (.ifCond .ne (35), 3) := by decide +kernel
theorem dd_isSign_39 : decode mm_isSign.2.1 39 = .ok (.iconst 0, 1) := by decide +kernel
theorem dd_isSign_40 : decode mm_isSign.2.1 40 = .ok (.ireturn, 1) := by decide +kernel
theorem dd_isSign_7 : decode mm_isSign.2.1 7 = .ok (.aload_n 0, 1) := by decide +kernel
theorem dd_isSign_8 : decode mm_isSign.2.1 8 = .ok (.getfield 24, 3) := by decide +kernel
theorem fd_12_24 : fld 12 24 = some (12, 4) := by decide +kernel
theorem rf_182_4 {h : LH} (hF : RF h) : rd h 182 4 = 184 := hF 182 4 184 (by decide +kernel) (by decide +kernel)
theorem dd_isSign_11 : decode mm_isSign.2.1 11 = .ok (.aload_n 0, 1) := by decide +kernel
theorem dd_isSign_12 : decode mm_isSign.2.1 12 = .ok (.getfield 207, 3) := by decide +kernel
theorem dd_isSign_15 : decode mm_isSign.2.1 15 = .ok (.iaload, 1) := by decide +kernel
theorem ia_184 : isA NC 184 1 = true := by decide +kernel
theorem la_184 : (lay (184 : Int).toNat).2.2 = 1002 := by decide +kernel
theorem dd_isSign_16 : decode mm_isSign.2.1 16 = .ok (.iconst 3, 1) := by decide +kernel
theorem dd_isSign_17 : decode mm_isSign.2.1 17 = .ok (.if_icmp .ne (22), 3) := by decide +kernel
theorem dd_isSign_20 : decode mm_isSign.2.1 20 = .ok (.aload_n 0, 1) := by decide +kernel
theorem dd_isSign_21 : decode mm_isSign.2.1 21 = .ok (.getfield 30, 3) := by decide +kernel
theorem fd_12_30 : fld 12 30 = some (12, 6) := by decide +kernel
theorem rf_182_6 {h : LH} (hF : RF h) : rd h 182 6 = 186 := hF 182 6 186 (by decide +kernel) (by decide +kernel)
theorem dd_isSign_24 : decode mm_isSign.2.1 24 = .ok (.aload_n 0, 1) := by decide +kernel
theorem dd_isSign_25 : decode mm_isSign.2.1 25 = .ok (.getfield 207, 3) := by decide +kernel
theorem dd_isSign_28 : decode mm_isSign.2.1 28 = .ok (.laload, 1) := by decide +kernel
theorem ia_186 : isA NC 186 2 = true := by decide +kernel
theorem la_186 : (lay (186 : Int).toNat).2.2 = 1002 := by decide +kernel
theorem dd_isSign_29 : decode mm_isSign.2.1 29 = .ok (.iload_n 1, 1) := by decide +kernel
theorem dd_isSign_30 : decode mm_isSign.2.1 30 = .ok (.i2l, 1) := by decide +kernel
theorem dd_isSign_31 : decode mm_isSign.2.1 31 = .ok (.lcmp, 1) := by decide +kernel
theorem dd_isSign_32 : decode mm_isSign.2.1 32 = .ok (.ifCond .ne (7), 3) := by decide +kernel
theorem dd_isSign_35 : decode mm_isSign.2.1 35 = .ok (.iconst 1, 1) := by decide +kernel
theorem dd_isSign_36 : decode mm_isSign.2.1 36 = .ok (.goto 4, 3) := by decide +kernel
theorem dd_isWord_0 : decode mm_isWord.2.1 0 = .ok (.aload_n 0, 1) := by decide +kernel
theorem dd_isWord_1 : decode mm_isWord.2.1 1 = .ok (.getfield 210, 3) := by decide +kernel
theorem dd_isWord_4 : decode mm_isWord.2.1 4 = .ok (.ifCond .ne (39), 3) := by decide +kernel
theorem dd_isWord_43 : decode mm_isWord.2.1 43 = .ok (.iconst 0, 1) := by decide +kernel
theorem dd_isWord_44 : decode mm_isWord.2.1 44 = .ok (.ireturn, 1) := by decide +kernel
theorem dd_isWord_7 : decode mm_isWord.2.1 7 = .ok (.aload_n 0, 1) := by decide +kernel
theorem dd_isWord_8 : decode mm_isWord.2.1 8 = .ok (.getfield 24, 3) := by decide +kernel
theorem dd_isWord_11 : decode mm_isWord.2.1 11 = .ok (.aload_n 0, 1) := by decide +kernel
theorem dd_isWord_12 : decode mm_isWord.2.1 12 = .ok (.getfield 207, 3) := by decide +kernel
theorem dd_isWord_15 : decode mm_isWord.2.1 15 = .ok (.iaload, 1) := by decide +kernel
theorem dd_isWord_16 : decode mm_isWord.2.1 16 = .ok (.iconst 1, 1) := by decide +kernel
theorem dd_isWord_17 : decode mm_isWord.2.1 17 = .ok (.if_icmp .ne (26), 3) := by decide +kernel
theorem dd_isWord_20 : decode mm_isWord.2.1 20 = .ok (.aload_n 0, 1) := by decide +kernel
theorem dd_isWord_21 : decode mm_isWord.2.1 21 = .ok (.getfield 30, 3) := by decide +kernel
theorem dd_isWord_24 : decode mm_isWord.2.1 24 = .ok (.aload_n 0, 1) := by decide +kernel
theorem dd_isWord_25 : decode mm_isWord.2.1 25 = .ok (.getfield 207, 3) := by decide +kernel
theorem dd_isWord_28 : decode mm_isWord.2.1 28 = .ok (.laload, 1) := by decide +kernel
theorem dd_isWord_29 : decode mm_isWord.2.1 29 = .ok (.aload_n 0, 1) := by decide +kernel
theorem dd_isWord_30 : decode mm_isWord.2.1 30 = .ok (.getfield 92, 3) := by decide +kernel
theorem fd_12_92 : fld 12 92 = some (12, 9) := by decide +kernel
theorem rf_182_9 {h : LH} (hF : RF h) : rd h 182 9 = 187 := hF 182 9 187 (by decide +kernel) (by decide +kernel)
theorem dd_isWord_33 : decode mm_isWord.2.1 33 = .ok (.iload_n 1, 1) := by decide +kernel
theorem dd_isWord_34 : decode mm_isWord.2.1 34 = .ok (.laload, 1) := by decide +kernel
theorem ia_187 : isA NC 187 2 = true := by decide +kernel
theorem la_187 : (lay (187 : Int).toNat).2.2 = 29 := by decide +kernel
theorem dd_isWord_35 : decode mm_isWord.2.1 35 = .ok (.lcmp, 1) := by decide +kernel
theorem dd_isWord_36 : decode mm_isWord.2.1 36 = .ok (.ifCond .ne (7), 3) := by decide +kernel
theorem dd_isWord_39 : decode mm_isWord.2.1 39 = .ok (.iconst 1, 1) := by decide +kernel
theorem dd_isWord_40 : decode mm_isWord.2.1 40 = .ok (.goto 4, 3) := by decide +kernel
theorem dd_takeSign_0 : decode mm_takeSign.2.1 0 = .ok (.aload_n 0, 1) := by decide +kernel
theorem dd_takeSign_1 : decode mm_takeSign.2.1 1 = .ok (.iload_n 1, 1) := by decide +kernel
theorem dd_takeSign_2 : decode mm_takeSign.2.1 2 = .ok (.invokevirtual 213, 3) := by decide +kernel
theorem cw_12_213 : cwOk 12 213 0 174 2 2 12 = true := by decide +kernel
theorem mt_isSign : MTB 174 = some mm_isSign := rfl
theorem dd_takeSign_5 : decode mm_takeSign.2.1 5 = .ok (.ifCond .eq (16), 3) := by decide +kernel
theorem dd_takeSign_8 : decode mm_takeSign.2.1 8 = .ok (.aload_n 0, 1) := by decide +kernel
theorem dd_takeSign_9 : decode mm_takeSign.2.1 9 = .ok (.dup, 1) := by decide +kernel
theorem dd_takeSign_10 : decode mm_takeSign.2.1 10 = .ok (.getfield 207, 3) := by decide +kernel
theorem dd_takeSign_13 : decode mm_takeSign.2.1 13 = .ok (.iconst 1, 1) := by decide +kernel
theorem dd_takeSign_14 : decode mm_takeSign.2.1 14 = .ok (.iadd, 1) := by decide +kernel
theorem dd_takeSign_15 : decode mm_takeSign.2.1 15 = .ok (.putfield 207, 3) := by decide +kernel
theorem fn_12_7 : fin 12 7 = false := by decide +kernel
theorem dd_takeSign_18 : decode mm_takeSign.2.1 18 = .ok (.goto 8, 3) := by decide +kernel
theorem dd_takeSign_26 : decode mm_takeSign.2.1 26 = .ok (.return_, 1) := by decide +kernel
theorem dd_takeSign_21 : decode mm_takeSign.2.1 21 = .ok (.aload_n 0, 1) := by decide +kernel
theorem dd_takeSign_22 : decode mm_takeSign.2.1 22 = .ok (.iconst 1, 1) := by decide +kernel
theorem dd_takeSign_23 : decode mm_takeSign.2.1 23 = .ok (.invokevirtual 216, 3) := by decide +kernel
theorem cw_12_216 : cwOk 12 216 0 171 2 2 12 = true := by decide +kernel
theorem mt_wrong : MTB 171 = some mm_wrong := rfl
theorem dd_hasSign_0 : decode mm_hasSign.2.1 0 = .ok (.aload_n 0, 1) := by decide +kernel
theorem dd_hasSign_1 : decode mm_hasSign.2.1 1 = .ok (.iload_n 1, 1) := by decide +kernel
theorem dd_hasSign_2 : decode mm_hasSign.2.1 2 = .ok (.invokevirtual 213, 3) := by decide +kernel
theorem dd_hasSign_5 : decode mm_hasSign.2.1 5 = .ok (.istore_n 2, 1) := by decide +kernel
theorem dd_hasSign_6 : decode mm_hasSign.2.1 6 = .ok (.aload_n 0, 1) := by decide +kernel
theorem dd_hasSign_7 : decode mm_hasSign.2.1 7 = .ok (.dup, 1) := by decide +kernel
theorem dd_hasSign_8 : decode mm_hasSign.2.1 8 = .ok (.getfield 207, 3) := by decide +kernel
theorem dd_hasSign_11 : decode mm_hasSign.2.1 11 = .ok (.iload_n 2, 1) := by decide +kernel
theorem dd_hasSign_12 : decode mm_hasSign.2.1 12 = .ok (.ifCond .eq (7), 3) := by decide +kernel
theorem dd_hasSign_15 : decode mm_hasSign.2.1 15 = .ok (.iconst 1, 1) := by decide +kernel
theorem dd_hasSign_16 : decode mm_hasSign.2.1 16 = .ok (.goto 4, 3) := by decide +kernel
theorem dd_hasSign_20 : decode mm_hasSign.2.1 20 = .ok (.iadd, 1) := by decide +kernel
theorem dd_hasSign_21 : decode mm_hasSign.2.1 21 = .ok (.putfield 207, 3) := by decide +kernel
theorem dd_hasSign_24 : decode mm_hasSign.2.1 24 = .ok (.iload_n 2, 1) := by decide +kernel
theorem dd_hasSign_25 : decode mm_hasSign.2.1 25 = .ok (.ireturn, 1) := by decide +kernel
theorem dd_hasSign_19 : decode mm_hasSign.2.1 19 = .ok (.iconst 0, 1) := by decide +kernel
theorem dd_hasWord_0 : decode mm_hasWord.2.1 0 = .ok (.aload_n 0, 1) := by decide +kernel
theorem dd_hasWord_1 : decode mm_hasWord.2.1 1 = .ok (.iload_n 1, 1) := by decide +kernel
theorem dd_hasWord_2 : decode mm_hasWord.2.1 2 = .ok (.invokevirtual 219, 3) := by decide +kernel
theorem cw_12_219 : cwOk 12 219 0 170 2 2 12 = true := by decide +kernel
theorem mt_isWord : MTB 170 = some mm_isWord := rfl
theorem dd_hasWord_5 : decode mm_hasWord.2.1 5 = .ok (.istore_n 2, 1) := by decide +kernel
theorem dd_hasWord_6 : decode mm_hasWord.2.1 6 = .ok (.aload_n 0, 1) := by decide +kernel
theorem dd_hasWord_7 : decode mm_hasWord.2.1 7 = .ok (.dup, 1) := by decide +kernel
theorem dd_hasWord_8 : decode mm_hasWord.2.1 8 = .ok (.getfield 207, 3) := by decide +kernel
theorem dd_hasWord_11 : decode mm_hasWord.2.1 11 = .ok (.iload_n 2, 1) := by decide +kernel
theorem dd_hasWord_12 : decode mm_hasWord.2.1 12 = .ok (.ifCond .eq (7), 3) := by decide +kernel
theorem dd_hasWord_15 : decode mm_hasWord.2.1 15 = .ok (.iconst 1, 1) := by decide +kernel
theorem dd_hasWord_16 : decode mm_hasWord.2.1 16 = .ok (.goto 4, 3) := by decide +kernel
theorem dd_hasWord_20 : decode mm_hasWord.2.1 20 = .ok (.iadd, 1) := by decide +kernel
theorem dd_hasWord_21 : decode mm_hasWord.2.1 21 = .ok (.putfield 207, 3) := by decide +kernel
theorem dd_hasWord_24 : decode mm_hasWord.2.1 24 = .ok (.iload_n 2, 1) := by decide +kernel
theorem dd_hasWord_25 : decode mm_hasWord.2.1 25 = .ok (.ireturn, 1) := by decide +kernel
theorem dd_hasWord_19 : decode mm_hasWord.2.1 19 = .ok (.iconst 0, 1) := by decide +kernel
theorem dd_takeWord_0 : decode mm_takeWord.2.1 0 = .ok (.aload_n 0, 1) := by decide +kernel
theorem dd_takeWord_1 : decode mm_takeWord.2.1 1 = .ok (.iload_n 1, 1) := by decide +kernel
theorem dd_takeWord_2 : decode mm_takeWord.2.1 2 = .ok (.invokevirtual 222, 3) := by decide +kernel
theorem cw_12_222 : cwOk 12 222 0 169 2 3 12 = true := by decide +kernel
theorem mt_hasWord : MTB 169 = some mm_hasWord := rfl
theorem dd_takeWord_5 : decode mm_takeWord.2.1 5 = .ok (.ifCond .ne (8), 3) := by decide +kernel
theorem dd_takeWord_13 : decode mm_takeWord.2.1 13 = .ok (.return_, 1) := by decide +kernel
theorem dd_takeWord_8 : decode mm_takeWord.2.1 8 = .ok (.aload_n 0, 1) := by decide +kernel
theorem dd_takeWord_9 : decode mm_takeWord.2.1 9 = .ok (.iconst 1, 1) := by decide +kernel
theorem dd_takeWord_10 : decode mm_takeWord.2.1 10 = .ok (.invokevirtual 216, 3) := by decide +kernel
theorem dd_wordHere_0 : decode mm_wordHere.2.1 0 = .ok (.iconst (-1), 1) := by decide +kernel
theorem dd_wordHere_1 : decode mm_wordHere.2.1 1 = .ok (.istore_n 3, 1) := by decide +kernel
theorem dd_wordHere_2 : decode mm_wordHere.2.1 2 = .ok (.iconst 0, 1) := by decide +kernel
theorem dd_wordHere_3 : decode mm_wordHere.2.1 3 = .ok (.istore 4, 2) := by decide +kernel
theorem dd_wordHere_5 : decode mm_wordHere.2.1 5 = .ok (.iload 4, 2) := by decide +kernel
theorem dd_wordHere_7 : decode mm_wordHere.2.1 7 = .ok (.iload_n 2, 1) := by decide +kernel
theorem dd_wordHere_8 : decode mm_wordHere.2.1 8 = .ok (.if_icmp .ge (27), 3) := by decide +kernel
theorem dd_wordHere_35 : decode mm_wordHere.2.1 35 = .ok (.iload_n 3, 1) := by decide +kernel
theorem dd_wordHere_36 : decode mm_wordHere.2.1 36 = .ok (.ireturn, 1) := by decide +kernel
theorem dd_wordHere_11 : decode mm_wordHere.2.1 11 = .ok (.aload_n 0, 1) := by decide +kernel
theorem dd_wordHere_12 : decode mm_wordHere.2.1 12 = .ok (.iload_n 1, 1) := by decide +kernel
theorem dd_wordHere_13 : decode mm_wordHere.2.1 13 = .ok (.iload 4, 2) := by decide +kernel
theorem dd_wordHere_15 : decode mm_wordHere.2.1 15 = .ok (.iadd, 1) := by decide +kernel
theorem dd_wordHere_16 : decode mm_wordHere.2.1 16 = .ok (.invokevirtual 219, 3) := by decide +kernel
theorem dd_wordHere_19 : decode mm_wordHere.2.1 19 = .ok (.ifCond .eq (8), 3) := by decide +kernel
theorem dd_wordHere_22 : decode mm_wordHere.2.1 22 = .ok (.iload 4, 2) := by decide +kernel
theorem dd_wordHere_24 : decode mm_wordHere.2.1 24 = .ok (.goto 4, 3) := by decide +kernel
theorem dd_wordHere_28 : decode mm_wordHere.2.1 28 = .ok (.istore_n 3, 1) := by decide +kernel
theorem dd_wordHere_29 : decode mm_wordHere.2.1 29 = .ok (.iinc 4 1, 3) := by decide +kernel
theorem dd_wordHere_32 : decode mm_wordHere.2.1 32 = .ok (.goto (-27), 3) := by decide +kernel
theorem dd_wordHere_27 : decode mm_wordHere.2.1 27 = .ok (.iload_n 3, 1) := by decide +kernel
theorem dd_emit_0 : decode mm_emit.2.1 0 = .ok (.aload_n 0, 1) := by decide +kernel
theorem dd_emit_1 : decode mm_emit.2.1 1 = .ok (.getfield 98, 3) := by decide +kernel
theorem fd_12_98 : fld 12 98 = some (12, 11) := by decide +kernel
theorem rf_182_11 {h : LH} (hF : RF h) : rd h 182 11 = 189 := hF 182 11 189 (by decide +kernel) (by decide +kernel)
theorem dd_emit_4 : decode mm_emit.2.1 4 = .ok (.sipush 1100, 3) := by decide +kernel
theorem dd_emit_7 : decode mm_emit.2.1 7 = .ok (.aload_n 0, 1) := by decide +kernel
theorem dd_emit_8 : decode mm_emit.2.1 8 = .ok (.getfield 244, 3) := by decide +kernel
theorem fd_12_244 : fld 12 244 = some (12, 13) := by decide +kernel
theorem dd_emit_11 : decode mm_emit.2.1 11 = .ok (.iadd, 1) := by decide +kernel
theorem dd_emit_12 : decode mm_emit.2.1 12 = .ok (.iload_n 1, 1) := by decide +kernel
theorem dd_emit_13 : decode mm_emit.2.1 13 = .ok (.iastore, 1) := by decide +kernel
theorem ia_189 : isA NC 189 1 = true := by decide +kernel
theorem la_189 : (lay (189 : Int).toNat).2.2 = 2200 := by decide +kernel
theorem dd_emit_14 : decode mm_emit.2.1 14 = .ok (.aload_n 0, 1) := by decide +kernel
theorem dd_emit_15 : decode mm_emit.2.1 15 = .ok (.getfield 101, 3) := by decide +kernel
theorem fd_12_101 : fld 12 101 = some (12, 12) := by decide +kernel
theorem rf_182_12 {h : LH} (hF : RF h) : rd h 182 12 = 190 := hF 182 12 190 (by decide +kernel) (by decide +kernel)
theorem dd_emit_18 : decode mm_emit.2.1 18 = .ok (.sipush 1100, 3) := by decide +kernel
theorem dd_emit_21 : decode mm_emit.2.1 21 = .ok (.aload_n 0, 1) := by decide +kernel
theorem dd_emit_22 : decode mm_emit.2.1 22 = .ok (.getfield 244, 3) := by decide +kernel
theorem dd_emit_25 : decode mm_emit.2.1 25 = .ok (.iadd, 1) := by decide +kernel
theorem dd_emit_26 : decode mm_emit.2.1 26 = .ok (.iload_n 2, 1) := by decide +kernel
theorem dd_emit_27 : decode mm_emit.2.1 27 = .ok (.iastore, 1) := by decide +kernel
theorem ia_190 : isA NC 190 1 = true := by decide +kernel
theorem la_190 : (lay (190 : Int).toNat).2.2 = 2200 := by decide +kernel
theorem dd_emit_28 : decode mm_emit.2.1 28 = .ok (.aload_n 0, 1) := by decide +kernel
theorem dd_emit_29 : decode mm_emit.2.1 29 = .ok (.dup, 1) := by decide +kernel
theorem dd_emit_30 : decode mm_emit.2.1 30 = .ok (.getfield 244, 3) := by decide +kernel
theorem dd_emit_33 : decode mm_emit.2.1 33 = .ok (.iconst 1, 1) := by decide +kernel
theorem dd_emit_34 : decode mm_emit.2.1 34 = .ok (.iadd, 1) := by decide +kernel
theorem dd_emit_35 : decode mm_emit.2.1 35 = .ok (.putfield 244, 3) := by decide +kernel
theorem fn_12_13 : fin 12 13 = false := by decide +kernel
theorem dd_emit_38 : decode mm_emit.2.1 38 = .ok (.return_, 1) := by decide +kernel
theorem dd_products_0 : decode mm_products.2.1 0 = .ok (.aload_n 0, 1) := by decide +kernel
theorem dd_products_1 : decode mm_products.2.1 1 = .ok (.iload_n 1, 1) := by decide +kernel
theorem dd_products_2 : decode mm_products.2.1 2 = .ok (.invokevirtual 313, 3) := by decide +kernel
theorem cw_12_313 : cwOk 12 313 0 189 2 4 12 = true := by decide +kernel
theorem mt_takePart : MTB 189 = some mm_takePart := rfl
theorem dd_products_5 : decode mm_products.2.1 5 = .ok (.aload_n 0, 1) := by decide +kernel
theorem dd_products_6 : decode mm_products.2.1 6 = .ok (.bipush 42, 2) := by decide +kernel
theorem dd_products_8 : decode mm_products.2.1 8 = .ok (.invokevirtual 307, 3) := by decide +kernel
theorem cw_12_307 : cwOk 12 307 0 191 2 3 12 = true := by decide +kernel
theorem mt_hasSign : MTB 191 = some mm_hasSign := rfl
theorem dd_products_11 : decode mm_products.2.1 11 = .ok (.ifCond .eq (18), 3) := by decide +kernel
theorem dd_products_14 : decode mm_products.2.1 14 = .ok (.aload_n 0, 1) := by decide +kernel
theorem dd_products_15 : decode mm_products.2.1 15 = .ok (.iload_n 1, 1) := by decide +kernel
theorem dd_products_16 : decode mm_products.2.1 16 = .ok (.invokevirtual 313, 3) := by decide +kernel
theorem dd_products_29 : decode mm_products.2.1 29 = .ok (.return_, 1) := by decide +kernel
theorem dd_products_19 : decode mm_products.2.1 19 = .ok (.aload_n 0, 1) := by decide +kernel
theorem dd_products_20 : decode mm_products.2.1 20 = .ok (.bipush 6, 2) := by decide +kernel
theorem dd_products_22 : decode mm_products.2.1 22 = .ok (.iconst 0, 1) := by decide +kernel
theorem dd_products_23 : decode mm_products.2.1 23 = .ok (.invokevirtual 284, 3) := by decide +kernel
theorem cw_12_284 : cwOk 12 284 0 190 3 3 12 = true := by decide +kernel
theorem mt_emit : MTB 190 = some mm_emit := rfl
theorem dd_products_26 : decode mm_products.2.1 26 = .ok (.goto (-21), 3) := by decide +kernel
theorem dd_sums_0 : decode mm_sums.2.1 0 = .ok (.aload_n 0, 1) := by decide +kernel
theorem dd_sums_1 : decode mm_sums.2.1 1 = .ok (.iload_n 1, 1) := by decide +kernel
theorem dd_sums_2 : decode mm_sums.2.1 2 = .ok (.invokevirtual 310, 3) := by decide +kernel
theorem cw_12_310 : cwOk 12 310 0 188 2 2 12 = true := by decide +kernel
theorem mt_products : MTB 188 = some mm_products := rfl
theorem dd_sums_5 : decode mm_sums.2.1 5 = .ok (.aload_n 0, 1) := by decide +kernel
theorem dd_sums_6 : decode mm_sums.2.1 6 = .ok (.bipush 43, 2) := by decide +kernel
theorem dd_sums_8 : decode mm_sums.2.1 8 = .ok (.invokevirtual 213, 3) := by decide +kernel
theorem dd_sums_11 : decode mm_sums.2.1 11 = .ok (.ifCond .ne (12), 3) := by decide +kernel
theorem dd_sums_23 : decode mm_sums.2.1 23 = .ok (.aload_n 0, 1) := by decide +kernel
theorem dd_sums_24 : decode mm_sums.2.1 24 = .ok (.bipush 43, 2) := by decide +kernel
theorem dd_sums_26 : decode mm_sums.2.1 26 = .ok (.invokevirtual 213, 3) := by decide +kernel
theorem dd_sums_14 : decode mm_sums.2.1 14 = .ok (.aload_n 0, 1) := by decide +kernel
theorem dd_sums_15 : decode mm_sums.2.1 15 = .ok (.bipush 45, 2) := by decide +kernel
theorem dd_sums_17 : decode mm_sums.2.1 17 = .ok (.invokevirtual 213, 3) := by decide +kernel
theorem dd_sums_20 : decode mm_sums.2.1 20 = .ok (.ifCond .eq (42), 3) := by decide +kernel
theorem dd_sums_62 : decode mm_sums.2.1 62 = .ok (.return_, 1) := by decide +kernel
theorem dd_sums_29 : decode mm_sums.2.1 29 = .ok (.istore_n 2, 1) := by decide +kernel
theorem dd_sums_30 : decode mm_sums.2.1 30 = .ok (.aload_n 0, 1) := by decide +kernel
theorem dd_sums_31 : decode mm_sums.2.1 31 = .ok (.dup, 1) := by decide +kernel
theorem dd_sums_32 : decode mm_sums.2.1 32 = .ok (.getfield 207, 3) := by decide +kernel
theorem dd_sums_35 : decode mm_sums.2.1 35 = .ok (.iconst 1, 1) := by decide +kernel
theorem dd_sums_36 : decode mm_sums.2.1 36 = .ok (.iadd, 1) := by decide +kernel
theorem dd_sums_37 : decode mm_sums.2.1 37 = .ok (.putfield 207, 3) := by decide +kernel
theorem dd_sums_40 : decode mm_sums.2.1 40 = .ok (.aload_n 0, 1) := by decide +kernel
theorem dd_sums_41 : decode mm_sums.2.1 41 = .ok (.iload_n 1, 1) := by decide +kernel
theorem dd_sums_42 : decode mm_sums.2.1 42 = .ok (.invokevirtual 310, 3) := by decide +kernel
theorem dd_sums_45 : decode mm_sums.2.1 45 = .ok (.aload_n 0, 1) := by decide +kernel
theorem dd_sums_46 : decode mm_sums.2.1 46 = .ok (.iload_n 2, 1) := by decide +kernel
theorem dd_sums_47 : decode mm_sums.2.1 47 = .ok (.ifCond .eq (7), 3) := by decide +kernel
theorem dd_sums_54 : decode mm_sums.2.1 54 = .ok (.iconst 5, 1) := by decide +kernel
theorem dd_sums_55 : decode mm_sums.2.1 55 = .ok (.iconst 0, 1) := by decide +kernel
theorem dd_sums_56 : decode mm_sums.2.1 56 = .ok (.invokevirtual 284, 3) := by decide +kernel
theorem dd_sums_50 : decode mm_sums.2.1 50 = .ok (.iconst 4, 1) := by decide +kernel
theorem dd_sums_51 : decode mm_sums.2.1 51 = .ok (.goto 4, 3) := by decide +kernel
theorem dd_sums_59 : decode mm_sums.2.1 59 = .ok (.goto (-54), 3) := by decide +kernel
theorem dd_all_0 : decode mm_all.2.1 0 = .ok (.aload_n 0, 1) := by decide +kernel
theorem dd_all_1 : decode mm_all.2.1 1 = .ok (.iload_n 1, 1) := by decide +kernel
theorem dd_all_2 : decode mm_all.2.1 2 = .ok (.invokevirtual 301, 3) := by decide +kernel
theorem cw_12_301 : cwOk 12 301 0 186 2 3 12 = true := by decide +kernel
theorem mt_test : MTB 186 = some mm_test := rfl
theorem dd_all_5 : decode mm_all.2.1 5 = .ok (.aload_n 0, 1) := by decide +kernel
theorem dd_all_6 : decode mm_all.2.1 6 = .ok (.bipush 23, 2) := by decide +kernel
theorem dd_all_8 : decode mm_all.2.1 8 = .ok (.invokevirtual 219, 3) := by decide +kernel
theorem dd_all_11 : decode mm_all.2.1 11 = .ok (.ifCond .ne (12), 3) := by decide +kernel
theorem dd_all_23 : decode mm_all.2.1 23 = .ok (.aload_n 0, 1) := by decide +kernel
theorem dd_all_24 : decode mm_all.2.1 24 = .ok (.bipush 23, 2) := by decide +kernel
theorem dd_all_26 : decode mm_all.2.1 26 = .ok (.invokevirtual 219, 3) := by decide +kernel
theorem dd_all_14 : decode mm_all.2.1 14 = .ok (.aload_n 0, 1) := by decide +kernel
theorem dd_all_15 : decode mm_all.2.1 15 = .ok (.bipush 24, 2) := by decide +kernel
theorem dd_all_17 : decode mm_all.2.1 17 = .ok (.invokevirtual 219, 3) := by decide +kernel
theorem dd_all_20 : decode mm_all.2.1 20 = .ok (.ifCond .eq (44), 3) := by decide +kernel
theorem dd_all_64 : decode mm_all.2.1 64 = .ok (.return_, 1) := by decide +kernel
theorem dd_all_29 : decode mm_all.2.1 29 = .ok (.istore_n 2, 1) := by decide +kernel
theorem dd_all_30 : decode mm_all.2.1 30 = .ok (.aload_n 0, 1) := by decide +kernel
theorem dd_all_31 : decode mm_all.2.1 31 = .ok (.dup, 1) := by decide +kernel
theorem dd_all_32 : decode mm_all.2.1 32 = .ok (.getfield 207, 3) := by decide +kernel
theorem dd_all_35 : decode mm_all.2.1 35 = .ok (.iconst 1, 1) := by decide +kernel
theorem dd_all_36 : decode mm_all.2.1 36 = .ok (.iadd, 1) := by decide +kernel
theorem dd_all_37 : decode mm_all.2.1 37 = .ok (.putfield 207, 3) := by decide +kernel
theorem dd_all_40 : decode mm_all.2.1 40 = .ok (.aload_n 0, 1) := by decide +kernel
theorem dd_all_41 : decode mm_all.2.1 41 = .ok (.iload_n 1, 1) := by decide +kernel
theorem dd_all_42 : decode mm_all.2.1 42 = .ok (.invokevirtual 301, 3) := by decide +kernel
theorem dd_all_45 : decode mm_all.2.1 45 = .ok (.aload_n 0, 1) := by decide +kernel
theorem dd_all_46 : decode mm_all.2.1 46 = .ok (.iload_n 2, 1) := by decide +kernel
theorem dd_all_47 : decode mm_all.2.1 47 = .ok (.ifCond .eq (8), 3) := by decide +kernel
theorem dd_all_55 : decode mm_all.2.1 55 = .ok (.bipush 10, 2) := by decide +kernel
theorem dd_all_57 : decode mm_all.2.1 57 = .ok (.iconst 0, 1) := by decide +kernel
theorem dd_all_58 : decode mm_all.2.1 58 = .ok (.invokevirtual 284, 3) := by decide +kernel
theorem dd_all_50 : decode mm_all.2.1 50 = .ok (.bipush 9, 2) := by decide +kernel
theorem dd_all_52 : decode mm_all.2.1 52 = .ok (.goto 5, 3) := by decide +kernel
theorem dd_all_61 : decode mm_all.2.1 61 = .ok (.goto (-56), 3) := by decide +kernel
theorem dd_test_0 : decode mm_test.2.1 0 = .ok (.aload_n 0, 1) := by decide +kernel
theorem dd_test_1 : decode mm_test.2.1 1 = .ok (.iload_n 1, 1) := by decide +kernel
theorem dd_test_2 : decode mm_test.2.1 2 = .ok (.invokevirtual 304, 3) := by decide +kernel
theorem cw_12_304 : cwOk 12 304 0 187 2 3 12 = true := by decide +kernel
theorem mt_sums : MTB 187 = some mm_sums := rfl
theorem dd_test_5 : decode mm_test.2.1 5 = .ok (.aload_n 0, 1) := by decide +kernel
theorem dd_test_6 : decode mm_test.2.1 6 = .ok (.bipush 60, 2) := by decide +kernel
theorem dd_test_8 : decode mm_test.2.1 8 = .ok (.invokevirtual 213, 3) := by decide +kernel
theorem dd_test_11 : decode mm_test.2.1 11 = .ok (.istore_n 2, 1) := by decide +kernel
theorem dd_test_12 : decode mm_test.2.1 12 = .ok (.aload_n 0, 1) := by decide +kernel
theorem dd_test_13 : decode mm_test.2.1 13 = .ok (.bipush 60, 2) := by decide +kernel
theorem dd_test_15 : decode mm_test.2.1 15 = .ok (.invokevirtual 307, 3) := by decide +kernel
theorem dd_test_18 : decode mm_test.2.1 18 = .ok (.ifCond .ne (12), 3) := by decide +kernel
theorem dd_test_30 : decode mm_test.2.1 30 = .ok (.aload_n 0, 1) := by decide +kernel
theorem dd_test_31 : decode mm_test.2.1 31 = .ok (.iload_n 1, 1) := by decide +kernel
theorem dd_test_32 : decode mm_test.2.1 32 = .ok (.invokevirtual 304, 3) := by decide +kernel
theorem dd_test_21 : decode mm_test.2.1 21 = .ok (.aload_n 0, 1) := by decide +kernel
theorem dd_test_22 : decode mm_test.2.1 22 = .ok (.bipush 61, 2) := by decide +kernel
theorem dd_test_24 : decode mm_test.2.1 24 = .ok (.invokevirtual 307, 3) := by decide +kernel
theorem dd_test_27 : decode mm_test.2.1 27 = .ok (.ifCond .eq (24), 3) := by decide +kernel
theorem dd_test_51 : decode mm_test.2.1 51 = .ok (.return_, 1) := by decide +kernel
theorem dd_test_35 : decode mm_test.2.1 35 = .ok (.aload_n 0, 1) := by decide +kernel
theorem dd_test_36 : decode mm_test.2.1 36 = .ok (.iload_n 2, 1) := by decide +kernel
theorem dd_test_37 : decode mm_test.2.1 37 = .ok (.ifCond .eq (8), 3) := by decide +kernel
theorem dd_test_45 : decode mm_test.2.1 45 = .ok (.bipush 8, 2) := by decide +kernel
theorem dd_test_47 : decode mm_test.2.1 47 = .ok (.iconst 0, 1) := by decide +kernel
theorem dd_test_48 : decode mm_test.2.1 48 = .ok (.invokevirtual 284, 3) := by decide +kernel
theorem dd_test_40 : decode mm_test.2.1 40 = .ok (.bipush 7, 2) := by decide +kernel
theorem dd_test_42 : decode mm_test.2.1 42 = .ok (.goto 5, 3) := by decide +kernel
theorem dd_takePart_0 : decode mm_takePart.2.1 0 = .ok (.aload_n 0, 1) := by decide +kernel
theorem dd_takePart_1 : decode mm_takePart.2.1 1 = .ok (.getfield 210, 3) := by decide +kernel
theorem dd_takePart_4 : decode mm_takePart.2.1 4 = .ok (.ifCond .le (4), 3) := by decide +kernel
theorem dd_takePart_8 : decode mm_takePart.2.1 8 = .ok (.aload_n 0, 1) := by decide +kernel
theorem dd_takePart_9 : decode mm_takePart.2.1 9 = .ok (.getfield 24, 3) := by decide +kernel
theorem dd_takePart_12 : decode mm_takePart.2.1 12 = .ok (.aload_n 0, 1) := by decide +kernel
theorem dd_takePart_13 : decode mm_takePart.2.1 13 = .ok (.getfield 207, 3) := by decide +kernel
theorem dd_takePart_16 : decode mm_takePart.2.1 16 = .ok (.iaload, 1) := by decide +kernel
theorem dd_takePart_17 : decode mm_takePart.2.1 17 = .ok (.iconst 2, 1) := by decide +kernel
theorem dd_takePart_18 : decode mm_takePart.2.1 18 = .ok (.if_icmp .ne (7), 3) := by decide +kernel
theorem dd_takePart_25 : decode mm_takePart.2.1 25 = .ok (.iconst 0, 1) := by decide +kernel
theorem dd_takePart_26 : decode mm_takePart.2.1 26 = .ok (.istore_n 2, 1) := by decide +kernel
theorem dd_takePart_27 : decode mm_takePart.2.1 27 = .ok (.aload_n 0, 1) := by decide +kernel
theorem dd_takePart_28 : decode mm_takePart.2.1 28 = .ok (.bipush 25, 2) := by decide +kernel
theorem dd_takePart_30 : decode mm_takePart.2.1 30 = .ok (.iconst 4, 1) := by decide +kernel
theorem dd_takePart_31 : decode mm_takePart.2.1 31 = .ok (.invokevirtual 232, 3) := by decide +kernel
theorem cw_12_232 : cwOk 12 232 0 178 3 5 12 = true := by decide +kernel
theorem mt_wordHere : MTB 178 = some mm_wordHere := rfl
theorem dd_takePart_21 : decode mm_takePart.2.1 21 = .ok (.iconst 1, 1) := by decide +kernel
theorem dd_takePart_22 : decode mm_takePart.2.1 22 = .ok (.goto 4, 3) := by decide +kernel
theorem dd_takePart_7 : decode mm_takePart.2.1 7 = .ok (.return_, 1) := by decide +kernel
theorem dd_takePart_34 : decode mm_takePart.2.1 34 = .ok (.istore_n 3, 1) := by decide +kernel
theorem dd_takePart_35 : decode mm_takePart.2.1 35 = .ok (.iload_n 3, 1) := by decide +kernel
theorem dd_takePart_36 : decode mm_takePart.2.1 36 = .ok (.ifCond .ge (33), 3) := by decide +kernel
theorem dd_takePart_39 : decode mm_takePart.2.1 39 = .ok (.iload_n 2, 1) := by decide +kernel
theorem dd_takePart_40 : decode mm_takePart.2.1 40 = .ok (.ifCond .ne (29), 3) := by decide +kernel
theorem dd_takePart_43 : decode mm_takePart.2.1 43 = .ok (.aload_n 0, 1) := by decide +kernel
theorem dd_takePart_44 : decode mm_takePart.2.1 44 = .ok (.bipush 40, 2) := by decide +kernel
theorem dd_takePart_46 : decode mm_takePart.2.1 46 = .ok (.invokevirtual 213, 3) := by decide +kernel
theorem dd_takePart_49 : decode mm_takePart.2.1 49 = .ok (.ifCond .ne (20), 3) := by decide +kernel
theorem dd_takePart_52 : decode mm_takePart.2.1 52 = .ok (.aload_n 0, 1) := by decide +kernel
theorem dd_takePart_53 : decode mm_takePart.2.1 53 = .ok (.bipush 22, 2) := by decide +kernel
theorem dd_takePart_55 : decode mm_takePart.2.1 55 = .ok (.invokevirtual 219, 3) := by decide +kernel
theorem dd_takePart_58 : decode mm_takePart.2.1 58 = .ok (.ifCond .ne (11), 3) := by decide +kernel
theorem dd_takePart_61 : decode mm_takePart.2.1 61 = .ok (.aload_n 0, 1) := by decide +kernel
theorem dd_takePart_62 : decode mm_takePart.2.1 62 = .ok (.iconst 1, 1) := by decide +kernel
theorem dd_takePart_63 : decode mm_takePart.2.1 63 = .ok (.invokevirtual 216, 3) := by decide +kernel
theorem dd_takePart_66 : decode mm_takePart.2.1 66 = .ok (.goto 13, 3) := by decide +kernel
theorem dd_takePart_69 : decode mm_takePart.2.1 69 = .ok (.iload_n 1, 1) := by decide +kernel
theorem dd_takePart_70 : decode mm_takePart.2.1 70 = .ok (.iconst 5, 1) := by decide +kernel
theorem dd_takePart_71 : decode mm_takePart.2.1 71 = .ok (.if_icmp .ne (8), 3) := by decide +kernel
theorem dd_takePart_74 : decode mm_takePart.2.1 74 = .ok (.aload_n 0, 1) := by decide +kernel
theorem dd_takePart_75 : decode mm_takePart.2.1 75 = .ok (.iconst 5, 1) := by decide +kernel
theorem dd_takePart_76 : decode mm_takePart.2.1 76 = .ok (.invokevirtual 216, 3) := by decide +kernel
theorem dd_takePart_79 : decode mm_takePart.2.1 79 = .ok (.aload_n 0, 1) := by decide +kernel
theorem dd_takePart_80 : decode mm_takePart.2.1 80 = .ok (.getfield 210, 3) := by decide +kernel
theorem dd_takePart_83 : decode mm_takePart.2.1 83 = .ok (.ifCond .le (4), 3) := by decide +kernel
theorem dd_takePart_87 : decode mm_takePart.2.1 87 = .ok (.aload_n 0, 1) := by decide +kernel
theorem dd_takePart_88 : decode mm_takePart.2.1 88 = .ok (.bipush 22, 2) := by decide +kernel
theorem dd_takePart_90 : decode mm_takePart.2.1 90 = .ok (.invokevirtual 222, 3) := by decide +kernel
theorem dd_takePart_86 : decode mm_takePart.2.1 86 = .ok (.return_, 1) := by decide +kernel
theorem dd_takePart_93 : decode mm_takePart.2.1 93 = .ok (.ifCond .eq (19), 3) := by decide +kernel
theorem dd_takePart_96 : decode mm_takePart.2.1 96 = .ok (.aload_n 0, 1) := by decide +kernel
theorem dd_takePart_97 : decode mm_takePart.2.1 97 = .ok (.iload_n 1, 1) := by decide +kernel
theorem dd_takePart_98 : decode mm_takePart.2.1 98 = .ok (.iconst 1, 1) := by decide +kernel
theorem dd_takePart_99 : decode mm_takePart.2.1 99 = .ok (.iadd, 1) := by decide +kernel
theorem dd_takePart_100 : decode mm_takePart.2.1 100 = .ok (.invokevirtual 313, 3) := by decide +kernel
theorem dd_takePart_112 : decode mm_takePart.2.1 112 = .ok (.aload_n 0, 1) := by decide +kernel
theorem dd_takePart_113 : decode mm_takePart.2.1 113 = .ok (.bipush 40, 2) := by decide +kernel
theorem dd_takePart_115 : decode mm_takePart.2.1 115 = .ok (.invokevirtual 307, 3) := by decide +kernel
theorem dd_takePart_103 : decode mm_takePart.2.1 103 = .ok (.aload_n 0, 1) := by decide +kernel
theorem dd_takePart_104 : decode mm_takePart.2.1 104 = .ok (.iconst 3, 1) := by decide +kernel
theorem dd_takePart_105 : decode mm_takePart.2.1 105 = .ok (.iconst 0, 1) := by decide +kernel
theorem dd_takePart_106 : decode mm_takePart.2.1 106 = .ok (.invokevirtual 284, 3) := by decide +kernel
theorem dd_takePart_109 : decode mm_takePart.2.1 109 = .ok (.goto 69, 3) := by decide +kernel
theorem dd_takePart_178 : decode mm_takePart.2.1 178 = .ok (.return_, 1) := by decide +kernel
theorem dd_takePart_118 : decode mm_takePart.2.1 118 = .ok (.ifCond .eq (19), 3) := by decide +kernel
theorem dd_takePart_121 : decode mm_takePart.2.1 121 = .ok (.aload_n 0, 1) := by decide +kernel
theorem dd_takePart_122 : decode mm_takePart.2.1 122 = .ok (.iload_n 1, 1) := by decide +kernel
theorem dd_takePart_123 : decode mm_takePart.2.1 123 = .ok (.iconst 1, 1) := by decide +kernel
theorem dd_takePart_124 : decode mm_takePart.2.1 124 = .ok (.iadd, 1) := by decide +kernel
theorem dd_takePart_125 : decode mm_takePart.2.1 125 = .ok (.invokevirtual 281, 3) := by decide +kernel
theorem cw_12_281 : cwOk 12 281 0 185 2 3 12 = true := by decide +kernel
theorem mt_all : MTB 185 = some mm_all := rfl
theorem dd_takePart_137 : decode mm_takePart.2.1 137 = .ok (.aload_n 0, 1) := by decide +kernel
theorem dd_takePart_138 : decode mm_takePart.2.1 138 = .ok (.iload_n 2, 1) := by decide +kernel
theorem dd_takePart_139 : decode mm_takePart.2.1 139 = .ok (.ifCond .eq (7), 3) := by decide +kernel
theorem dd_takePart_146 : decode mm_takePart.2.1 146 = .ok (.iconst 2, 1) := by decide +kernel
theorem dd_takePart_147 : decode mm_takePart.2.1 147 = .ok (.iload_n 2, 1) := by decide +kernel
theorem dd_takePart_148 : decode mm_takePart.2.1 148 = .ok (.ifCond .eq (16), 3) := by decide +kernel
theorem dd_takePart_164 : decode mm_takePart.2.1 164 = .ok (.iload_n 3, 1) := by decide +kernel
theorem dd_takePart_165 : decode mm_takePart.2.1 165 = .ok (.invokevirtual 284, 3) := by decide +kernel
theorem dd_takePart_151 : decode mm_takePart.2.1 151 = .ok (.aload_n 0, 1) := by decide +kernel
theorem dd_takePart_152 : decode mm_takePart.2.1 152 = .ok (.getfield 30, 3) := by decide +kernel
theorem dd_takePart_155 : decode mm_takePart.2.1 155 = .ok (.aload_n 0, 1) := by decide +kernel
theorem dd_takePart_156 : decode mm_takePart.2.1 156 = .ok (.getfield 207, 3) := by decide +kernel
theorem dd_takePart_159 : decode mm_takePart.2.1 159 = .ok (.laload, 1) := by decide +kernel
theorem dd_takePart_160 : decode mm_takePart.2.1 160 = .ok (.l2i, 1) := by decide +kernel
theorem dd_takePart_161 : decode mm_takePart.2.1 161 = .ok (.goto 4, 3) := by decide +kernel
theorem dd_takePart_142 : decode mm_takePart.2.1 142 = .ok (.iconst 1, 1) := by decide +kernel
theorem dd_takePart_143 : decode mm_takePart.2.1 143 = .ok (.goto 4, 3) := by decide +kernel
theorem dd_takePart_128 : decode mm_takePart.2.1 128 = .ok (.aload_n 0, 1) := by decide +kernel
theorem dd_takePart_129 : decode mm_takePart.2.1 129 = .ok (.bipush 41, 2) := by decide +kernel
theorem dd_takePart_131 : decode mm_takePart.2.1 131 = .ok (.invokevirtual 247, 3) := by decide +kernel
theorem cw_12_247 : cwOk 12 247 0 173 2 2 12 = true := by decide +kernel
theorem mt_takeSign : MTB 173 = some mm_takeSign := rfl
theorem dd_takePart_134 : decode mm_takePart.2.1 134 = .ok (.goto 44, 3) := by decide +kernel
theorem dd_takePart_168 : decode mm_takePart.2.1 168 = .ok (.aload_n 0, 1) := by decide +kernel
theorem dd_takePart_169 : decode mm_takePart.2.1 169 = .ok (.dup, 1) := by decide +kernel
theorem dd_takePart_170 : decode mm_takePart.2.1 170 = .ok (.getfield 207, 3) := by decide +kernel
theorem dd_takePart_173 : decode mm_takePart.2.1 173 = .ok (.iconst 1, 1) := by decide +kernel
theorem dd_takePart_174 : decode mm_takePart.2.1 174 = .ok (.iadd, 1) := by decide +kernel
theorem dd_takePart_175 : decode mm_takePart.2.1 175 = .ok (.putfield 207, 3) := by decide +kernel
theorem B_wrong_0 {xs : Nat → Int} {xl e : Nat} {h : LH} {Q : Option LV → LH → Prop} {v1 : Int} (hF : RF h)
    (k : ((rd h 182 8) ≠ 0 →
        Q none h) ∧
      ((rd h 182 8) = 0 →
        (0 ≤ (rd h 182 7) ∧ (rd h 182 7) < 1002) ∧
        (-2147483648 ≤ 16 * (rd h 185 (rd h 182 7)) ∧ 16 * (rd h 185 (rd h 182 7)) ≤ 2147483647) ∧
        (-2147483648 ≤ v1 + 16 * (rd h 185 (rd h 182 7)) ∧ v1 + 16 * (rd h 185 (rd h 182 7)) ≤ 2147483647) ∧
        Q none (wr h 182 8 (v1 + 16 * (rd h 185 (rd h 182 7)))))) :
    Rn xs xl e mm_wrong 0 [some (.inr (.inr 182)), some (.inl v1)] [] h Q := by
  refine R_ld (v := .inr (.inr 182)) dd_wrong_0 rfl rfl rfl rfl ?_
  refine R_gf (v := .inl (rd h 182 8)) dd_wrong_1 fd_12_210 io_182 (congrArg (fun z : Int => (Sum.inl z : LV)) (rfl)) rfl ?_
  refine R_if dd_wrong_4 rfl rfl (fun (c4 : (rd h 182 8) ≠ 0) => ?_) (fun (c4 : (rd h 182 8) = 0) => ?_)
  · replace k := k.1 c4
    exact R_vret dd_wrong_25 rfl k
  · replace k := k.2 c4
    refine R_ld (v := .inr (.inr 182)) dd_wrong_7 rfl rfl rfl rfl ?_
    refine R_ld (v := .inl v1) dd_wrong_8 rfl rfl rfl rfl ?_
    refine R_bi dd_wrong_9 (by decide) rfl ?_
    refine R_ld (v := .inr (.inr 182)) dd_wrong_11 rfl rfl rfl rfl ?_
    refine R_gf (v := .inr (.inr 185)) dd_wrong_12 fd_12_27 io_182 (congrArg (fun z : Int => (Sum.inr (Sum.inr z) : LV)) (rf_182_5 hF)) rfl ?_
    refine R_ld (v := .inr (.inr 182)) dd_wrong_15 rfl rfl rfl rfl ?_
    refine R_gf (v := .inl (rd h 182 7)) dd_wrong_16 fd_12_207 io_182 (congrArg (fun z : Int => (Sum.inl z : LV)) (rfl)) rfl ?_
    obtain ⟨s1, k⟩ := k
    refine R_iald (v := (rd h 185 (rd h 182 7))) (n := 1002) dd_wrong_19 ia_185 la_185 s1 (rfl) rfl ?_
    obtain ⟨s2, k⟩ := k
    refine R_imul (c := 16 * (rd h 185 (rd h 182 7))) dd_wrong_20 (by omega) s2 rfl ?_
    obtain ⟨s3, k⟩ := k
    refine R_iadd (c := v1 + 16 * (rd h 185 (rd h 182 7))) dd_wrong_21 (by omega) s3 rfl ?_
    refine R_pf (z := (v1 + 16 * (rd h 185 (rd h 182 7)))) dd_wrong_22 fd_12_210 io_182 fn_12_8 rfl rfl ?_
    exact R_vret dd_wrong_25 rfl k
theorem B_isSign_0 {xs : Nat → Int} {xl e : Nat} {h : LH} {Q : Option LV → LH → Prop} {v1 : Int} (hF : RF h)
    (k : ((rd h 182 8) ≠ 0 →
        Q (some (.inl 0)) h) ∧
      ((rd h 182 8) = 0 →
        (0 ≤ (rd h 182 7) ∧ (rd h 182 7) < 1002) ∧
        ((rd h 184 (rd h 182 7)) ≠ 3 →
          Q (some (.inl 0)) h) ∧
        ((rd h 184 (rd h 182 7)) = 3 →
          (0 ≤ (rd h 182 7) ∧ (rd h 182 7) < 1002) ∧
          ((lcmp_ (rd h 186 (rd h 182 7)) v1) ≠ 0 →
            Q (some (.inl 0)) h) ∧
          ((lcmp_ (rd h 186 (rd h 182 7)) v1) = 0 →
            Q (some (.inl 1)) h)))) :
    Rn xs xl e mm_isSign 0 [some (.inr (.inr 182)), some (.inl v1)] [] h Q := by
  refine R_ld (v := .inr (.inr 182)) dd_isSign_0 rfl rfl rfl rfl ?_
  refine R_gf (v := .inl (rd h 182 8)) dd_isSign_1 fd_12_210 io_182 (congrArg (fun z : Int => (Sum.inl z : LV)) (rfl)) rfl ?_
  refine R_if dd_isSign_4 rfl rfl (fun (c3 : (rd h 182 8) ≠ 0) => ?_) (fun (c3 : (rd h 182 8) = 0) => ?_)
  · replace k := k.1 c3
    refine R_ic dd_isSign_39 (by decide) rfl ?_
    exact R_zret dd_isSign_40 rfl (by decide) k
  · replace k := k.2 c3
    refine R_ld (v := .inr (.inr 182)) dd_isSign_7 rfl rfl rfl rfl ?_
    refine R_gf (v := .inr (.inr 184)) dd_isSign_8 fd_12_24 io_182 (congrArg (fun z : Int => (Sum.inr (Sum.inr z) : LV)) (rf_182_4 hF)) rfl ?_
    refine R_ld (v := .inr (.inr 182)) dd_isSign_11 rfl rfl rfl rfl ?_
    refine R_gf (v := .inl (rd h 182 7)) dd_isSign_12 fd_12_207 io_182 (congrArg (fun z : Int => (Sum.inl z : LV)) (rfl)) rfl ?_
    obtain ⟨s1, k⟩ := k
    refine R_iald (v := (rd h 184 (rd h 182 7))) (n := 1002) dd_isSign_15 ia_184 la_184 s1 (rfl) rfl ?_
    refine R_ic dd_isSign_16 (by decide) rfl ?_
    refine R_icmp dd_isSign_17 rfl rfl (fun (c4 : (rd h 184 (rd h 182 7)) ≠ 3) => ?_) (fun (c4 : (rd h 184 (rd h 182 7)) = 3) => ?_)
    · replace k := k.1 c4
      refine R_ic dd_isSign_39 (by decide) rfl ?_
      exact R_zret dd_isSign_40 rfl (by decide) k
    · replace k := k.2 c4
      refine R_ld (v := .inr (.inr 182)) dd_isSign_20 rfl rfl rfl rfl ?_
      refine R_gf (v := .inr (.inr 186)) dd_isSign_21 fd_12_30 io_182 (congrArg (fun z : Int => (Sum.inr (Sum.inr z) : LV)) (rf_182_6 hF)) rfl ?_
      refine R_ld (v := .inr (.inr 182)) dd_isSign_24 rfl rfl rfl rfl ?_
      refine R_gf (v := .inl (rd h 182 7)) dd_isSign_25 fd_12_207 io_182 (congrArg (fun z : Int => (Sum.inl z : LV)) (rfl)) rfl ?_
      obtain ⟨s2, k⟩ := k
      refine R_lald (v := (rd h 186 (rd h 182 7))) (n := 1002) dd_isSign_28 ia_186 la_186 s2 (rfl) rfl ?_
      refine R_ld (v := .inl v1) dd_isSign_29 rfl rfl rfl rfl ?_
      refine R_A dd_isSign_30 rfl rfl rfl rfl ?_
      refine R_A dd_isSign_31 rfl rfl rfl rfl ?_
      refine R_if dd_isSign_32 rfl rfl (fun (c5 : (lcmp_ (rd h 186 (rd h 182 7)) v1) ≠ 0) => ?_) (fun (c5 : (lcmp_ (rd h 186 (rd h 182 7)) v1) = 0) => ?_)
      · replace k := k.1 c5
        refine R_ic dd_isSign_39 (by decide) rfl ?_
        exact R_zret dd_isSign_40 rfl (by decide) k
      · replace k := k.2 c5
        refine R_ic dd_isSign_35 (by decide) rfl ?_
        refine R_goto dd_isSign_36 rfl ?_
        exact R_zret dd_isSign_40 rfl (by decide) k
theorem B_isWord_0 {xs : Nat → Int} {xl e : Nat} {h : LH} {Q : Option LV → LH → Prop} {v1 : Int} (hF : RF h)
    (k : ((rd h 182 8) ≠ 0 →
        Q (some (.inl 0)) h) ∧
      ((rd h 182 8) = 0 →
        (0 ≤ (rd h 182 7) ∧ (rd h 182 7) < 1002) ∧
        ((rd h 184 (rd h 182 7)) ≠ 1 →
          Q (some (.inl 0)) h) ∧
        ((rd h 184 (rd h 182 7)) = 1 →
          (0 ≤ (rd h 182 7) ∧ (rd h 182 7) < 1002) ∧
          (0 ≤ v1 ∧ v1 < 29) ∧
          ((lcmp_ (rd h 186 (rd h 182 7)) (rd h 187 v1)) ≠ 0 →
            Q (some (.inl 0)) h) ∧
          ((lcmp_ (rd h 186 (rd h 182 7)) (rd h 187 v1)) = 0 →
            Q (some (.inl 1)) h)))) :
    Rn xs xl e mm_isWord 0 [some (.inr (.inr 182)), some (.inl v1)] [] h Q := by
  refine R_ld (v := .inr (.inr 182)) dd_isWord_0 rfl rfl rfl rfl ?_
  refine R_gf (v := .inl (rd h 182 8)) dd_isWord_1 fd_12_210 io_182 (congrArg (fun z : Int => (Sum.inl z : LV)) (rfl)) rfl ?_
  refine R_if dd_isWord_4 rfl rfl (fun (c4 : (rd h 182 8) ≠ 0) => ?_) (fun (c4 : (rd h 182 8) = 0) => ?_)
  · replace k := k.1 c4
    refine R_ic dd_isWord_43 (by decide) rfl ?_
    exact R_zret dd_isWord_44 rfl (by decide) k
  · replace k := k.2 c4
    refine R_ld (v := .inr (.inr 182)) dd_isWord_7 rfl rfl rfl rfl ?_
    refine R_gf (v := .inr (.inr 184)) dd_isWord_8 fd_12_24 io_182 (congrArg (fun z : Int => (Sum.inr (Sum.inr z) : LV)) (rf_182_4 hF)) rfl ?_
    refine R_ld (v := .inr (.inr 182)) dd_isWord_11 rfl rfl rfl rfl ?_
    refine R_gf (v := .inl (rd h 182 7)) dd_isWord_12 fd_12_207 io_182 (congrArg (fun z : Int => (Sum.inl z : LV)) (rfl)) rfl ?_
    obtain ⟨s1, k⟩ := k
    refine R_iald (v := (rd h 184 (rd h 182 7))) (n := 1002) dd_isWord_15 ia_184 la_184 s1 (rfl) rfl ?_
    refine R_ic dd_isWord_16 (by decide) rfl ?_
    refine R_icmp dd_isWord_17 rfl rfl (fun (c5 : (rd h 184 (rd h 182 7)) ≠ 1) => ?_) (fun (c5 : (rd h 184 (rd h 182 7)) = 1) => ?_)
    · replace k := k.1 c5
      refine R_ic dd_isWord_43 (by decide) rfl ?_
      exact R_zret dd_isWord_44 rfl (by decide) k
    · replace k := k.2 c5
      refine R_ld (v := .inr (.inr 182)) dd_isWord_20 rfl rfl rfl rfl ?_
      refine R_gf (v := .inr (.inr 186)) dd_isWord_21 fd_12_30 io_182 (congrArg (fun z : Int => (Sum.inr (Sum.inr z) : LV)) (rf_182_6 hF)) rfl ?_
      refine R_ld (v := .inr (.inr 182)) dd_isWord_24 rfl rfl rfl rfl ?_
      refine R_gf (v := .inl (rd h 182 7)) dd_isWord_25 fd_12_207 io_182 (congrArg (fun z : Int => (Sum.inl z : LV)) (rfl)) rfl ?_
      obtain ⟨s2, k⟩ := k
      refine R_lald (v := (rd h 186 (rd h 182 7))) (n := 1002) dd_isWord_28 ia_186 la_186 s2 (rfl) rfl ?_
      refine R_ld (v := .inr (.inr 182)) dd_isWord_29 rfl rfl rfl rfl ?_
      refine R_gf (v := .inr (.inr 187)) dd_isWord_30 fd_12_92 io_182 (congrArg (fun z : Int => (Sum.inr (Sum.inr z) : LV)) (rf_182_9 hF)) rfl ?_
      refine R_ld (v := .inl v1) dd_isWord_33 rfl rfl rfl rfl ?_
      obtain ⟨s3, k⟩ := k
      refine R_lald (v := (rd h 187 v1)) (n := 29) dd_isWord_34 ia_187 la_187 s3 (rfl) rfl ?_
      refine R_A dd_isWord_35 rfl rfl rfl rfl ?_
      refine R_if dd_isWord_36 rfl rfl (fun (c6 : (lcmp_ (rd h 186 (rd h 182 7)) (rd h 187 v1)) ≠ 0) => ?_) (fun (c6 : (lcmp_ (rd h 186 (rd h 182 7)) (rd h 187 v1)) = 0) => ?_)
      · replace k := k.1 c6
        refine R_ic dd_isWord_43 (by decide) rfl ?_
        exact R_zret dd_isWord_44 rfl (by decide) k
      · replace k := k.2 c6
        refine R_ic dd_isWord_39 (by decide) rfl ?_
        refine R_goto dd_isWord_40 rfl ?_
        exact R_zret dd_isWord_44 rfl (by decide) k
theorem B_takeSign_0 {xs : Nat → Int} {xl e : Nat} {h : LH} {Q : Option LV → LH → Prop} {v1 : Int} (hF : RF h)
    (k : (∃ c, c < e ∧ Rn xs xl c mm_isSign 0 [some (.inr (.inr 182)), some (.inl v1)] [] h (fun r h' => Rn xs xl e mm_takeSign 5 [some (.inr (.inr 182)), some (.inl v1)] (r.toList ++ []) h' Q))) :
    Rn xs xl e mm_takeSign 0 [some (.inr (.inr 182)), some (.inl v1)] [] h Q := by
  refine R_ld (v := .inr (.inr 182)) dd_takeSign_0 rfl rfl rfl rfl ?_
  refine R_ld (v := .inl v1) dd_takeSign_1 rfl rfl rfl rfl ?_
  obtain ⟨c, hc, k⟩ := k
  exact R_call (as := [.inr (.inr 182), .inl v1]) (rest := []) (M' := mm_isSign) (ls0 := [some (.inr (.inr 182)), some (.inl v1)]) dd_takeSign_2 rfl rfl (cw_v cw_12_213 io_182 rfl rfl (Nat.le_of_ble_eq_true rfl) (Nat.le_of_ble_eq_true rfl)) mt_isSign rfl hc rfl k
theorem B_takeSign_5_1 {xs : Nat → Int} {xl e : Nat} {h : LH} {Q : Option LV → LH → Prop} {v1 : Int} (hF : RF h)
    (k : (-2147483648 ≤ (rd h 182 7) + 1 ∧ (rd h 182 7) + 1 ≤ 2147483647) ∧
      Q none (wr h 182 7 ((rd h 182 7) + 1))) :
    Rn xs xl e mm_takeSign 5 [some (.inr (.inr 182)), some (.inl v1)] [.inl 1] h Q := by
  refine R_if dd_takeSign_5 rfl rfl (fun (c2 : 1 = 0) => ?_) (fun (c2 : 1 ≠ 0) => ?_)
  · exact absurd c2 (by omega)
  · skip
    refine R_ld (v := .inr (.inr 182)) dd_takeSign_8 rfl rfl rfl rfl ?_
    refine R_A dd_takeSign_9 rfl rfl rfl rfl ?_
    refine R_gf (v := .inl (rd h 182 7)) dd_takeSign_10 fd_12_207 io_182 (congrArg (fun z : Int => (Sum.inl z : LV)) (rfl)) rfl ?_
    refine R_ic dd_takeSign_13 (by decide) rfl ?_
    obtain ⟨s1, k⟩ := k
    refine R_iadd (c := (rd h 182 7) + 1) dd_takeSign_14 (by omega) s1 rfl ?_
    refine R_pf (z := ((rd h 182 7) + 1)) dd_takeSign_15 fd_12_207 io_182 fn_12_7 rfl rfl ?_
    refine R_goto dd_takeSign_18 rfl ?_
    exact R_vret dd_takeSign_26 rfl k
theorem B_takeSign_5_0 {xs : Nat → Int} {xl e : Nat} {h : LH} {Q : Option LV → LH → Prop} {v1 : Int} (hF : RF h)
    (k : (∃ c, c < e ∧ Rn xs xl c mm_wrong 0 [some (.inr (.inr 182)), some (.inl 1)] [] h (fun r h' => Rn xs xl e mm_takeSign 26 [some (.inr (.inr 182)), some (.inl v1)] (r.toList ++ []) h' Q))) :
    Rn xs xl e mm_takeSign 5 [some (.inr (.inr 182)), some (.inl v1)] [.inl 0] h Q := by
  refine R_if dd_takeSign_5 rfl rfl (fun (c2 : 0 = 0) => ?_) (fun (c2 : 0 ≠ 0) => ?_)
  · skip
    refine R_ld (v := .inr (.inr 182)) dd_takeSign_21 rfl rfl rfl rfl ?_
    refine R_ic dd_takeSign_22 (by decide) rfl ?_
    obtain ⟨c, hc, k⟩ := k
    exact R_call (as := [.inr (.inr 182), .inl 1]) (rest := []) (M' := mm_wrong) (ls0 := [some (.inr (.inr 182)), some (.inl 1)]) dd_takeSign_23 rfl rfl (cw_v cw_12_216 io_182 rfl rfl (Nat.le_of_ble_eq_true rfl) (Nat.le_of_ble_eq_true rfl)) mt_wrong rfl hc rfl k
  · exact absurd c2 (by omega)
theorem B_takeSign_26 {xs : Nat → Int} {xl e : Nat} {h : LH} {Q : Option LV → LH → Prop} {v1 : Int} (hF : RF h)
    (k : Q none h) :
    Rn xs xl e mm_takeSign 26 [some (.inr (.inr 182)), some (.inl v1)] [] h Q := by
  exact R_vret dd_takeSign_26 rfl k
theorem B_hasSign_0 {xs : Nat → Int} {xl e : Nat} {h : LH} {Q : Option LV → LH → Prop} {v1 : Int} (hF : RF h)
    (k : (∃ c, c < e ∧ Rn xs xl c mm_isSign 0 [some (.inr (.inr 182)), some (.inl v1)] [] h (fun r h' => Rn xs xl e mm_hasSign 5 [some (.inr (.inr 182)), some (.inl v1), none] (r.toList ++ []) h' Q))) :
    Rn xs xl e mm_hasSign 0 [some (.inr (.inr 182)), some (.inl v1), none] [] h Q := by
  refine R_ld (v := .inr (.inr 182)) dd_hasSign_0 rfl rfl rfl rfl ?_
  refine R_ld (v := .inl v1) dd_hasSign_1 rfl rfl rfl rfl ?_
  obtain ⟨c, hc, k⟩ := k
  exact R_call (as := [.inr (.inr 182), .inl v1]) (rest := []) (M' := mm_isSign) (ls0 := [some (.inr (.inr 182)), some (.inl v1)]) dd_hasSign_2 rfl rfl (cw_v cw_12_213 io_182 rfl rfl (Nat.le_of_ble_eq_true rfl) (Nat.le_of_ble_eq_true rfl)) mt_isSign rfl hc rfl k
theorem B_hasSign_5_1 {xs : Nat → Int} {xl e : Nat} {h : LH} {Q : Option LV → LH → Prop} {v1 : Int} (hF : RF h)
    (k : (-2147483648 ≤ (rd h 182 7) + 1 ∧ (rd h 182 7) + 1 ≤ 2147483647) ∧
      Q (some (.inl 1)) (wr h 182 7 ((rd h 182 7) + 1))) :
    Rn xs xl e mm_hasSign 5 [some (.inr (.inr 182)), some (.inl v1), none] [.inl 1] h Q := by
  refine R_st (ls' := [some (.inr (.inr 182)), some (.inl v1), some (.inl 1)]) dd_hasSign_5 rfl rfl rfl (Nat.le_of_ble_eq_true rfl) rfl rfl ?_
  refine R_ld (v := .inr (.inr 182)) dd_hasSign_6 rfl rfl rfl rfl ?_
  refine R_A dd_hasSign_7 rfl rfl rfl rfl ?_
  refine R_gf (v := .inl (rd h 182 7)) dd_hasSign_8 fd_12_207 io_182 (congrArg (fun z : Int => (Sum.inl z : LV)) (rfl)) rfl ?_
  refine R_ld (v := .inl 1) dd_hasSign_11 rfl rfl rfl rfl ?_
  refine R_if dd_hasSign_12 rfl rfl (fun (c2 : 1 = 0) => ?_) (fun (c2 : 1 ≠ 0) => ?_)
  · exact absurd c2 (by omega)
  · skip
    refine R_ic dd_hasSign_15 (by decide) rfl ?_
    refine R_goto dd_hasSign_16 rfl ?_
    obtain ⟨s1, k⟩ := k
    refine R_iadd (c := (rd h 182 7) + 1) dd_hasSign_20 (by omega) s1 rfl ?_
    refine R_pf (z := ((rd h 182 7) + 1)) dd_hasSign_21 fd_12_207 io_182 fn_12_7 rfl rfl ?_
    refine R_ld (v := .inl 1) dd_hasSign_24 rfl rfl rfl rfl ?_
    exact R_zret dd_hasSign_25 rfl (by decide) k
theorem B_hasSign_5_0 {xs : Nat → Int} {xl e : Nat} {h : LH} {Q : Option LV → LH → Prop} {v1 : Int} (hF : RF h)
    (k : (-2147483648 ≤ (rd h 182 7) ∧ (rd h 182 7) ≤ 2147483647) ∧
      Q (some (.inl 0)) (wr h 182 7 (rd h 182 7))) :
    Rn xs xl e mm_hasSign 5 [some (.inr (.inr 182)), some (.inl v1), none] [.inl 0] h Q := by
  refine R_st (ls' := [some (.inr (.inr 182)), some (.inl v1), some (.inl 0)]) dd_hasSign_5 rfl rfl rfl (Nat.le_of_ble_eq_true rfl) rfl rfl ?_
  refine R_ld (v := .inr (.inr 182)) dd_hasSign_6 rfl rfl rfl rfl ?_
  refine R_A dd_hasSign_7 rfl rfl rfl rfl ?_
  refine R_gf (v := .inl (rd h 182 7)) dd_hasSign_8 fd_12_207 io_182 (congrArg (fun z : Int => (Sum.inl z : LV)) (rfl)) rfl ?_
  refine R_ld (v := .inl 0) dd_hasSign_11 rfl rfl rfl rfl ?_
  refine R_if dd_hasSign_12 rfl rfl (fun (c2 : 0 = 0) => ?_) (fun (c2 : 0 ≠ 0) => ?_)
  · skip
    refine R_ic dd_hasSign_19 (by decide) rfl ?_
    obtain ⟨s1, k⟩ := k
    refine R_iadd (c := (rd h 182 7)) dd_hasSign_20 (by omega) s1 rfl ?_
    refine R_pf (z := (rd h 182 7)) dd_hasSign_21 fd_12_207 io_182 fn_12_7 rfl rfl ?_
    refine R_ld (v := .inl 0) dd_hasSign_24 rfl rfl rfl rfl ?_
    exact R_zret dd_hasSign_25 rfl (by decide) k
  · exact absurd c2 (by omega)
theorem B_hasWord_0 {xs : Nat → Int} {xl e : Nat} {h : LH} {Q : Option LV → LH → Prop} {v1 : Int} (hF : RF h)
    (k : (∃ c, c < e ∧ Rn xs xl c mm_isWord 0 [some (.inr (.inr 182)), some (.inl v1)] [] h (fun r h' => Rn xs xl e mm_hasWord 5 [some (.inr (.inr 182)), some (.inl v1), none] (r.toList ++ []) h' Q))) :
    Rn xs xl e mm_hasWord 0 [some (.inr (.inr 182)), some (.inl v1), none] [] h Q := by
  refine R_ld (v := .inr (.inr 182)) dd_hasWord_0 rfl rfl rfl rfl ?_
  refine R_ld (v := .inl v1) dd_hasWord_1 rfl rfl rfl rfl ?_
  obtain ⟨c, hc, k⟩ := k
  exact R_call (as := [.inr (.inr 182), .inl v1]) (rest := []) (M' := mm_isWord) (ls0 := [some (.inr (.inr 182)), some (.inl v1)]) dd_hasWord_2 rfl rfl (cw_v cw_12_219 io_182 rfl rfl (Nat.le_of_ble_eq_true rfl) (Nat.le_of_ble_eq_true rfl)) mt_isWord rfl hc rfl k
theorem B_hasWord_5_1 {xs : Nat → Int} {xl e : Nat} {h : LH} {Q : Option LV → LH → Prop} {v1 : Int} (hF : RF h)
    (k : (-2147483648 ≤ (rd h 182 7) + 1 ∧ (rd h 182 7) + 1 ≤ 2147483647) ∧
      Q (some (.inl 1)) (wr h 182 7 ((rd h 182 7) + 1))) :
    Rn xs xl e mm_hasWord 5 [some (.inr (.inr 182)), some (.inl v1), none] [.inl 1] h Q := by
  refine R_st (ls' := [some (.inr (.inr 182)), some (.inl v1), some (.inl 1)]) dd_hasWord_5 rfl rfl rfl (Nat.le_of_ble_eq_true rfl) rfl rfl ?_
  refine R_ld (v := .inr (.inr 182)) dd_hasWord_6 rfl rfl rfl rfl ?_
  refine R_A dd_hasWord_7 rfl rfl rfl rfl ?_
  refine R_gf (v := .inl (rd h 182 7)) dd_hasWord_8 fd_12_207 io_182 (congrArg (fun z : Int => (Sum.inl z : LV)) (rfl)) rfl ?_
  refine R_ld (v := .inl 1) dd_hasWord_11 rfl rfl rfl rfl ?_
  refine R_if dd_hasWord_12 rfl rfl (fun (c2 : 1 = 0) => ?_) (fun (c2 : 1 ≠ 0) => ?_)
  · exact absurd c2 (by omega)
  · skip
    refine R_ic dd_hasWord_15 (by decide) rfl ?_
    refine R_goto dd_hasWord_16 rfl ?_
    obtain ⟨s1, k⟩ := k
    refine R_iadd (c := (rd h 182 7) + 1) dd_hasWord_20 (by omega) s1 rfl ?_
    refine R_pf (z := ((rd h 182 7) + 1)) dd_hasWord_21 fd_12_207 io_182 fn_12_7 rfl rfl ?_
    refine R_ld (v := .inl 1) dd_hasWord_24 rfl rfl rfl rfl ?_
    exact R_zret dd_hasWord_25 rfl (by decide) k
theorem B_hasWord_5_0 {xs : Nat → Int} {xl e : Nat} {h : LH} {Q : Option LV → LH → Prop} {v1 : Int} (hF : RF h)
    (k : (-2147483648 ≤ (rd h 182 7) ∧ (rd h 182 7) ≤ 2147483647) ∧
      Q (some (.inl 0)) (wr h 182 7 (rd h 182 7))) :
    Rn xs xl e mm_hasWord 5 [some (.inr (.inr 182)), some (.inl v1), none] [.inl 0] h Q := by
  refine R_st (ls' := [some (.inr (.inr 182)), some (.inl v1), some (.inl 0)]) dd_hasWord_5 rfl rfl rfl (Nat.le_of_ble_eq_true rfl) rfl rfl ?_
  refine R_ld (v := .inr (.inr 182)) dd_hasWord_6 rfl rfl rfl rfl ?_
  refine R_A dd_hasWord_7 rfl rfl rfl rfl ?_
  refine R_gf (v := .inl (rd h 182 7)) dd_hasWord_8 fd_12_207 io_182 (congrArg (fun z : Int => (Sum.inl z : LV)) (rfl)) rfl ?_
  refine R_ld (v := .inl 0) dd_hasWord_11 rfl rfl rfl rfl ?_
  refine R_if dd_hasWord_12 rfl rfl (fun (c2 : 0 = 0) => ?_) (fun (c2 : 0 ≠ 0) => ?_)
  · skip
    refine R_ic dd_hasWord_19 (by decide) rfl ?_
    obtain ⟨s1, k⟩ := k
    refine R_iadd (c := (rd h 182 7)) dd_hasWord_20 (by omega) s1 rfl ?_
    refine R_pf (z := (rd h 182 7)) dd_hasWord_21 fd_12_207 io_182 fn_12_7 rfl rfl ?_
    refine R_ld (v := .inl 0) dd_hasWord_24 rfl rfl rfl rfl ?_
    exact R_zret dd_hasWord_25 rfl (by decide) k
  · exact absurd c2 (by omega)
theorem B_takeWord_0 {xs : Nat → Int} {xl e : Nat} {h : LH} {Q : Option LV → LH → Prop} {v1 : Int} (hF : RF h)
    (k : (∃ c, c < e ∧ Rn xs xl c mm_hasWord 0 [some (.inr (.inr 182)), some (.inl v1), none] [] h (fun r h' => Rn xs xl e mm_takeWord 5 [some (.inr (.inr 182)), some (.inl v1)] (r.toList ++ []) h' Q))) :
    Rn xs xl e mm_takeWord 0 [some (.inr (.inr 182)), some (.inl v1)] [] h Q := by
  refine R_ld (v := .inr (.inr 182)) dd_takeWord_0 rfl rfl rfl rfl ?_
  refine R_ld (v := .inl v1) dd_takeWord_1 rfl rfl rfl rfl ?_
  obtain ⟨c, hc, k⟩ := k
  exact R_call (as := [.inr (.inr 182), .inl v1]) (rest := []) (M' := mm_hasWord) (ls0 := [some (.inr (.inr 182)), some (.inl v1), none]) dd_takeWord_2 rfl rfl (cw_v cw_12_222 io_182 rfl rfl (Nat.le_of_ble_eq_true rfl) (Nat.le_of_ble_eq_true rfl)) mt_hasWord rfl hc rfl k
theorem B_takeWord_5_1 {xs : Nat → Int} {xl e : Nat} {h : LH} {Q : Option LV → LH → Prop} {v1 : Int} (hF : RF h)
    (k : Q none h) :
    Rn xs xl e mm_takeWord 5 [some (.inr (.inr 182)), some (.inl v1)] [.inl 1] h Q := by
  refine R_if dd_takeWord_5 rfl rfl (fun (c1 : 1 ≠ 0) => ?_) (fun (c1 : 1 = 0) => ?_)
  · skip
    exact R_vret dd_takeWord_13 rfl k
  · exact absurd c1 (by omega)
theorem B_takeWord_5_0 {xs : Nat → Int} {xl e : Nat} {h : LH} {Q : Option LV → LH → Prop} {v1 : Int} (hF : RF h)
    (k : (∃ c, c < e ∧ Rn xs xl c mm_wrong 0 [some (.inr (.inr 182)), some (.inl 1)] [] h (fun r h' => Rn xs xl e mm_takeWord 13 [some (.inr (.inr 182)), some (.inl v1)] (r.toList ++ []) h' Q))) :
    Rn xs xl e mm_takeWord 5 [some (.inr (.inr 182)), some (.inl v1)] [.inl 0] h Q := by
  refine R_if dd_takeWord_5 rfl rfl (fun (c2 : 0 ≠ 0) => ?_) (fun (c2 : 0 = 0) => ?_)
  · exact absurd c2 (by omega)
  · skip
    refine R_ld (v := .inr (.inr 182)) dd_takeWord_8 rfl rfl rfl rfl ?_
    refine R_ic dd_takeWord_9 (by decide) rfl ?_
    obtain ⟨c, hc, k⟩ := k
    exact R_call (as := [.inr (.inr 182), .inl 1]) (rest := []) (M' := mm_wrong) (ls0 := [some (.inr (.inr 182)), some (.inl 1)]) dd_takeWord_10 rfl rfl (cw_v cw_12_216 io_182 rfl rfl (Nat.le_of_ble_eq_true rfl) (Nat.le_of_ble_eq_true rfl)) mt_wrong rfl hc rfl k
theorem B_takeWord_13 {xs : Nat → Int} {xl e : Nat} {h : LH} {Q : Option LV → LH → Prop} {v1 : Int} (hF : RF h)
    (k : Q none h) :
    Rn xs xl e mm_takeWord 13 [some (.inr (.inr 182)), some (.inl v1)] [] h Q := by
  exact R_vret dd_takeWord_13 rfl k
theorem B_wordHere_0 {xs : Nat → Int} {xl e : Nat} {h : LH} {Q : Option LV → LH → Prop} {v1 v2 : Int} (hF : RF h)
    (k : Rn xs xl e mm_wordHere 5 [some (.inr (.inr 182)), some (.inl v1), some (.inl v2), some (.inl (-1)), some (.inl 0)] [] h Q) :
    Rn xs xl e mm_wordHere 0 [some (.inr (.inr 182)), some (.inl v1), some (.inl v2), none, none] [] h Q := by
  refine R_ic dd_wordHere_0 (by decide) rfl ?_
  refine R_st (ls' := [some (.inr (.inr 182)), some (.inl v1), some (.inl v2), some (.inl (-1)), none]) dd_wordHere_1 rfl rfl rfl (Nat.le_of_ble_eq_true rfl) rfl rfl ?_
  refine R_ic dd_wordHere_2 (by decide) rfl ?_
  refine R_st (ls' := [some (.inr (.inr 182)), some (.inl v1), some (.inl v2), some (.inl (-1)), some (.inl 0)]) dd_wordHere_3 rfl rfl rfl (Nat.le_of_ble_eq_true rfl) rfl rfl ?_
  exact k
theorem B_wordHere_5 {xs : Nat → Int} {xl e : Nat} {h : LH} {Q : Option LV → LH → Prop} {v1 v2 v3 v4 : Int} (hF : RF h)
    (k : (v2 ≤ v4 →
        Q (some (.inl v3)) h) ∧
      (v4 < v2 →
        (-2147483648 ≤ v1 + v4 ∧ v1 + v4 ≤ 2147483647) ∧
        (∃ c, c < e ∧ Rn xs xl c mm_isWord 0 [some (.inr (.inr 182)), some (.inl (v1 + v4))] [] h (fun r h' => Rn xs xl e mm_wordHere 19 [some (.inr (.inr 182)), some (.inl v1), some (.inl v2), some (.inl v3), some (.inl v4)] (r.toList ++ []) h' Q)))) :
    Rn xs xl e mm_wordHere 5 [some (.inr (.inr 182)), some (.inl v1), some (.inl v2), some (.inl v3), some (.inl v4)] [] h Q := by
  refine R_ld (v := .inl v4) dd_wordHere_5 rfl rfl rfl rfl ?_
  refine R_ld (v := .inl v2) dd_wordHere_7 rfl rfl rfl rfl ?_
  refine R_icmp dd_wordHere_8 rfl rfl (fun (c3 : v2 ≤ v4) => ?_) (fun (c3 : v4 < v2) => ?_)
  · replace k := k.1 c3
    refine R_ld (v := .inl v3) dd_wordHere_35 rfl rfl rfl rfl ?_
    exact R_iret dd_wordHere_36 rfl k
  · replace k := k.2 c3
    refine R_ld (v := .inr (.inr 182)) dd_wordHere_11 rfl rfl rfl rfl ?_
    refine R_ld (v := .inl v1) dd_wordHere_12 rfl rfl rfl rfl ?_
    refine R_ld (v := .inl v4) dd_wordHere_13 rfl rfl rfl rfl ?_
    obtain ⟨s1, k⟩ := k
    refine R_iadd (c := v1 + v4) dd_wordHere_15 (by omega) s1 rfl ?_
    obtain ⟨c, hc, k⟩ := k
    exact R_call (as := [.inr (.inr 182), .inl (v1 + v4)]) (rest := []) (M' := mm_isWord) (ls0 := [some (.inr (.inr 182)), some (.inl (v1 + v4))]) dd_wordHere_16 rfl rfl (cw_v cw_12_219 io_182 rfl rfl (Nat.le_of_ble_eq_true rfl) (Nat.le_of_ble_eq_true rfl)) mt_isWord rfl hc rfl k
theorem B_wordHere_19_1 {xs : Nat → Int} {xl e : Nat} {h : LH} {Q : Option LV → LH → Prop} {v1 v2 v3 v4 : Int} (hF : RF h)
    (k : (-2147483648 ≤ v4 + 1 ∧ v4 + 1 ≤ 2147483647) ∧
      Rn xs xl e mm_wordHere 5 [some (.inr (.inr 182)), some (.inl v1), some (.inl v2), some (.inl v4), some (.inl (v4 + 1))] [] h Q) :
    Rn xs xl e mm_wordHere 19 [some (.inr (.inr 182)), some (.inl v1), some (.inl v2), some (.inl v3), some (.inl v4)] [.inl 1] h Q := by
  refine R_if dd_wordHere_19 rfl rfl (fun (c2 : 1 = 0) => ?_) (fun (c2 : 1 ≠ 0) => ?_)
  · exact absurd c2 (by omega)
  · skip
    refine R_ld (v := .inl v4) dd_wordHere_22 rfl rfl rfl rfl ?_
    refine R_goto dd_wordHere_24 rfl ?_
    refine R_st (ls' := [some (.inr (.inr 182)), some (.inl v1), some (.inl v2), some (.inl v4), some (.inl v4)]) dd_wordHere_28 rfl rfl rfl (Nat.le_of_ble_eq_true rfl) rfl rfl ?_
    obtain ⟨s1, k⟩ := k
    refine R_inc (y := v4 + 1) (ls' := [some (.inr (.inr 182)), some (.inl v1), some (.inl v2), some (.inl v4), some (.inl (v4 + 1))]) dd_wordHere_29 rfl (by decide) (by omega) s1 rfl rfl ?_
    refine R_goto dd_wordHere_32 rfl ?_
    exact k
theorem B_wordHere_19_0 {xs : Nat → Int} {xl e : Nat} {h : LH} {Q : Option LV → LH → Prop} {v1 v2 v3 v4 : Int} (hF : RF h)
    (k : (-2147483648 ≤ v4 + 1 ∧ v4 + 1 ≤ 2147483647) ∧
      Rn xs xl e mm_wordHere 5 [some (.inr (.inr 182)), some (.inl v1), some (.inl v2), some (.inl v3), some (.inl (v4 + 1))] [] h Q) :
    Rn xs xl e mm_wordHere 19 [some (.inr (.inr 182)), some (.inl v1), some (.inl v2), some (.inl v3), some (.inl v4)] [.inl 0] h Q := by
  refine R_if dd_wordHere_19 rfl rfl (fun (c2 : 0 = 0) => ?_) (fun (c2 : 0 ≠ 0) => ?_)
  · skip
    refine R_ld (v := .inl v3) dd_wordHere_27 rfl rfl rfl rfl ?_
    refine R_st (ls' := [some (.inr (.inr 182)), some (.inl v1), some (.inl v2), some (.inl v3), some (.inl v4)]) dd_wordHere_28 rfl rfl rfl (Nat.le_of_ble_eq_true rfl) rfl rfl ?_
    obtain ⟨s1, k⟩ := k
    refine R_inc (y := v4 + 1) (ls' := [some (.inr (.inr 182)), some (.inl v1), some (.inl v2), some (.inl v3), some (.inl (v4 + 1))]) dd_wordHere_29 rfl (by decide) (by omega) s1 rfl rfl ?_
    refine R_goto dd_wordHere_32 rfl ?_
    exact k
  · exact absurd c2 (by omega)
theorem B_emit_0 {xs : Nat → Int} {xl e : Nat} {h : LH} {Q : Option LV → LH → Prop} {v1 v2 : Int} (hF : RF h)
    (k : (-2147483648 ≤ (rd h 182 13) + 1100 ∧ (rd h 182 13) + 1100 ≤ 2147483647) ∧
      (0 ≤ (rd h 182 13) + 1100 ∧ (rd h 182 13) + 1100 < 2200) ∧
      (-2147483648 ≤ (rd h 182 13) + 1100 ∧ (rd h 182 13) + 1100 ≤ 2147483647) ∧
      (0 ≤ (rd h 182 13) + 1100 ∧ (rd h 182 13) + 1100 < 2200) ∧
      (-2147483648 ≤ (rd h 182 13) + 1 ∧ (rd h 182 13) + 1 ≤ 2147483647) ∧
      Q none (wr (wr (wr h 189 ((rd h 182 13) + 1100) v1) 190 ((rd h 182 13) + 1100) v2) 182 13 ((rd h 182 13) + 1))) :
    Rn xs xl e mm_emit 0 [some (.inr (.inr 182)), some (.inl v1), some (.inl v2)] [] h Q := by
  refine R_ld (v := .inr (.inr 182)) dd_emit_0 rfl rfl rfl rfl ?_
  refine R_gf (v := .inr (.inr 189)) dd_emit_1 fd_12_98 io_182 (congrArg (fun z : Int => (Sum.inr (Sum.inr z) : LV)) (rf_182_11 hF)) rfl ?_
  refine R_si dd_emit_4 (by decide) rfl ?_
  refine R_ld (v := .inr (.inr 182)) dd_emit_7 rfl rfl rfl rfl ?_
  refine R_gf (v := .inl (rd h 182 13)) dd_emit_8 fd_12_244 io_182 (congrArg (fun z : Int => (Sum.inl z : LV)) (rfl)) rfl ?_
  obtain ⟨s1, k⟩ := k
  refine R_iadd (c := (rd h 182 13) + 1100) dd_emit_11 (by omega) s1 rfl ?_
  refine R_ld (v := .inl v1) dd_emit_12 rfl rfl rfl rfl ?_
  obtain ⟨s2, k⟩ := k
  refine R_iast (n := 2200) dd_emit_13 ia_189 la_189 s2 rfl ?_
  refine R_ld (v := .inr (.inr 182)) dd_emit_14 rfl rfl rfl rfl ?_
  refine R_gf (v := .inr (.inr 190)) dd_emit_15 fd_12_101 io_182 (congrArg (fun z : Int => (Sum.inr (Sum.inr z) : LV)) ((rdw_ne (by decide)).trans (rf_182_12 hF))) rfl ?_
  refine R_si dd_emit_18 (by decide) rfl ?_
  refine R_ld (v := .inr (.inr 182)) dd_emit_21 rfl rfl rfl rfl ?_
  refine R_gf (v := .inl (rd h 182 13)) dd_emit_22 fd_12_244 io_182 (congrArg (fun z : Int => (Sum.inl z : LV)) (rdw_ne (by decide))) rfl ?_
  obtain ⟨s3, k⟩ := k
  refine R_iadd (c := (rd h 182 13) + 1100) dd_emit_25 (by omega) s3 rfl ?_
  refine R_ld (v := .inl v2) dd_emit_26 rfl rfl rfl rfl ?_
  obtain ⟨s4, k⟩ := k
  refine R_iast (n := 2200) dd_emit_27 ia_190 la_190 s4 rfl ?_
  refine R_ld (v := .inr (.inr 182)) dd_emit_28 rfl rfl rfl rfl ?_
  refine R_A dd_emit_29 rfl rfl rfl rfl ?_
  refine R_gf (v := .inl (rd h 182 13)) dd_emit_30 fd_12_244 io_182 (congrArg (fun z : Int => (Sum.inl z : LV)) ((rdw_ne (by decide)).trans (rdw_ne (by decide)))) rfl ?_
  refine R_ic dd_emit_33 (by decide) rfl ?_
  obtain ⟨s5, k⟩ := k
  refine R_iadd (c := (rd h 182 13) + 1) dd_emit_34 (by omega) s5 rfl ?_
  refine R_pf (z := ((rd h 182 13) + 1)) dd_emit_35 fd_12_244 io_182 fn_12_13 rfl rfl ?_
  exact R_vret dd_emit_38 rfl k
theorem B_products_0 {xs : Nat → Int} {xl e : Nat} {h : LH} {Q : Option LV → LH → Prop} {v1 : Int} (hF : RF h)
    (k : (∃ c, c < e ∧ Rn xs xl c mm_takePart 0 [some (.inr (.inr 182)), some (.inl v1), none, none] [] h (fun r h' => Rn xs xl e mm_products 5 [some (.inr (.inr 182)), some (.inl v1)] (r.toList ++ []) h' Q))) :
    Rn xs xl e mm_products 0 [some (.inr (.inr 182)), some (.inl v1)] [] h Q := by
  refine R_ld (v := .inr (.inr 182)) dd_products_0 rfl rfl rfl rfl ?_
  refine R_ld (v := .inl v1) dd_products_1 rfl rfl rfl rfl ?_
  obtain ⟨c, hc, k⟩ := k
  exact R_call (as := [.inr (.inr 182), .inl v1]) (rest := []) (M' := mm_takePart) (ls0 := [some (.inr (.inr 182)), some (.inl v1), none, none]) dd_products_2 rfl rfl (cw_v cw_12_313 io_182 rfl rfl (Nat.le_of_ble_eq_true rfl) (Nat.le_of_ble_eq_true rfl)) mt_takePart rfl hc rfl k
theorem B_products_5 {xs : Nat → Int} {xl e : Nat} {h : LH} {Q : Option LV → LH → Prop} {v1 : Int} (hF : RF h)
    (k : (∃ c, c < e ∧ Rn xs xl c mm_hasSign 0 [some (.inr (.inr 182)), some (.inl 42), none] [] h (fun r h' => Rn xs xl e mm_products 11 [some (.inr (.inr 182)), some (.inl v1)] (r.toList ++ []) h' Q))) :
    Rn xs xl e mm_products 5 [some (.inr (.inr 182)), some (.inl v1)] [] h Q := by
  refine R_ld (v := .inr (.inr 182)) dd_products_5 rfl rfl rfl rfl ?_
  refine R_bi dd_products_6 (by decide) rfl ?_
  obtain ⟨c, hc, k⟩ := k
  exact R_call (as := [.inr (.inr 182), .inl 42]) (rest := []) (M' := mm_hasSign) (ls0 := [some (.inr (.inr 182)), some (.inl 42), none]) dd_products_8 rfl rfl (cw_v cw_12_307 io_182 rfl rfl (Nat.le_of_ble_eq_true rfl) (Nat.le_of_ble_eq_true rfl)) mt_hasSign rfl hc rfl k
theorem B_products_11_1 {xs : Nat → Int} {xl e : Nat} {h : LH} {Q : Option LV → LH → Prop} {v1 : Int} (hF : RF h)
    (k : (∃ c, c < e ∧ Rn xs xl c mm_takePart 0 [some (.inr (.inr 182)), some (.inl v1), none, none] [] h (fun r h' => Rn xs xl e mm_products 19 [some (.inr (.inr 182)), some (.inl v1)] (r.toList ++ []) h' Q))) :
    Rn xs xl e mm_products 11 [some (.inr (.inr 182)), some (.inl v1)] [.inl 1] h Q := by
  refine R_if dd_products_11 rfl rfl (fun (c2 : 1 = 0) => ?_) (fun (c2 : 1 ≠ 0) => ?_)
  · exact absurd c2 (by omega)
  · skip
    refine R_ld (v := .inr (.inr 182)) dd_products_14 rfl rfl rfl rfl ?_
    refine R_ld (v := .inl v1) dd_products_15 rfl rfl rfl rfl ?_
    obtain ⟨c, hc, k⟩ := k
    exact R_call (as := [.inr (.inr 182), .inl v1]) (rest := []) (M' := mm_takePart) (ls0 := [some (.inr (.inr 182)), some (.inl v1), none, none]) dd_products_16 rfl rfl (cw_v cw_12_313 io_182 rfl rfl (Nat.le_of_ble_eq_true rfl) (Nat.le_of_ble_eq_true rfl)) mt_takePart rfl hc rfl k
theorem B_products_11_0 {xs : Nat → Int} {xl e : Nat} {h : LH} {Q : Option LV → LH → Prop} {v1 : Int} (hF : RF h)
    (k : Q none h) :
    Rn xs xl e mm_products 11 [some (.inr (.inr 182)), some (.inl v1)] [.inl 0] h Q := by
  refine R_if dd_products_11 rfl rfl (fun (c1 : 0 = 0) => ?_) (fun (c1 : 0 ≠ 0) => ?_)
  · skip
    exact R_vret dd_products_29 rfl k
  · exact absurd c1 (by omega)
theorem B_products_19 {xs : Nat → Int} {xl e : Nat} {h : LH} {Q : Option LV → LH → Prop} {v1 : Int} (hF : RF h)
    (k : (∃ c, c < e ∧ Rn xs xl c mm_emit 0 [some (.inr (.inr 182)), some (.inl 6), some (.inl 0)] [] h (fun r h' => Rn xs xl e mm_products 26 [some (.inr (.inr 182)), some (.inl v1)] (r.toList ++ []) h' Q))) :
    Rn xs xl e mm_products 19 [some (.inr (.inr 182)), some (.inl v1)] [] h Q := by
  refine R_ld (v := .inr (.inr 182)) dd_products_19 rfl rfl rfl rfl ?_
  refine R_bi dd_products_20 (by decide) rfl ?_
  refine R_ic dd_products_22 (by decide) rfl ?_
  obtain ⟨c, hc, k⟩ := k
  exact R_call (as := [.inr (.inr 182), .inl 6, .inl 0]) (rest := []) (M' := mm_emit) (ls0 := [some (.inr (.inr 182)), some (.inl 6), some (.inl 0)]) dd_products_23 rfl rfl (cw_v cw_12_284 io_182 rfl rfl (Nat.le_of_ble_eq_true rfl) (Nat.le_of_ble_eq_true rfl)) mt_emit rfl hc rfl k
theorem B_products_26 {xs : Nat → Int} {xl e : Nat} {h : LH} {Q : Option LV → LH → Prop} {v1 : Int} (hF : RF h)
    (k : Rn xs xl e mm_products 5 [some (.inr (.inr 182)), some (.inl v1)] [] h Q) :
    Rn xs xl e mm_products 26 [some (.inr (.inr 182)), some (.inl v1)] [] h Q := by
  refine R_goto dd_products_26 rfl ?_
  exact k
theorem B_sums_0 {xs : Nat → Int} {xl e : Nat} {h : LH} {Q : Option LV → LH → Prop} {v1 : Int} (hF : RF h)
    (k : (∃ c, c < e ∧ Rn xs xl c mm_products 0 [some (.inr (.inr 182)), some (.inl v1)] [] h (fun r h' => Rn xs xl e mm_sums 5 [some (.inr (.inr 182)), some (.inl v1), none] (r.toList ++ []) h' Q))) :
    Rn xs xl e mm_sums 0 [some (.inr (.inr 182)), some (.inl v1), none] [] h Q := by
  refine R_ld (v := .inr (.inr 182)) dd_sums_0 rfl rfl rfl rfl ?_
  refine R_ld (v := .inl v1) dd_sums_1 rfl rfl rfl rfl ?_
  obtain ⟨c, hc, k⟩ := k
  exact R_call (as := [.inr (.inr 182), .inl v1]) (rest := []) (M' := mm_products) (ls0 := [some (.inr (.inr 182)), some (.inl v1)]) dd_sums_2 rfl rfl (cw_v cw_12_310 io_182 rfl rfl (Nat.le_of_ble_eq_true rfl) (Nat.le_of_ble_eq_true rfl)) mt_products rfl hc rfl k
theorem B_sums_5 {xs : Nat → Int} {xl e : Nat} {h : LH} {Q : Option LV → LH → Prop} {v1 : Int} {o2 : Option LV} (no2 : nL o2) (hF : RF h)
    (k : (∃ c, c < e ∧ Rn xs xl c mm_isSign 0 [some (.inr (.inr 182)), some (.inl 43)] [] h (fun r h' => Rn xs xl e mm_sums 11 [some (.inr (.inr 182)), some (.inl v1), o2] (r.toList ++ []) h' Q))) :
    Rn xs xl e mm_sums 5 [some (.inr (.inr 182)), some (.inl v1), o2] [] h Q := by
  refine R_ld (v := .inr (.inr 182)) dd_sums_5 rfl rfl rfl rfl ?_
  refine R_bi dd_sums_6 (by decide) rfl ?_
  obtain ⟨c, hc, k⟩ := k
  exact R_call (as := [.inr (.inr 182), .inl 43]) (rest := []) (M' := mm_isSign) (ls0 := [some (.inr (.inr 182)), some (.inl 43)]) dd_sums_8 rfl rfl (cw_v cw_12_213 io_182 rfl rfl (Nat.le_of_ble_eq_true rfl) (Nat.le_of_ble_eq_true rfl)) mt_isSign rfl hc rfl k
theorem B_sums_11_1 {xs : Nat → Int} {xl e : Nat} {h : LH} {Q : Option LV → LH → Prop} {v1 : Int} {o2 : Option LV} (no2 : nL o2) (hF : RF h)
    (k : (∃ c, c < e ∧ Rn xs xl c mm_isSign 0 [some (.inr (.inr 182)), some (.inl 43)] [] h (fun r h' => Rn xs xl e mm_sums 29 [some (.inr (.inr 182)), some (.inl v1), o2] (r.toList ++ []) h' Q))) :
    Rn xs xl e mm_sums 11 [some (.inr (.inr 182)), some (.inl v1), o2] [.inl 1] h Q := by
  refine R_if dd_sums_11 rfl rfl (fun (c2 : 1 ≠ 0) => ?_) (fun (c2 : 1 = 0) => ?_)
  · skip
    refine R_ld (v := .inr (.inr 182)) dd_sums_23 rfl rfl rfl rfl ?_
    refine R_bi dd_sums_24 (by decide) rfl ?_
    obtain ⟨c, hc, k⟩ := k
    exact R_call (as := [.inr (.inr 182), .inl 43]) (rest := []) (M' := mm_isSign) (ls0 := [some (.inr (.inr 182)), some (.inl 43)]) dd_sums_26 rfl rfl (cw_v cw_12_213 io_182 rfl rfl (Nat.le_of_ble_eq_true rfl) (Nat.le_of_ble_eq_true rfl)) mt_isSign rfl hc rfl k
  · exact absurd c2 (by omega)
theorem B_sums_11_0 {xs : Nat → Int} {xl e : Nat} {h : LH} {Q : Option LV → LH → Prop} {v1 : Int} {o2 : Option LV} (no2 : nL o2) (hF : RF h)
    (k : (∃ c, c < e ∧ Rn xs xl c mm_isSign 0 [some (.inr (.inr 182)), some (.inl 45)] [] h (fun r h' => Rn xs xl e mm_sums 20 [some (.inr (.inr 182)), some (.inl v1), o2] (r.toList ++ []) h' Q))) :
    Rn xs xl e mm_sums 11 [some (.inr (.inr 182)), some (.inl v1), o2] [.inl 0] h Q := by
  refine R_if dd_sums_11 rfl rfl (fun (c2 : 0 ≠ 0) => ?_) (fun (c2 : 0 = 0) => ?_)
  · exact absurd c2 (by omega)
  · skip
    refine R_ld (v := .inr (.inr 182)) dd_sums_14 rfl rfl rfl rfl ?_
    refine R_bi dd_sums_15 (by decide) rfl ?_
    obtain ⟨c, hc, k⟩ := k
    exact R_call (as := [.inr (.inr 182), .inl 45]) (rest := []) (M' := mm_isSign) (ls0 := [some (.inr (.inr 182)), some (.inl 45)]) dd_sums_17 rfl rfl (cw_v cw_12_213 io_182 rfl rfl (Nat.le_of_ble_eq_true rfl) (Nat.le_of_ble_eq_true rfl)) mt_isSign rfl hc rfl k
theorem B_sums_20_1 {xs : Nat → Int} {xl e : Nat} {h : LH} {Q : Option LV → LH → Prop} {v1 : Int} {o2 : Option LV} (no2 : nL o2) (hF : RF h)
    (k : (∃ c, c < e ∧ Rn xs xl c mm_isSign 0 [some (.inr (.inr 182)), some (.inl 43)] [] h (fun r h' => Rn xs xl e mm_sums 29 [some (.inr (.inr 182)), some (.inl v1), o2] (r.toList ++ []) h' Q))) :
    Rn xs xl e mm_sums 20 [some (.inr (.inr 182)), some (.inl v1), o2] [.inl 1] h Q := by
  refine R_if dd_sums_20 rfl rfl (fun (c2 : 1 = 0) => ?_) (fun (c2 : 1 ≠ 0) => ?_)
  · exact absurd c2 (by omega)
  · skip
    refine R_ld (v := .inr (.inr 182)) dd_sums_23 rfl rfl rfl rfl ?_
    refine R_bi dd_sums_24 (by decide) rfl ?_
    obtain ⟨c, hc, k⟩ := k
    exact R_call (as := [.inr (.inr 182), .inl 43]) (rest := []) (M' := mm_isSign) (ls0 := [some (.inr (.inr 182)), some (.inl 43)]) dd_sums_26 rfl rfl (cw_v cw_12_213 io_182 rfl rfl (Nat.le_of_ble_eq_true rfl) (Nat.le_of_ble_eq_true rfl)) mt_isSign rfl hc rfl k
theorem B_sums_20_0 {xs : Nat → Int} {xl e : Nat} {h : LH} {Q : Option LV → LH → Prop} {v1 : Int} {o2 : Option LV} (no2 : nL o2) (hF : RF h)
    (k : Q none h) :
    Rn xs xl e mm_sums 20 [some (.inr (.inr 182)), some (.inl v1), o2] [.inl 0] h Q := by
  refine R_if dd_sums_20 rfl rfl (fun (c1 : 0 = 0) => ?_) (fun (c1 : 0 ≠ 0) => ?_)
  · skip
    exact R_vret dd_sums_62 rfl k
  · exact absurd c1 (by omega)
theorem B_sums_29 {xs : Nat → Int} {xl e : Nat} {h : LH} {Q : Option LV → LH → Prop} {v1 w0 : Int} {o2 : Option LV} (no2 : nL o2) (hF : RF h)
    (k : (-2147483648 ≤ (rd h 182 7) + 1 ∧ (rd h 182 7) + 1 ≤ 2147483647) ∧
      (∃ c, c < e ∧ Rn xs xl c mm_products 0 [some (.inr (.inr 182)), some (.inl v1)] [] (wr h 182 7 ((rd h 182 7) + 1)) (fun r h' => Rn xs xl e mm_sums 45 [some (.inr (.inr 182)), some (.inl v1), some (.inl w0)] (r.toList ++ []) h' Q))) :
    Rn xs xl e mm_sums 29 [some (.inr (.inr 182)), some (.inl v1), o2] [.inl w0] h Q := by
  refine R_st (ls' := [some (.inr (.inr 182)), some (.inl v1), some (.inl w0)]) dd_sums_29 rfl rfl rfl (Nat.le_of_ble_eq_true rfl) rfl rfl ?_
  refine R_ld (v := .inr (.inr 182)) dd_sums_30 rfl rfl rfl rfl ?_
  refine R_A dd_sums_31 rfl rfl rfl rfl ?_
  refine R_gf (v := .inl (rd h 182 7)) dd_sums_32 fd_12_207 io_182 (congrArg (fun z : Int => (Sum.inl z : LV)) (rfl)) rfl ?_
  refine R_ic dd_sums_35 (by decide) rfl ?_
  obtain ⟨s1, k⟩ := k
  refine R_iadd (c := (rd h 182 7) + 1) dd_sums_36 (by omega) s1 rfl ?_
  refine R_pf (z := ((rd h 182 7) + 1)) dd_sums_37 fd_12_207 io_182 fn_12_7 rfl rfl ?_
  refine R_ld (v := .inr (.inr 182)) dd_sums_40 rfl rfl rfl rfl ?_
  refine R_ld (v := .inl v1) dd_sums_41 rfl rfl rfl rfl ?_
  obtain ⟨c, hc, k⟩ := k
  exact R_call (as := [.inr (.inr 182), .inl v1]) (rest := []) (M' := mm_products) (ls0 := [some (.inr (.inr 182)), some (.inl v1)]) dd_sums_42 rfl rfl (cw_v cw_12_310 io_182 rfl rfl (Nat.le_of_ble_eq_true rfl) (Nat.le_of_ble_eq_true rfl)) mt_products rfl hc rfl k
theorem B_sums_45 {xs : Nat → Int} {xl e : Nat} {h : LH} {Q : Option LV → LH → Prop} {v1 v2 : Int} (hF : RF h)
    (k : (v2 = 0 →
        (∃ c, c < e ∧ Rn xs xl c mm_emit 0 [some (.inr (.inr 182)), some (.inl 5), some (.inl 0)] [] h (fun r h' => Rn xs xl e mm_sums 59 [some (.inr (.inr 182)), some (.inl v1), some (.inl v2)] (r.toList ++ []) h' Q))) ∧
      (v2 ≠ 0 →
        (∃ c, c < e ∧ Rn xs xl c mm_emit 0 [some (.inr (.inr 182)), some (.inl 4), some (.inl 0)] [] h (fun r h' => Rn xs xl e mm_sums 59 [some (.inr (.inr 182)), some (.inl v1), some (.inl v2)] (r.toList ++ []) h' Q)))) :
    Rn xs xl e mm_sums 45 [some (.inr (.inr 182)), some (.inl v1), some (.inl v2)] [] h Q := by
  refine R_ld (v := .inr (.inr 182)) dd_sums_45 rfl rfl rfl rfl ?_
  refine R_ld (v := .inl v2) dd_sums_46 rfl rfl rfl rfl ?_
  refine R_if dd_sums_47 rfl rfl (fun (c3 : v2 = 0) => ?_) (fun (c3 : v2 ≠ 0) => ?_)
  · replace k := k.1 c3
    refine R_ic dd_sums_54 (by decide) rfl ?_
    refine R_ic dd_sums_55 (by decide) rfl ?_
    obtain ⟨c, hc, k⟩ := k
    exact R_call (as := [.inr (.inr 182), .inl 5, .inl 0]) (rest := []) (M' := mm_emit) (ls0 := [some (.inr (.inr 182)), some (.inl 5), some (.inl 0)]) dd_sums_56 rfl rfl (cw_v cw_12_284 io_182 rfl rfl (Nat.le_of_ble_eq_true rfl) (Nat.le_of_ble_eq_true rfl)) mt_emit rfl hc rfl k
  · replace k := k.2 c3
    refine R_ic dd_sums_50 (by decide) rfl ?_
    refine R_goto dd_sums_51 rfl ?_
    refine R_ic dd_sums_55 (by decide) rfl ?_
    obtain ⟨c, hc, k⟩ := k
    exact R_call (as := [.inr (.inr 182), .inl 4, .inl 0]) (rest := []) (M' := mm_emit) (ls0 := [some (.inr (.inr 182)), some (.inl 4), some (.inl 0)]) dd_sums_56 rfl rfl (cw_v cw_12_284 io_182 rfl rfl (Nat.le_of_ble_eq_true rfl) (Nat.le_of_ble_eq_true rfl)) mt_emit rfl hc rfl k
theorem B_sums_59 {xs : Nat → Int} {xl e : Nat} {h : LH} {Q : Option LV → LH → Prop} {v1 v2 : Int} (hF : RF h)
    (k : Rn xs xl e mm_sums 5 [some (.inr (.inr 182)), some (.inl v1), some (.inl v2)] [] h Q) :
    Rn xs xl e mm_sums 59 [some (.inr (.inr 182)), some (.inl v1), some (.inl v2)] [] h Q := by
  refine R_goto dd_sums_59 rfl ?_
  exact k
theorem B_all_0 {xs : Nat → Int} {xl e : Nat} {h : LH} {Q : Option LV → LH → Prop} {v1 : Int} (hF : RF h)
    (k : (∃ c, c < e ∧ Rn xs xl c mm_test 0 [some (.inr (.inr 182)), some (.inl v1), none] [] h (fun r h' => Rn xs xl e mm_all 5 [some (.inr (.inr 182)), some (.inl v1), none] (r.toList ++ []) h' Q))) :
    Rn xs xl e mm_all 0 [some (.inr (.inr 182)), some (.inl v1), none] [] h Q := by
  refine R_ld (v := .inr (.inr 182)) dd_all_0 rfl rfl rfl rfl ?_
  refine R_ld (v := .inl v1) dd_all_1 rfl rfl rfl rfl ?_
  obtain ⟨c, hc, k⟩ := k
  exact R_call (as := [.inr (.inr 182), .inl v1]) (rest := []) (M' := mm_test) (ls0 := [some (.inr (.inr 182)), some (.inl v1), none]) dd_all_2 rfl rfl (cw_v cw_12_301 io_182 rfl rfl (Nat.le_of_ble_eq_true rfl) (Nat.le_of_ble_eq_true rfl)) mt_test rfl hc rfl k
theorem B_all_5 {xs : Nat → Int} {xl e : Nat} {h : LH} {Q : Option LV → LH → Prop} {v1 : Int} {o2 : Option LV} (no2 : nL o2) (hF : RF h)
    (k : (∃ c, c < e ∧ Rn xs xl c mm_isWord 0 [some (.inr (.inr 182)), some (.inl 23)] [] h (fun r h' => Rn xs xl e mm_all 11 [some (.inr (.inr 182)), some (.inl v1), o2] (r.toList ++ []) h' Q))) :
    Rn xs xl e mm_all 5 [some (.inr (.inr 182)), some (.inl v1), o2] [] h Q := by
  refine R_ld (v := .inr (.inr 182)) dd_all_5 rfl rfl rfl rfl ?_
  refine R_bi dd_all_6 (by decide) rfl ?_
  obtain ⟨c, hc, k⟩ := k
  exact R_call (as := [.inr (.inr 182), .inl 23]) (rest := []) (M' := mm_isWord) (ls0 := [some (.inr (.inr 182)), some (.inl 23)]) dd_all_8 rfl rfl (cw_v cw_12_219 io_182 rfl rfl (Nat.le_of_ble_eq_true rfl) (Nat.le_of_ble_eq_true rfl)) mt_isWord rfl hc rfl k
theorem B_all_11_1 {xs : Nat → Int} {xl e : Nat} {h : LH} {Q : Option LV → LH → Prop} {v1 : Int} {o2 : Option LV} (no2 : nL o2) (hF : RF h)
    (k : (∃ c, c < e ∧ Rn xs xl c mm_isWord 0 [some (.inr (.inr 182)), some (.inl 23)] [] h (fun r h' => Rn xs xl e mm_all 29 [some (.inr (.inr 182)), some (.inl v1), o2] (r.toList ++ []) h' Q))) :
    Rn xs xl e mm_all 11 [some (.inr (.inr 182)), some (.inl v1), o2] [.inl 1] h Q := by
  refine R_if dd_all_11 rfl rfl (fun (c2 : 1 ≠ 0) => ?_) (fun (c2 : 1 = 0) => ?_)
  · skip
    refine R_ld (v := .inr (.inr 182)) dd_all_23 rfl rfl rfl rfl ?_
    refine R_bi dd_all_24 (by decide) rfl ?_
    obtain ⟨c, hc, k⟩ := k
    exact R_call (as := [.inr (.inr 182), .inl 23]) (rest := []) (M' := mm_isWord) (ls0 := [some (.inr (.inr 182)), some (.inl 23)]) dd_all_26 rfl rfl (cw_v cw_12_219 io_182 rfl rfl (Nat.le_of_ble_eq_true rfl) (Nat.le_of_ble_eq_true rfl)) mt_isWord rfl hc rfl k
  · exact absurd c2 (by omega)
theorem B_all_11_0 {xs : Nat → Int} {xl e : Nat} {h : LH} {Q : Option LV → LH → Prop} {v1 : Int} {o2 : Option LV} (no2 : nL o2) (hF : RF h)
    (k : (∃ c, c < e ∧ Rn xs xl c mm_isWord 0 [some (.inr (.inr 182)), some (.inl 24)] [] h (fun r h' => Rn xs xl e mm_all 20 [some (.inr (.inr 182)), some (.inl v1), o2] (r.toList ++ []) h' Q))) :
    Rn xs xl e mm_all 11 [some (.inr (.inr 182)), some (.inl v1), o2] [.inl 0] h Q := by
  refine R_if dd_all_11 rfl rfl (fun (c2 : 0 ≠ 0) => ?_) (fun (c2 : 0 = 0) => ?_)
  · exact absurd c2 (by omega)
  · skip
    refine R_ld (v := .inr (.inr 182)) dd_all_14 rfl rfl rfl rfl ?_
    refine R_bi dd_all_15 (by decide) rfl ?_
    obtain ⟨c, hc, k⟩ := k
    exact R_call (as := [.inr (.inr 182), .inl 24]) (rest := []) (M' := mm_isWord) (ls0 := [some (.inr (.inr 182)), some (.inl 24)]) dd_all_17 rfl rfl (cw_v cw_12_219 io_182 rfl rfl (Nat.le_of_ble_eq_true rfl) (Nat.le_of_ble_eq_true rfl)) mt_isWord rfl hc rfl k
theorem B_all_20_1 {xs : Nat → Int} {xl e : Nat} {h : LH} {Q : Option LV → LH → Prop} {v1 : Int} {o2 : Option LV} (no2 : nL o2) (hF : RF h)
    (k : (∃ c, c < e ∧ Rn xs xl c mm_isWord 0 [some (.inr (.inr 182)), some (.inl 23)] [] h (fun r h' => Rn xs xl e mm_all 29 [some (.inr (.inr 182)), some (.inl v1), o2] (r.toList ++ []) h' Q))) :
    Rn xs xl e mm_all 20 [some (.inr (.inr 182)), some (.inl v1), o2] [.inl 1] h Q := by
  refine R_if dd_all_20 rfl rfl (fun (c2 : 1 = 0) => ?_) (fun (c2 : 1 ≠ 0) => ?_)
  · exact absurd c2 (by omega)
  · skip
    refine R_ld (v := .inr (.inr 182)) dd_all_23 rfl rfl rfl rfl ?_
    refine R_bi dd_all_24 (by decide) rfl ?_
    obtain ⟨c, hc, k⟩ := k
    exact R_call (as := [.inr (.inr 182), .inl 23]) (rest := []) (M' := mm_isWord) (ls0 := [some (.inr (.inr 182)), some (.inl 23)]) dd_all_26 rfl rfl (cw_v cw_12_219 io_182 rfl rfl (Nat.le_of_ble_eq_true rfl) (Nat.le_of_ble_eq_true rfl)) mt_isWord rfl hc rfl k
theorem B_all_20_0 {xs : Nat → Int} {xl e : Nat} {h : LH} {Q : Option LV → LH → Prop} {v1 : Int} {o2 : Option LV} (no2 : nL o2) (hF : RF h)
    (k : Q none h) :
    Rn xs xl e mm_all 20 [some (.inr (.inr 182)), some (.inl v1), o2] [.inl 0] h Q := by
  refine R_if dd_all_20 rfl rfl (fun (c1 : 0 = 0) => ?_) (fun (c1 : 0 ≠ 0) => ?_)
  · skip
    exact R_vret dd_all_64 rfl k
  · exact absurd c1 (by omega)
theorem B_all_29 {xs : Nat → Int} {xl e : Nat} {h : LH} {Q : Option LV → LH → Prop} {v1 w0 : Int} {o2 : Option LV} (no2 : nL o2) (hF : RF h)
    (k : (-2147483648 ≤ (rd h 182 7) + 1 ∧ (rd h 182 7) + 1 ≤ 2147483647) ∧
      (∃ c, c < e ∧ Rn xs xl c mm_test 0 [some (.inr (.inr 182)), some (.inl v1), none] [] (wr h 182 7 ((rd h 182 7) + 1)) (fun r h' => Rn xs xl e mm_all 45 [some (.inr (.inr 182)), some (.inl v1), some (.inl w0)] (r.toList ++ []) h' Q))) :
    Rn xs xl e mm_all 29 [some (.inr (.inr 182)), some (.inl v1), o2] [.inl w0] h Q := by
  refine R_st (ls' := [some (.inr (.inr 182)), some (.inl v1), some (.inl w0)]) dd_all_29 rfl rfl rfl (Nat.le_of_ble_eq_true rfl) rfl rfl ?_
  refine R_ld (v := .inr (.inr 182)) dd_all_30 rfl rfl rfl rfl ?_
  refine R_A dd_all_31 rfl rfl rfl rfl ?_
  refine R_gf (v := .inl (rd h 182 7)) dd_all_32 fd_12_207 io_182 (congrArg (fun z : Int => (Sum.inl z : LV)) (rfl)) rfl ?_
  refine R_ic dd_all_35 (by decide) rfl ?_
  obtain ⟨s1, k⟩ := k
  refine R_iadd (c := (rd h 182 7) + 1) dd_all_36 (by omega) s1 rfl ?_
  refine R_pf (z := ((rd h 182 7) + 1)) dd_all_37 fd_12_207 io_182 fn_12_7 rfl rfl ?_
  refine R_ld (v := .inr (.inr 182)) dd_all_40 rfl rfl rfl rfl ?_
  refine R_ld (v := .inl v1) dd_all_41 rfl rfl rfl rfl ?_
  obtain ⟨c, hc, k⟩ := k
  exact R_call (as := [.inr (.inr 182), .inl v1]) (rest := []) (M' := mm_test) (ls0 := [some (.inr (.inr 182)), some (.inl v1), none]) dd_all_42 rfl rfl (cw_v cw_12_301 io_182 rfl rfl (Nat.le_of_ble_eq_true rfl) (Nat.le_of_ble_eq_true rfl)) mt_test rfl hc rfl k
theorem B_all_45 {xs : Nat → Int} {xl e : Nat} {h : LH} {Q : Option LV → LH → Prop} {v1 v2 : Int} (hF : RF h)
    (k : (v2 = 0 →
        (∃ c, c < e ∧ Rn xs xl c mm_emit 0 [some (.inr (.inr 182)), some (.inl 10), some (.inl 0)] [] h (fun r h' => Rn xs xl e mm_all 61 [some (.inr (.inr 182)), some (.inl v1), some (.inl v2)] (r.toList ++ []) h' Q))) ∧
      (v2 ≠ 0 →
        (∃ c, c < e ∧ Rn xs xl c mm_emit 0 [some (.inr (.inr 182)), some (.inl 9), some (.inl 0)] [] h (fun r h' => Rn xs xl e mm_all 61 [some (.inr (.inr 182)), some (.inl v1), some (.inl v2)] (r.toList ++ []) h' Q)))) :
    Rn xs xl e mm_all 45 [some (.inr (.inr 182)), some (.inl v1), some (.inl v2)] [] h Q := by
  refine R_ld (v := .inr (.inr 182)) dd_all_45 rfl rfl rfl rfl ?_
  refine R_ld (v := .inl v2) dd_all_46 rfl rfl rfl rfl ?_
  refine R_if dd_all_47 rfl rfl (fun (c3 : v2 = 0) => ?_) (fun (c3 : v2 ≠ 0) => ?_)
  · replace k := k.1 c3
    refine R_bi dd_all_55 (by decide) rfl ?_
    refine R_ic dd_all_57 (by decide) rfl ?_
    obtain ⟨c, hc, k⟩ := k
    exact R_call (as := [.inr (.inr 182), .inl 10, .inl 0]) (rest := []) (M' := mm_emit) (ls0 := [some (.inr (.inr 182)), some (.inl 10), some (.inl 0)]) dd_all_58 rfl rfl (cw_v cw_12_284 io_182 rfl rfl (Nat.le_of_ble_eq_true rfl) (Nat.le_of_ble_eq_true rfl)) mt_emit rfl hc rfl k
  · replace k := k.2 c3
    refine R_bi dd_all_50 (by decide) rfl ?_
    refine R_goto dd_all_52 rfl ?_
    refine R_ic dd_all_57 (by decide) rfl ?_
    obtain ⟨c, hc, k⟩ := k
    exact R_call (as := [.inr (.inr 182), .inl 9, .inl 0]) (rest := []) (M' := mm_emit) (ls0 := [some (.inr (.inr 182)), some (.inl 9), some (.inl 0)]) dd_all_58 rfl rfl (cw_v cw_12_284 io_182 rfl rfl (Nat.le_of_ble_eq_true rfl) (Nat.le_of_ble_eq_true rfl)) mt_emit rfl hc rfl k
theorem B_all_61 {xs : Nat → Int} {xl e : Nat} {h : LH} {Q : Option LV → LH → Prop} {v1 v2 : Int} (hF : RF h)
    (k : Rn xs xl e mm_all 5 [some (.inr (.inr 182)), some (.inl v1), some (.inl v2)] [] h Q) :
    Rn xs xl e mm_all 61 [some (.inr (.inr 182)), some (.inl v1), some (.inl v2)] [] h Q := by
  refine R_goto dd_all_61 rfl ?_
  exact k
theorem B_test_0 {xs : Nat → Int} {xl e : Nat} {h : LH} {Q : Option LV → LH → Prop} {v1 : Int} (hF : RF h)
    (k : (∃ c, c < e ∧ Rn xs xl c mm_sums 0 [some (.inr (.inr 182)), some (.inl v1), none] [] h (fun r h' => Rn xs xl e mm_test 5 [some (.inr (.inr 182)), some (.inl v1), none] (r.toList ++ []) h' Q))) :
    Rn xs xl e mm_test 0 [some (.inr (.inr 182)), some (.inl v1), none] [] h Q := by
  refine R_ld (v := .inr (.inr 182)) dd_test_0 rfl rfl rfl rfl ?_
  refine R_ld (v := .inl v1) dd_test_1 rfl rfl rfl rfl ?_
  obtain ⟨c, hc, k⟩ := k
  exact R_call (as := [.inr (.inr 182), .inl v1]) (rest := []) (M' := mm_sums) (ls0 := [some (.inr (.inr 182)), some (.inl v1), none]) dd_test_2 rfl rfl (cw_v cw_12_304 io_182 rfl rfl (Nat.le_of_ble_eq_true rfl) (Nat.le_of_ble_eq_true rfl)) mt_sums rfl hc rfl k
theorem B_test_5 {xs : Nat → Int} {xl e : Nat} {h : LH} {Q : Option LV → LH → Prop} {v1 : Int} (hF : RF h)
    (k : (∃ c, c < e ∧ Rn xs xl c mm_isSign 0 [some (.inr (.inr 182)), some (.inl 60)] [] h (fun r h' => Rn xs xl e mm_test 11 [some (.inr (.inr 182)), some (.inl v1), none] (r.toList ++ []) h' Q))) :
    Rn xs xl e mm_test 5 [some (.inr (.inr 182)), some (.inl v1), none] [] h Q := by
  refine R_ld (v := .inr (.inr 182)) dd_test_5 rfl rfl rfl rfl ?_
  refine R_bi dd_test_6 (by decide) rfl ?_
  obtain ⟨c, hc, k⟩ := k
  exact R_call (as := [.inr (.inr 182), .inl 60]) (rest := []) (M' := mm_isSign) (ls0 := [some (.inr (.inr 182)), some (.inl 60)]) dd_test_8 rfl rfl (cw_v cw_12_213 io_182 rfl rfl (Nat.le_of_ble_eq_true rfl) (Nat.le_of_ble_eq_true rfl)) mt_isSign rfl hc rfl k
theorem B_test_11 {xs : Nat → Int} {xl e : Nat} {h : LH} {Q : Option LV → LH → Prop} {v1 w0 : Int} (hF : RF h)
    (k : (∃ c, c < e ∧ Rn xs xl c mm_hasSign 0 [some (.inr (.inr 182)), some (.inl 60), none] [] h (fun r h' => Rn xs xl e mm_test 18 [some (.inr (.inr 182)), some (.inl v1), some (.inl w0)] (r.toList ++ []) h' Q))) :
    Rn xs xl e mm_test 11 [some (.inr (.inr 182)), some (.inl v1), none] [.inl w0] h Q := by
  refine R_st (ls' := [some (.inr (.inr 182)), some (.inl v1), some (.inl w0)]) dd_test_11 rfl rfl rfl (Nat.le_of_ble_eq_true rfl) rfl rfl ?_
  refine R_ld (v := .inr (.inr 182)) dd_test_12 rfl rfl rfl rfl ?_
  refine R_bi dd_test_13 (by decide) rfl ?_
  obtain ⟨c, hc, k⟩ := k
  exact R_call (as := [.inr (.inr 182), .inl 60]) (rest := []) (M' := mm_hasSign) (ls0 := [some (.inr (.inr 182)), some (.inl 60), none]) dd_test_15 rfl rfl (cw_v cw_12_307 io_182 rfl rfl (Nat.le_of_ble_eq_true rfl) (Nat.le_of_ble_eq_true rfl)) mt_hasSign rfl hc rfl k
theorem B_test_18_1 {xs : Nat → Int} {xl e : Nat} {h : LH} {Q : Option LV → LH → Prop} {v1 v2 : Int} (hF : RF h)
    (k : (∃ c, c < e ∧ Rn xs xl c mm_sums 0 [some (.inr (.inr 182)), some (.inl v1), none] [] h (fun r h' => Rn xs xl e mm_test 35 [some (.inr (.inr 182)), some (.inl v1), some (.inl v2)] (r.toList ++ []) h' Q))) :
    Rn xs xl e mm_test 18 [some (.inr (.inr 182)), some (.inl v1), some (.inl v2)] [.inl 1] h Q := by
  refine R_if dd_test_18 rfl rfl (fun (c2 : 1 ≠ 0) => ?_) (fun (c2 : 1 = 0) => ?_)
  · skip
    refine R_ld (v := .inr (.inr 182)) dd_test_30 rfl rfl rfl rfl ?_
    refine R_ld (v := .inl v1) dd_test_31 rfl rfl rfl rfl ?_
    obtain ⟨c, hc, k⟩ := k
    exact R_call (as := [.inr (.inr 182), .inl v1]) (rest := []) (M' := mm_sums) (ls0 := [some (.inr (.inr 182)), some (.inl v1), none]) dd_test_32 rfl rfl (cw_v cw_12_304 io_182 rfl rfl (Nat.le_of_ble_eq_true rfl) (Nat.le_of_ble_eq_true rfl)) mt_sums rfl hc rfl k
  · exact absurd c2 (by omega)
theorem B_test_18_0 {xs : Nat → Int} {xl e : Nat} {h : LH} {Q : Option LV → LH → Prop} {v1 v2 : Int} (hF : RF h)
    (k : (∃ c, c < e ∧ Rn xs xl c mm_hasSign 0 [some (.inr (.inr 182)), some (.inl 61), none] [] h (fun r h' => Rn xs xl e mm_test 27 [some (.inr (.inr 182)), some (.inl v1), some (.inl v2)] (r.toList ++ []) h' Q))) :
    Rn xs xl e mm_test 18 [some (.inr (.inr 182)), some (.inl v1), some (.inl v2)] [.inl 0] h Q := by
  refine R_if dd_test_18 rfl rfl (fun (c2 : 0 ≠ 0) => ?_) (fun (c2 : 0 = 0) => ?_)
  · exact absurd c2 (by omega)
  · skip
    refine R_ld (v := .inr (.inr 182)) dd_test_21 rfl rfl rfl rfl ?_
    refine R_bi dd_test_22 (by decide) rfl ?_
    obtain ⟨c, hc, k⟩ := k
    exact R_call (as := [.inr (.inr 182), .inl 61]) (rest := []) (M' := mm_hasSign) (ls0 := [some (.inr (.inr 182)), some (.inl 61), none]) dd_test_24 rfl rfl (cw_v cw_12_307 io_182 rfl rfl (Nat.le_of_ble_eq_true rfl) (Nat.le_of_ble_eq_true rfl)) mt_hasSign rfl hc rfl k
theorem B_test_27_1 {xs : Nat → Int} {xl e : Nat} {h : LH} {Q : Option LV → LH → Prop} {v1 v2 : Int} (hF : RF h)
    (k : (∃ c, c < e ∧ Rn xs xl c mm_sums 0 [some (.inr (.inr 182)), some (.inl v1), none] [] h (fun r h' => Rn xs xl e mm_test 35 [some (.inr (.inr 182)), some (.inl v1), some (.inl v2)] (r.toList ++ []) h' Q))) :
    Rn xs xl e mm_test 27 [some (.inr (.inr 182)), some (.inl v1), some (.inl v2)] [.inl 1] h Q := by
  refine R_if dd_test_27 rfl rfl (fun (c2 : 1 = 0) => ?_) (fun (c2 : 1 ≠ 0) => ?_)
  · exact absurd c2 (by omega)
  · skip
    refine R_ld (v := .inr (.inr 182)) dd_test_30 rfl rfl rfl rfl ?_
    refine R_ld (v := .inl v1) dd_test_31 rfl rfl rfl rfl ?_
    obtain ⟨c, hc, k⟩ := k
    exact R_call (as := [.inr (.inr 182), .inl v1]) (rest := []) (M' := mm_sums) (ls0 := [some (.inr (.inr 182)), some (.inl v1), none]) dd_test_32 rfl rfl (cw_v cw_12_304 io_182 rfl rfl (Nat.le_of_ble_eq_true rfl) (Nat.le_of_ble_eq_true rfl)) mt_sums rfl hc rfl k
theorem B_test_27_0 {xs : Nat → Int} {xl e : Nat} {h : LH} {Q : Option LV → LH → Prop} {v1 v2 : Int} (hF : RF h)
    (k : Q none h) :
    Rn xs xl e mm_test 27 [some (.inr (.inr 182)), some (.inl v1), some (.inl v2)] [.inl 0] h Q := by
  refine R_if dd_test_27 rfl rfl (fun (c1 : 0 = 0) => ?_) (fun (c1 : 0 ≠ 0) => ?_)
  · skip
    exact R_vret dd_test_51 rfl k
  · exact absurd c1 (by omega)
theorem B_test_35 {xs : Nat → Int} {xl e : Nat} {h : LH} {Q : Option LV → LH → Prop} {v1 v2 : Int} (hF : RF h)
    (k : (v2 = 0 →
        (∃ c, c < e ∧ Rn xs xl c mm_emit 0 [some (.inr (.inr 182)), some (.inl 8), some (.inl 0)] [] h (fun r h' => Rn xs xl e mm_test 51 [some (.inr (.inr 182)), some (.inl v1), some (.inl v2)] (r.toList ++ []) h' Q))) ∧
      (v2 ≠ 0 →
        (∃ c, c < e ∧ Rn xs xl c mm_emit 0 [some (.inr (.inr 182)), some (.inl 7), some (.inl 0)] [] h (fun r h' => Rn xs xl e mm_test 51 [some (.inr (.inr 182)), some (.inl v1), some (.inl v2)] (r.toList ++ []) h' Q)))) :
    Rn xs xl e mm_test 35 [some (.inr (.inr 182)), some (.inl v1), some (.inl v2)] [] h Q := by
  refine R_ld (v := .inr (.inr 182)) dd_test_35 rfl rfl rfl rfl ?_
  refine R_ld (v := .inl v2) dd_test_36 rfl rfl rfl rfl ?_
  refine R_if dd_test_37 rfl rfl (fun (c3 : v2 = 0) => ?_) (fun (c3 : v2 ≠ 0) => ?_)
  · replace k := k.1 c3
    refine R_bi dd_test_45 (by decide) rfl ?_
    refine R_ic dd_test_47 (by decide) rfl ?_
    obtain ⟨c, hc, k⟩ := k
    exact R_call (as := [.inr (.inr 182), .inl 8, .inl 0]) (rest := []) (M' := mm_emit) (ls0 := [some (.inr (.inr 182)), some (.inl 8), some (.inl 0)]) dd_test_48 rfl rfl (cw_v cw_12_284 io_182 rfl rfl (Nat.le_of_ble_eq_true rfl) (Nat.le_of_ble_eq_true rfl)) mt_emit rfl hc rfl k
  · replace k := k.2 c3
    refine R_bi dd_test_40 (by decide) rfl ?_
    refine R_goto dd_test_42 rfl ?_
    refine R_ic dd_test_47 (by decide) rfl ?_
    obtain ⟨c, hc, k⟩ := k
    exact R_call (as := [.inr (.inr 182), .inl 7, .inl 0]) (rest := []) (M' := mm_emit) (ls0 := [some (.inr (.inr 182)), some (.inl 7), some (.inl 0)]) dd_test_48 rfl rfl (cw_v cw_12_284 io_182 rfl rfl (Nat.le_of_ble_eq_true rfl) (Nat.le_of_ble_eq_true rfl)) mt_emit rfl hc rfl k
theorem B_test_51 {xs : Nat → Int} {xl e : Nat} {h : LH} {Q : Option LV → LH → Prop} {v1 v2 : Int} (hF : RF h)
    (k : Q none h) :
    Rn xs xl e mm_test 51 [some (.inr (.inr 182)), some (.inl v1), some (.inl v2)] [] h Q := by
  exact R_vret dd_test_51 rfl k
theorem B_takePart_0 {xs : Nat → Int} {xl e : Nat} {h : LH} {Q : Option LV → LH → Prop} {v1 : Int} (hF : RF h)
    (k : ((rd h 182 8) ≤ 0 →
        (0 ≤ (rd h 182 7) ∧ (rd h 182 7) < 1002) ∧
        ((rd h 184 (rd h 182 7)) ≠ 2 →
          (∃ c, c < e ∧ Rn xs xl c mm_wordHere 0 [some (.inr (.inr 182)), some (.inl 25), some (.inl 4), none, none] [] h (fun r h' => Rn xs xl e mm_takePart 34 [some (.inr (.inr 182)), some (.inl v1), some (.inl 0), none] (r.toList ++ []) h' Q))) ∧
        ((rd h 184 (rd h 182 7)) = 2 →
          (∃ c, c < e ∧ Rn xs xl c mm_wordHere 0 [some (.inr (.inr 182)), some (.inl 25), some (.inl 4), none, none] [] h (fun r h' => Rn xs xl e mm_takePart 34 [some (.inr (.inr 182)), some (.inl v1), some (.inl 1), none] (r.toList ++ []) h' Q)))) ∧
      (0 < (rd h 182 8) →
        Q none h)) :
    Rn xs xl e mm_takePart 0 [some (.inr (.inr 182)), some (.inl v1), none, none] [] h Q := by
  refine R_ld (v := .inr (.inr 182)) dd_takePart_0 rfl rfl rfl rfl ?_
  refine R_gf (v := .inl (rd h 182 8)) dd_takePart_1 fd_12_210 io_182 (congrArg (fun z : Int => (Sum.inl z : LV)) (rfl)) rfl ?_
  refine R_if dd_takePart_4 rfl rfl (fun (c4 : (rd h 182 8) ≤ 0) => ?_) (fun (c4 : 0 < (rd h 182 8)) => ?_)
  · replace k := k.1 c4
    refine R_ld (v := .inr (.inr 182)) dd_takePart_8 rfl rfl rfl rfl ?_
    refine R_gf (v := .inr (.inr 184)) dd_takePart_9 fd_12_24 io_182 (congrArg (fun z : Int => (Sum.inr (Sum.inr z) : LV)) (rf_182_4 hF)) rfl ?_
    refine R_ld (v := .inr (.inr 182)) dd_takePart_12 rfl rfl rfl rfl ?_
    refine R_gf (v := .inl (rd h 182 7)) dd_takePart_13 fd_12_207 io_182 (congrArg (fun z : Int => (Sum.inl z : LV)) (rfl)) rfl ?_
    obtain ⟨s1, k⟩ := k
    refine R_iald (v := (rd h 184 (rd h 182 7))) (n := 1002) dd_takePart_16 ia_184 la_184 s1 (rfl) rfl ?_
    refine R_ic dd_takePart_17 (by decide) rfl ?_
    refine R_icmp dd_takePart_18 rfl rfl (fun (c5 : (rd h 184 (rd h 182 7)) ≠ 2) => ?_) (fun (c5 : (rd h 184 (rd h 182 7)) = 2) => ?_)
    · replace k := k.1 c5
      refine R_ic dd_takePart_25 (by decide) rfl ?_
      refine R_st (ls' := [some (.inr (.inr 182)), some (.inl v1), some (.inl 0), none]) dd_takePart_26 rfl rfl rfl (Nat.le_of_ble_eq_true rfl) rfl rfl ?_
      refine R_ld (v := .inr (.inr 182)) dd_takePart_27 rfl rfl rfl rfl ?_
      refine R_bi dd_takePart_28 (by decide) rfl ?_
      refine R_ic dd_takePart_30 (by decide) rfl ?_
      obtain ⟨c, hc, k⟩ := k
      exact R_call (as := [.inr (.inr 182), .inl 25, .inl 4]) (rest := []) (M' := mm_wordHere) (ls0 := [some (.inr (.inr 182)), some (.inl 25), some (.inl 4), none, none]) dd_takePart_31 rfl rfl (cw_v cw_12_232 io_182 rfl rfl (Nat.le_of_ble_eq_true rfl) (Nat.le_of_ble_eq_true rfl)) mt_wordHere rfl hc rfl k
    · replace k := k.2 c5
      refine R_ic dd_takePart_21 (by decide) rfl ?_
      refine R_goto dd_takePart_22 rfl ?_
      refine R_st (ls' := [some (.inr (.inr 182)), some (.inl v1), some (.inl 1), none]) dd_takePart_26 rfl rfl rfl (Nat.le_of_ble_eq_true rfl) rfl rfl ?_
      refine R_ld (v := .inr (.inr 182)) dd_takePart_27 rfl rfl rfl rfl ?_
      refine R_bi dd_takePart_28 (by decide) rfl ?_
      refine R_ic dd_takePart_30 (by decide) rfl ?_
      obtain ⟨c, hc, k⟩ := k
      exact R_call (as := [.inr (.inr 182), .inl 25, .inl 4]) (rest := []) (M' := mm_wordHere) (ls0 := [some (.inr (.inr 182)), some (.inl 25), some (.inl 4), none, none]) dd_takePart_31 rfl rfl (cw_v cw_12_232 io_182 rfl rfl (Nat.le_of_ble_eq_true rfl) (Nat.le_of_ble_eq_true rfl)) mt_wordHere rfl hc rfl k
  · replace k := k.2 c4
    exact R_vret dd_takePart_7 rfl k
theorem B_takePart_34 {xs : Nat → Int} {xl e : Nat} {h : LH} {Q : Option LV → LH → Prop} {v1 v2 w0 : Int} (hF : RF h)
    (k : (0 ≤ w0 →
        Rn xs xl e mm_takePart 69 [some (.inr (.inr 182)), some (.inl v1), some (.inl v2), some (.inl w0)] [] h Q) ∧
      (w0 < 0 →
        (v2 ≠ 0 →
          Rn xs xl e mm_takePart 69 [some (.inr (.inr 182)), some (.inl v1), some (.inl v2), some (.inl w0)] [] h Q) ∧
        (v2 = 0 →
          (∃ c, c < e ∧ Rn xs xl c mm_isSign 0 [some (.inr (.inr 182)), some (.inl 40)] [] h (fun r h' => Rn xs xl e mm_takePart 49 [some (.inr (.inr 182)), some (.inl v1), some (.inl v2), some (.inl w0)] (r.toList ++ []) h' Q))))) :
    Rn xs xl e mm_takePart 34 [some (.inr (.inr 182)), some (.inl v1), some (.inl v2), none] [.inl w0] h Q := by
  refine R_st (ls' := [some (.inr (.inr 182)), some (.inl v1), some (.inl v2), some (.inl w0)]) dd_takePart_34 rfl rfl rfl (Nat.le_of_ble_eq_true rfl) rfl rfl ?_
  refine R_ld (v := .inl w0) dd_takePart_35 rfl rfl rfl rfl ?_
  refine R_if dd_takePart_36 rfl rfl (fun (c2 : 0 ≤ w0) => ?_) (fun (c2 : w0 < 0) => ?_)
  · replace k := k.1 c2
    exact k
  · replace k := k.2 c2
    refine R_ld (v := .inl v2) dd_takePart_39 rfl rfl rfl rfl ?_
    refine R_if dd_takePart_40 rfl rfl (fun (c3 : v2 ≠ 0) => ?_) (fun (c3 : v2 = 0) => ?_)
    · replace k := k.1 c3
      exact k
    · replace k := k.2 c3
      refine R_ld (v := .inr (.inr 182)) dd_takePart_43 rfl rfl rfl rfl ?_
      refine R_bi dd_takePart_44 (by decide) rfl ?_
      obtain ⟨c, hc, k⟩ := k
      exact R_call (as := [.inr (.inr 182), .inl 40]) (rest := []) (M' := mm_isSign) (ls0 := [some (.inr (.inr 182)), some (.inl 40)]) dd_takePart_46 rfl rfl (cw_v cw_12_213 io_182 rfl rfl (Nat.le_of_ble_eq_true rfl) (Nat.le_of_ble_eq_true rfl)) mt_isSign rfl hc rfl k
theorem B_takePart_49_1 {xs : Nat → Int} {xl e : Nat} {h : LH} {Q : Option LV → LH → Prop} {v1 v2 v3 : Int} (hF : RF h)
    (k : Rn xs xl e mm_takePart 69 [some (.inr (.inr 182)), some (.inl v1), some (.inl v2), some (.inl v3)] [] h Q) :
    Rn xs xl e mm_takePart 49 [some (.inr (.inr 182)), some (.inl v1), some (.inl v2), some (.inl v3)] [.inl 1] h Q := by
  refine R_if dd_takePart_49 rfl rfl (fun (c1 : 1 ≠ 0) => ?_) (fun (c1 : 1 = 0) => ?_)
  · skip
    exact k
  · exact absurd c1 (by omega)
theorem B_takePart_49_0 {xs : Nat → Int} {xl e : Nat} {h : LH} {Q : Option LV → LH → Prop} {v1 v2 v3 : Int} (hF : RF h)
    (k : (∃ c, c < e ∧ Rn xs xl c mm_isWord 0 [some (.inr (.inr 182)), some (.inl 22)] [] h (fun r h' => Rn xs xl e mm_takePart 58 [some (.inr (.inr 182)), some (.inl v1), some (.inl v2), some (.inl v3)] (r.toList ++ []) h' Q))) :
    Rn xs xl e mm_takePart 49 [some (.inr (.inr 182)), some (.inl v1), some (.inl v2), some (.inl v3)] [.inl 0] h Q := by
  refine R_if dd_takePart_49 rfl rfl (fun (c2 : 0 ≠ 0) => ?_) (fun (c2 : 0 = 0) => ?_)
  · exact absurd c2 (by omega)
  · skip
    refine R_ld (v := .inr (.inr 182)) dd_takePart_52 rfl rfl rfl rfl ?_
    refine R_bi dd_takePart_53 (by decide) rfl ?_
    obtain ⟨c, hc, k⟩ := k
    exact R_call (as := [.inr (.inr 182), .inl 22]) (rest := []) (M' := mm_isWord) (ls0 := [some (.inr (.inr 182)), some (.inl 22)]) dd_takePart_55 rfl rfl (cw_v cw_12_219 io_182 rfl rfl (Nat.le_of_ble_eq_true rfl) (Nat.le_of_ble_eq_true rfl)) mt_isWord rfl hc rfl k
theorem B_takePart_58_1 {xs : Nat → Int} {xl e : Nat} {h : LH} {Q : Option LV → LH → Prop} {v1 v2 v3 : Int} (hF : RF h)
    (k : Rn xs xl e mm_takePart 69 [some (.inr (.inr 182)), some (.inl v1), some (.inl v2), some (.inl v3)] [] h Q) :
    Rn xs xl e mm_takePart 58 [some (.inr (.inr 182)), some (.inl v1), some (.inl v2), some (.inl v3)] [.inl 1] h Q := by
  refine R_if dd_takePart_58 rfl rfl (fun (c1 : 1 ≠ 0) => ?_) (fun (c1 : 1 = 0) => ?_)
  · skip
    exact k
  · exact absurd c1 (by omega)
theorem B_takePart_58_0 {xs : Nat → Int} {xl e : Nat} {h : LH} {Q : Option LV → LH → Prop} {v1 v2 v3 : Int} (hF : RF h)
    (k : (∃ c, c < e ∧ Rn xs xl c mm_wrong 0 [some (.inr (.inr 182)), some (.inl 1)] [] h (fun r h' => Rn xs xl e mm_takePart 66 [some (.inr (.inr 182)), some (.inl v1), some (.inl v2), some (.inl v3)] (r.toList ++ []) h' Q))) :
    Rn xs xl e mm_takePart 58 [some (.inr (.inr 182)), some (.inl v1), some (.inl v2), some (.inl v3)] [.inl 0] h Q := by
  refine R_if dd_takePart_58 rfl rfl (fun (c2 : 0 ≠ 0) => ?_) (fun (c2 : 0 = 0) => ?_)
  · exact absurd c2 (by omega)
  · skip
    refine R_ld (v := .inr (.inr 182)) dd_takePart_61 rfl rfl rfl rfl ?_
    refine R_ic dd_takePart_62 (by decide) rfl ?_
    obtain ⟨c, hc, k⟩ := k
    exact R_call (as := [.inr (.inr 182), .inl 1]) (rest := []) (M' := mm_wrong) (ls0 := [some (.inr (.inr 182)), some (.inl 1)]) dd_takePart_63 rfl rfl (cw_v cw_12_216 io_182 rfl rfl (Nat.le_of_ble_eq_true rfl) (Nat.le_of_ble_eq_true rfl)) mt_wrong rfl hc rfl k
theorem B_takePart_66 {xs : Nat → Int} {xl e : Nat} {h : LH} {Q : Option LV → LH → Prop} {v1 v2 v3 : Int} (hF : RF h)
    (k : Rn xs xl e mm_takePart 79 [some (.inr (.inr 182)), some (.inl v1), some (.inl v2), some (.inl v3)] [] h Q) :
    Rn xs xl e mm_takePart 66 [some (.inr (.inr 182)), some (.inl v1), some (.inl v2), some (.inl v3)] [] h Q := by
  refine R_goto dd_takePart_66 rfl ?_
  exact k
theorem B_takePart_69 {xs : Nat → Int} {xl e : Nat} {h : LH} {Q : Option LV → LH → Prop} {v1 v2 v3 : Int} (hF : RF h)
    (k : (v1 ≠ 5 →
        Rn xs xl e mm_takePart 79 [some (.inr (.inr 182)), some (.inl v1), some (.inl v2), some (.inl v3)] [] h Q) ∧
      (v1 = 5 →
        (∃ c, c < e ∧ Rn xs xl c mm_wrong 0 [some (.inr (.inr 182)), some (.inl 5)] [] h (fun r h' => Rn xs xl e mm_takePart 79 [some (.inr (.inr 182)), some (.inl v1), some (.inl v2), some (.inl v3)] (r.toList ++ []) h' Q)))) :
    Rn xs xl e mm_takePart 69 [some (.inr (.inr 182)), some (.inl v1), some (.inl v2), some (.inl v3)] [] h Q := by
  refine R_ld (v := .inl v1) dd_takePart_69 rfl rfl rfl rfl ?_
  refine R_ic dd_takePart_70 (by decide) rfl ?_
  refine R_icmp dd_takePart_71 rfl rfl (fun (c2 : v1 ≠ 5) => ?_) (fun (c2 : v1 = 5) => ?_)
  · replace k := k.1 c2
    exact k
  · replace k := k.2 c2
    refine R_ld (v := .inr (.inr 182)) dd_takePart_74 rfl rfl rfl rfl ?_
    refine R_ic dd_takePart_75 (by decide) rfl ?_
    obtain ⟨c, hc, k⟩ := k
    exact R_call (as := [.inr (.inr 182), .inl 5]) (rest := []) (M' := mm_wrong) (ls0 := [some (.inr (.inr 182)), some (.inl 5)]) dd_takePart_76 rfl rfl (cw_v cw_12_216 io_182 rfl rfl (Nat.le_of_ble_eq_true rfl) (Nat.le_of_ble_eq_true rfl)) mt_wrong rfl hc rfl k
theorem B_takePart_79 {xs : Nat → Int} {xl e : Nat} {h : LH} {Q : Option LV → LH → Prop} {v1 v2 v3 : Int} (hF : RF h)
    (k : ((rd h 182 8) ≤ 0 →
        (∃ c, c < e ∧ Rn xs xl c mm_hasWord 0 [some (.inr (.inr 182)), some (.inl 22), none] [] h (fun r h' => Rn xs xl e mm_takePart 93 [some (.inr (.inr 182)), some (.inl v1), some (.inl v2), some (.inl v3)] (r.toList ++ []) h' Q))) ∧
      (0 < (rd h 182 8) →
        Q none h)) :
    Rn xs xl e mm_takePart 79 [some (.inr (.inr 182)), some (.inl v1), some (.inl v2), some (.inl v3)] [] h Q := by
  refine R_ld (v := .inr (.inr 182)) dd_takePart_79 rfl rfl rfl rfl ?_
  refine R_gf (v := .inl (rd h 182 8)) dd_takePart_80 fd_12_210 io_182 (congrArg (fun z : Int => (Sum.inl z : LV)) (rfl)) rfl ?_
  refine R_if dd_takePart_83 rfl rfl (fun (c2 : (rd h 182 8) ≤ 0) => ?_) (fun (c2 : 0 < (rd h 182 8)) => ?_)
  · replace k := k.1 c2
    refine R_ld (v := .inr (.inr 182)) dd_takePart_87 rfl rfl rfl rfl ?_
    refine R_bi dd_takePart_88 (by decide) rfl ?_
    obtain ⟨c, hc, k⟩ := k
    exact R_call (as := [.inr (.inr 182), .inl 22]) (rest := []) (M' := mm_hasWord) (ls0 := [some (.inr (.inr 182)), some (.inl 22), none]) dd_takePart_90 rfl rfl (cw_v cw_12_222 io_182 rfl rfl (Nat.le_of_ble_eq_true rfl) (Nat.le_of_ble_eq_true rfl)) mt_hasWord rfl hc rfl k
  · replace k := k.2 c2
    exact R_vret dd_takePart_86 rfl k
theorem B_takePart_93_1 {xs : Nat → Int} {xl e : Nat} {h : LH} {Q : Option LV → LH → Prop} {v1 v2 v3 : Int} (hF : RF h)
    (k : (-2147483648 ≤ v1 + 1 ∧ v1 + 1 ≤ 2147483647) ∧
      (∃ c, c < e ∧ Rn xs xl c mm_takePart 0 [some (.inr (.inr 182)), some (.inl (v1 + 1)), none, none] [] h (fun r h' => Rn xs xl e mm_takePart 103 [some (.inr (.inr 182)), some (.inl v1), some (.inl v2), some (.inl v3)] (r.toList ++ []) h' Q))) :
    Rn xs xl e mm_takePart 93 [some (.inr (.inr 182)), some (.inl v1), some (.inl v2), some (.inl v3)] [.inl 1] h Q := by
  refine R_if dd_takePart_93 rfl rfl (fun (c3 : 1 = 0) => ?_) (fun (c3 : 1 ≠ 0) => ?_)
  · exact absurd c3 (by omega)
  · skip
    refine R_ld (v := .inr (.inr 182)) dd_takePart_96 rfl rfl rfl rfl ?_
    refine R_ld (v := .inl v1) dd_takePart_97 rfl rfl rfl rfl ?_
    refine R_ic dd_takePart_98 (by decide) rfl ?_
    obtain ⟨s1, k⟩ := k
    refine R_iadd (c := v1 + 1) dd_takePart_99 (by omega) s1 rfl ?_
    obtain ⟨c, hc, k⟩ := k
    exact R_call (as := [.inr (.inr 182), .inl (v1 + 1)]) (rest := []) (M' := mm_takePart) (ls0 := [some (.inr (.inr 182)), some (.inl (v1 + 1)), none, none]) dd_takePart_100 rfl rfl (cw_v cw_12_313 io_182 rfl rfl (Nat.le_of_ble_eq_true rfl) (Nat.le_of_ble_eq_true rfl)) mt_takePart rfl hc rfl k
theorem B_takePart_93_0 {xs : Nat → Int} {xl e : Nat} {h : LH} {Q : Option LV → LH → Prop} {v1 v2 v3 : Int} (hF : RF h)
    (k : (∃ c, c < e ∧ Rn xs xl c mm_hasSign 0 [some (.inr (.inr 182)), some (.inl 40), none] [] h (fun r h' => Rn xs xl e mm_takePart 118 [some (.inr (.inr 182)), some (.inl v1), some (.inl v2), some (.inl v3)] (r.toList ++ []) h' Q))) :
    Rn xs xl e mm_takePart 93 [some (.inr (.inr 182)), some (.inl v1), some (.inl v2), some (.inl v3)] [.inl 0] h Q := by
  refine R_if dd_takePart_93 rfl rfl (fun (c2 : 0 = 0) => ?_) (fun (c2 : 0 ≠ 0) => ?_)
  · skip
    refine R_ld (v := .inr (.inr 182)) dd_takePart_112 rfl rfl rfl rfl ?_
    refine R_bi dd_takePart_113 (by decide) rfl ?_
    obtain ⟨c, hc, k⟩ := k
    exact R_call (as := [.inr (.inr 182), .inl 40]) (rest := []) (M' := mm_hasSign) (ls0 := [some (.inr (.inr 182)), some (.inl 40), none]) dd_takePart_115 rfl rfl (cw_v cw_12_307 io_182 rfl rfl (Nat.le_of_ble_eq_true rfl) (Nat.le_of_ble_eq_true rfl)) mt_hasSign rfl hc rfl k
  · exact absurd c2 (by omega)
theorem B_takePart_103 {xs : Nat → Int} {xl e : Nat} {h : LH} {Q : Option LV → LH → Prop} {v1 v2 v3 : Int} (hF : RF h)
    (k : (∃ c, c < e ∧ Rn xs xl c mm_emit 0 [some (.inr (.inr 182)), some (.inl 3), some (.inl 0)] [] h (fun r h' => Rn xs xl e mm_takePart 109 [some (.inr (.inr 182)), some (.inl v1), some (.inl v2), some (.inl v3)] (r.toList ++ []) h' Q))) :
    Rn xs xl e mm_takePart 103 [some (.inr (.inr 182)), some (.inl v1), some (.inl v2), some (.inl v3)] [] h Q := by
  refine R_ld (v := .inr (.inr 182)) dd_takePart_103 rfl rfl rfl rfl ?_
  refine R_ic dd_takePart_104 (by decide) rfl ?_
  refine R_ic dd_takePart_105 (by decide) rfl ?_
  obtain ⟨c, hc, k⟩ := k
  exact R_call (as := [.inr (.inr 182), .inl 3, .inl 0]) (rest := []) (M' := mm_emit) (ls0 := [some (.inr (.inr 182)), some (.inl 3), some (.inl 0)]) dd_takePart_106 rfl rfl (cw_v cw_12_284 io_182 rfl rfl (Nat.le_of_ble_eq_true rfl) (Nat.le_of_ble_eq_true rfl)) mt_emit rfl hc rfl k
theorem B_takePart_109 {xs : Nat → Int} {xl e : Nat} {h : LH} {Q : Option LV → LH → Prop} {v1 v2 v3 : Int} (hF : RF h)
    (k : Q none h) :
    Rn xs xl e mm_takePart 109 [some (.inr (.inr 182)), some (.inl v1), some (.inl v2), some (.inl v3)] [] h Q := by
  refine R_goto dd_takePart_109 rfl ?_
  exact R_vret dd_takePart_178 rfl k
theorem B_takePart_118_1 {xs : Nat → Int} {xl e : Nat} {h : LH} {Q : Option LV → LH → Prop} {v1 v2 v3 : Int} (hF : RF h)
    (k : (-2147483648 ≤ v1 + 1 ∧ v1 + 1 ≤ 2147483647) ∧
      (∃ c, c < e ∧ Rn xs xl c mm_all 0 [some (.inr (.inr 182)), some (.inl (v1 + 1)), none] [] h (fun r h' => Rn xs xl e mm_takePart 128 [some (.inr (.inr 182)), some (.inl v1), some (.inl v2), some (.inl v3)] (r.toList ++ []) h' Q))) :
    Rn xs xl e mm_takePart 118 [some (.inr (.inr 182)), some (.inl v1), some (.inl v2), some (.inl v3)] [.inl 1] h Q := by
  refine R_if dd_takePart_118 rfl rfl (fun (c3 : 1 = 0) => ?_) (fun (c3 : 1 ≠ 0) => ?_)
  · exact absurd c3 (by omega)
  · skip
    refine R_ld (v := .inr (.inr 182)) dd_takePart_121 rfl rfl rfl rfl ?_
    refine R_ld (v := .inl v1) dd_takePart_122 rfl rfl rfl rfl ?_
    refine R_ic dd_takePart_123 (by decide) rfl ?_
    obtain ⟨s1, k⟩ := k
    refine R_iadd (c := v1 + 1) dd_takePart_124 (by omega) s1 rfl ?_
    obtain ⟨c, hc, k⟩ := k
    exact R_call (as := [.inr (.inr 182), .inl (v1 + 1)]) (rest := []) (M' := mm_all) (ls0 := [some (.inr (.inr 182)), some (.inl (v1 + 1)), none]) dd_takePart_125 rfl rfl (cw_v cw_12_281 io_182 rfl rfl (Nat.le_of_ble_eq_true rfl) (Nat.le_of_ble_eq_true rfl)) mt_all rfl hc rfl k
theorem B_takePart_118_0 {xs : Nat → Int} {xl e : Nat} {h : LH} {Q : Option LV → LH → Prop} {v1 v2 v3 : Int} (hF : RF h)
    (k : (v2 = 0 →
        (v2 = 0 →
          (∃ c, c < e ∧ Rn xs xl c mm_emit 0 [some (.inr (.inr 182)), some (.inl 2), some (.inl v3)] [] h (fun r h' => Rn xs xl e mm_takePart 168 [some (.inr (.inr 182)), some (.inl v1), some (.inl v2), some (.inl v3)] (r.toList ++ []) h' Q))) ∧
        (v2 ≠ 0 →
          (0 ≤ (rd h 182 7) ∧ (rd h 182 7) < 1002) ∧
          (∃ c, c < e ∧ Rn xs xl c mm_emit 0 [some (.inr (.inr 182)), some (.inl 2), some (.inl (w32 (rd h 186 (rd h 182 7))))] [] h (fun r h' => Rn xs xl e mm_takePart 168 [some (.inr (.inr 182)), some (.inl v1), some (.inl v2), some (.inl v3)] (r.toList ++ []) h' Q)))) ∧
      (v2 ≠ 0 →
        (v2 = 0 →
          (∃ c, c < e ∧ Rn xs xl c mm_emit 0 [some (.inr (.inr 182)), some (.inl 1), some (.inl v3)] [] h (fun r h' => Rn xs xl e mm_takePart 168 [some (.inr (.inr 182)), some (.inl v1), some (.inl v2), some (.inl v3)] (r.toList ++ []) h' Q))) ∧
        (v2 ≠ 0 →
          (0 ≤ (rd h 182 7) ∧ (rd h 182 7) < 1002) ∧
          (∃ c, c < e ∧ Rn xs xl c mm_emit 0 [some (.inr (.inr 182)), some (.inl 1), some (.inl (w32 (rd h 186 (rd h 182 7))))] [] h (fun r h' => Rn xs xl e mm_takePart 168 [some (.inr (.inr 182)), some (.inl v1), some (.inl v2), some (.inl v3)] (r.toList ++ []) h' Q))))) :
    Rn xs xl e mm_takePart 118 [some (.inr (.inr 182)), some (.inl v1), some (.inl v2), some (.inl v3)] [.inl 0] h Q := by
  refine R_if dd_takePart_118 rfl rfl (fun (c7 : 0 = 0) => ?_) (fun (c7 : 0 ≠ 0) => ?_)
  · skip
    refine R_ld (v := .inr (.inr 182)) dd_takePart_137 rfl rfl rfl rfl ?_
    refine R_ld (v := .inl v2) dd_takePart_138 rfl rfl rfl rfl ?_
    refine R_if dd_takePart_139 rfl rfl (fun (c8 : v2 = 0) => ?_) (fun (c8 : v2 ≠ 0) => ?_)
    · replace k := k.1 c8
      refine R_ic dd_takePart_146 (by decide) rfl ?_
      refine R_ld (v := .inl v2) dd_takePart_147 rfl rfl rfl rfl ?_
      refine R_if dd_takePart_148 rfl rfl (fun (c9 : v2 = 0) => ?_) (fun (c9 : v2 ≠ 0) => ?_)
      · replace k := k.1 c9
        refine R_ld (v := .inl v3) dd_takePart_164 rfl rfl rfl rfl ?_
        obtain ⟨c, hc, k⟩ := k
        exact R_call (as := [.inr (.inr 182), .inl 2, .inl v3]) (rest := []) (M' := mm_emit) (ls0 := [some (.inr (.inr 182)), some (.inl 2), some (.inl v3)]) dd_takePart_165 rfl rfl (cw_v cw_12_284 io_182 rfl rfl (Nat.le_of_ble_eq_true rfl) (Nat.le_of_ble_eq_true rfl)) mt_emit rfl hc rfl k
      · replace k := k.2 c9
        refine R_ld (v := .inr (.inr 182)) dd_takePart_151 rfl rfl rfl rfl ?_
        refine R_gf (v := .inr (.inr 186)) dd_takePart_152 fd_12_30 io_182 (congrArg (fun z : Int => (Sum.inr (Sum.inr z) : LV)) (rf_182_6 hF)) rfl ?_
        refine R_ld (v := .inr (.inr 182)) dd_takePart_155 rfl rfl rfl rfl ?_
        refine R_gf (v := .inl (rd h 182 7)) dd_takePart_156 fd_12_207 io_182 (congrArg (fun z : Int => (Sum.inl z : LV)) (rfl)) rfl ?_
        obtain ⟨s2, k⟩ := k
        refine R_lald (v := (rd h 186 (rd h 182 7))) (n := 1002) dd_takePart_159 ia_186 la_186 s2 (rfl) rfl ?_
        refine R_A dd_takePart_160 rfl rfl rfl rfl ?_
        refine R_goto dd_takePart_161 rfl ?_
        obtain ⟨c, hc, k⟩ := k
        exact R_call (as := [.inr (.inr 182), .inl 2, .inl (w32 (rd h 186 (rd h 182 7)))]) (rest := []) (M' := mm_emit) (ls0 := [some (.inr (.inr 182)), some (.inl 2), some (.inl (w32 (rd h 186 (rd h 182 7))))]) dd_takePart_165 rfl rfl (cw_v cw_12_284 io_182 rfl rfl (Nat.le_of_ble_eq_true rfl) (Nat.le_of_ble_eq_true rfl)) mt_emit rfl hc rfl k
    · replace k := k.2 c8
      refine R_ic dd_takePart_142 (by decide) rfl ?_
      refine R_goto dd_takePart_143 rfl ?_
      refine R_ld (v := .inl v2) dd_takePart_147 rfl rfl rfl rfl ?_
      refine R_if dd_takePart_148 rfl rfl (fun (c10 : v2 = 0) => ?_) (fun (c10 : v2 ≠ 0) => ?_)
      · replace k := k.1 c10
        refine R_ld (v := .inl v3) dd_takePart_164 rfl rfl rfl rfl ?_
        obtain ⟨c, hc, k⟩ := k
        exact R_call (as := [.inr (.inr 182), .inl 1, .inl v3]) (rest := []) (M' := mm_emit) (ls0 := [some (.inr (.inr 182)), some (.inl 1), some (.inl v3)]) dd_takePart_165 rfl rfl (cw_v cw_12_284 io_182 rfl rfl (Nat.le_of_ble_eq_true rfl) (Nat.le_of_ble_eq_true rfl)) mt_emit rfl hc rfl k
      · replace k := k.2 c10
        refine R_ld (v := .inr (.inr 182)) dd_takePart_151 rfl rfl rfl rfl ?_
        refine R_gf (v := .inr (.inr 186)) dd_takePart_152 fd_12_30 io_182 (congrArg (fun z : Int => (Sum.inr (Sum.inr z) : LV)) (rf_182_6 hF)) rfl ?_
        refine R_ld (v := .inr (.inr 182)) dd_takePart_155 rfl rfl rfl rfl ?_
        refine R_gf (v := .inl (rd h 182 7)) dd_takePart_156 fd_12_207 io_182 (congrArg (fun z : Int => (Sum.inl z : LV)) (rfl)) rfl ?_
        obtain ⟨s5, k⟩ := k
        refine R_lald (v := (rd h 186 (rd h 182 7))) (n := 1002) dd_takePart_159 ia_186 la_186 s5 (rfl) rfl ?_
        refine R_A dd_takePart_160 rfl rfl rfl rfl ?_
        refine R_goto dd_takePart_161 rfl ?_
        obtain ⟨c, hc, k⟩ := k
        exact R_call (as := [.inr (.inr 182), .inl 1, .inl (w32 (rd h 186 (rd h 182 7)))]) (rest := []) (M' := mm_emit) (ls0 := [some (.inr (.inr 182)), some (.inl 1), some (.inl (w32 (rd h 186 (rd h 182 7))))]) dd_takePart_165 rfl rfl (cw_v cw_12_284 io_182 rfl rfl (Nat.le_of_ble_eq_true rfl) (Nat.le_of_ble_eq_true rfl)) mt_emit rfl hc rfl k
  · exact absurd c7 (by omega)
theorem B_takePart_128 {xs : Nat → Int} {xl e : Nat} {h : LH} {Q : Option LV → LH → Prop} {v1 v2 v3 : Int} (hF : RF h)
    (k : (∃ c, c < e ∧ Rn xs xl c mm_takeSign 0 [some (.inr (.inr 182)), some (.inl 41)] [] h (fun r h' => Rn xs xl e mm_takePart 134 [some (.inr (.inr 182)), some (.inl v1), some (.inl v2), some (.inl v3)] (r.toList ++ []) h' Q))) :
    Rn xs xl e mm_takePart 128 [some (.inr (.inr 182)), some (.inl v1), some (.inl v2), some (.inl v3)] [] h Q := by
  refine R_ld (v := .inr (.inr 182)) dd_takePart_128 rfl rfl rfl rfl ?_
  refine R_bi dd_takePart_129 (by decide) rfl ?_
  obtain ⟨c, hc, k⟩ := k
  exact R_call (as := [.inr (.inr 182), .inl 41]) (rest := []) (M' := mm_takeSign) (ls0 := [some (.inr (.inr 182)), some (.inl 41)]) dd_takePart_131 rfl rfl (cw_v cw_12_247 io_182 rfl rfl (Nat.le_of_ble_eq_true rfl) (Nat.le_of_ble_eq_true rfl)) mt_takeSign rfl hc rfl k
theorem B_takePart_134 {xs : Nat → Int} {xl e : Nat} {h : LH} {Q : Option LV → LH → Prop} {v1 v2 v3 : Int} (hF : RF h)
    (k : Q none h) :
    Rn xs xl e mm_takePart 134 [some (.inr (.inr 182)), some (.inl v1), some (.inl v2), some (.inl v3)] [] h Q := by
  refine R_goto dd_takePart_134 rfl ?_
  exact R_vret dd_takePart_178 rfl k
theorem B_takePart_168 {xs : Nat → Int} {xl e : Nat} {h : LH} {Q : Option LV → LH → Prop} {v1 v2 v3 : Int} (hF : RF h)
    (k : (-2147483648 ≤ (rd h 182 7) + 1 ∧ (rd h 182 7) + 1 ≤ 2147483647) ∧
      Q none (wr h 182 7 ((rd h 182 7) + 1))) :
    Rn xs xl e mm_takePart 168 [some (.inr (.inr 182)), some (.inl v1), some (.inl v2), some (.inl v3)] [] h Q := by
  refine R_ld (v := .inr (.inr 182)) dd_takePart_168 rfl rfl rfl rfl ?_
  refine R_A dd_takePart_169 rfl rfl rfl rfl ?_
  refine R_gf (v := .inl (rd h 182 7)) dd_takePart_170 fd_12_207 io_182 (congrArg (fun z : Int => (Sum.inl z : LV)) (rfl)) rfl ?_
  refine R_ic dd_takePart_173 (by decide) rfl ?_
  obtain ⟨s1, k⟩ := k
  refine R_iadd (c := (rd h 182 7) + 1) dd_takePart_174 (by omega) s1 rfl ?_
  refine R_pf (z := ((rd h 182 7) + 1)) dd_takePart_175 fd_12_207 io_182 fn_12_7 rfl rfl ?_
  exact R_vret dd_takePart_178 rfl k
end
section
/-! LM, part 38: the reference's reader: what its steps keep -/
def isSg (h : LH) (c : Int) : Prop := rd h 182 8 = 0 ∧ rd h 184 (rd h 182 7) = 3 ∧ rd h 186 (rd h 182 7) = c
def isWd (h : LH) (w : Int) : Prop := rd h 182 8 = 0 ∧ rd h 184 (rd h 182 7) = 1 ∧ rd h 186 (rd h 182 7) = rd h 187 w
theorem lcmp0 {a b : Int} : lcmp_ a b = 0 ↔ a = b := by unfold lcmp_; omega
theorem at_lt {h : LH} (hI : INV h) (hs : rd h 184 (rd h 182 7) ≠ 0) : rd h 182 7 ≤ 999 := by
  have h1 := rF_at hI.1
  have h2 : rd h 184 1000 = 0 := hI.2.2.2.1
  rcases Int.lt_or_le (rd h 182 7) 1000 with q | q
  · omega
  · rw [show rd h 182 7 = 1000 by omega] at hs
    exact absurd h2 hs
/-- what the reader may change -/
def pmut (cd a i : Int) : Prop := (a = 182 ∧ (i = 7 ∨ i = 8 ∨ i = 13)) ∨ (a = 189 ∧ 1100 + cd ≤ i) ∨ (a = 190 ∧ 1100 + cd ≤ i)
def pfr (h h' : LH) : Prop := ∀ a i, ¬ pmut (rd h 182 13) a i → rd h' a i = rd h a i
def PB (h : LH) : Prop := INV h ∧ True
def PS (h h' : LH) : Prop := PB h' ∧ rd h 182 7 ≤ rd h' 182 7 ∧ (rd h' 182 8 = 0 → rd h 182 8 = 0) ∧ rd h 182 13 ≤ rd h' 182 13 ∧ rd h' 182 13 - rd h 182 13 ≤ rd h' 182 7 - rd h 182 7 ∧ pfr h h'
theorem PS.refl {h : LH} (hp : PB h) : PS h h := ⟨hp, Int.le_refl _, id, Int.le_refl _, by omega, fun _ _ _ => rfl⟩
theorem PS.trans {h h1 h2 : LH} (a : PS h h1) (b : PS h1 h2) : PS h h2 := by
  obtain ⟨a1, a2, a3, a4, a5, a6⟩ := a
  obtain ⟨b1, b2, b3, b4, b5, b6⟩ := b
  refine ⟨b1, by omega, fun q => a3 (b3 q), by omega, by omega, fun x i hn => ?_⟩
  rw [b6 x i (fun q => hn ?_), a6 x i hn]
  unfold pmut at q ⊢
  omega
theorem PS_at {h : LH} (hp : PB h) {v : Int} (h0 : rd h 182 7 ≤ v) (h1 : v ≤ 1000) : PS h (wr h 182 7 v) := by
  have ha := rF_at hp.1.1
  have e7 : rd (wr h 182 7 v) 182 7 = v := rdw_eq
  have e8 : rd (wr h 182 7 v) 182 8 = rd h 182 8 := rdw_nei (by decide)
  have e13 : rd (wr h 182 7 v) 182 13 = rd h 182 13 := rdw_nei (by decide)
  refine ⟨⟨wF_at hp.1 (by omega) h1, trivial⟩, by omega, by rw [e8]; exact id, by omega, by omega, fun a i hn => ?_⟩
  rw [rd_wr, if_neg]
  rintro ⟨rfl, rfl⟩
  exact hn (Or.inl ⟨rfl, Or.inl rfl⟩)
theorem PS_fault {h : LH} (hp : PB h) {v : Int} (h0 : 1 ≤ v) (h1 : v ≤ 16005) : PS h (wr h 182 8 v) := by
  have e7 : rd (wr h 182 8 v) 182 7 = rd h 182 7 := rdw_nei (by decide)
  have e8 : rd (wr h 182 8 v) 182 8 = v := rdw_eq
  have e13 : rd (wr h 182 8 v) 182 13 = rd h 182 13 := rdw_nei (by decide)
  refine ⟨⟨wF_fault hp.1 (by omega) h1, trivial⟩, by omega, by omega, by omega, by omega, fun a i hn => ?_⟩
  rw [rd_wr, if_neg]
  rintro ⟨rfl, rfl⟩
  exact hn (Or.inl ⟨rfl, Or.inr (Or.inl rfl)⟩)
-- the law's codes that are being read
def opR (h : LH) : Int → Int := fun k => rd h 189 (1100 + k)
def arR (h : LH) : Int → Int := fun k => rd h 190 (1100 + k)
def SegH (h : LH) (i j : Int) : Prop := seg (opR h) (arR h) i j
theorem SegH_keep {h h' : LH} {i j : Int} (hs : SegH h i j) (hj : j ≤ rd h 182 13) (hf : pfr h h') : SegH h' i j := by
  refine seg_same hs (fun k k1 k2 => ⟨hf _ _ ?_, hf _ _ ?_⟩) <;> unfold pmut <;> omega
theorem INV_op {h : LH} (hI : INV h) {i v : Int} (hi : 1001 ≤ i) (h0 : 0 ≤ v) (h1 : v ≤ 10) : INV (wr h 189 i v) := by
  refine INV_wr hI (by unfold sens; omega) ?_
  rw [hA_op, lkd_1 (by decide +kernel)]
  exact ⟨rfl, ⟨by omega, by omega⟩, h0, h1, Int.one_dvd _⟩
theorem INV_arg {h : LH} (hI : INV h) {i v : Int} (hi : 1001 ≤ i) (h0 : -2147483648 ≤ v) (h1 : v ≤ 2147483647) : INV (wr h 190 i v) := by
  refine INV_wr hI (by unfold sens; omega) ?_
  rw [hA_arg, lkd_1 (by decide +kernel)]
  exact ⟨rfl, ⟨by omega, by omega⟩, h0, h1, Int.one_dvd _⟩
def emH (h : LH) (c a : Int) : LH := wr (wr (wr h 189 (rd h 182 13 + 1100) c) 190 (rd h 182 13 + 1100) a) 182 13 (rd h 182 13 + 1)
theorem emH_7 (h : LH) (c a : Int) : rd (emH h c a) 182 7 = rd h 182 7 := (rdw_nei (by decide)).trans ((rdw_ne (by decide)).trans (rdw_ne (by decide)))
theorem emH_8 (h : LH) (c a : Int) : rd (emH h c a) 182 8 = rd h 182 8 := (rdw_nei (by decide)).trans ((rdw_ne (by decide)).trans (rdw_ne (by decide)))
theorem emH_13 (h : LH) (c a : Int) : rd (emH h c a) 182 13 = rd h 182 13 + 1 := rdw_eq
theorem PS_emit {h0 h : LH} (hp : PS h0 h) {c a : Int} (hs : rd h 182 13 + 1 - rd h0 182 13 ≤ rd h 182 7 - rd h0 182 7) (hb : rd h0 182 13 ≤ rd h0 182 7) (c0 : 0 ≤ c) (c1 : c ≤ 10) (a0 : i32 a) : PS h0 (emH h c a) := by
  obtain ⟨p1, p2, p3, p4, p5, p6⟩ := hp
  have e7 := emH_7 h c a
  have e8 := emH_8 h c a
  have e13 := emH_13 h c a
  have hc := rF_codes p1.1.1
  have ha := rF_at p1.1.1
  have hI : INV (emH h c a) := wF_codes (INV_arg (INV_op p1.1 (by omega) c0 c1) (by omega) a0.1 a0.2) (by omega) (by omega)
  refine ⟨⟨hI, trivial⟩, by omega, by rw [e8]; exact p3, by omega, by omega, fun x i hn => ?_⟩
  rw [← p6 x i hn]
  unfold emH
  rw [rd_wr, if_neg, rd_wr, if_neg, rd_wr, if_neg] <;> (rintro ⟨rfl, rfl⟩; exact hn (by unfold pmut; omega))
theorem emH_op (h : LH) (c a : Int) : opR (emH h c a) (rd h 182 13) = c := by
  unfold opR emH
  rw [show 1100 + rd h 182 13 = rd h 182 13 + 1100 by omega]
  exact (rdw_ne (by decide)).trans ((rdw_ne (by decide)).trans rdw_eq)
theorem emH_ar (h : LH) (c a : Int) : arR (emH h c a) (rd h 182 13) = a := by
  unfold arR emH
  rw [show 1100 + rd h 182 13 = rd h 182 13 + 1100 by omega]
  exact (rdw_ne (by decide)).trans rdw_eq
theorem SegH_emH {h : LH} {i j : Int} (hs : SegH h i j) (hj : j ≤ rd h 182 13) (c a : Int) : SegH (emH h c a) i j := by
  refine seg_same hs (fun k k1 k2 => ⟨?_, ?_⟩)
  · exact (rdw_ne (by decide)).trans ((rdw_ne (by decide)).trans (rdw_nei (by omega)))
  · exact (rdw_ne (by decide)).trans ((rdw_nei (by omega)).trans (rdw_ne (by decide)))
section C1
variable {xs : Nat → Int} {xl e : Nat} {h : LH} {Q : Option LV → LH → Prop} {v1 v2 : Int}
theorem C_wrong (hp : PB h) (hw : 1 ≤ v1 ∧ v1 ≤ 5) (k : ∀ h', PS h h' → rd h' 182 8 ≠ 0 → rd h' 182 7 = rd h 182 7 → rd h' 182 13 = rd h 182 13 → Q none h') : Rn xs xl e mm_wrong 0 [some (.inr (.inr 182)), some (.inl v1)] [] h Q := by
  have hF := RF_of hp.1.1
  have h1 := rF_at hp.1.1
  have h2 := rA_place hp.1.1 (i := rd h 182 7) (by omega)
  refine B_wrong_0 hF ⟨fun c => k h (PS.refl hp) c rfl rfl, fun c => ⟨by omega, by omega, by omega, ?_⟩⟩
  refine k _ (PS_fault hp (by omega) (by omega)) ?_ (rdw_nei (by decide)) (rdw_nei (by decide))
  rw [rdw_eq]
  omega
theorem C_isSign (hI : INV h) (k1 : isSg h v1 → Q (some (.inl 1)) h) (k0 : ¬ isSg h v1 → Q (some (.inl 0)) h) : Rn xs xl e mm_isSign 0 [some (.inr (.inr 182)), some (.inl v1)] [] h Q := by
  have h1 := rF_at hI.1
  refine B_isSign_0 (RF_of hI.1) ⟨fun c => k0 (fun q => c q.1), fun c => ⟨by omega, fun c2 => k0 (fun q => c2 q.2.1), fun c2 => ⟨by omega, fun c3 => k0 (fun q => c3 (lcmp0.mpr q.2.2)), fun c3 => k1 ⟨c, c2, lcmp0.mp c3⟩⟩⟩⟩
theorem C_isWord (hI : INV h) (hw : 0 ≤ v1 ∧ v1 < 29) (k1 : isWd h v1 → Q (some (.inl 1)) h) (k0 : ¬ isWd h v1 → Q (some (.inl 0)) h) : Rn xs xl e mm_isWord 0 [some (.inr (.inr 182)), some (.inl v1)] [] h Q := by
  have h1 := rF_at hI.1
  refine B_isWord_0 (RF_of hI.1) ⟨fun c => k0 (fun q => c q.1), fun c => ⟨by omega, fun c2 => k0 (fun q => c2 q.2.1), fun c2 => ⟨by omega, hw, fun c3 => k0 (fun q => c3 (lcmp0.mpr q.2.2)), fun c3 => k1 ⟨c, c2, lcmp0.mp c3⟩⟩⟩⟩
theorem sg_lt (hI : INV h) (q : isSg h v1) : 0 ≤ rd h 182 7 ∧ rd h 182 7 ≤ 999 := ⟨(rF_at hI.1).1, at_lt hI (by rw [q.2.1]; decide)⟩
theorem wd_lt (hI : INV h) (q : isWd h v1) : 0 ≤ rd h 182 7 ∧ rd h 182 7 ≤ 999 := ⟨(rF_at hI.1).1, at_lt hI (by rw [q.2.1]; decide)⟩
theorem C_takeSign (he : 1 ≤ e) (hp : PB h) (k : ∀ h', PS h h' → (rd h' 182 8 = 0 → isSg h v1 ∧ rd h' 182 7 = rd h 182 7 + 1) → rd h' 182 13 = rd h 182 13 → Q none h') : Rn xs xl e mm_takeSign 0 [some (.inr (.inr 182)), some (.inl v1)] [] h Q := by
  have hF := RF_of hp.1.1
  refine B_takeSign_0 hF ⟨0, by omega, C_isSign hp.1 (fun q => ?_) (fun q => ?_)⟩
  · have h1 := sg_lt hp.1 q
    refine B_takeSign_5_1 hF ⟨by omega, k _ (PS_at hp (by omega) (by omega)) (fun _ => ⟨q, rdw_eq⟩) (rdw_nei (by decide))⟩
  · refine B_takeSign_5_0 hF ⟨0, by omega, C_wrong hp (by omega) (fun h' p1 p2 p3 p4 => ?_)⟩
    exact B_takeSign_26 (RF_of p1.1.1.1) (k h' p1 (fun q => absurd q p2) p4)
theorem C_hasSign (he : 1 ≤ e) (hI : INV h) (k1 : isSg h v1 → Q (some (.inl 1)) (wr h 182 7 (rd h 182 7 + 1))) (k0 : ¬ isSg h v1 → Q (some (.inl 0)) (wr h 182 7 (rd h 182 7))) : Rn xs xl e mm_hasSign 0 [some (.inr (.inr 182)), some (.inl v1), none] [] h Q := by
  have hF := RF_of hI.1
  have h1 := rF_at hI.1
  refine B_hasSign_0 hF ⟨0, by omega, C_isSign hI (fun q => ?_) (fun q => ?_)⟩
  · exact B_hasSign_5_1 hF ⟨by omega, k1 q⟩
  · exact B_hasSign_5_0 hF ⟨by omega, k0 q⟩
theorem C_hasWord (he : 1 ≤ e) (hI : INV h) (hw : 0 ≤ v1 ∧ v1 < 29) (k1 : isWd h v1 → Q (some (.inl 1)) (wr h 182 7 (rd h 182 7 + 1))) (k0 : ¬ isWd h v1 → Q (some (.inl 0)) (wr h 182 7 (rd h 182 7))) : Rn xs xl e mm_hasWord 0 [some (.inr (.inr 182)), some (.inl v1), none] [] h Q := by
  have hF := RF_of hI.1
  have h1 := rF_at hI.1
  refine B_hasWord_0 hF ⟨0, by omega, C_isWord hI hw (fun q => ?_) (fun q => ?_)⟩
  · exact B_hasWord_5_1 hF ⟨by omega, k1 q⟩
  · exact B_hasWord_5_0 hF ⟨by omega, k0 q⟩
theorem C_takeWord (he : 2 ≤ e) (hp : PB h) (hw : 0 ≤ v1 ∧ v1 < 29) (k : ∀ h', PS h h' → (rd h' 182 8 = 0 → isWd h v1 ∧ rd h' 182 7 = rd h 182 7 + 1) → rd h' 182 13 = rd h 182 13 → Q none h') : Rn xs xl e mm_takeWord 0 [some (.inr (.inr 182)), some (.inl v1)] [] h Q := by
  have hF := RF_of hp.1.1
  refine B_takeWord_0 hF ⟨1, by omega, C_hasWord (by omega) hp.1 hw (fun q => ?_) (fun q => ?_)⟩
  · have h1 := wd_lt hp.1 q
    have p := PS_at hp (v := rd h 182 7 + 1) (by omega) (by omega)
    exact B_takeWord_5_1 (RF_of p.1.1.1) (k _ p (fun _ => ⟨q, rdw_eq⟩) (rdw_nei (by decide)))
  · have h1 := rF_at hp.1.1
    have p := PS_at hp (v := rd h 182 7) (by omega) (by omega)
    refine B_takeWord_5_0 (RF_of p.1.1.1) ⟨0, by omega, C_wrong p.1 (by omega) (fun h' p1 p2 p3 p4 => ?_)⟩
    exact B_takeWord_13 (RF_of p1.1.1.1) (k h' (p.trans p1) (fun q => absurd q p2) (p4.trans (rdw_nei (by decide))))
theorem C_wordHere (he : 1 ≤ e) (hI : INV h) (hw : 0 ≤ v1 ∧ 0 ≤ v2 ∧ v1 + v2 ≤ 29) (k : ∀ r, -1 ≤ r → r < v2 ∨ r = -1 → (0 ≤ r → isWd h (v1 + r)) → Q (some (.inl r)) h) : Rn xs xl e mm_wordHere 0 [some (.inr (.inr 182)), some (.inl v1), some (.inl v2), none, none] [] h Q := by
  have hF := RF_of hI.1
  have key : ∀ (n : Nat) (a b : Int), v2 - b ≤ n → 0 ≤ b → -1 ≤ a → a < v2 ∨ a = -1 → (0 ≤ a → isWd h (v1 + a)) → Rn xs xl e mm_wordHere 5 [some (.inr (.inr 182)), some (.inl v1), some (.inl v2), some (.inl a), some (.inl b)] [] h Q := by
    intro n
    induction n with
    | zero =>
      intro a b hn hb h1 h2 h3
      exact B_wordHere_5 hF ⟨fun _ => k a h1 h2 h3, fun c => by omega⟩
    | succ n ih =>
      intro a b hn hb h1 h2 h3
      refine B_wordHere_5 hF ⟨fun _ => k a h1 h2 h3, fun c => ⟨by omega, 0, by omega, C_isWord hI (by omega) (fun q => ?_) (fun q => ?_)⟩⟩
      · exact B_wordHere_19_1 hF ⟨by omega, ih b (b + 1) (by omega) (by omega) (by omega) (by omega) (fun _ => q)⟩
      · exact B_wordHere_19_0 hF ⟨by omega, ih a (b + 1) (by omega) (by omega) (by omega) (by omega) h3⟩
  exact B_wordHere_0 hF (key v2.toNat (-1) 0 (by omega) (by omega) (by omega) (by omega) (by omega))
theorem C_emit (hI : INV h) (k : Q none (emH h v1 v2)) : Rn xs xl e mm_emit 0 [some (.inr (.inr 182)), some (.inl v1), some (.inl v2)] [] h Q := by
  have h1 := rF_codes hI.1
  exact B_emit_0 (RF_of hI.1) ⟨by omega, by omega, by omega, by omega, by omega, k⟩
end C1
end
section
/-! LM, part 39: the reference's law is read into codes that are one expression -/
def GL (h h' : LH) : Prop := PS h h' ∧ (rd h' 182 8 = 0 → SegH h' (rd h 182 13) (rd h' 182 13))
theorem PS.inv {h h' : LH} (p : PS h h') : INV h' := p.1.1
theorem PS.rf {h h' : LH} (p : PS h h') : RF h' := RF_of p.1.1.1
theorem PS.le {h h' : LH} (p : PS h h') (hc : rd h 182 13 ≤ rd h 182 7) : rd h' 182 13 ≤ rd h' 182 7 := by have := p.2.2.2.2.1; omega
theorem PS_emit1 {h : LH} (hp : PB h) (h2 : rd h 182 13 ≤ rd h 182 7) {c a : Int} (hs : rd h 182 7 ≤ 999) (c0 : 0 ≤ c) (c1 : c ≤ 10) (a0 : i32 a) : PS h (wr (emH h c a) 182 7 (rd h 182 7 + 1)) := by
  have e7 : rd (wr (emH h c a) 182 7 (rd h 182 7 + 1)) 182 7 = rd h 182 7 + 1 := rdw_eq
  have e8 : rd (wr (emH h c a) 182 7 (rd h 182 7 + 1)) 182 8 = rd h 182 8 := (rdw_nei (by decide)).trans (emH_8 h c a)
  have e13 : rd (wr (emH h c a) 182 7 (rd h 182 7 + 1)) 182 13 = rd h 182 13 + 1 := (rdw_nei (by decide)).trans (emH_13 h c a)
  have hc := rF_codes hp.1.1
  have ha := rF_at hp.1.1
  have hI : INV (emH h c a) := wF_codes (INV_arg (INV_op hp.1 (by omega) c0 c1) (by omega) a0.1 a0.2) (by omega) (by omega)
  refine ⟨⟨wF_at hI (by omega) (by omega), trivial⟩, by omega, by rw [e8]; exact id, by omega, by omega, fun x i hn => ?_⟩
  unfold emH
  rw [rd_wr, if_neg, rd_wr, if_neg, rd_wr, if_neg, rd_wr, if_neg] <;> (rintro ⟨rfl, rfl⟩; exact hn (by unfold pmut; omega))
theorem GL_ps {h h1 h2 : LH} (g : GL h h1) (p : PS h1 h2) (e : rd h2 182 13 = rd h1 182 13) : GL h h2 := by
  refine ⟨g.1.trans p, fun q => ?_⟩
  rw [e]
  exact SegH_keep (g.2 (p.2.2.1 q)) (Int.le_refl _) p.2.2.2.2.2
theorem GL_at0 {h h1 : LH} (g : GL h h1) : GL h (wr h1 182 7 (rd h1 182 7)) := by
  have h2 := rF_at g.1.inv.1
  exact GL_ps g (PS_at g.1.1 (by omega) (by omega)) (rdw_nei (by decide))
/-- an operator between: its sign was stepped over -/
theorem GL_bin {h h1 h2 h3 : LH} (hb : rd h 182 13 ≤ rd h 182 7) (g : GL h h1) (p : PS h1 h2) (e7 : rd h2 182 7 = rd h1 182 7 + 1) (e13 : rd h2 182 13 = rd h1 182 13) (g2 : GL h2 h3) {c : Int} (c0 : 4 ≤ c) (c1 : c ≤ 10) : GL h (emH h3 c 0) ∧ rd h1 182 7 < rd (emH h3 c 0) 182 7 := by
  have x7 := emH_7 h3 c 0
  have x8 := emH_8 h3 c 0
  have x13 := emH_13 h3 c 0
  have p2 := p.trans g2.1
  have b5 := g2.1.2.2.2.2.1
  have b2 := g2.1.2.1
  have b4 := g2.1.2.2.2.1
  have a5 := g.1.2.2.2.2.1
  refine ⟨⟨PS_emit (g.1.trans p2) (by omega) hb (by omega) c1 (by unfold i32; omega), fun q => ?_⟩, by omega⟩
  rw [x8] at q
  rw [x13]
  have s2 := g2.2 q
  have q1 := p2.2.2.1 q
  have s1 := SegH_keep (g.2 q1) (Int.le_refl _) p2.2.2.2.2.2
  rw [e13] at s2
  refine seg_bin (SegH_emH s1 (by omega) c 0) (SegH_emH s2 (by omega) c 0) ?_ ?_ <;> rw [emH_op] <;> omega
section C2
variable {xs : Nat → Int} {xl e E : Nat} {h : LH} {Q : Option LV → LH → Prop} {dep : Int}
def CtP (xs : Nat → Int) (xl : Nat) (M : LM_M) (tl : LL) (dep : Int) (E : Nat) : Prop := ∀ (e : Nat) (h : LH) (Q : Option LV → LH → Prop), E ≤ e → PB h → rd h 182 13 ≤ rd h 182 7 → (∀ h', GL h h' → Q none h') → Rn xs xl e M 0 (some (.inr (.inr 182)) :: some (.inl dep) :: tl) [] h Q
theorem C_products (hP : CtP xs xl mm_takePart [none, none] dep E) : CtP xs xl mm_products [] dep (E + 2) := by
  intro e h Q he hp hc k
  have loop : ∀ (n : Nat) (h1 : LH), GL h h1 → 1000 - rd h1 182 7 ≤ n → Rn xs xl e mm_products 5 [some (.inr (.inr 182)), some (.inl dep)] [] h1 Q := by
    intro n
    induction n with
    | zero =>
      intro h1 g hn
      refine B_products_5 g.1.rf ⟨1, by omega, C_hasSign (by omega) g.1.inv (fun q => ?_) (fun q => ?_)⟩
      · have := sg_lt g.1.inv q
        omega
      · exact B_products_11_0 (GL_at0 g).1.rf (k _ (GL_at0 g))
    | succ n ih =>
      intro h1 g hn
      refine B_products_5 g.1.rf ⟨1, by omega, C_hasSign (by omega) g.1.inv (fun q => ?_) (fun q => ?_)⟩
      · have h9 := sg_lt g.1.inv q
        have p := PS_at g.1.1 (v := rd h1 182 7 + 1) (by omega) (by omega)
        refine B_products_11_1 p.rf ⟨E, by omega, hP E _ _ (Nat.le_refl _) p.1 (p.le (g.1.le hc)) (fun h3 g3 => ?_)⟩
        have z := GL_bin hc g p rdw_eq (rdw_nei (by decide)) g3 (c := 6) (by decide) (by decide)
        refine B_products_19 g3.1.rf ⟨0, by omega, C_emit g3.1.inv ?_⟩
        exact B_products_26 z.1.1.rf (ih _ z.1 (by omega))
      · exact B_products_11_0 (GL_at0 g).1.rf (k _ (GL_at0 g))
  exact B_products_0 (RF_of hp.1.1) ⟨E, by omega, hP E _ _ (Nat.le_refl _) hp hc (fun h1 g => loop (1000 - rd h1 182 7).toNat h1 g (by omega))⟩
theorem C_sums (hP : CtP xs xl mm_products [] dep E) : CtP xs xl mm_sums [none] dep (E + 1) := by
  intro e h Q he hp hc k
  have loop : ∀ (n : Nat) (h1 : LH) (o2 : Option LV), nL o2 → GL h h1 → 1000 - rd h1 182 7 ≤ n → Rn xs xl e mm_sums 5 [some (.inr (.inr 182)), some (.inl dep), o2] [] h1 Q := by
    intro n
    induction n with
    | zero =>
      intro h1 o2 no g hn
      refine B_sums_5 no g.1.rf ⟨0, by omega, C_isSign g.1.inv (fun q => ?_) (fun q => ?_)⟩
      · have := sg_lt g.1.inv q
        omega
      · refine B_sums_11_0 no g.1.rf ⟨0, by omega, C_isSign g.1.inv (fun q => ?_) (fun q => ?_)⟩
        · have := sg_lt g.1.inv q
          omega
        · exact B_sums_20_0 no g.1.rf (k _ g)
    | succ n ih =>
      intro h1 o2 no g hn
      have go : ∀ w : Int, rd h1 182 7 ≤ 999 → Rn xs xl e mm_sums 29 [some (.inr (.inr 182)), some (.inl dep), o2] [.inl w] h1 Q := by
        intro w h9
        have h8 := rF_at g.1.inv.1
        have p := PS_at g.1.1 (v := rd h1 182 7 + 1) (by omega) (by omega)
        refine B_sums_29 no g.1.rf ⟨by omega, E, by omega, hP E _ _ (Nat.le_refl _) p.1 (p.le (g.1.le hc)) (fun h3 g3 => ?_)⟩
        refine B_sums_45 g3.1.rf ⟨fun _ => ⟨0, by omega, C_emit g3.1.inv ?_⟩, fun _ => ⟨0, by omega, C_emit g3.1.inv ?_⟩⟩
        · have z := GL_bin hc g p rdw_eq (rdw_nei (by decide)) g3 (c := 5) (by decide) (by decide)
          exact B_sums_59 z.1.1.rf (ih _ _ nL_i z.1 (by omega))
        · have z := GL_bin hc g p rdw_eq (rdw_nei (by decide)) g3 (c := 4) (by decide) (by decide)
          exact B_sums_59 z.1.1.rf (ih _ _ nL_i z.1 (by omega))
      refine B_sums_5 no g.1.rf ⟨0, by omega, C_isSign g.1.inv (fun q => ?_) (fun q => ?_)⟩
      · have h9 := sg_lt g.1.inv q
        exact B_sums_11_1 no g.1.rf ⟨0, by omega, C_isSign g.1.inv (fun _ => go 1 h9.2) (fun _ => go 0 h9.2)⟩
      · refine B_sums_11_0 no g.1.rf ⟨0, by omega, C_isSign g.1.inv (fun q => ?_) (fun q => ?_)⟩
        · have h9 := sg_lt g.1.inv q
          exact B_sums_20_1 no g.1.rf ⟨0, by omega, C_isSign g.1.inv (fun _ => go 1 h9.2) (fun _ => go 0 h9.2)⟩
        · exact B_sums_20_0 no g.1.rf (k _ g)
  exact B_sums_0 (RF_of hp.1.1) ⟨E, by omega, hP E _ _ (Nat.le_refl _) hp hc (fun h1 g => loop (1000 - rd h1 182 7).toNat h1 none nL_n g (by omega))⟩
theorem C_test (hP : CtP xs xl mm_sums [none] dep E) (hE : 1 ≤ E) : CtP xs xl mm_test [none] dep (E + 1) := by
  intro e h Q he hp hc k
  refine B_test_0 (RF_of hp.1.1) ⟨E, by omega, hP E _ _ (Nat.le_refl _) hp hc (fun h1 g => ?_)⟩
  have h8 := rF_at g.1.inv.1
  have fin : ∀ (w : Int) (h2 : LH), PS h1 h2 → rd h2 182 7 = rd h1 182 7 + 1 → rd h2 182 13 = rd h1 182 13 → ∃ c, c < e ∧ Rn xs xl c mm_sums 0 [some (.inr (.inr 182)), some (.inl dep), none] [] h2 (fun r h' => Rn xs xl e mm_test 35 [some (.inr (.inr 182)), some (.inl dep), some (.inl w)] (r.toList ++ []) h' Q) := by
    intro w h2 p e7 e13
    refine ⟨E, by omega, hP E _ _ (Nat.le_refl _) p.1 (p.le (g.1.le hc)) (fun h3 g3 => ?_)⟩
    refine B_test_35 g3.1.rf ⟨fun _ => ⟨0, by omega, C_emit g3.1.inv ?_⟩, fun _ => ⟨0, by omega, C_emit g3.1.inv ?_⟩⟩
    · have z := GL_bin hc g p e7 e13 g3 (c := 8) (by decide) (by decide)
      exact B_test_51 z.1.1.rf (k _ z.1)
    · have z := GL_bin hc g p e7 e13 g3 (c := 7) (by decide) (by decide)
      exact B_test_51 z.1.1.rf (k _ z.1)
  have go : ∀ w : Int, Rn xs xl e mm_test 11 [some (.inr (.inr 182)), some (.inl dep), none] [.inl w] h1 Q := by
    intro w
    refine B_test_11 g.1.rf ⟨1, by omega, C_hasSign (by omega) g.1.inv (fun q => ?_) (fun q => ?_)⟩
    · have h9 := sg_lt g.1.inv q
      have p := PS_at g.1.1 (v := rd h1 182 7 + 1) (by omega) (by omega)
      exact B_test_18_1 p.rf (fin w _ p rdw_eq (rdw_nei (by decide)))
    · have p0 := PS_at g.1.1 (v := rd h1 182 7) (by omega) (by omega)
      refine B_test_18_0 p0.rf ⟨1, by omega, C_hasSign (by omega) p0.inv (fun q => ?_) (fun q => ?_)⟩
      · have h9 := sg_lt p0.inv q
        have e0 : rd (wr h1 182 7 (rd h1 182 7)) 182 7 = rd h1 182 7 := rdw_eq
        have p1 := PS_at p0.1 (v := rd (wr h1 182 7 (rd h1 182 7)) 182 7 + 1) (by omega) (by omega)
        refine B_test_27_1 p1.rf (fin w _ (p0.trans p1) ?_ ?_)
        · rw [rdw_eq, e0]
        · exact (rdw_nei (by decide)).trans (rdw_nei (by decide))
      · have g0 := GL_at0 g
        exact B_test_27_0 (GL_at0 g0).1.rf (k _ (GL_at0 g0))
  exact B_test_5 g.1.rf ⟨0, by omega, C_isSign g.1.inv (fun _ => go 1) (fun _ => go 0)⟩
theorem C_all (hP : CtP xs xl mm_test [none] dep E) : CtP xs xl mm_all [none] dep (E + 1) := by
  intro e h Q he hp hc k
  have loop : ∀ (n : Nat) (h1 : LH) (o2 : Option LV), nL o2 → GL h h1 → 1000 - rd h1 182 7 ≤ n → Rn xs xl e mm_all 5 [some (.inr (.inr 182)), some (.inl dep), o2] [] h1 Q := by
    intro n
    induction n with
    | zero =>
      intro h1 o2 no g hn
      refine B_all_5 no g.1.rf ⟨0, by omega, C_isWord g.1.inv (by omega) (fun q => ?_) (fun q => ?_)⟩
      · have := wd_lt g.1.inv q
        omega
      · refine B_all_11_0 no g.1.rf ⟨0, by omega, C_isWord g.1.inv (by omega) (fun q => ?_) (fun q => ?_)⟩
        · have := wd_lt g.1.inv q
          omega
        · exact B_all_20_0 no g.1.rf (k _ g)
    | succ n ih =>
      intro h1 o2 no g hn
      have go : ∀ w : Int, rd h1 182 7 ≤ 999 → Rn xs xl e mm_all 29 [some (.inr (.inr 182)), some (.inl dep), o2] [.inl w] h1 Q := by
        intro w h9
        have h8 := rF_at g.1.inv.1
        have p := PS_at g.1.1 (v := rd h1 182 7 + 1) (by omega) (by omega)
        refine B_all_29 no g.1.rf ⟨by omega, E, by omega, hP E _ _ (Nat.le_refl _) p.1 (p.le (g.1.le hc)) (fun h3 g3 => ?_)⟩
        refine B_all_45 g3.1.rf ⟨fun _ => ⟨0, by omega, C_emit g3.1.inv ?_⟩, fun _ => ⟨0, by omega, C_emit g3.1.inv ?_⟩⟩
        · have z := GL_bin hc g p rdw_eq (rdw_nei (by decide)) g3 (c := 10) (by decide) (by decide)
          exact B_all_61 z.1.1.rf (ih _ _ nL_i z.1 (by omega))
        · have z := GL_bin hc g p rdw_eq (rdw_nei (by decide)) g3 (c := 9) (by decide) (by decide)
          exact B_all_61 z.1.1.rf (ih _ _ nL_i z.1 (by omega))
      refine B_all_5 no g.1.rf ⟨0, by omega, C_isWord g.1.inv (by omega) (fun q => ?_) (fun q => ?_)⟩
      · have h9 := wd_lt g.1.inv q
        exact B_all_11_1 no g.1.rf ⟨0, by omega, C_isWord g.1.inv (by omega) (fun _ => go 1 h9.2) (fun _ => go 0 h9.2)⟩
      · refine B_all_11_0 no g.1.rf ⟨0, by omega, C_isWord g.1.inv (by omega) (fun q => ?_) (fun q => ?_)⟩
        · have h9 := wd_lt g.1.inv q
          exact B_all_20_1 no g.1.rf ⟨0, by omega, C_isWord g.1.inv (by omega) (fun _ => go 1 h9.2) (fun _ => go 0 h9.2)⟩
        · exact B_all_20_0 no g.1.rf (k _ g)
  exact B_all_0 (RF_of hp.1.1) ⟨E, by omega, hP E _ _ (Nat.le_refl _) hp hc (fun h1 g => loop (1000 - rd h1 182 7).toNat h1 none nL_n g (by omega))⟩
theorem isSg_at0 {h : LH} {c : Int} (q : isSg h c) : isSg (wr h 182 7 (rd h 182 7)) c := by
  unfold isSg at q ⊢
  rw [rdw_eq, rdw_nei (by decide), rdw_ne (by decide), rdw_ne (by decide)]
  exact q
theorem w32_i (x : Int) : i32 (w32 x) := w32_in x
/-- a part, where its own parts, one deeper, keep theirs -/
theorem C_takePart (h0 : 0 ≤ dep) (h5 : dep ≤ 5) (hA : dep ≠ 5 → CtP xs xl mm_all [none] (dep + 1) E ∧ CtP xs xl mm_takePart [none, none] (dep + 1) E) (hE : 2 ≤ E) : CtP xs xl mm_takePart [none, none] dep (E + 1) := by
  intro e h Q he hp hc k
  have hF := RF_of hp.1.1
  have ha := rF_at hp.1.1
  have hf := rF_fault hp.1.1
  have GLf : ∀ h', PS h h' → rd h' 182 8 ≠ 0 → GL h h' := fun h' p q => ⟨p, fun z => absurd z q⟩
  have t69 : ∀ v2 v3 : Int, rd h 182 8 = 0 → (v2 ≠ 0 → rd h 184 (rd h 182 7) = 2) → v3 ≤ 3 → (0 ≤ v3 → isWd h (25 + v3)) → (0 ≤ v3 ∨ v2 ≠ 0 ∨ isSg h 40 ∨ isWd h 22) → Rn xs xl e mm_takePart 69 [some (.inr (.inr 182)), some (.inl dep), some (.inl v2), some (.inl v3)] [] h Q := by
    intro v2 v3 f0 s2 b3 w3 info
    refine B_takePart_69 hF ⟨fun c => ?_, fun c => ⟨0, by omega, C_wrong hp (by omega) (fun h' p1 p2 p3 p4 => ?_)⟩⟩
    · obtain ⟨hAll, hPart⟩ := hA c
      refine B_takePart_79 hF ⟨fun _ => ⟨1, by omega, C_hasWord (by omega) hp.1 (by omega) (fun q => ?_) (fun q => ?_)⟩, fun c => by omega⟩
      · have h9 := wd_lt hp.1 q
        have p := PS_at hp (v := rd h 182 7 + 1) (by omega) (by omega)
        refine B_takePart_93_1 p.rf ⟨by omega, E, by omega, hPart E _ _ (Nat.le_refl _) p.1 (p.le hc) (fun h2 g2 => ?_)⟩
        refine B_takePart_103 g2.1.rf ⟨0, by omega, C_emit g2.1.inv ?_⟩
        have x7 := emH_7 h2 3 0
        have x8 := emH_8 h2 3 0
        have x13 := emH_13 h2 3 0
        have e7 : rd (wr h 182 7 (rd h 182 7 + 1)) 182 7 = rd h 182 7 + 1 := rdw_eq
        have e13 : rd (wr h 182 7 (rd h 182 7 + 1)) 182 13 = rd h 182 13 := rdw_nei (by decide)
        have b5 := g2.1.2.2.2.2.1
        have b4 := g2.1.2.2.2.1
        have g : GL h (emH h2 3 0) := by
          refine ⟨PS_emit (p.trans g2.1) (by omega) hc (by omega) (by omega) (by unfold i32; omega), fun q => ?_⟩
          rw [x8] at q
          rw [x13]
          have s := g2.2 q
          rw [e13] at s
          exact seg_not (SegH_emH s (by omega) 3 0) (emH_op h2 3 0)
        exact B_takePart_109 g.1.rf (k _ g)
      · have p0 := PS_at hp (v := rd h 182 7) (by omega) (by omega)
        have e7 : rd (wr h 182 7 (rd h 182 7)) 182 7 = rd h 182 7 := rdw_eq
        have e13 : rd (wr h 182 7 (rd h 182 7)) 182 13 = rd h 182 13 := rdw_nei (by decide)
        refine B_takePart_93_0 p0.rf ⟨1, by omega, C_hasSign (by omega) p0.inv (fun q2 => ?_) (fun q2 => ?_)⟩
        · have h9 := sg_lt p0.inv q2
          have p1 := PS_at p0.1 (v := rd (wr h 182 7 (rd h 182 7)) 182 7 + 1) (by omega) (by omega)
          have p := p0.trans p1
          refine B_takePart_118_1 p.rf ⟨by omega, E, by omega, hAll E _ _ (Nat.le_refl _) p.1 (p.le hc) (fun h3 g3 => ?_)⟩
          refine B_takePart_128 g3.1.rf ⟨1, by omega, C_takeSign (by omega) g3.1.1 (fun h4 p4 _ c4 => ?_)⟩
          have g4 := GL_ps g3 p4 c4
          have x13 : rd (wr (wr h 182 7 (rd h 182 7)) 182 7 (rd (wr h 182 7 (rd h 182 7)) 182 7 + 1)) 182 13 = rd h 182 13 := (rdw_nei (by decide)).trans e13
          have g : GL h h4 := by
            refine ⟨p.trans g4.1, fun q => ?_⟩
            have s := g4.2 q
            rw [x13] at s
            exact s
          exact B_takePart_134 g.1.rf (k _ g)
        · have info2 : 0 ≤ v3 ∨ v2 ≠ 0 := by
            rcases info with i | i | i | i
            · exact Or.inl i
            · exact Or.inr i
            · exact absurd (isSg_at0 i) q2
            · exact absurd i q
          have h9 : rd h 182 7 ≤ 999 := by
            rcases info2 with i | i
            · exact (wd_lt hp.1 (w3 i)).2
            · exact at_lt hp.1 (by rw [s2 i]; decide)
          have fin : ∀ (hq : LH), PS h hq → rd hq 182 7 = rd h 182 7 → rd hq 182 13 = rd h 182 13 → ∀ c a : Int, (c = 1 ∨ (c = 2 ∧ 0 ≤ a ∧ a ≤ 3)) → i32 a → ∃ d, d < e ∧ Rn xs xl d mm_emit 0 [some (.inr (.inr 182)), some (.inl c), some (.inl a)] [] hq (fun r h' => Rn xs xl e mm_takePart 168 [some (.inr (.inr 182)), some (.inl dep), some (.inl v2), some (.inl v3)] (r.toList ++ []) h' Q) := by
            intro hq pq f7 f13 c a hcc ha32
            have p := PS_emit1 pq.1 (pq.le hc) (c := c) (a := a) (by omega) (by omega) (by omega) ha32
            have hpos := rF_codes pq.inv.1
            have hI : INV (emH hq c a) := wF_codes (INV_arg (INV_op pq.inv (by omega) (by omega) (by omega)) (by omega) ha32.1 ha32.2) (by omega) (by have := pq.le hc; omega)
            have z7 := emH_7 hq c a
            refine ⟨0, by omega, C_emit pq.inv ?_⟩
            refine B_takePart_168 (RF_of hI.1) ⟨by omega, ?_⟩
            rw [z7]
            refine k _ ⟨pq.trans p, fun q => ?_⟩
            have z13 : rd (wr (emH hq c a) 182 7 (rd hq 182 7 + 1)) 182 13 = rd h 182 13 + 1 := by
              rw [rdw_nei (by decide), emH_13, f13]
            rw [z13]
            have o1 : opR (wr (emH hq c a) 182 7 (rd hq 182 7 + 1)) (rd h 182 13) = c := by
              have := emH_op hq c a
              rw [f13] at this
              exact (rdw_ne (by decide)).trans this
            have o2 : arR (wr (emH hq c a) 182 7 (rd hq 182 7 + 1)) (rd h 182 13) = a := by
              have := emH_ar hq c a
              rw [f13] at this
              exact (rdw_ne (by decide)).trans this
            rcases hcc with rfl | ⟨rfl, a0, a1⟩
            · exact seg_num o1
            · exact seg_fact o1 (by rw [o2]; exact a0) (by rw [o2]; exact a1)
          have pz := PS_at p0.1 (v := rd (wr h 182 7 (rd h 182 7)) 182 7) (by omega) (by omega)
          have z7 : rd (wr (wr h 182 7 (rd h 182 7)) 182 7 (rd (wr h 182 7 (rd h 182 7)) 182 7)) 182 7 = rd h 182 7 := rdw_eq.trans e7
          have z13 : rd (wr (wr h 182 7 (rd h 182 7)) 182 7 (rd (wr h 182 7 (rd h 182 7)) 182 7)) 182 13 = rd h 182 13 := (rdw_nei (by decide)).trans e13
          refine B_takePart_118_0 pz.rf ⟨fun c0 => ⟨fun _ => ?_, fun c1 => absurd c0 c1⟩, fun c0 => ⟨fun c1 => absurd c1 c0, fun _ => ⟨by omega, ?_⟩⟩⟩
          · have a0 : 0 ≤ v3 := by
              rcases info2 with i | i
              · exact i
              · exact absurd c0 i
            exact fin _ (p0.trans pz) z7 z13 2 v3 (Or.inr ⟨rfl, a0, b3⟩) (by unfold i32; omega)
          · exact fin _ (p0.trans pz) z7 z13 1 _ (Or.inl rfl) (w32_i _)
    · exact B_takePart_79 p1.rf ⟨fun c => by have := rF_fault p1.inv.1; omega, fun _ => k _ (GLf _ p1 p2)⟩
  have t34 : ∀ v2 r : Int, rd h 182 8 = 0 → (v2 ≠ 0 → rd h 184 (rd h 182 7) = 2) → r ≤ 3 → (0 ≤ r → isWd h (25 + r)) → Rn xs xl e mm_takePart 34 [some (.inr (.inr 182)), some (.inl dep), some (.inl v2), none] [.inl r] h Q := by
    intro v2 r f0 s2 b3 w3
    refine B_takePart_34 hF ⟨fun c => t69 v2 r f0 s2 b3 w3 (Or.inl c), fun c => ⟨fun c2 => t69 v2 r f0 s2 b3 w3 (Or.inr (Or.inl c2)), fun c2 => ⟨0, by omega, C_isSign hp.1 (fun q => ?_) (fun q => ?_)⟩⟩⟩
    · exact B_takePart_49_1 hF (t69 v2 r f0 s2 b3 w3 (Or.inr (Or.inr (Or.inl q))))
    · refine B_takePart_49_0 hF ⟨0, by omega, C_isWord hp.1 (by omega) (fun q => ?_) (fun q => ?_)⟩
      · exact B_takePart_58_1 hF (t69 v2 r f0 s2 b3 w3 (Or.inr (Or.inr (Or.inr q))))
      · refine B_takePart_58_0 hF ⟨0, by omega, C_wrong hp (by omega) (fun h' p1 p2 p3 p4 => ?_)⟩
        exact B_takePart_66 p1.rf (B_takePart_79 p1.rf ⟨fun c => by have := rF_fault p1.inv.1; omega, fun _ => k _ (GLf _ p1 p2)⟩)
  refine B_takePart_0 hF ⟨fun c => ⟨by omega, fun c2 => ⟨1, by omega, C_wordHere (by omega) hp.1 (by omega) (fun r r1 r2 r3 => ?_)⟩, fun c2 => ⟨1, by omega, C_wordHere (by omega) hp.1 (by omega) (fun r r1 r2 r3 => ?_)⟩⟩, fun c => k h (GLf h (PS.refl hp) (by omega))⟩
  · exact t34 0 r (by omega) (fun q => absurd rfl q) (by omega) r3
  · exact t34 1 r (by omega) (fun _ => c2) (by omega) r3
theorem C_part_all : ∀ (n : Nat) (dep : Int), dep = 5 - (n : Int) → 0 ≤ dep → ∃ E, CtP xs xl mm_takePart [none, none] dep E ∧ CtP xs xl mm_all [none] dep (E + 5) ∧ 2 ≤ E ∧ E = 6 * n + 3
  | 0, dep, hd, h0 => by
    have hP : CtP xs xl mm_takePart [none, none] dep (2 + 1) := C_takePart (E := 2) h0 (by omega) (fun q => absurd (by omega) q) (by omega)
    exact ⟨3, hP, C_all (C_test (C_sums (C_products hP)) (by omega)), by omega, by omega⟩
  | n + 1, dep, hd, h0 => by
    obtain ⟨E, p1, p2, p3, p4⟩ := C_part_all n (dep + 1) (by omega) (by omega)
    have hP : CtP xs xl mm_takePart [none, none] dep (E + 5 + 1) := C_takePart (E := E + 5) h0 (by omega) (fun _ => ⟨p2, fun e h Q he hp hc k => p1 e h Q (by omega) hp hc k⟩) (by omega)
    exact ⟨E + 5 + 1, hP, C_all (C_test (C_sums (C_products hP)) (by omega)), by omega, by omega⟩
/-- the whole law -/
theorem C_all0 : CtP xs xl mm_all [none] 0 38 := by
  obtain ⟨E, p1, p2, p3, p4⟩ := C_part_all (xs := xs) (xl := xl) 5 0 (by omega) (by omega)
  subst p4
  exact p2
end C2
end
