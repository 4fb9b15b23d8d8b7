/-! LM, by program (wip/p2/hand.py): rows of the parser, the law -/
def mm_wrong : LM_M := (⟨"OneSidedModel", "wrong", "(I)V"⟩, prog_14_method_10_code, 2, none, 12, 2, 0, 1452, 1451, 1000069)
def mm_isSign : LM_M := (⟨"OneSidedModel", "isSign", "(I)Z"⟩, prog_14_method_11_code, 2, (some .boolean), 12, 2, 0, 1464, 1463, 1000072)
def mm_isWord : LM_M := (⟨"OneSidedModel", "isWord", "(I)Z"⟩, prog_14_method_12_code, 2, (some .boolean), 12, 2, 0, 1448, 1447, 1000068)
def mm_takeSign : LM_M := (⟨"OneSidedModel", "takeSign", "(I)V"⟩, prog_14_method_13_code, 2, none, 12, 2, 0, 1460, 1459, 1000071)
def mm_hasSign : LM_M := (⟨"OneSidedModel", "hasSign", "(I)Z"⟩, prog_14_method_14_code, 3, (some .boolean), 12, 2, 0, 1532, 1531, 1000089)
def mm_hasWord : LM_M := (⟨"OneSidedModel", "hasWord", "(I)Z"⟩, prog_14_method_15_code, 3, (some .boolean), 12, 2, 0, 1444, 1443, 1000067)
def mm_takeWord : LM_M := (⟨"OneSidedModel", "takeWord", "(I)V"⟩, prog_14_method_16_code, 2, none, 12, 2, 0, 1440, 1439, 1000066)
def mm_wordHere : LM_M := (⟨"OneSidedModel", "wordHere", "(II)I"⟩, prog_14_method_21_code, 5, (some .int), 12, 3, 0, 1480, 1479, 1000076)
def mm_emit : LM_M := (⟨"OneSidedModel", "emit", "(II)V"⟩, prog_14_method_34_code, 3, none, 12, 3, 0, 1528, 1527, 1000088)
def mm_products : LM_M := (⟨"OneSidedModel", "products", "(I)V"⟩, prog_14_method_38_code, 2, none, 12, 2, 0, 1520, 1519, 1000086)
def mm_takePart : LM_M := (⟨"OneSidedModel", "takePart", "(I)V"⟩, prog_14_method_39_code, 4, none, 12, 2, 0, 1524, 1523, 1000087)
def mm_sums : LM_M := (⟨"OneSidedModel", "sums", "(I)V"⟩, prog_14_method_37_code, 3, none, 12, 2, 0, 1516, 1515, 1000085)
def mm_all : LM_M := (⟨"OneSidedModel", "all", "(I)V"⟩, prog_14_method_35_code, 3, none, 12, 2, 0, 1508, 1507, 1000083)
def mm_test : LM_M := (⟨"OneSidedModel", "test", "(I)V"⟩, prog_14_method_36_code, 3, none, 12, 2, 0, 1512, 1511, 1000084)
theorem dd_wrong_0 : decode mm_wrong.2.1 0 = .ok (.aload_n 0, 1) := by decide +kernel
theorem dd_wrong_1 : decode mm_wrong.2.1 1 = .ok (.getfield 210, 3) := by decide +kernel
theorem fd_12_210 : fld 12 210 = some (12, 8) := by decide +kernel
theorem dd_wrong_4 : decode mm_wrong.2.1 4 = .ok (.ifCond .ne (21), 3) := by decide +kernel
theorem dd_wrong_25 : decode mm_wrong.2.1 25 = .ok (.return_, 1) := by decide +kernel
theorem dd_wrong_7 : decode mm_wrong.2.1 7 = .ok (.aload_n 0, 1) := by decide +kernel
theorem dd_wrong_8 : decode mm_wrong.2.1 8 = .ok (.iload_n 1, 1) := by decide +kernel
theorem dd_wrong_9 : decode mm_wrong.2.1 9 = .ok (.bipush 16, 2) := by decide +kernel
theorem dd_wrong_11 : decode mm_wrong.2.1 11 = .ok (.aload_n 0, 1) := by decide +kernel
theorem dd_wrong_12 : decode mm_wrong.2.1 12 = .ok (.getfield 27, 3) := by decide +kernel
theorem fd_12_27 : fld 12 27 = some (12, 5) := by decide +kernel
theorem rf_182_5 {h : LH} (hF : RF h) : rd h 182 5 = 185 := hF 182 5 185 (by decide +kernel) (by decide +kernel)
theorem dd_wrong_15 : decode mm_wrong.2.1 15 = .ok (.aload_n 0, 1) := by decide +kernel
theorem dd_wrong_16 : decode mm_wrong.2.1 16 = .ok (.getfield 207, 3) := by decide +kernel
theorem fd_12_207 : fld 12 207 = some (12, 7) := by decide +kernel
theorem dd_wrong_19 : decode mm_wrong.2.1 19 = .ok (.iaload, 1) := by decide +kernel
theorem ia_185 : isA NC 185 1 = true := by decide +kernel
theorem la_185 : (lay (185 : Int).toNat).2.2 = 1002 := by decide +kernel
theorem dd_wrong_20 : decode mm_wrong.2.1 20 = .ok (.imul, 1) := by decide +kernel
theorem dd_wrong_21 : decode mm_wrong.2.1 21 = .ok (.iadd, 1) := by decide +kernel
theorem dd_wrong_22 : decode mm_wrong.2.1 22 = .ok (.putfield 210, 3) := by decide +kernel
theorem fn_12_8 : fin 12 8 = false := by decide +kernel
theorem dd_isSign_0 : decode mm_isSign.2.1 0 = .ok (.aload_n 0, 1) := by decide +kernel
theorem dd_isSign_1 : decode mm_isSign.2.1 1 = .ok (.getfield 210, 3) := by decide +kernel
theorem dd_isSign_4 : decode mm_isSign.2.1 4 = .ok (.ifCond .ne (35), 3) := by decide +kernel
theorem dd_isSign_39 : decode mm_isSign.2.1 39 = .ok (.iconst 0, 1) := by decide +kernel
theorem dd_isSign_40 : decode mm_isSign.2.1 40 = .ok (.ireturn, 1) := by decide +kernel
theorem dd_isSign_7 : decode mm_isSign.2.1 7 = .ok (.aload_n 0, 1) := by decide +kernel
theorem dd_isSign_8 : decode mm_isSign.2.1 8 = .ok (.getfield 24, 3) := by decide +kernel
theorem fd_12_24 : fld 12 24 = some (12, 4) := by decide +kernel
theorem rf_182_4 {h : LH} (hF : RF h) : rd h 182 4 = 184 := hF 182 4 184 (by decide +kernel) (by decide +kernel)
theorem dd_isSign_11 : decode mm_isSign.2.1 11 = .ok (.aload_n 0, 1) := by decide +kernel
theorem dd_isSign_12 : decode mm_isSign.2.1 12 = .ok (.getfield 207, 3) := by decide +kernel
theorem dd_isSign_15 : decode mm_isSign.2.1 15 = .ok (.iaload, 1) := by decide +kernel
theorem ia_184 : isA NC 184 1 = true := by decide +kernel
theorem la_184 : (lay (184 : Int).toNat).2.2 = 1002 := by decide +kernel
theorem dd_isSign_16 : decode mm_isSign.2.1 16 = .ok (.iconst 3, 1) := by decide +kernel
theorem dd_isSign_17 : decode mm_isSign.2.1 17 = .ok (.if_icmp .ne (22), 3) := by decide +kernel
theorem dd_isSign_20 : decode mm_isSign.2.1 20 = .ok (.aload_n 0, 1) := by decide +kernel
theorem dd_isSign_21 : decode mm_isSign.2.1 21 = .ok (.getfield 30, 3) := by decide +kernel
theorem fd_12_30 : fld 12 30 = some (12, 6) := by decide +kernel
theorem rf_182_6 {h : LH} (hF : RF h) : rd h 182 6 = 186 := hF 182 6 186 (by decide +kernel) (by decide +kernel)
theorem dd_isSign_24 : decode mm_isSign.2.1 24 = .ok (.aload_n 0, 1) := by decide +kernel
theorem dd_isSign_25 : decode mm_isSign.2.1 25 = .ok (.getfield 207, 3) := by decide +kernel
theorem dd_isSign_28 : decode mm_isSign.2.1 28 = .ok (.laload, 1) := by decide +kernel
theorem ia_186 : isA NC 186 2 = true := by decide +kernel
theorem la_186 : (lay (186 : Int).toNat).2.2 = 1002 := by decide +kernel
theorem dd_isSign_29 : decode mm_isSign.2.1 29 = .ok (.iload_n 1, 1) := by decide +kernel
theorem dd_isSign_30 : decode mm_isSign.2.1 30 = .ok (.i2l, 1) := by decide +kernel
theorem dd_isSign_31 : decode mm_isSign.2.1 31 = .ok (.lcmp, 1) := by decide +kernel
theorem dd_isSign_32 : decode mm_isSign.2.1 32 = .ok (.ifCond .ne (7), 3) := by decide +kernel
theorem dd_isSign_35 : decode mm_isSign.2.1 35 = .ok (.iconst 1, 1) := by decide +kernel
theorem dd_isSign_36 : decode mm_isSign.2.1 36 = .ok (.goto 4, 3) := by decide +kernel
theorem dd_isWord_0 : decode mm_isWord.2.1 0 = .ok (.aload_n 0, 1) := by decide +kernel
theorem dd_isWord_1 : decode mm_isWord.2.1 1 = .ok (.getfield 210, 3) := by decide +kernel
theorem dd_isWord_4 : decode mm_isWord.2.1 4 = .ok (.ifCond .ne (39), 3) := by decide +kernel
theorem dd_isWord_43 : decode mm_isWord.2.1 43 = .ok (.iconst 0, 1) := by decide +kernel
theorem dd_isWord_44 : decode mm_isWord.2.1 44 = .ok (.ireturn, 1) := by decide +kernel
theorem dd_isWord_7 : decode mm_isWord.2.1 7 = .ok (.aload_n 0, 1) := by decide +kernel
theorem dd_isWord_8 : decode mm_isWord.2.1 8 = .ok (.getfield 24, 3) := by decide +kernel
theorem dd_isWord_11 : decode mm_isWord.2.1 11 = .ok (.aload_n 0, 1) := by decide +kernel
theorem dd_isWord_12 : decode mm_isWord.2.1 12 = .ok (.getfield 207, 3) := by decide +kernel
theorem dd_isWord_15 : decode mm_isWord.2.1 15 = .ok (.iaload, 1) := by decide +kernel
theorem dd_isWord_16 : decode mm_isWord.2.1 16 = .ok (.iconst 1, 1) := by decide +kernel
theorem dd_isWord_17 : decode mm_isWord.2.1 17 = .ok (.if_icmp .ne (26), 3) := by decide +kernel
theorem dd_isWord_20 : decode mm_isWord.2.1 20 = .ok (.aload_n 0, 1) := by decide +kernel
theorem dd_isWord_21 : decode mm_isWord.2.1 21 = .ok (.getfield 30, 3) := by decide +kernel
theorem dd_isWord_24 : decode mm_isWord.2.1 24 = .ok (.aload_n 0, 1) := by decide +kernel
theorem dd_isWord_25 : decode mm_isWord.2.1 25 = .ok (.getfield 207, 3) := by decide +kernel
theorem dd_isWord_28 : decode mm_isWord.2.1 28 = .ok (.laload, 1) := by decide +kernel
theorem dd_isWord_29 : decode mm_isWord.2.1 29 = .ok (.aload_n 0, 1) := by decide +kernel
theorem dd_isWord_30 : decode mm_isWord.2.1 30 = .ok (.getfield 92, 3) := by decide +kernel
theorem fd_12_92 : fld 12 92 = some (12, 9) := by decide +kernel
theorem rf_182_9 {h : LH} (hF : RF h) : rd h 182 9 = 187 := hF 182 9 187 (by decide +kernel) (by decide +kernel)
theorem dd_isWord_33 : decode mm_isWord.2.1 33 = .ok (.iload_n 1, 1) := by decide +kernel
theorem dd_isWord_34 : decode mm_isWord.2.1 34 = .ok (.laload, 1) := by decide +kernel
theorem ia_187 : isA NC 187 2 = true := by decide +kernel
theorem la_187 : (lay (187 : Int).toNat).2.2 = 29 := by decide +kernel
theorem dd_isWord_35 : decode mm_isWord.2.1 35 = .ok (.lcmp, 1) := by decide +kernel
theorem dd_isWord_36 : decode mm_isWord.2.1 36 = .ok (.ifCond .ne (7), 3) := by decide +kernel
theorem dd_isWord_39 : decode mm_isWord.2.1 39 = .ok (.iconst 1, 1) := by decide +kernel
theorem dd_isWord_40 : decode mm_isWord.2.1 40 = .ok (.goto 4, 3) := by decide +kernel
theorem dd_takeSign_0 : decode mm_takeSign.2.1 0 = .ok (.aload_n 0, 1) := by decide +kernel
theorem dd_takeSign_1 : decode mm_takeSign.2.1 1 = .ok (.iload_n 1, 1) := by decide +kernel
theorem dd_takeSign_2 : decode mm_takeSign.2.1 2 = .ok (.invokevirtual 213, 3) := by decide +kernel
theorem cw_12_213 : cwOk 12 213 0 174 2 2 12 = true := by decide +kernel
theorem mt_isSign : MTB 174 = some mm_isSign := rfl
theorem dd_takeSign_5 : decode mm_takeSign.2.1 5 = .ok (.ifCond .eq (16), 3) := by decide +kernel
theorem dd_takeSign_8 : decode mm_takeSign.2.1 8 = .ok (.aload_n 0, 1) := by decide +kernel
theorem dd_takeSign_9 : decode mm_takeSign.2.1 9 = .ok (.dup, 1) := by decide +kernel
theorem dd_takeSign_10 : decode mm_takeSign.2.1 10 = .ok (.getfield 207, 3) := by decide +kernel
theorem dd_takeSign_13 : decode mm_takeSign.2.1 13 = .ok (.iconst 1, 1) := by decide +kernel
theorem dd_takeSign_14 : decode mm_takeSign.2.1 14 = .ok (.iadd, 1) := by decide +kernel
theorem dd_takeSign_15 : decode mm_takeSign.2.1 15 = .ok (.putfield 207, 3) := by decide +kernel
theorem fn_12_7 : fin 12 7 = false := by decide +kernel
theorem dd_takeSign_18 : decode mm_takeSign.2.1 18 = .ok (.goto 8, 3) := by decide +kernel
theorem dd_takeSign_26 : decode mm_takeSign.2.1 26 = .ok (.return_, 1) := by decide +kernel
theorem dd_takeSign_21 : decode mm_takeSign.2.1 21 = .ok (.aload_n 0, 1) := by decide +kernel
theorem dd_takeSign_22 : decode mm_takeSign.2.1 22 = .ok (.iconst 1, 1) := by decide +kernel
theorem dd_takeSign_23 : decode mm_takeSign.2.1 23 = .ok (.invokevirtual 216, 3) := by decide +kernel
theorem cw_12_216 : cwOk 12 216 0 171 2 2 12 = true := by decide +kernel
theorem mt_wrong : MTB 171 = some mm_wrong := rfl
theorem dd_hasSign_0 : decode mm_hasSign.2.1 0 = .ok (.aload_n 0, 1) := by decide +kernel
theorem dd_hasSign_1 : decode mm_hasSign.2.1 1 = .ok (.iload_n 1, 1) := by decide +kernel
theorem dd_hasSign_2 : decode mm_hasSign.2.1 2 = .ok (.invokevirtual 213, 3) := by decide +kernel
theorem dd_hasSign_5 : decode mm_hasSign.2.1 5 = .ok (.istore_n 2, 1) := by decide +kernel
theorem dd_hasSign_6 : decode mm_hasSign.2.1 6 = .ok (.aload_n 0, 1) := by decide +kernel
theorem dd_hasSign_7 : decode mm_hasSign.2.1 7 = .ok (.dup, 1) := by decide +kernel
theorem dd_hasSign_8 : decode mm_hasSign.2.1 8 = .ok (.getfield 207, 3) := by decide +kernel
theorem dd_hasSign_11 : decode mm_hasSign.2.1 11 = .ok (.iload_n 2, 1) := by decide +kernel
theorem dd_hasSign_12 : decode mm_hasSign.2.1 12 = .ok (.ifCond .eq (7), 3) := by decide +kernel
theorem dd_hasSign_15 : decode mm_hasSign.2.1 15 = .ok (.iconst 1, 1) := by decide +kernel
theorem dd_hasSign_16 : decode mm_hasSign.2.1 16 = .ok (.goto 4, 3) := by decide +kernel
theorem dd_hasSign_20 : decode mm_hasSign.2.1 20 = .ok (.iadd, 1) := by decide +kernel
theorem dd_hasSign_21 : decode mm_hasSign.2.1 21 = .ok (.putfield 207, 3) := by decide +kernel
theorem dd_hasSign_24 : decode mm_hasSign.2.1 24 = .ok (.iload_n 2, 1) := by decide +kernel
theorem dd_hasSign_25 : decode mm_hasSign.2.1 25 = .ok (.ireturn, 1) := by decide +kernel
theorem dd_hasSign_19 : decode mm_hasSign.2.1 19 = .ok (.iconst 0, 1) := by decide +kernel
theorem dd_hasWord_0 : decode mm_hasWord.2.1 0 = .ok (.aload_n 0, 1) := by decide +kernel
theorem dd_hasWord_1 : decode mm_hasWord.2.1 1 = .ok (.iload_n 1, 1) := by decide +kernel
theorem dd_hasWord_2 : decode mm_hasWord.2.1 2 = .ok (.invokevirtual 219, 3) := by decide +kernel
theorem cw_12_219 : cwOk 12 219 0 170 2 2 12 = true := by decide +kernel
theorem mt_isWord : MTB 170 = some mm_isWord := rfl
theorem dd_hasWord_5 : decode mm_hasWord.2.1 5 = .ok (.istore_n 2, 1) := by decide +kernel
theorem dd_hasWord_6 : decode mm_hasWord.2.1 6 = .ok (.aload_n 0, 1) := by decide +kernel
theorem dd_hasWord_7 : decode mm_hasWord.2.1 7 = .ok (.dup, 1) := by decide +kernel
theorem dd_hasWord_8 : decode mm_hasWord.2.1 8 = .ok (.getfield 207, 3) := by decide +kernel
theorem dd_hasWord_11 : decode mm_hasWord.2.1 11 = .ok (.iload_n 2, 1) := by decide +kernel
theorem dd_hasWord_12 : decode mm_hasWord.2.1 12 = .ok (.ifCond .eq (7), 3) := by decide +kernel
theorem dd_hasWord_15 : decode mm_hasWord.2.1 15 = .ok (.iconst 1, 1) := by decide +kernel
theorem dd_hasWord_16 : decode mm_hasWord.2.1 16 = .ok (.goto 4, 3) := by decide +kernel
theorem dd_hasWord_20 : decode mm_hasWord.2.1 20 = .ok (.iadd, 1) := by decide +kernel
theorem dd_hasWord_21 : decode mm_hasWord.2.1 21 = .ok (.putfield 207, 3) := by decide +kernel
theorem dd_hasWord_24 : decode mm_hasWord.2.1 24 = .ok (.iload_n 2, 1) := by decide +kernel
theorem dd_hasWord_25 : decode mm_hasWord.2.1 25 = .ok (.ireturn, 1) := by decide +kernel
theorem dd_hasWord_19 : decode mm_hasWord.2.1 19 = .ok (.iconst 0, 1) := by decide +kernel
theorem dd_takeWord_0 : decode mm_takeWord.2.1 0 = .ok (.aload_n 0, 1) := by decide +kernel
theorem dd_takeWord_1 : decode mm_takeWord.2.1 1 = .ok (.iload_n 1, 1) := by decide +kernel
theorem dd_takeWord_2 : decode mm_takeWord.2.1 2 = .ok (.invokevirtual 222, 3) := by decide +kernel
theorem cw_12_222 : cwOk 12 222 0 169 2 3 12 = true := by decide +kernel
theorem mt_hasWord : MTB 169 = some mm_hasWord := rfl
theorem dd_takeWord_5 : decode mm_takeWord.2.1 5 = .ok (.ifCond .ne (8), 3) := by decide +kernel
theorem dd_takeWord_13 : decode mm_takeWord.2.1 13 = .ok (.return_, 1) := by decide +kernel
theorem dd_takeWord_8 : decode mm_takeWord.2.1 8 = .ok (.aload_n 0, 1) := by decide +kernel
theorem dd_takeWord_9 : decode mm_takeWord.2.1 9 = .ok (.iconst 1, 1) := by decide +kernel
theorem dd_takeWord_10 : decode mm_takeWord.2.1 10 = .ok (.invokevirtual 216, 3) := by decide +kernel
theorem dd_wordHere_0 : decode mm_wordHere.2.1 0 = .ok (.iconst (-1), 1) := by decide +kernel
theorem dd_wordHere_1 : decode mm_wordHere.2.1 1 = .ok (.istore_n 3, 1) := by decide +kernel
theorem dd_wordHere_2 : decode mm_wordHere.2.1 2 = .ok (.iconst 0, 1) := by decide +kernel
theorem dd_wordHere_3 : decode mm_wordHere.2.1 3 = .ok (.istore 4, 2) := by decide +kernel
theorem dd_wordHere_5 : decode mm_wordHere.2.1 5 = .ok (.iload 4, 2) := by decide +kernel
theorem dd_wordHere_7 : decode mm_wordHere.2.1 7 = .ok (.iload_n 2, 1) := by decide +kernel
theorem dd_wordHere_8 : decode mm_wordHere.2.1 8 = .ok (.if_icmp .ge (27), 3) := by decide +kernel
theorem dd_wordHere_35 : decode mm_wordHere.2.1 35 = .ok (.iload_n 3, 1) := by decide +kernel
theorem dd_wordHere_36 : decode mm_wordHere.2.1 36 = .ok (.ireturn, 1) := by decide +kernel
theorem dd_wordHere_11 : decode mm_wordHere.2.1 11 = .ok (.aload_n 0, 1) := by decide +kernel
theorem dd_wordHere_12 : decode mm_wordHere.2.1 12 = .ok (.iload_n 1, 1) := by decide +kernel
theorem dd_wordHere_13 : decode mm_wordHere.2.1 13 = .ok (.iload 4, 2) := by decide +kernel
theorem dd_wordHere_15 : decode mm_wordHere.2.1 15 = .ok (.iadd, 1) := by decide +kernel
theorem dd_wordHere_16 : decode mm_wordHere.2.1 16 = .ok (.invokevirtual 219, 3) := by decide +kernel
theorem dd_wordHere_19 : decode mm_wordHere.2.1 19 = .ok (.ifCond .eq (8), 3) := by decide +kernel
theorem dd_wordHere_22 : decode mm_wordHere.2.1 22 = .ok (.iload 4, 2) := by decide +kernel
theorem dd_wordHere_24 : decode mm_wordHere.2.1 24 = .ok (.goto 4, 3) := by decide +kernel
theorem dd_wordHere_28 : decode mm_wordHere.2.1 28 = .ok (.istore_n 3, 1) := by decide +kernel
theorem dd_wordHere_29 : decode mm_wordHere.2.1 29 = .ok (.iinc 4 1, 3) := by decide +kernel
theorem dd_wordHere_32 : decode mm_wordHere.2.1 32 = .ok (.goto (-27), 3) := by decide +kernel
theorem dd_wordHere_27 : decode mm_wordHere.2.1 27 = .ok (.iload_n 3, 1) := by decide +kernel
theorem dd_emit_0 : decode mm_emit.2.1 0 = .ok (.aload_n 0, 1) := by decide +kernel
theorem dd_emit_1 : decode mm_emit.2.1 1 = .ok (.getfield 98, 3) := by decide +kernel
theorem fd_12_98 : fld 12 98 = some (12, 11) := by decide +kernel
theorem rf_182_11 {h : LH} (hF : RF h) : rd h 182 11 = 189 := hF 182 11 189 (by decide +kernel) (by decide +kernel)
theorem dd_emit_4 : decode mm_emit.2.1 4 = .ok (.sipush 1100, 3) := by decide +kernel
theorem dd_emit_7 : decode mm_emit.2.1 7 = .ok (.aload_n 0, 1) := by decide +kernel
theorem dd_emit_8 : decode mm_emit.2.1 8 = .ok (.getfield 244, 3) := by decide +kernel
theorem fd_12_244 : fld 12 244 = some (12, 13) := by decide +kernel
theorem dd_emit_11 : decode mm_emit.2.1 11 = .ok (.iadd, 1) := by decide +kernel
theorem dd_emit_12 : decode mm_emit.2.1 12 = .ok (.iload_n 1, 1) := by decide +kernel
theorem dd_emit_13 : decode mm_emit.2.1 13 = .ok (.iastore, 1) := by decide +kernel
theorem ia_189 : isA NC 189 1 = true := by decide +kernel
theorem la_189 : (lay (189 : Int).toNat).2.2 = 2200 := by decide +kernel
theorem dd_emit_14 : decode mm_emit.2.1 14 = .ok (.aload_n 0, 1) := by decide +kernel
theorem dd_emit_15 : decode mm_emit.2.1 15 = .ok (.getfield 101, 3) := by decide +kernel
theorem fd_12_101 : fld 12 101 = some (12, 12) := by decide +kernel
theorem rf_182_12 {h : LH} (hF : RF h) : rd h 182 12 = 190 := hF 182 12 190 (by decide +kernel) (by decide +kernel)
theorem dd_emit_18 : decode mm_emit.2.1 18 = .ok (.sipush 1100, 3) := by decide +kernel
theorem dd_emit_21 : decode mm_emit.2.1 21 = .ok (.aload_n 0, 1) := by decide +kernel
theorem dd_emit_22 : decode mm_emit.2.1 22 = .ok (.getfield 244, 3) := by decide +kernel
theorem dd_emit_25 : decode mm_emit.2.1 25 = .ok (.iadd, 1) := by decide +kernel
theorem dd_emit_26 : decode mm_emit.2.1 26 = .ok (.iload_n 2, 1) := by decide +kernel
theorem dd_emit_27 : decode mm_emit.2.1 27 = .ok (.iastore, 1) := by decide +kernel
theorem ia_190 : isA NC 190 1 = true := by decide +kernel
theorem la_190 : (lay (190 : Int).toNat).2.2 = 2200 := by decide +kernel
theorem dd_emit_28 : decode mm_emit.2.1 28 = .ok (.aload_n 0, 1) := by decide +kernel
theorem dd_emit_29 : decode mm_emit.2.1 29 = .ok (.dup, 1) := by decide +kernel
theorem dd_emit_30 : decode mm_emit.2.1 30 = .ok (.getfield 244, 3) := by decide +kernel
theorem dd_emit_33 : decode mm_emit.2.1 33 = .ok (.iconst 1, 1) := by decide +kernel
theorem dd_emit_34 : decode mm_emit.2.1 34 = .ok (.iadd, 1) := by decide +kernel
theorem dd_emit_35 : decode mm_emit.2.1 35 = .ok (.putfield 244, 3) := by decide +kernel
theorem fn_12_13 : fin 12 13 = false := by decide +kernel
theorem dd_emit_38 : decode mm_emit.2.1 38 = .ok (.return_, 1) := by decide +kernel
theorem dd_products_0 : decode mm_products.2.1 0 = .ok (.aload_n 0, 1) := by decide +kernel
theorem dd_products_1 : decode mm_products.2.1 1 = .ok (.iload_n 1, 1) := by decide +kernel
theorem dd_products_2 : decode mm_products.2.1 2 = .ok (.invokevirtual 313, 3) := by decide +kernel
theorem cw_12_313 : cwOk 12 313 0 189 2 4 12 = true := by decide +kernel
theorem mt_takePart : MTB 189 = some mm_takePart := rfl
theorem dd_products_5 : decode mm_products.2.1 5 = .ok (.aload_n 0, 1) := by decide +kernel
theorem dd_products_6 : decode mm_products.2.1 6 = .ok (.bipush 42, 2) := by decide +kernel
theorem dd_products_8 : decode mm_products.2.1 8 = .ok (.invokevirtual 307, 3) := by decide +kernel
theorem cw_12_307 : cwOk 12 307 0 191 2 3 12 = true := by decide +kernel
theorem mt_hasSign : MTB 191 = some mm_hasSign := rfl
theorem dd_products_11 : decode mm_products.2.1 11 = .ok (.ifCond .eq (18), 3) := by decide +kernel
theorem dd_products_14 : decode mm_products.2.1 14 = .ok (.aload_n 0, 1) := by decide +kernel
theorem dd_products_15 : decode mm_products.2.1 15 = .ok (.iload_n 1, 1) := by decide +kernel
theorem dd_products_16 : decode mm_products.2.1 16 = .ok (.invokevirtual 313, 3) := by decide +kernel
theorem dd_products_29 : decode mm_products.2.1 29 = .ok (.return_, 1) := by decide +kernel
theorem dd_products_19 : decode mm_products.2.1 19 = .ok (.aload_n 0, 1) := by decide +kernel
theorem dd_products_20 : decode mm_products.2.1 20 = .ok (.bipush 6, 2) := by decide +kernel
theorem dd_products_22 : decode mm_products.2.1 22 = .ok (.iconst 0, 1) := by decide +kernel
theorem dd_products_23 : decode mm_products.2.1 23 = .ok (.invokevirtual 284, 3) := by decide +kernel
theorem cw_12_284 : cwOk 12 284 0 190 3 3 12 = true := by decide +kernel
theorem mt_emit : MTB 190 = some mm_emit := rfl
theorem dd_products_26 : decode mm_products.2.1 26 = .ok (.goto (-21), 3) := by decide +kernel
theorem dd_sums_0 : decode mm_sums.2.1 0 = .ok (.aload_n 0, 1) := by decide +kernel
theorem dd_sums_1 : decode mm_sums.2.1 1 = .ok (.iload_n 1, 1) := by decide +kernel
theorem dd_sums_2 : decode mm_sums.2.1 2 = .ok (.invokevirtual 310, 3) := by decide +kernel
theorem cw_12_310 : cwOk 12 310 0 188 2 2 12 = true := by decide +kernel
theorem mt_products : MTB 188 = some mm_products := rfl
theorem dd_sums_5 : decode mm_sums.2.1 5 = .ok (.aload_n 0, 1) := by decide +kernel
theorem dd_sums_6 : decode mm_sums.2.1 6 = .ok (.bipush 43, 2) := by decide +kernel
theorem dd_sums_8 : decode mm_sums.2.1 8 = .ok (.invokevirtual 213, 3) := by decide +kernel
theorem dd_sums_11 : decode mm_sums.2.1 11 = .ok (.ifCond .ne (12), 3) := by decide +kernel
theorem dd_sums_23 : decode mm_sums.2.1 23 = .ok (.aload_n 0, 1) := by decide +kernel
theorem dd_sums_24 : decode mm_sums.2.1 24 = .ok (.bipush 43, 2) := by decide +kernel
theorem dd_sums_26 : decode mm_sums.2.1 26 = .ok (.invokevirtual 213, 3) := by decide +kernel
theorem dd_sums_14 : decode mm_sums.2.1 14 = .ok (.aload_n 0, 1) := by decide +kernel
theorem dd_sums_15 : decode mm_sums.2.1 15 = .ok (.bipush 45, 2) := by decide +kernel
theorem dd_sums_17 : decode mm_sums.2.1 17 = .ok (.invokevirtual 213, 3) := by decide +kernel
theorem dd_sums_20 : decode mm_sums.2.1 20 = .ok (.ifCond .eq (42), 3) := by decide +kernel
theorem dd_sums_62 : decode mm_sums.2.1 62 = .ok (.return_, 1) := by decide +kernel
theorem dd_sums_29 : decode mm_sums.2.1 29 = .ok (.istore_n 2, 1) := by decide +kernel
theorem dd_sums_30 : decode mm_sums.2.1 30 = .ok (.aload_n 0, 1) := by decide +kernel
theorem dd_sums_31 : decode mm_sums.2.1 31 = .ok (.dup, 1) := by decide +kernel
theorem dd_sums_32 : decode mm_sums.2.1 32 = .ok (.getfield 207, 3) := by decide +kernel
theorem dd_sums_35 : decode mm_sums.2.1 35 = .ok (.iconst 1, 1) := by decide +kernel
theorem dd_sums_36 : decode mm_sums.2.1 36 = .ok (.iadd, 1) := by decide +kernel
theorem dd_sums_37 : decode mm_sums.2.1 37 = .ok (.putfield 207, 3) := by decide +kernel
theorem dd_sums_40 : decode mm_sums.2.1 40 = .ok (.aload_n 0, 1) := by decide +kernel
theorem dd_sums_41 : decode mm_sums.2.1 41 = .ok (.iload_n 1, 1) := by decide +kernel
theorem dd_sums_42 : decode mm_sums.2.1 42 = .ok (.invokevirtual 310, 3) := by decide +kernel
theorem dd_sums_45 : decode mm_sums.2.1 45 = .ok (.aload_n 0, 1) := by decide +kernel
theorem dd_sums_46 : decode mm_sums.2.1 46 = .ok (.iload_n 2, 1) := by decide +kernel
theorem dd_sums_47 : decode mm_sums.2.1 47 = .ok (.ifCond .eq (7), 3) := by decide +kernel
theorem dd_sums_54 : decode mm_sums.2.1 54 = .ok (.iconst 5, 1) := by decide +kernel
theorem dd_sums_55 : decode mm_sums.2.1 55 = .ok (.iconst 0, 1) := by decide +kernel
theorem dd_sums_56 : decode mm_sums.2.1 56 = .ok (.invokevirtual 284, 3) := by decide +kernel
theorem dd_sums_50 : decode mm_sums.2.1 50 = .ok (.iconst 4, 1) := by decide +kernel
theorem dd_sums_51 : decode mm_sums.2.1 51 = .ok (.goto 4, 3) := by decide +kernel
theorem dd_sums_59 : decode mm_sums.2.1 59 = .ok (.goto (-54), 3) := by decide +kernel
theorem dd_all_0 : decode mm_all.2.1 0 = .ok (.aload_n 0, 1) := by decide +kernel
theorem dd_all_1 : decode mm_all.2.1 1 = .ok (.iload_n 1, 1) := by decide +kernel
theorem dd_all_2 : decode mm_all.2.1 2 = .ok (.invokevirtual 301, 3) := by decide +kernel
theorem cw_12_301 : cwOk 12 301 0 186 2 3 12 = true := by decide +kernel
theorem mt_test : MTB 186 = some mm_test := rfl
theorem dd_all_5 : decode mm_all.2.1 5 = .ok (.aload_n 0, 1) := by decide +kernel
theorem dd_all_6 : decode mm_all.2.1 6 = .ok (.bipush 23, 2) := by decide +kernel
theorem dd_all_8 : decode mm_all.2.1 8 = .ok (.invokevirtual 219, 3) := by decide +kernel
theorem dd_all_11 : decode mm_all.2.1 11 = .ok (.ifCond .ne (12), 3) := by decide +kernel
theorem dd_all_23 : decode mm_all.2.1 23 = .ok (.aload_n 0, 1) := by decide +kernel
theorem dd_all_24 : decode mm_all.2.1 24 = .ok (.bipush 23, 2) := by decide +kernel
theorem dd_all_26 : decode mm_all.2.1 26 = .ok (.invokevirtual 219, 3) := by decide +kernel
theorem dd_all_14 : decode mm_all.2.1 14 = .ok (.aload_n 0, 1) := by decide +kernel
theorem dd_all_15 : decode mm_all.2.1 15 = .ok (.bipush 24, 2) := by decide +kernel
theorem dd_all_17 : decode mm_all.2.1 17 = .ok (.invokevirtual 219, 3) := by decide +kernel
theorem dd_all_20 : decode mm_all.2.1 20 = .ok (.ifCond .eq (44), 3) := by decide +kernel
theorem dd_all_64 : decode mm_all.2.1 64 = .ok (.return_, 1) := by decide +kernel
theorem dd_all_29 : decode mm_all.2.1 29 = .ok (.istore_n 2, 1) := by decide +kernel
theorem dd_all_30 : decode mm_all.2.1 30 = .ok (.aload_n 0, 1) := by decide +kernel
theorem dd_all_31 : decode mm_all.2.1 31 = .ok (.dup, 1) := by decide +kernel
theorem dd_all_32 : decode mm_all.2.1 32 = .ok (.getfield 207, 3) := by decide +kernel
theorem dd_all_35 : decode mm_all.2.1 35 = .ok (.iconst 1, 1) := by decide +kernel
theorem dd_all_36 : decode mm_all.2.1 36 = .ok (.iadd, 1) := by decide +kernel
theorem dd_all_37 : decode mm_all.2.1 37 = .ok (.putfield 207, 3) := by decide +kernel
theorem dd_all_40 : decode mm_all.2.1 40 = .ok (.aload_n 0, 1) := by decide +kernel
theorem dd_all_41 : decode mm_all.2.1 41 = .ok (.iload_n 1, 1) := by decide +kernel
theorem dd_all_42 : decode mm_all.2.1 42 = .ok (.invokevirtual 301, 3) := by decide +kernel
theorem dd_all_45 : decode mm_all.2.1 45 = .ok (.aload_n 0, 1) := by decide +kernel
theorem dd_all_46 : decode mm_all.2.1 46 = .ok (.iload_n 2, 1) := by decide +kernel
theorem dd_all_47 : decode mm_all.2.1 47 = .ok (.ifCond .eq (8), 3) := by decide +kernel
theorem dd_all_55 : decode mm_all.2.1 55 = .ok (.bipush 10, 2) := by decide +kernel
theorem dd_all_57 : decode mm_all.2.1 57 = .ok (.iconst 0, 1) := by decide +kernel
theorem dd_all_58 : decode mm_all.2.1 58 = .ok (.invokevirtual 284, 3) := by decide +kernel
theorem dd_all_50 : decode mm_all.2.1 50 = .ok (.bipush 9, 2) := by decide +kernel
theorem dd_all_52 : decode mm_all.2.1 52 = .ok (.goto 5, 3) := by decide +kernel
theorem dd_all_61 : decode mm_all.2.1 61 = .ok (.goto (-56), 3) := by decide +kernel
theorem dd_test_0 : decode mm_test.2.1 0 = .ok (.aload_n 0, 1) := by decide +kernel
theorem dd_test_1 : decode mm_test.2.1 1 = .ok (.iload_n 1, 1) := by decide +kernel
theorem dd_test_2 : decode mm_test.2.1 2 = .ok (.invokevirtual 304, 3) := by decide +kernel
theorem cw_12_304 : cwOk 12 304 0 187 2 3 12 = true := by decide +kernel
theorem mt_sums : MTB 187 = some mm_sums := rfl
theorem dd_test_5 : decode mm_test.2.1 5 = .ok (.aload_n 0, 1) := by decide +kernel
theorem dd_test_6 : decode mm_test.2.1 6 = .ok (.bipush 60, 2) := by decide +kernel
theorem dd_test_8 : decode mm_test.2.1 8 = .ok (.invokevirtual 213, 3) := by decide +kernel
theorem dd_test_11 : decode mm_test.2.1 11 = .ok (.istore_n 2, 1) := by decide +kernel
theorem dd_test_12 : decode mm_test.2.1 12 = .ok (.aload_n 0, 1) := by decide +kernel
theorem dd_test_13 : decode mm_test.2.1 13 = .ok (.bipush 60, 2) := by decide +kernel
theorem dd_test_15 : decode mm_test.2.1 15 = .ok (.invokevirtual 307, 3) := by decide +kernel
theorem dd_test_18 : decode mm_test.2.1 18 = .ok (.ifCond .ne (12), 3) := by decide +kernel
theorem dd_test_30 : decode mm_test.2.1 30 = .ok (.aload_n 0, 1) := by decide +kernel
theorem dd_test_31 : decode mm_test.2.1 31 = .ok (.iload_n 1, 1) := by decide +kernel
theorem dd_test_32 : decode mm_test.2.1 32 = .ok (.invokevirtual 304, 3) := by decide +kernel
theorem dd_test_21 : decode mm_test.2.1 21 = .ok (.aload_n 0, 1) := by decide +kernel
theorem dd_test_22 : decode mm_test.2.1 22 = .ok (.bipush 61, 2) := by decide +kernel
theorem dd_test_24 : decode mm_test.2.1 24 = .ok (.invokevirtual 307, 3) := by decide +kernel
theorem dd_test_27 : decode mm_test.2.1 27 = .ok (.ifCond .eq (24), 3) := by decide +kernel
theorem dd_test_51 : decode mm_test.2.1 51 = .ok (.return_, 1) := by decide +kernel
theorem dd_test_35 : decode mm_test.2.1 35 = .ok (.aload_n 0, 1) := by decide +kernel
theorem dd_test_36 : decode mm_test.2.1 36 = .ok (.iload_n 2, 1) := by decide +kernel
theorem dd_test_37 : decode mm_test.2.1 37 = .ok (.ifCond .eq (8), 3) := by decide +kernel
theorem dd_test_45 : decode mm_test.2.1 45 = .ok (.bipush 8, 2) := by decide +kernel
theorem dd_test_47 : decode mm_test.2.1 47 = .ok (.iconst 0, 1) := by decide +kernel
theorem dd_test_48 : decode mm_test.2.1 48 = .ok (.invokevirtual 284, 3) := by decide +kernel
theorem dd_test_40 : decode mm_test.2.1 40 = .ok (.bipush 7, 2) := by decide +kernel
theorem dd_test_42 : decode mm_test.2.1 42 = .ok (.goto 5, 3) := by decide +kernel
theorem dd_takePart_0 : decode mm_takePart.2.1 0 = .ok (.aload_n 0, 1) := by decide +kernel
theorem dd_takePart_1 : decode mm_takePart.2.1 1 = .ok (.getfield 210, 3) := by decide +kernel
theorem dd_takePart_4 : decode mm_takePart.2.1 4 = .ok (.ifCond .le (4), 3) := by decide +kernel
theorem dd_takePart_8 : decode mm_takePart.2.1 8 = .ok (.aload_n 0, 1) := by decide +kernel
theorem dd_takePart_9 : decode mm_takePart.2.1 9 = .ok (.getfield 24, 3) := by decide +kernel
theorem dd_takePart_12 : decode mm_takePart.2.1 12 = .ok (.aload_n 0, 1) := by decide +kernel
theorem dd_takePart_13 : decode mm_takePart.2.1 13 = .ok (.getfield 207, 3) := by decide +kernel
theorem dd_takePart_16 : decode mm_takePart.2.1 16 = .ok (.iaload, 1) := by decide +kernel
theorem dd_takePart_17 : decode mm_takePart.2.1 17 = .ok (.iconst 2, 1) := by decide +kernel
theorem dd_takePart_18 : decode mm_takePart.2.1 18 = .ok (.if_icmp .ne (7), 3) := by decide +kernel
theorem dd_takePart_25 : decode mm_takePart.2.1 25 = .ok (.iconst 0, 1) := by decide +kernel
theorem dd_takePart_26 : decode mm_takePart.2.1 26 = .ok (.istore_n 2, 1) := by decide +kernel
theorem dd_takePart_27 : decode mm_takePart.2.1 27 = .ok (.aload_n 0, 1) := by decide +kernel
theorem dd_takePart_28 : decode mm_takePart.2.1 28 = .ok (.bipush 25, 2) := by decide +kernel
theorem dd_takePart_30 : decode mm_takePart.2.1 30 = .ok (.iconst 4, 1) := by decide +kernel
theorem dd_takePart_31 : decode mm_takePart.2.1 31 = .ok (.invokevirtual 232, 3) := by decide +kernel
theorem cw_12_232 : cwOk 12 232 0 178 3 5 12 = true := by decide +kernel
theorem mt_wordHere : MTB 178 = some mm_wordHere := rfl
theorem dd_takePart_21 : decode mm_takePart.2.1 21 = .ok (.iconst 1, 1) := by decide +kernel
theorem dd_takePart_22 : decode mm_takePart.2.1 22 = .ok (.goto 4, 3) := by decide +kernel
theorem dd_takePart_7 : decode mm_takePart.2.1 7 = .ok (.return_, 1) := by decide +kernel
theorem dd_takePart_34 : decode mm_takePart.2.1 34 = .ok (.istore_n 3, 1) := by decide +kernel
theorem dd_takePart_35 : decode mm_takePart.2.1 35 = .ok (.iload_n 3, 1) := by decide +kernel
theorem dd_takePart_36 : decode mm_takePart.2.1 36 = .ok (.ifCond .ge (33), 3) := by decide +kernel
theorem dd_takePart_39 : decode mm_takePart.2.1 39 = .ok (.iload_n 2, 1) := by decide +kernel
theorem dd_takePart_40 : decode mm_takePart.2.1 40 = .ok (.ifCond .ne (29), 3) := by decide +kernel
theorem dd_takePart_43 : decode mm_takePart.2.1 43 = .ok (.aload_n 0, 1) := by decide +kernel
theorem dd_takePart_44 : decode mm_takePart.2.1 44 = .ok (.bipush 40, 2) := by decide +kernel
theorem dd_takePart_46 : decode mm_takePart.2.1 46 = .ok (.invokevirtual 213, 3) := by decide +kernel
theorem dd_takePart_49 : decode mm_takePart.2.1 49 = .ok (.ifCond .ne (20), 3) := by decide +kernel
theorem dd_takePart_52 : decode mm_takePart.2.1 52 = .ok (.aload_n 0, 1) := by decide +kernel
theorem dd_takePart_53 : decode mm_takePart.2.1 53 = .ok (.bipush 22, 2) := by decide +kernel
theorem dd_takePart_55 : decode mm_takePart.2.1 55 = .ok (.invokevirtual 219, 3) := by decide +kernel
theorem dd_takePart_58 : decode mm_takePart.2.1 58 = .ok (.ifCond .ne (11), 3) := by decide +kernel
theorem dd_takePart_61 : decode mm_takePart.2.1 61 = .ok (.aload_n 0, 1) := by decide +kernel
theorem dd_takePart_62 : decode mm_takePart.2.1 62 = .ok (.iconst 1, 1) := by decide +kernel
theorem dd_takePart_63 : decode mm_takePart.2.1 63 = .ok (.invokevirtual 216, 3) := by decide +kernel
theorem dd_takePart_66 : decode mm_takePart.2.1 66 = .ok (.goto 13, 3) := by decide +kernel
theorem dd_takePart_69 : decode mm_takePart.2.1 69 = .ok (.iload_n 1, 1) := by decide +kernel
theorem dd_takePart_70 : decode mm_takePart.2.1 70 = .ok (.iconst 5, 1) := by decide +kernel
theorem dd_takePart_71 : decode mm_takePart.2.1 71 = .ok (.if_icmp .ne (8), 3) := by decide +kernel
theorem dd_takePart_74 : decode mm_takePart.2.1 74 = .ok (.aload_n 0, 1) := by decide +kernel
theorem dd_takePart_75 : decode mm_takePart.2.1 75 = .ok (.iconst 5, 1) := by decide +kernel
theorem dd_takePart_76 : decode mm_takePart.2.1 76 = .ok (.invokevirtual 216, 3) := by decide +kernel
theorem dd_takePart_79 : decode mm_takePart.2.1 79 = .ok (.aload_n 0, 1) := by decide +kernel
theorem dd_takePart_80 : decode mm_takePart.2.1 80 = .ok (.getfield 210, 3) := by decide +kernel
theorem dd_takePart_83 : decode mm_takePart.2.1 83 = .ok (.ifCond .le (4), 3) := by decide +kernel
theorem dd_takePart_87 : decode mm_takePart.2.1 87 = .ok (.aload_n 0, 1) := by decide +kernel
theorem dd_takePart_88 : decode mm_takePart.2.1 88 = .ok (.bipush 22, 2) := by decide +kernel
theorem dd_takePart_90 : decode mm_takePart.2.1 90 = .ok (.invokevirtual 222, 3) := by decide +kernel
theorem dd_takePart_86 : decode mm_takePart.2.1 86 = .ok (.return_, 1) := by decide +kernel
theorem dd_takePart_93 : decode mm_takePart.2.1 93 = .ok (.ifCond .eq (19), 3) := by decide +kernel
theorem dd_takePart_96 : decode mm_takePart.2.1 96 = .ok (.aload_n 0, 1) := by decide +kernel
theorem dd_takePart_97 : decode mm_takePart.2.1 97 = .ok (.iload_n 1, 1) := by decide +kernel
theorem dd_takePart_98 : decode mm_takePart.2.1 98 = .ok (.iconst 1, 1) := by decide +kernel
theorem dd_takePart_99 : decode mm_takePart.2.1 99 = .ok (.iadd, 1) := by decide +kernel
theorem dd_takePart_100 : decode mm_takePart.2.1 100 = .ok (.invokevirtual 313, 3) := by decide +kernel
theorem dd_takePart_112 : decode mm_takePart.2.1 112 = .ok (.aload_n 0, 1) := by decide +kernel
theorem dd_takePart_113 : decode mm_takePart.2.1 113 = .ok (.bipush 40, 2) := by decide +kernel
theorem dd_takePart_115 : decode mm_takePart.2.1 115 = .ok (.invokevirtual 307, 3) := by decide +kernel
theorem dd_takePart_103 : decode mm_takePart.2.1 103 = .ok (.aload_n 0, 1) := by decide +kernel
theorem dd_takePart_104 : decode mm_takePart.2.1 104 = .ok (.iconst 3, 1) := by decide +kernel
theorem dd_takePart_105 : decode mm_takePart.2.1 105 = .ok (.iconst 0, 1) := by decide +kernel
theorem dd_takePart_106 : decode mm_takePart.2.1 106 = .ok (.invokevirtual 284, 3) := by decide +kernel
theorem dd_takePart_109 : decode mm_takePart.2.1 109 = .ok (.goto 69, 3) := by decide +kernel
theorem dd_takePart_178 : decode mm_takePart.2.1 178 = .ok (.return_, 1) := by decide +kernel
theorem dd_takePart_118 : decode mm_takePart.2.1 118 = .ok (.ifCond .eq (19), 3) := by decide +kernel
theorem dd_takePart_121 : decode mm_takePart.2.1 121 = .ok (.aload_n 0, 1) := by decide +kernel
theorem dd_takePart_122 : decode mm_takePart.2.1 122 = .ok (.iload_n 1, 1) := by decide +kernel
theorem dd_takePart_123 : decode mm_takePart.2.1 123 = .ok (.iconst 1, 1) := by decide +kernel
theorem dd_takePart_124 : decode mm_takePart.2.1 124 = .ok (.iadd, 1) := by decide +kernel
theorem dd_takePart_125 : decode mm_takePart.2.1 125 = .ok (.invokevirtual 281, 3) := by decide +kernel
theorem cw_12_281 : cwOk 12 281 0 185 2 3 12 = true := by decide +kernel
theorem mt_all : MTB 185 = some mm_all := rfl
theorem dd_takePart_137 : decode mm_takePart.2.1 137 = .ok (.aload_n 0, 1) := by decide +kernel
theorem dd_takePart_138 : decode mm_takePart.2.1 138 = .ok (.iload_n 2, 1) := by decide +kernel
theorem dd_takePart_139 : decode mm_takePart.2.1 139 = .ok (.ifCond .eq (7), 3) := by decide +kernel
theorem dd_takePart_146 : decode mm_takePart.2.1 146 = .ok (.iconst 2, 1) := by decide +kernel
theorem dd_takePart_147 : decode mm_takePart.2.1 147 = .ok (.iload_n 2, 1) := by decide +kernel
theorem dd_takePart_148 : decode mm_takePart.2.1 148 = .ok (.ifCond .eq (16), 3) := by decide +kernel
theorem dd_takePart_164 : decode mm_takePart.2.1 164 = .ok (.iload_n 3, 1) := by decide +kernel
theorem dd_takePart_165 : decode mm_takePart.2.1 165 = .ok (.invokevirtual 284, 3) := by decide +kernel
theorem dd_takePart_151 : decode mm_takePart.2.1 151 = .ok (.aload_n 0, 1) := by decide +kernel
theorem dd_takePart_152 : decode mm_takePart.2.1 152 = .ok (.getfield 30, 3) := by decide +kernel
theorem dd_takePart_155 : decode mm_takePart.2.1 155 = .ok (.aload_n 0, 1) := by decide +kernel
theorem dd_takePart_156 : decode mm_takePart.2.1 156 = .ok (.getfield 207, 3) := by decide +kernel
theorem dd_takePart_159 : decode mm_takePart.2.1 159 = .ok (.laload, 1) := by decide +kernel
theorem dd_takePart_160 : decode mm_takePart.2.1 160 = .ok (.l2i, 1) := by decide +kernel
theorem dd_takePart_161 : decode mm_takePart.2.1 161 = .ok (.goto 4, 3) := by decide +kernel
theorem dd_takePart_142 : decode mm_takePart.2.1 142 = .ok (.iconst 1, 1) := by decide +kernel
theorem dd_takePart_143 : decode mm_takePart.2.1 143 = .ok (.goto 4, 3) := by decide +kernel
theorem dd_takePart_128 : decode mm_takePart.2.1 128 = .ok (.aload_n 0, 1) := by decide +kernel
theorem dd_takePart_129 : decode mm_takePart.2.1 129 = .ok (.bipush 41, 2) := by decide +kernel
theorem dd_takePart_131 : decode mm_takePart.2.1 131 = .ok (.invokevirtual 247, 3) := by decide +kernel
theorem cw_12_247 : cwOk 12 247 0 173 2 2 12 = true := by decide +kernel
theorem mt_takeSign : MTB 173 = some mm_takeSign := rfl
theorem dd_takePart_134 : decode mm_takePart.2.1 134 = .ok (.goto 44, 3) := by decide +kernel
theorem dd_takePart_168 : decode mm_takePart.2.1 168 = .ok (.aload_n 0, 1) := by decide +kernel
theorem dd_takePart_169 : decode mm_takePart.2.1 169 = .ok (.dup, 1) := by decide +kernel
theorem dd_takePart_170 : decode mm_takePart.2.1 170 = .ok (.getfield 207, 3) := by decide +kernel
theorem dd_takePart_173 : decode mm_takePart.2.1 173 = .ok (.iconst 1, 1) := by decide +kernel
theorem dd_takePart_174 : decode mm_takePart.2.1 174 = .ok (.iadd, 1) := by decide +kernel
theorem dd_takePart_175 : decode mm_takePart.2.1 175 = .ok (.putfield 207, 3) := by decide +kernel
theorem B_wrong_0 {xs : Nat → Int} {xl e : Nat} {h : LH} {Q : Option LV → LH → Prop} {v1 : Int} (hF : RF h)
    (k : ((rd h 182 8) ≠ 0 →
        Q none h) ∧
      ((rd h 182 8) = 0 →
        (0 ≤ (rd h 182 7) ∧ (rd h 182 7) < 1002) ∧
        (-2147483648 ≤ 16 * (rd h 185 (rd h 182 7)) ∧ 16 * (rd h 185 (rd h 182 7)) ≤ 2147483647) ∧
        (-2147483648 ≤ v1 + 16 * (rd h 185 (rd h 182 7)) ∧ v1 + 16 * (rd h 185 (rd h 182 7)) ≤ 2147483647) ∧
        Q none (wr h 182 8 (v1 + 16 * (rd h 185 (rd h 182 7)))))) :
    Rn xs xl e mm_wrong 0 [some (.inr (.inr 182)), some (.inl v1)] [] h Q := by
  refine R_ld (v := .inr (.inr 182)) dd_wrong_0 rfl rfl rfl rfl ?_
  refine R_gf (v := .inl (rd h 182 8)) dd_wrong_1 fd_12_210 io_182 (congrArg (fun z : Int => (Sum.inl z : LV)) (rfl)) rfl ?_
  refine R_if dd_wrong_4 rfl rfl (fun (c4 : (rd h 182 8) ≠ 0) => ?_) (fun (c4 : (rd h 182 8) = 0) => ?_)
  · replace k := k.1 c4
    exact R_vret dd_wrong_25 rfl k
  · replace k := k.2 c4
    refine R_ld (v := .inr (.inr 182)) dd_wrong_7 rfl rfl rfl rfl ?_
    refine R_ld (v := .inl v1) dd_wrong_8 rfl rfl rfl rfl ?_
    refine R_bi dd_wrong_9 (by decide) rfl ?_
    refine R_ld (v := .inr (.inr 182)) dd_wrong_11 rfl rfl rfl rfl ?_
    refine R_gf (v := .inr (.inr 185)) dd_wrong_12 fd_12_27 io_182 (congrArg (fun z : Int => (Sum.inr (Sum.inr z) : LV)) (rf_182_5 hF)) rfl ?_
    refine R_ld (v := .inr (.inr 182)) dd_wrong_15 rfl rfl rfl rfl ?_
    refine R_gf (v := .inl (rd h 182 7)) dd_wrong_16 fd_12_207 io_182 (congrArg (fun z : Int => (Sum.inl z : LV)) (rfl)) rfl ?_
    obtain ⟨s1, k⟩ := k
    refine R_iald (v := (rd h 185 (rd h 182 7))) (n := 1002) dd_wrong_19 ia_185 la_185 s1 (rfl) rfl ?_
    obtain ⟨s2, k⟩ := k
    refine R_imul (c := 16 * (rd h 185 (rd h 182 7))) dd_wrong_20 (by omega) s2 rfl ?_
    obtain ⟨s3, k⟩ := k
    refine R_iadd (c := v1 + 16 * (rd h 185 (rd h 182 7))) dd_wrong_21 (by omega) s3 rfl ?_
    refine R_pf (z := (v1 + 16 * (rd h 185 (rd h 182 7)))) dd_wrong_22 fd_12_210 io_182 fn_12_8 rfl rfl ?_
    exact R_vret dd_wrong_25 rfl k
theorem B_isSign_0 {xs : Nat → Int} {xl e : Nat} {h : LH} {Q : Option LV → LH → Prop} {v1 : Int} (hF : RF h)
    (k : ((rd h 182 8) ≠ 0 →
        Q (some (.inl 0)) h) ∧
      ((rd h 182 8) = 0 →
        (0 ≤ (rd h 182 7) ∧ (rd h 182 7) < 1002) ∧
        ((rd h 184 (rd h 182 7)) ≠ 3 →
          Q (some (.inl 0)) h) ∧
        ((rd h 184 (rd h 182 7)) = 3 →
          (0 ≤ (rd h 182 7) ∧ (rd h 182 7) < 1002) ∧
          ((lcmp_ (rd h 186 (rd h 182 7)) v1) ≠ 0 →
            Q (some (.inl 0)) h) ∧
          ((lcmp_ (rd h 186 (rd h 182 7)) v1) = 0 →
            Q (some (.inl 1)) h)))) :
    Rn xs xl e mm_isSign 0 [some (.inr (.inr 182)), some (.inl v1)] [] h Q := by
  refine R_ld (v := .inr (.inr 182)) dd_isSign_0 rfl rfl rfl rfl ?_
  refine R_gf (v := .inl (rd h 182 8)) dd_isSign_1 fd_12_210 io_182 (congrArg (fun z : Int => (Sum.inl z : LV)) (rfl)) rfl ?_
  refine R_if dd_isSign_4 rfl rfl (fun (c3 : (rd h 182 8) ≠ 0) => ?_) (fun (c3 : (rd h 182 8) = 0) => ?_)
  · replace k := k.1 c3
    refine R_ic dd_isSign_39 (by decide) rfl ?_
    exact R_zret dd_isSign_40 rfl (by decide) k
  · replace k := k.2 c3
    refine R_ld (v := .inr (.inr 182)) dd_isSign_7 rfl rfl rfl rfl ?_
    refine R_gf (v := .inr (.inr 184)) dd_isSign_8 fd_12_24 io_182 (congrArg (fun z : Int => (Sum.inr (Sum.inr z) : LV)) (rf_182_4 hF)) rfl ?_
    refine R_ld (v := .inr (.inr 182)) dd_isSign_11 rfl rfl rfl rfl ?_
    refine R_gf (v := .inl (rd h 182 7)) dd_isSign_12 fd_12_207 io_182 (congrArg (fun z : Int => (Sum.inl z : LV)) (rfl)) rfl ?_
    obtain ⟨s1, k⟩ := k
    refine R_iald (v := (rd h 184 (rd h 182 7))) (n := 1002) dd_isSign_15 ia_184 la_184 s1 (rfl) rfl ?_
    refine R_ic dd_isSign_16 (by decide) rfl ?_
    refine R_icmp dd_isSign_17 rfl rfl (fun (c4 : (rd h 184 (rd h 182 7)) ≠ 3) => ?_) (fun (c4 : (rd h 184 (rd h 182 7)) = 3) => ?_)
    · replace k := k.1 c4
      refine R_ic dd_isSign_39 (by decide) rfl ?_
      exact R_zret dd_isSign_40 rfl (by decide) k
    · replace k := k.2 c4
      refine R_ld (v := .inr (.inr 182)) dd_isSign_20 rfl rfl rfl rfl ?_
      refine R_gf (v := .inr (.inr 186)) dd_isSign_21 fd_12_30 io_182 (congrArg (fun z : Int => (Sum.inr (Sum.inr z) : LV)) (rf_182_6 hF)) rfl ?_
      refine R_ld (v := .inr (.inr 182)) dd_isSign_24 rfl rfl rfl rfl ?_
      refine R_gf (v := .inl (rd h 182 7)) dd_isSign_25 fd_12_207 io_182 (congrArg (fun z : Int => (Sum.inl z : LV)) (rfl)) rfl ?_
      obtain ⟨s2, k⟩ := k
      refine R_lald (v := (rd h 186 (rd h 182 7))) (n := 1002) dd_isSign_28 ia_186 la_186 s2 (rfl) rfl ?_
      refine R_ld (v := .inl v1) dd_isSign_29 rfl rfl rfl rfl ?_
      refine R_A dd_isSign_30 rfl rfl rfl rfl ?_
      refine R_A dd_isSign_31 rfl rfl rfl rfl ?_
      refine R_if dd_isSign_32 rfl rfl (fun (c5 : (lcmp_ (rd h 186 (rd h 182 7)) v1) ≠ 0) => ?_) (fun (c5 : (lcmp_ (rd h 186 (rd h 182 7)) v1) = 0) => ?_)
      · replace k := k.1 c5
        refine R_ic dd_isSign_39 (by decide) rfl ?_
        exact R_zret dd_isSign_40 rfl (by decide) k
      · replace k := k.2 c5
        refine R_ic dd_isSign_35 (by decide) rfl ?_
        refine R_goto dd_isSign_36 rfl ?_
        exact R_zret dd_isSign_40 rfl (by decide) k
theorem B_isWord_0 {xs : Nat → Int} {xl e : Nat} {h : LH} {Q : Option LV → LH → Prop} {v1 : Int} (hF : RF h)
    (k : ((rd h 182 8) ≠ 0 →
        Q (some (.inl 0)) h) ∧
      ((rd h 182 8) = 0 →
        (0 ≤ (rd h 182 7) ∧ (rd h 182 7) < 1002) ∧
        ((rd h 184 (rd h 182 7)) ≠ 1 →
          Q (some (.inl 0)) h) ∧
        ((rd h 184 (rd h 182 7)) = 1 →
          (0 ≤ (rd h 182 7) ∧ (rd h 182 7) < 1002) ∧
          (0 ≤ v1 ∧ v1 < 29) ∧
          ((lcmp_ (rd h 186 (rd h 182 7)) (rd h 187 v1)) ≠ 0 →
            Q (some (.inl 0)) h) ∧
          ((lcmp_ (rd h 186 (rd h 182 7)) (rd h 187 v1)) = 0 →
            Q (some (.inl 1)) h)))) :
    Rn xs xl e mm_isWord 0 [some (.inr (.inr 182)), some (.inl v1)] [] h Q := by
  refine R_ld (v := .inr (.inr 182)) dd_isWord_0 rfl rfl rfl rfl ?_
  refine R_gf (v := .inl (rd h 182 8)) dd_isWord_1 fd_12_210 io_182 (congrArg (fun z : Int => (Sum.inl z : LV)) (rfl)) rfl ?_
  refine R_if dd_isWord_4 rfl rfl (fun (c4 : (rd h 182 8) ≠ 0) => ?_) (fun (c4 : (rd h 182 8) = 0) => ?_)
  · replace k := k.1 c4
    refine R_ic dd_isWord_43 (by decide) rfl ?_
    exact R_zret dd_isWord_44 rfl (by decide) k
  · replace k := k.2 c4
    refine R_ld (v := .inr (.inr 182)) dd_isWord_7 rfl rfl rfl rfl ?_
    refine R_gf (v := .inr (.inr 184)) dd_isWord_8 fd_12_24 io_182 (congrArg (fun z : Int => (Sum.inr (Sum.inr z) : LV)) (rf_182_4 hF)) rfl ?_
    refine R_ld (v := .inr (.inr 182)) dd_isWord_11 rfl rfl rfl rfl ?_
    refine R_gf (v := .inl (rd h 182 7)) dd_isWord_12 fd_12_207 io_182 (congrArg (fun z : Int => (Sum.inl z : LV)) (rfl)) rfl ?_
    obtain ⟨s1, k⟩ := k
    refine R_iald (v := (rd h 184 (rd h 182 7))) (n := 1002) dd_isWord_15 ia_184 la_184 s1 (rfl) rfl ?_
    refine R_ic dd_isWord_16 (by decide) rfl ?_
    refine R_icmp dd_isWord_17 rfl rfl (fun (c5 : (rd h 184 (rd h 182 7)) ≠ 1) => ?_) (fun (c5 : (rd h 184 (rd h 182 7)) = 1) => ?_)
    · replace k := k.1 c5
      refine R_ic dd_isWord_43 (by decide) rfl ?_
      exact R_zret dd_isWord_44 rfl (by decide) k
    · replace k := k.2 c5
      refine R_ld (v := .inr (.inr 182)) dd_isWord_20 rfl rfl rfl rfl ?_
      refine R_gf (v := .inr (.inr 186)) dd_isWord_21 fd_12_30 io_182 (congrArg (fun z : Int => (Sum.inr (Sum.inr z) : LV)) (rf_182_6 hF)) rfl ?_
      refine R_ld (v := .inr (.inr 182)) dd_isWord_24 rfl rfl rfl rfl ?_
      refine R_gf (v := .inl (rd h 182 7)) dd_isWord_25 fd_12_207 io_182 (congrArg (fun z : Int => (Sum.inl z : LV)) (rfl)) rfl ?_
      obtain ⟨s2, k⟩ := k
      refine R_lald (v := (rd h 186 (rd h 182 7))) (n := 1002) dd_isWord_28 ia_186 la_186 s2 (rfl) rfl ?_
      refine R_ld (v := .inr (.inr 182)) dd_isWord_29 rfl rfl rfl rfl ?_
      refine R_gf (v := .inr (.inr 187)) dd_isWord_30 fd_12_92 io_182 (congrArg (fun z : Int => (Sum.inr (Sum.inr z) : LV)) (rf_182_9 hF)) rfl ?_
      refine R_ld (v := .inl v1) dd_isWord_33 rfl rfl rfl rfl ?_
      obtain ⟨s3, k⟩ := k
      refine R_lald (v := (rd h 187 v1)) (n := 29) dd_isWord_34 ia_187 la_187 s3 (rfl) rfl ?_
      refine R_A dd_isWord_35 rfl rfl rfl rfl ?_
      refine R_if dd_isWord_36 rfl rfl (fun (c6 : (lcmp_ (rd h 186 (rd h 182 7)) (rd h 187 v1)) ≠ 0) => ?_) (fun (c6 : (lcmp_ (rd h 186 (rd h 182 7)) (rd h 187 v1)) = 0) => ?_)
      · replace k := k.1 c6
        refine R_ic dd_isWord_43 (by decide) rfl ?_
        exact R_zret dd_isWord_44 rfl (by decide) k
      · replace k := k.2 c6
        refine R_ic dd_isWord_39 (by decide) rfl ?_
        refine R_goto dd_isWord_40 rfl ?_
        exact R_zret dd_isWord_44 rfl (by decide) k
theorem B_takeSign_0 {xs : Nat → Int} {xl e : Nat} {h : LH} {Q : Option LV → LH → Prop} {v1 : Int} (hF : RF h)
    (k : (∃ c, c < e ∧ Rn xs xl c mm_isSign 0 [some (.inr (.inr 182)), some (.inl v1)] [] h (fun r h' => Rn xs xl e mm_takeSign 5 [some (.inr (.inr 182)), some (.inl v1)] (r.toList ++ []) h' Q))) :
    Rn xs xl e mm_takeSign 0 [some (.inr (.inr 182)), some (.inl v1)] [] h Q := by
  refine R_ld (v := .inr (.inr 182)) dd_takeSign_0 rfl rfl rfl rfl ?_
  refine R_ld (v := .inl v1) dd_takeSign_1 rfl rfl rfl rfl ?_
  obtain ⟨c, hc, k⟩ := k
  exact R_call (as := [.inr (.inr 182), .inl v1]) (rest := []) (M' := mm_isSign) (ls0 := [some (.inr (.inr 182)), some (.inl v1)]) dd_takeSign_2 rfl rfl (cw_v cw_12_213 io_182 rfl rfl (Nat.le_of_ble_eq_true rfl) (Nat.le_of_ble_eq_true rfl)) mt_isSign rfl hc rfl k
theorem B_takeSign_5_1 {xs : Nat → Int} {xl e : Nat} {h : LH} {Q : Option LV → LH → Prop} {v1 : Int} (hF : RF h)
    (k : (-2147483648 ≤ (rd h 182 7) + 1 ∧ (rd h 182 7) + 1 ≤ 2147483647) ∧
      Q none (wr h 182 7 ((rd h 182 7) + 1))) :
    Rn xs xl e mm_takeSign 5 [some (.inr (.inr 182)), some (.inl v1)] [.inl 1] h Q := by
  refine R_if dd_takeSign_5 rfl rfl (fun (c2 : 1 = 0) => ?_) (fun (c2 : 1 ≠ 0) => ?_)
  · exact absurd c2 (by omega)
  · skip
    refine R_ld (v := .inr (.inr 182)) dd_takeSign_8 rfl rfl rfl rfl ?_
    refine R_A dd_takeSign_9 rfl rfl rfl rfl ?_
    refine R_gf (v := .inl (rd h 182 7)) dd_takeSign_10 fd_12_207 io_182 (congrArg (fun z : Int => (Sum.inl z : LV)) (rfl)) rfl ?_
    refine R_ic dd_takeSign_13 (by decide) rfl ?_
    obtain ⟨s1, k⟩ := k
    refine R_iadd (c := (rd h 182 7) + 1) dd_takeSign_14 (by omega) s1 rfl ?_
    refine R_pf (z := ((rd h 182 7) + 1)) dd_takeSign_15 fd_12_207 io_182 fn_12_7 rfl rfl ?_
    refine R_goto dd_takeSign_18 rfl ?_
    exact R_vret dd_takeSign_26 rfl k
theorem B_takeSign_5_0 {xs : Nat → Int} {xl e : Nat} {h : LH} {Q : Option LV → LH → Prop} {v1 : Int} (hF : RF h)
    (k : (∃ c, c < e ∧ Rn xs xl c mm_wrong 0 [some (.inr (.inr 182)), some (.inl 1)] [] h (fun r h' => Rn xs xl e mm_takeSign 26 [some (.inr (.inr 182)), some (.inl v1)] (r.toList ++ []) h' Q))) :
    Rn xs xl e mm_takeSign 5 [some (.inr (.inr 182)), some (.inl v1)] [.inl 0] h Q := by
  refine R_if dd_takeSign_5 rfl rfl (fun (c2 : 0 = 0) => ?_) (fun (c2 : 0 ≠ 0) => ?_)
  · skip
    refine R_ld (v := .inr (.inr 182)) dd_takeSign_21 rfl rfl rfl rfl ?_
    refine R_ic dd_takeSign_22 (by decide) rfl ?_
    obtain ⟨c, hc, k⟩ := k
    exact R_call (as := [.inr (.inr 182), .inl 1]) (rest := []) (M' := mm_wrong) (ls0 := [some (.inr (.inr 182)), some (.inl 1)]) dd_takeSign_23 rfl rfl (cw_v cw_12_216 io_182 rfl rfl (Nat.le_of_ble_eq_true rfl) (Nat.le_of_ble_eq_true rfl)) mt_wrong rfl hc rfl k
  · exact absurd c2 (by omega)
theorem B_takeSign_26 {xs : Nat → Int} {xl e : Nat} {h : LH} {Q : Option LV → LH → Prop} {v1 : Int} (hF : RF h)
    (k : Q none h) :
    Rn xs xl e mm_takeSign 26 [some (.inr (.inr 182)), some (.inl v1)] [] h Q := by
  exact R_vret dd_takeSign_26 rfl k
theorem B_hasSign_0 {xs : Nat → Int} {xl e : Nat} {h : LH} {Q : Option LV → LH → Prop} {v1 : Int} (hF : RF h)
    (k : (∃ c, c < e ∧ Rn xs xl c mm_isSign 0 [some (.inr (.inr 182)), some (.inl v1)] [] h (fun r h' => Rn xs xl e mm_hasSign 5 [some (.inr (.inr 182)), some (.inl v1), none] (r.toList ++ []) h' Q))) :
    Rn xs xl e mm_hasSign 0 [some (.inr (.inr 182)), some (.inl v1), none] [] h Q := by
  refine R_ld (v := .inr (.inr 182)) dd_hasSign_0 rfl rfl rfl rfl ?_
  refine R_ld (v := .inl v1) dd_hasSign_1 rfl rfl rfl rfl ?_
  obtain ⟨c, hc, k⟩ := k
  exact R_call (as := [.inr (.inr 182), .inl v1]) (rest := []) (M' := mm_isSign) (ls0 := [some (.inr (.inr 182)), some (.inl v1)]) dd_hasSign_2 rfl rfl (cw_v cw_12_213 io_182 rfl rfl (Nat.le_of_ble_eq_true rfl) (Nat.le_of_ble_eq_true rfl)) mt_isSign rfl hc rfl k
theorem B_hasSign_5_1 {xs : Nat → Int} {xl e : Nat} {h : LH} {Q : Option LV → LH → Prop} {v1 : Int} (hF : RF h)
    (k : (-2147483648 ≤ (rd h 182 7) + 1 ∧ (rd h 182 7) + 1 ≤ 2147483647) ∧
      Q (some (.inl 1)) (wr h 182 7 ((rd h 182 7) + 1))) :
    Rn xs xl e mm_hasSign 5 [some (.inr (.inr 182)), some (.inl v1), none] [.inl 1] h Q := by
  refine R_st (ls' := [some (.inr (.inr 182)), some (.inl v1), some (.inl 1)]) dd_hasSign_5 rfl rfl rfl (Nat.le_of_ble_eq_true rfl) rfl rfl ?_
  refine R_ld (v := .inr (.inr 182)) dd_hasSign_6 rfl rfl rfl rfl ?_
  refine R_A dd_hasSign_7 rfl rfl rfl rfl ?_
  refine R_gf (v := .inl (rd h 182 7)) dd_hasSign_8 fd_12_207 io_182 (congrArg (fun z : Int => (Sum.inl z : LV)) (rfl)) rfl ?_
  refine R_ld (v := .inl 1) dd_hasSign_11 rfl rfl rfl rfl ?_
  refine R_if dd_hasSign_12 rfl rfl (fun (c2 : 1 = 0) => ?_) (fun (c2 : 1 ≠ 0) => ?_)
  · exact absurd c2 (by omega)
  · skip
    refine R_ic dd_hasSign_15 (by decide) rfl ?_
    refine R_goto dd_hasSign_16 rfl ?_
    obtain ⟨s1, k⟩ := k
    refine R_iadd (c := (rd h 182 7) + 1) dd_hasSign_20 (by omega) s1 rfl ?_
    refine R_pf (z := ((rd h 182 7) + 1)) dd_hasSign_21 fd_12_207 io_182 fn_12_7 rfl rfl ?_
    refine R_ld (v := .inl 1) dd_hasSign_24 rfl rfl rfl rfl ?_
    exact R_zret dd_hasSign_25 rfl (by decide) k
theorem B_hasSign_5_0 {xs : Nat → Int} {xl e : Nat} {h : LH} {Q : Option LV → LH → Prop} {v1 : Int} (hF : RF h)
    (k : (-2147483648 ≤ (rd h 182 7) ∧ (rd h 182 7) ≤ 2147483647) ∧
      Q (some (.inl 0)) (wr h 182 7 (rd h 182 7))) :
    Rn xs xl e mm_hasSign 5 [some (.inr (.inr 182)), some (.inl v1), none] [.inl 0] h Q := by
  refine R_st (ls' := [some (.inr (.inr 182)), some (.inl v1), some (.inl 0)]) dd_hasSign_5 rfl rfl rfl (Nat.le_of_ble_eq_true rfl) rfl rfl ?_
  refine R_ld (v := .inr (.inr 182)) dd_hasSign_6 rfl rfl rfl rfl ?_
  refine R_A dd_hasSign_7 rfl rfl rfl rfl ?_
  refine R_gf (v := .inl (rd h 182 7)) dd_hasSign_8 fd_12_207 io_182 (congrArg (fun z : Int => (Sum.inl z : LV)) (rfl)) rfl ?_
  refine R_ld (v := .inl 0) dd_hasSign_11 rfl rfl rfl rfl ?_
  refine R_if dd_hasSign_12 rfl rfl (fun (c2 : 0 = 0) => ?_) (fun (c2 : 0 ≠ 0) => ?_)
  · skip
    refine R_ic dd_hasSign_19 (by decide) rfl ?_
    obtain ⟨s1, k⟩ := k
    refine R_iadd (c := (rd h 182 7)) dd_hasSign_20 (by omega) s1 rfl ?_
    refine R_pf (z := (rd h 182 7)) dd_hasSign_21 fd_12_207 io_182 fn_12_7 rfl rfl ?_
    refine R_ld (v := .inl 0) dd_hasSign_24 rfl rfl rfl rfl ?_
    exact R_zret dd_hasSign_25 rfl (by decide) k
  · exact absurd c2 (by omega)
theorem B_hasWord_0 {xs : Nat → Int} {xl e : Nat} {h : LH} {Q : Option LV → LH → Prop} {v1 : Int} (hF : RF h)
    (k : (∃ c, c < e ∧ Rn xs xl c mm_isWord 0 [some (.inr (.inr 182)), some (.inl v1)] [] h (fun r h' => Rn xs xl e mm_hasWord 5 [some (.inr (.inr 182)), some (.inl v1), none] (r.toList ++ []) h' Q))) :
    Rn xs xl e mm_hasWord 0 [some (.inr (.inr 182)), some (.inl v1), none] [] h Q := by
  refine R_ld (v := .inr (.inr 182)) dd_hasWord_0 rfl rfl rfl rfl ?_
  refine R_ld (v := .inl v1) dd_hasWord_1 rfl rfl rfl rfl ?_
  obtain ⟨c, hc, k⟩ := k
  exact R_call (as := [.inr (.inr 182), .inl v1]) (rest := []) (M' := mm_isWord) (ls0 := [some (.inr (.inr 182)), some (.inl v1)]) dd_hasWord_2 rfl rfl (cw_v cw_12_219 io_182 rfl rfl (Nat.le_of_ble_eq_true rfl) (Nat.le_of_ble_eq_true rfl)) mt_isWord rfl hc rfl k
theorem B_hasWord_5_1 {xs : Nat → Int} {xl e : Nat} {h : LH} {Q : Option LV → LH → Prop} {v1 : Int} (hF : RF h)
    (k : (-2147483648 ≤ (rd h 182 7) + 1 ∧ (rd h 182 7) + 1 ≤ 2147483647) ∧
      Q (some (.inl 1)) (wr h 182 7 ((rd h 182 7) + 1))) :
    Rn xs xl e mm_hasWord 5 [some (.inr (.inr 182)), some (.inl v1), none] [.inl 1] h Q := by
  refine R_st (ls' := [some (.inr (.inr 182)), some (.inl v1), some (.inl 1)]) dd_hasWord_5 rfl rfl rfl (Nat.le_of_ble_eq_true rfl) rfl rfl ?_
  refine R_ld (v := .inr (.inr 182)) dd_hasWord_6 rfl rfl rfl rfl ?_
  refine R_A dd_hasWord_7 rfl rfl rfl rfl ?_
  refine R_gf (v := .inl (rd h 182 7)) dd_hasWord_8 fd_12_207 io_182 (congrArg (fun z : Int => (Sum.inl z : LV)) (rfl)) rfl ?_
  refine R_ld (v := .inl 1) dd_hasWord_11 rfl rfl rfl rfl ?_
  refine R_if dd_hasWord_12 rfl rfl (fun (c2 : 1 = 0) => ?_) (fun (c2 : 1 ≠ 0) => ?_)
  · exact absurd c2 (by omega)
  · skip
    refine R_ic dd_hasWord_15 (by decide) rfl ?_
    refine R_goto dd_hasWord_16 rfl ?_
    obtain ⟨s1, k⟩ := k
    refine R_iadd (c := (rd h 182 7) + 1) dd_hasWord_20 (by omega) s1 rfl ?_
    refine R_pf (z := ((rd h 182 7) + 1)) dd_hasWord_21 fd_12_207 io_182 fn_12_7 rfl rfl ?_
    refine R_ld (v := .inl 1) dd_hasWord_24 rfl rfl rfl rfl ?_
    exact R_zret dd_hasWord_25 rfl (by decide) k
theorem B_hasWord_5_0 {xs : Nat → Int} {xl e : Nat} {h : LH} {Q : Option LV → LH → Prop} {v1 : Int} (hF : RF h)
    (k : (-2147483648 ≤ (rd h 182 7) ∧ (rd h 182 7) ≤ 2147483647) ∧
      Q (some (.inl 0)) (wr h 182 7 (rd h 182 7))) :
    Rn xs xl e mm_hasWord 5 [some (.inr (.inr 182)), some (.inl v1), none] [.inl 0] h Q := by
  refine R_st (ls' := [some (.inr (.inr 182)), some (.inl v1), some (.inl 0)]) dd_hasWord_5 rfl rfl rfl (Nat.le_of_ble_eq_true rfl) rfl rfl ?_
  refine R_ld (v := .inr (.inr 182)) dd_hasWord_6 rfl rfl rfl rfl ?_
  refine R_A dd_hasWord_7 rfl rfl rfl rfl ?_
  refine R_gf (v := .inl (rd h 182 7)) dd_hasWord_8 fd_12_207 io_182 (congrArg (fun z : Int => (Sum.inl z : LV)) (rfl)) rfl ?_
  refine R_ld (v := .inl 0) dd_hasWord_11 rfl rfl rfl rfl ?_
  refine R_if dd_hasWord_12 rfl rfl (fun (c2 : 0 = 0) => ?_) (fun (c2 : 0 ≠ 0) => ?_)
  · skip
    refine R_ic dd_hasWord_19 (by decide) rfl ?_
    obtain ⟨s1, k⟩ := k
    refine R_iadd (c := (rd h 182 7)) dd_hasWord_20 (by omega) s1 rfl ?_
    refine R_pf (z := (rd h 182 7)) dd_hasWord_21 fd_12_207 io_182 fn_12_7 rfl rfl ?_
    refine R_ld (v := .inl 0) dd_hasWord_24 rfl rfl rfl rfl ?_
    exact R_zret dd_hasWord_25 rfl (by decide) k
  · exact absurd c2 (by omega)
theorem B_takeWord_0 {xs : Nat → Int} {xl e : Nat} {h : LH} {Q : Option LV → LH → Prop} {v1 : Int} (hF : RF h)
    (k : (∃ c, c < e ∧ Rn xs xl c mm_hasWord 0 [some (.inr (.inr 182)), some (.inl v1), none] [] h (fun r h' => Rn xs xl e mm_takeWord 5 [some (.inr (.inr 182)), some (.inl v1)] (r.toList ++ []) h' Q))) :
    Rn xs xl e mm_takeWord 0 [some (.inr (.inr 182)), some (.inl v1)] [] h Q := by
  refine R_ld (v := .inr (.inr 182)) dd_takeWord_0 rfl rfl rfl rfl ?_
  refine R_ld (v := .inl v1) dd_takeWord_1 rfl rfl rfl rfl ?_
  obtain ⟨c, hc, k⟩ := k
  exact R_call (as := [.inr (.inr 182), .inl v1]) (rest := []) (M' := mm_hasWord) (ls0 := [some (.inr (.inr 182)), some (.inl v1), none]) dd_takeWord_2 rfl rfl (cw_v cw_12_222 io_182 rfl rfl (Nat.le_of_ble_eq_true rfl) (Nat.le_of_ble_eq_true rfl)) mt_hasWord rfl hc rfl k
theorem B_takeWord_5_1 {xs : Nat → Int} {xl e : Nat} {h : LH} {Q : Option LV → LH → Prop} {v1 : Int} (hF : RF h)
    (k : Q none h) :
    Rn xs xl e mm_takeWord 5 [some (.inr (.inr 182)), some (.inl v1)] [.inl 1] h Q := by
  refine R_if dd_takeWord_5 rfl rfl (fun (c1 : 1 ≠ 0) => ?_) (fun (c1 : 1 = 0) => ?_)
  · skip
    exact R_vret dd_takeWord_13 rfl k
  · exact absurd c1 (by omega)
theorem B_takeWord_5_0 {xs : Nat → Int} {xl e : Nat} {h : LH} {Q : Option LV → LH → Prop} {v1 : Int} (hF : RF h)
    (k : (∃ c, c < e ∧ Rn xs xl c mm_wrong 0 [some (.inr (.inr 182)), some (.inl 1)] [] h (fun r h' => Rn xs xl e mm_takeWord 13 [some (.inr (.inr 182)), some (.inl v1)] (r.toList ++ []) h' Q))) :
    Rn xs xl e mm_takeWord 5 [some (.inr (.inr 182)), some (.inl v1)] [.inl 0] h Q := by
  refine R_if dd_takeWord_5 rfl rfl (fun (c2 : 0 ≠ 0) => ?_) (fun (c2 : 0 = 0) => ?_)
  · exact absurd c2 (by omega)
  · skip
    refine R_ld (v := .inr (.inr 182)) dd_takeWord_8 rfl rfl rfl rfl ?_
    refine R_ic dd_takeWord_9 (by decide) rfl ?_
    obtain ⟨c, hc, k⟩ := k
    exact R_call (as := [.inr (.inr 182), .inl 1]) (rest := []) (M' := mm_wrong) (ls0 := [some (.inr (.inr 182)), some (.inl 1)]) dd_takeWord_10 rfl rfl (cw_v cw_12_216 io_182 rfl rfl (Nat.le_of_ble_eq_true rfl) (Nat.le_of_ble_eq_true rfl)) mt_wrong rfl hc rfl k
theorem B_takeWord_13 {xs : Nat → Int} {xl e : Nat} {h : LH} {Q : Option LV → LH → Prop} {v1 : Int} (hF : RF h)
    (k : Q none h) :
    Rn xs xl e mm_takeWord 13 [some (.inr (.inr 182)), some (.inl v1)] [] h Q := by
  exact R_vret dd_takeWord_13 rfl k
theorem B_wordHere_0 {xs : Nat → Int} {xl e : Nat} {h : LH} {Q : Option LV → LH → Prop} {v1 v2 : Int} (hF : RF h)
    (k : Rn xs xl e mm_wordHere 5 [some (.inr (.inr 182)), some (.inl v1), some (.inl v2), some (.inl (-1)), some (.inl 0)] [] h Q) :
    Rn xs xl e mm_wordHere 0 [some (.inr (.inr 182)), some (.inl v1), some (.inl v2), none, none] [] h Q := by
  refine R_ic dd_wordHere_0 (by decide) rfl ?_
  refine R_st (ls' := [some (.inr (.inr 182)), some (.inl v1), some (.inl v2), some (.inl (-1)), none]) dd_wordHere_1 rfl rfl rfl (Nat.le_of_ble_eq_true rfl) rfl rfl ?_
  refine R_ic dd_wordHere_2 (by decide) rfl ?_
  refine R_st (ls' := [some (.inr (.inr 182)), some (.inl v1), some (.inl v2), some (.inl (-1)), some (.inl 0)]) dd_wordHere_3 rfl rfl rfl (Nat.le_of_ble_eq_true rfl) rfl rfl ?_
  exact k
theorem B_wordHere_5 {xs : Nat → Int} {xl e : Nat} {h : LH} {Q : Option LV → LH → Prop} {v1 v2 v3 v4 : Int} (hF : RF h)
    (k : (v2 ≤ v4 →
        Q (some (.inl v3)) h) ∧
      (v4 < v2 →
        (-2147483648 ≤ v1 + v4 ∧ v1 + v4 ≤ 2147483647) ∧
        (∃ c, c < e ∧ Rn xs xl c mm_isWord 0 [some (.inr (.inr 182)), some (.inl (v1 + v4))] [] h (fun r h' => Rn xs xl e mm_wordHere 19 [some (.inr (.inr 182)), some (.inl v1), some (.inl v2), some (.inl v3), some (.inl v4)] (r.toList ++ []) h' Q)))) :
    Rn xs xl e mm_wordHere 5 [some (.inr (.inr 182)), some (.inl v1), some (.inl v2), some (.inl v3), some (.inl v4)] [] h Q := by
  refine R_ld (v := .inl v4) dd_wordHere_5 rfl rfl rfl rfl ?_
  refine R_ld (v := .inl v2) dd_wordHere_7 rfl rfl rfl rfl ?_
  refine R_icmp dd_wordHere_8 rfl rfl (fun (c3 : v2 ≤ v4) => ?_) (fun (c3 : v4 < v2) => ?_)
  · replace k := k.1 c3
    refine R_ld (v := .inl v3) dd_wordHere_35 rfl rfl rfl rfl ?_
    exact R_iret dd_wordHere_36 rfl k
  · replace k := k.2 c3
    refine R_ld (v := .inr (.inr 182)) dd_wordHere_11 rfl rfl rfl rfl ?_
    refine R_ld (v := .inl v1) dd_wordHere_12 rfl rfl rfl rfl ?_
    refine R_ld (v := .inl v4) dd_wordHere_13 rfl rfl rfl rfl ?_
    obtain ⟨s1, k⟩ := k
    refine R_iadd (c := v1 + v4) dd_wordHere_15 (by omega) s1 rfl ?_
    obtain ⟨c, hc, k⟩ := k
    exact R_call (as := [.inr (.inr 182), .inl (v1 + v4)]) (rest := []) (M' := mm_isWord) (ls0 := [some (.inr (.inr 182)), some (.inl (v1 + v4))]) dd_wordHere_16 rfl rfl (cw_v cw_12_219 io_182 rfl rfl (Nat.le_of_ble_eq_true rfl) (Nat.le_of_ble_eq_true rfl)) mt_isWord rfl hc rfl k
theorem B_wordHere_19_1 {xs : Nat → Int} {xl e : Nat} {h : LH} {Q : Option LV → LH → Prop} {v1 v2 v3 v4 : Int} (hF : RF h)
    (k : (-2147483648 ≤ v4 + 1 ∧ v4 + 1 ≤ 2147483647) ∧
      Rn xs xl e mm_wordHere 5 [some (.inr (.inr 182)), some (.inl v1), some (.inl v2), some (.inl v4), some (.inl (v4 + 1))] [] h Q) :
    Rn xs xl e mm_wordHere 19 [some (.inr (.inr 182)), some (.inl v1), some (.inl v2), some (.inl v3), some (.inl v4)] [.inl 1] h Q := by
  refine R_if dd_wordHere_19 rfl rfl (fun (c2 : 1 = 0) => ?_) (fun (c2 : 1 ≠ 0) => ?_)
  · exact absurd c2 (by omega)
  · skip
    refine R_ld (v := .inl v4) dd_wordHere_22 rfl rfl rfl rfl ?_
    refine R_goto dd_wordHere_24 rfl ?_
    refine R_st (ls' := [some (.inr (.inr 182)), some (.inl v1), some (.inl v2), some (.inl v4), some (.inl v4)]) dd_wordHere_28 rfl rfl rfl (Nat.le_of_ble_eq_true rfl) rfl rfl ?_
    obtain ⟨s1, k⟩ := k
    refine R_inc (y := v4 + 1) (ls' := [some (.inr (.inr 182)), some (.inl v1), some (.inl v2), some (.inl v4), some (.inl (v4 + 1))]) dd_wordHere_29 rfl (by decide) (by omega) s1 rfl rfl ?_
    refine R_goto dd_wordHere_32 rfl ?_
    exact k
theorem B_wordHere_19_0 {xs : Nat → Int} {xl e : Nat} {h : LH} {Q : Option LV → LH → Prop} {v1 v2 v3 v4 : Int} (hF : RF h)
    (k : (-2147483648 ≤ v4 + 1 ∧ v4 + 1 ≤ 2147483647) ∧
      Rn xs xl e mm_wordHere 5 [some (.inr (.inr 182)), some (.inl v1), some (.inl v2), some (.inl v3), some (.inl (v4 + 1))] [] h Q) :
    Rn xs xl e mm_wordHere 19 [some (.inr (.inr 182)), some (.inl v1), some (.inl v2), some (.inl v3), some (.inl v4)] [.inl 0] h Q := by
  refine R_if dd_wordHere_19 rfl rfl (fun (c2 : 0 = 0) => ?_) (fun (c2 : 0 ≠ 0) => ?_)
  · skip
    refine R_ld (v := .inl v3) dd_wordHere_27 rfl rfl rfl rfl ?_
    refine R_st (ls' := [some (.inr (.inr 182)), some (.inl v1), some (.inl v2), some (.inl v3), some (.inl v4)]) dd_wordHere_28 rfl rfl rfl (Nat.le_of_ble_eq_true rfl) rfl rfl ?_
    obtain ⟨s1, k⟩ := k
    refine R_inc (y := v4 + 1) (ls' := [some (.inr (.inr 182)), some (.inl v1), some (.inl v2), some (.inl v3), some (.inl (v4 + 1))]) dd_wordHere_29 rfl (by decide) (by omega) s1 rfl rfl ?_
    refine R_goto dd_wordHere_32 rfl ?_
    exact k
  · exact absurd c2 (by omega)
theorem B_emit_0 {xs : Nat → Int} {xl e : Nat} {h : LH} {Q : Option LV → LH → Prop} {v1 v2 : Int} (hF : RF h)
    (k : (-2147483648 ≤ (rd h 182 13) + 1100 ∧ (rd h 182 13) + 1100 ≤ 2147483647) ∧
      (0 ≤ (rd h 182 13) + 1100 ∧ (rd h 182 13) + 1100 < 2200) ∧
      (-2147483648 ≤ (rd h 182 13) + 1100 ∧ (rd h 182 13) + 1100 ≤ 2147483647) ∧
      (0 ≤ (rd h 182 13) + 1100 ∧ (rd h 182 13) + 1100 < 2200) ∧
      (-2147483648 ≤ (rd h 182 13) + 1 ∧ (rd h 182 13) + 1 ≤ 2147483647) ∧
      Q none (wr (wr (wr h 189 ((rd h 182 13) + 1100) v1) 190 ((rd h 182 13) + 1100) v2) 182 13 ((rd h 182 13) + 1))) :
    Rn xs xl e mm_emit 0 [some (.inr (.inr 182)), some (.inl v1), some (.inl v2)] [] h Q := by
  refine R_ld (v := .inr (.inr 182)) dd_emit_0 rfl rfl rfl rfl ?_
  refine R_gf (v := .inr (.inr 189)) dd_emit_1 fd_12_98 io_182 (congrArg (fun z : Int => (Sum.inr (Sum.inr z) : LV)) (rf_182_11 hF)) rfl ?_
  refine R_si dd_emit_4 (by decide) rfl ?_
  refine R_ld (v := .inr (.inr 182)) dd_emit_7 rfl rfl rfl rfl ?_
  refine R_gf (v := .inl (rd h 182 13)) dd_emit_8 fd_12_244 io_182 (congrArg (fun z : Int => (Sum.inl z : LV)) (rfl)) rfl ?_
  obtain ⟨s1, k⟩ := k
  refine R_iadd (c := (rd h 182 13) + 1100) dd_emit_11 (by omega) s1 rfl ?_
  refine R_ld (v := .inl v1) dd_emit_12 rfl rfl rfl rfl ?_
  obtain ⟨s2, k⟩ := k
  refine R_iast (n := 2200) dd_emit_13 ia_189 la_189 s2 rfl ?_
  refine R_ld (v := .inr (.inr 182)) dd_emit_14 rfl rfl rfl rfl ?_
  refine R_gf (v := .inr (.inr 190)) dd_emit_15 fd_12_101 io_182 (congrArg (fun z : Int => (Sum.inr (Sum.inr z) : LV)) ((rdw_ne (by decide)).trans (rf_182_12 hF))) rfl ?_
  refine R_si dd_emit_18 (by decide) rfl ?_
  refine R_ld (v := .inr (.inr 182)) dd_emit_21 rfl rfl rfl rfl ?_
  refine R_gf (v := .inl (rd h 182 13)) dd_emit_22 fd_12_244 io_182 (congrArg (fun z : Int => (Sum.inl z : LV)) (rdw_ne (by decide))) rfl ?_
  obtain ⟨s3, k⟩ := k
  refine R_iadd (c := (rd h 182 13) + 1100) dd_emit_25 (by omega) s3 rfl ?_
  refine R_ld (v := .inl v2) dd_emit_26 rfl rfl rfl rfl ?_
  obtain ⟨s4, k⟩ := k
  refine R_iast (n := 2200) dd_emit_27 ia_190 la_190 s4 rfl ?_
  refine R_ld (v := .inr (.inr 182)) dd_emit_28 rfl rfl rfl rfl ?_
  refine R_A dd_emit_29 rfl rfl rfl rfl ?_
  refine R_gf (v := .inl (rd h 182 13)) dd_emit_30 fd_12_244 io_182 (congrArg (fun z : Int => (Sum.inl z : LV)) ((rdw_ne (by decide)).trans (rdw_ne (by decide)))) rfl ?_
  refine R_ic dd_emit_33 (by decide) rfl ?_
  obtain ⟨s5, k⟩ := k
  refine R_iadd (c := (rd h 182 13) + 1) dd_emit_34 (by omega) s5 rfl ?_
  refine R_pf (z := ((rd h 182 13) + 1)) dd_emit_35 fd_12_244 io_182 fn_12_13 rfl rfl ?_
  exact R_vret dd_emit_38 rfl k
theorem B_products_0 {xs : Nat → Int} {xl e : Nat} {h : LH} {Q : Option LV → LH → Prop} {v1 : Int} (hF : RF h)
    (k : (∃ c, c < e ∧ Rn xs xl c mm_takePart 0 [some (.inr (.inr 182)), some (.inl v1), none, none] [] h (fun r h' => Rn xs xl e mm_products 5 [some (.inr (.inr 182)), some (.inl v1)] (r.toList ++ []) h' Q))) :
    Rn xs xl e mm_products 0 [some (.inr (.inr 182)), some (.inl v1)] [] h Q := by
  refine R_ld (v := .inr (.inr 182)) dd_products_0 rfl rfl rfl rfl ?_
  refine R_ld (v := .inl v1) dd_products_1 rfl rfl rfl rfl ?_
  obtain ⟨c, hc, k⟩ := k
  exact R_call (as := [.inr (.inr 182), .inl v1]) (rest := []) (M' := mm_takePart) (ls0 := [some (.inr (.inr 182)), some (.inl v1), none, none]) dd_products_2 rfl rfl (cw_v cw_12_313 io_182 rfl rfl (Nat.le_of_ble_eq_true rfl) (Nat.le_of_ble_eq_true rfl)) mt_takePart rfl hc rfl k
theorem B_products_5 {xs : Nat → Int} {xl e : Nat} {h : LH} {Q : Option LV → LH → Prop} {v1 : Int} (hF : RF h)
    (k : (∃ c, c < e ∧ Rn xs xl c mm_hasSign 0 [some (.inr (.inr 182)), some (.inl 42), none] [] h (fun r h' => Rn xs xl e mm_products 11 [some (.inr (.inr 182)), some (.inl v1)] (r.toList ++ []) h' Q))) :
    Rn xs xl e mm_products 5 [some (.inr (.inr 182)), some (.inl v1)] [] h Q := by
  refine R_ld (v := .inr (.inr 182)) dd_products_5 rfl rfl rfl rfl ?_
  refine R_bi dd_products_6 (by decide) rfl ?_
  obtain ⟨c, hc, k⟩ := k
  exact R_call (as := [.inr (.inr 182), .inl 42]) (rest := []) (M' := mm_hasSign) (ls0 := [some (.inr (.inr 182)), some (.inl 42), none]) dd_products_8 rfl rfl (cw_v cw_12_307 io_182 rfl rfl (Nat.le_of_ble_eq_true rfl) (Nat.le_of_ble_eq_true rfl)) mt_hasSign rfl hc rfl k
theorem B_products_11_1 {xs : Nat → Int} {xl e : Nat} {h : LH} {Q : Option LV → LH → Prop} {v1 : Int} (hF : RF h)
    (k : (∃ c, c < e ∧ Rn xs xl c mm_takePart 0 [some (.inr (.inr 182)), some (.inl v1), none, none] [] h (fun r h' => Rn xs xl e mm_products 19 [some (.inr (.inr 182)), some (.inl v1)] (r.toList ++ []) h' Q))) :
    Rn xs xl e mm_products 11 [some (.inr (.inr 182)), some (.inl v1)] [.inl 1] h Q := by
  refine R_if dd_products_11 rfl rfl (fun (c2 : 1 = 0) => ?_) (fun (c2 : 1 ≠ 0) => ?_)
  · exact absurd c2 (by omega)
  · skip
    refine R_ld (v := .inr (.inr 182)) dd_products_14 rfl rfl rfl rfl ?_
    refine R_ld (v := .inl v1) dd_products_15 rfl rfl rfl rfl ?_
    obtain ⟨c, hc, k⟩ := k
    exact R_call (as := [.inr (.inr 182), .inl v1]) (rest := []) (M' := mm_takePart) (ls0 := [some (.inr (.inr 182)), some (.inl v1), none, none]) dd_products_16 rfl rfl (cw_v cw_12_313 io_182 rfl rfl (Nat.le_of_ble_eq_true rfl) (Nat.le_of_ble_eq_true rfl)) mt_takePart rfl hc rfl k
theorem B_products_11_0 {xs : Nat → Int} {xl e : Nat} {h : LH} {Q : Option LV → LH → Prop} {v1 : Int} (hF : RF h)
    (k : Q none h) :
    Rn xs xl e mm_products 11 [some (.inr (.inr 182)), some (.inl v1)] [.inl 0] h Q := by
  refine R_if dd_products_11 rfl rfl (fun (c1 : 0 = 0) => ?_) (fun (c1 : 0 ≠ 0) => ?_)
  · skip
    exact R_vret dd_products_29 rfl k
  · exact absurd c1 (by omega)
theorem B_products_19 {xs : Nat → Int} {xl e : Nat} {h : LH} {Q : Option LV → LH → Prop} {v1 : Int} (hF : RF h)
    (k : (∃ c, c < e ∧ Rn xs xl c mm_emit 0 [some (.inr (.inr 182)), some (.inl 6), some (.inl 0)] [] h (fun r h' => Rn xs xl e mm_products 26 [some (.inr (.inr 182)), some (.inl v1)] (r.toList ++ []) h' Q))) :
    Rn xs xl e mm_products 19 [some (.inr (.inr 182)), some (.inl v1)] [] h Q := by
  refine R_ld (v := .inr (.inr 182)) dd_products_19 rfl rfl rfl rfl ?_
  refine R_bi dd_products_20 (by decide) rfl ?_
  refine R_ic dd_products_22 (by decide) rfl ?_
  obtain ⟨c, hc, k⟩ := k
  exact R_call (as := [.inr (.inr 182), .inl 6, .inl 0]) (rest := []) (M' := mm_emit) (ls0 := [some (.inr (.inr 182)), some (.inl 6), some (.inl 0)]) dd_products_23 rfl rfl (cw_v cw_12_284 io_182 rfl rfl (Nat.le_of_ble_eq_true rfl) (Nat.le_of_ble_eq_true rfl)) mt_emit rfl hc rfl k
theorem B_products_26 {xs : Nat → Int} {xl e : Nat} {h : LH} {Q : Option LV → LH → Prop} {v1 : Int} (hF : RF h)
    (k : Rn xs xl e mm_products 5 [some (.inr (.inr 182)), some (.inl v1)] [] h Q) :
    Rn xs xl e mm_products 26 [some (.inr (.inr 182)), some (.inl v1)] [] h Q := by
  refine R_goto dd_products_26 rfl ?_
  exact k
theorem B_sums_0 {xs : Nat → Int} {xl e : Nat} {h : LH} {Q : Option LV → LH → Prop} {v1 : Int} (hF : RF h)
    (k : (∃ c, c < e ∧ Rn xs xl c mm_products 0 [some (.inr (.inr 182)), some (.inl v1)] [] h (fun r h' => Rn xs xl e mm_sums 5 [some (.inr (.inr 182)), some (.inl v1), none] (r.toList ++ []) h' Q))) :
    Rn xs xl e mm_sums 0 [some (.inr (.inr 182)), some (.inl v1), none] [] h Q := by
  refine R_ld (v := .inr (.inr 182)) dd_sums_0 rfl rfl rfl rfl ?_
  refine R_ld (v := .inl v1) dd_sums_1 rfl rfl rfl rfl ?_
  obtain ⟨c, hc, k⟩ := k
  exact R_call (as := [.inr (.inr 182), .inl v1]) (rest := []) (M' := mm_products) (ls0 := [some (.inr (.inr 182)), some (.inl v1)]) dd_sums_2 rfl rfl (cw_v cw_12_310 io_182 rfl rfl (Nat.le_of_ble_eq_true rfl) (Nat.le_of_ble_eq_true rfl)) mt_products rfl hc rfl k
theorem B_sums_5 {xs : Nat → Int} {xl e : Nat} {h : LH} {Q : Option LV → LH → Prop} {v1 : Int} {o2 : Option LV} (no2 : nL o2) (hF : RF h)
    (k : (∃ c, c < e ∧ Rn xs xl c mm_isSign 0 [some (.inr (.inr 182)), some (.inl 43)] [] h (fun r h' => Rn xs xl e mm_sums 11 [some (.inr (.inr 182)), some (.inl v1), o2] (r.toList ++ []) h' Q))) :
    Rn xs xl e mm_sums 5 [some (.inr (.inr 182)), some (.inl v1), o2] [] h Q := by
  refine R_ld (v := .inr (.inr 182)) dd_sums_5 rfl rfl rfl rfl ?_
  refine R_bi dd_sums_6 (by decide) rfl ?_
  obtain ⟨c, hc, k⟩ := k
  exact R_call (as := [.inr (.inr 182), .inl 43]) (rest := []) (M' := mm_isSign) (ls0 := [some (.inr (.inr 182)), some (.inl 43)]) dd_sums_8 rfl rfl (cw_v cw_12_213 io_182 rfl rfl (Nat.le_of_ble_eq_true rfl) (Nat.le_of_ble_eq_true rfl)) mt_isSign rfl hc rfl k
theorem B_sums_11_1 {xs : Nat → Int} {xl e : Nat} {h : LH} {Q : Option LV → LH → Prop} {v1 : Int} {o2 : Option LV} (no2 : nL o2) (hF : RF h)
    (k : (∃ c, c < e ∧ Rn xs xl c mm_isSign 0 [some (.inr (.inr 182)), some (.inl 43)] [] h (fun r h' => Rn xs xl e mm_sums 29 [some (.inr (.inr 182)), some (.inl v1), o2] (r.toList ++ []) h' Q))) :
    Rn xs xl e mm_sums 11 [some (.inr (.inr 182)), some (.inl v1), o2] [.inl 1] h Q := by
  refine R_if dd_sums_11 rfl rfl (fun (c2 : 1 ≠ 0) => ?_) (fun (c2 : 1 = 0) => ?_)
  · skip
    refine R_ld (v := .inr (.inr 182)) dd_sums_23 rfl rfl rfl rfl ?_
    refine R_bi dd_sums_24 (by decide) rfl ?_
    obtain ⟨c, hc, k⟩ := k
    exact R_call (as := [.inr (.inr 182), .inl 43]) (rest := []) (M' := mm_isSign) (ls0 := [some (.inr (.inr 182)), some (.inl 43)]) dd_sums_26 rfl rfl (cw_v cw_12_213 io_182 rfl rfl (Nat.le_of_ble_eq_true rfl) (Nat.le_of_ble_eq_true rfl)) mt_isSign rfl hc rfl k
  · exact absurd c2 (by omega)
theorem B_sums_11_0 {xs : Nat → Int} {xl e : Nat} {h : LH} {Q : Option LV → LH → Prop} {v1 : Int} {o2 : Option LV} (no2 : nL o2) (hF : RF h)
    (k : (∃ c, c < e ∧ Rn xs xl c mm_isSign 0 [some (.inr (.inr 182)), some (.inl 45)] [] h (fun r h' => Rn xs xl e mm_sums 20 [some (.inr (.inr 182)), some (.inl v1), o2] (r.toList ++ []) h' Q))) :
    Rn xs xl e mm_sums 11 [some (.inr (.inr 182)), some (.inl v1), o2] [.inl 0] h Q := by
  refine R_if dd_sums_11 rfl rfl (fun (c2 : 0 ≠ 0) => ?_) (fun (c2 : 0 = 0) => ?_)
  · exact absurd c2 (by omega)
  · skip
    refine R_ld (v := .inr (.inr 182)) dd_sums_14 rfl rfl rfl rfl ?_
    refine R_bi dd_sums_15 (by decide) rfl ?_
    obtain ⟨c, hc, k⟩ := k
    exact R_call (as := [.inr (.inr 182), .inl 45]) (rest := []) (M' := mm_isSign) (ls0 := [some (.inr (.inr 182)), some (.inl 45)]) dd_sums_17 rfl rfl (cw_v cw_12_213 io_182 rfl rfl (Nat.le_of_ble_eq_true rfl) (Nat.le_of_ble_eq_true rfl)) mt_isSign rfl hc rfl k
theorem B_sums_20_1 {xs : Nat → Int} {xl e : Nat} {h : LH} {Q : Option LV → LH → Prop} {v1 : Int} {o2 : Option LV} (no2 : nL o2) (hF : RF h)
    (k : (∃ c, c < e ∧ Rn xs xl c mm_isSign 0 [some (.inr (.inr 182)), some (.inl 43)] [] h (fun r h' => Rn xs xl e mm_sums 29 [some (.inr (.inr 182)), some (.inl v1), o2] (r.toList ++ []) h' Q))) :
    Rn xs xl e mm_sums 20 [some (.inr (.inr 182)), some (.inl v1), o2] [.inl 1] h Q := by
  refine R_if dd_sums_20 rfl rfl (fun (c2 : 1 = 0) => ?_) (fun (c2 : 1 ≠ 0) => ?_)
  · exact absurd c2 (by omega)
  · skip
    refine R_ld (v := .inr (.inr 182)) dd_sums_23 rfl rfl rfl rfl ?_
    refine R_bi dd_sums_24 (by decide) rfl ?_
    obtain ⟨c, hc, k⟩ := k
    exact R_call (as := [.inr (.inr 182), .inl 43]) (rest := []) (M' := mm_isSign) (ls0 := [some (.inr (.inr 182)), some (.inl 43)]) dd_sums_26 rfl rfl (cw_v cw_12_213 io_182 rfl rfl (Nat.le_of_ble_eq_true rfl) (Nat.le_of_ble_eq_true rfl)) mt_isSign rfl hc rfl k
theorem B_sums_20_0 {xs : Nat → Int} {xl e : Nat} {h : LH} {Q : Option LV → LH → Prop} {v1 : Int} {o2 : Option LV} (no2 : nL o2) (hF : RF h)
    (k : Q none h) :
    Rn xs xl e mm_sums 20 [some (.inr (.inr 182)), some (.inl v1), o2] [.inl 0] h Q := by
  refine R_if dd_sums_20 rfl rfl (fun (c1 : 0 = 0) => ?_) (fun (c1 : 0 ≠ 0) => ?_)
  · skip
    exact R_vret dd_sums_62 rfl k
  · exact absurd c1 (by omega)
theorem B_sums_29 {xs : Nat → Int} {xl e : Nat} {h : LH} {Q : Option LV → LH → Prop} {v1 w0 : Int} {o2 : Option LV} (no2 : nL o2) (hF : RF h)
    (k : (-2147483648 ≤ (rd h 182 7) + 1 ∧ (rd h 182 7) + 1 ≤ 2147483647) ∧
      (∃ c, c < e ∧ Rn xs xl c mm_products 0 [some (.inr (.inr 182)), some (.inl v1)] [] (wr h 182 7 ((rd h 182 7) + 1)) (fun r h' => Rn xs xl e mm_sums 45 [some (.inr (.inr 182)), some (.inl v1), some (.inl w0)] (r.toList ++ []) h' Q))) :
    Rn xs xl e mm_sums 29 [some (.inr (.inr 182)), some (.inl v1), o2] [.inl w0] h Q := by
  refine R_st (ls' := [some (.inr (.inr 182)), some (.inl v1), some (.inl w0)]) dd_sums_29 rfl rfl rfl (Nat.le_of_ble_eq_true rfl) rfl rfl ?_
  refine R_ld (v := .inr (.inr 182)) dd_sums_30 rfl rfl rfl rfl ?_
  refine R_A dd_sums_31 rfl rfl rfl rfl ?_
  refine R_gf (v := .inl (rd h 182 7)) dd_sums_32 fd_12_207 io_182 (congrArg (fun z : Int => (Sum.inl z : LV)) (rfl)) rfl ?_
  refine R_ic dd_sums_35 (by decide) rfl ?_
  obtain ⟨s1, k⟩ := k
  refine R_iadd (c := (rd h 182 7) + 1) dd_sums_36 (by omega) s1 rfl ?_
  refine R_pf (z := ((rd h 182 7) + 1)) dd_sums_37 fd_12_207 io_182 fn_12_7 rfl rfl ?_
  refine R_ld (v := .inr (.inr 182)) dd_sums_40 rfl rfl rfl rfl ?_
  refine R_ld (v := .inl v1) dd_sums_41 rfl rfl rfl rfl ?_
  obtain ⟨c, hc, k⟩ := k
  exact R_call (as := [.inr (.inr 182), .inl v1]) (rest := []) (M' := mm_products) (ls0 := [some (.inr (.inr 182)), some (.inl v1)]) dd_sums_42 rfl rfl (cw_v cw_12_310 io_182 rfl rfl (Nat.le_of_ble_eq_true rfl) (Nat.le_of_ble_eq_true rfl)) mt_products rfl hc rfl k
theorem B_sums_45 {xs : Nat → Int} {xl e : Nat} {h : LH} {Q : Option LV → LH → Prop} {v1 v2 : Int} (hF : RF h)
    (k : (v2 = 0 →
        (∃ c, c < e ∧ Rn xs xl c mm_emit 0 [some (.inr (.inr 182)), some (.inl 5), some (.inl 0)] [] h (fun r h' => Rn xs xl e mm_sums 59 [some (.inr (.inr 182)), some (.inl v1), some (.inl v2)] (r.toList ++ []) h' Q))) ∧
      (v2 ≠ 0 →
        (∃ c, c < e ∧ Rn xs xl c mm_emit 0 [some (.inr (.inr 182)), some (.inl 4), some (.inl 0)] [] h (fun r h' => Rn xs xl e mm_sums 59 [some (.inr (.inr 182)), some (.inl v1), some (.inl v2)] (r.toList ++ []) h' Q)))) :
    Rn xs xl e mm_sums 45 [some (.inr (.inr 182)), some (.inl v1), some (.inl v2)] [] h Q := by
  refine R_ld (v := .inr (.inr 182)) dd_sums_45 rfl rfl rfl rfl ?_
  refine R_ld (v := .inl v2) dd_sums_46 rfl rfl rfl rfl ?_
  refine R_if dd_sums_47 rfl rfl (fun (c3 : v2 = 0) => ?_) (fun (c3 : v2 ≠ 0) => ?_)
  · replace k := k.1 c3
    refine R_ic dd_sums_54 (by decide) rfl ?_
    refine R_ic dd_sums_55 (by decide) rfl ?_
    obtain ⟨c, hc, k⟩ := k
    exact R_call (as := [.inr (.inr 182), .inl 5, .inl 0]) (rest := []) (M' := mm_emit) (ls0 := [some (.inr (.inr 182)), some (.inl 5), some (.inl 0)]) dd_sums_56 rfl rfl (cw_v cw_12_284 io_182 rfl rfl (Nat.le_of_ble_eq_true rfl) (Nat.le_of_ble_eq_true rfl)) mt_emit rfl hc rfl k
  · replace k := k.2 c3
    refine R_ic dd_sums_50 (by decide) rfl ?_
    refine R_goto dd_sums_51 rfl ?_
    refine R_ic dd_sums_55 (by decide) rfl ?_
    obtain ⟨c, hc, k⟩ := k
    exact R_call (as := [.inr (.inr 182), .inl 4, .inl 0]) (rest := []) (M' := mm_emit) (ls0 := [some (.inr (.inr 182)), some (.inl 4), some (.inl 0)]) dd_sums_56 rfl rfl (cw_v cw_12_284 io_182 rfl rfl (Nat.le_of_ble_eq_true rfl) (Nat.le_of_ble_eq_true rfl)) mt_emit rfl hc rfl k
theorem B_sums_59 {xs : Nat → Int} {xl e : Nat} {h : LH} {Q : Option LV → LH → Prop} {v1 v2 : Int} (hF : RF h)
    (k : Rn xs xl e mm_sums 5 [some (.inr (.inr 182)), some (.inl v1), some (.inl v2)] [] h Q) :
    Rn xs xl e mm_sums 59 [some (.inr (.inr 182)), some (.inl v1), some (.inl v2)] [] h Q := by
  refine R_goto dd_sums_59 rfl ?_
  exact k
theorem B_all_0 {xs : Nat → Int} {xl e : Nat} {h : LH} {Q : Option LV → LH → Prop} {v1 : Int} (hF : RF h)
    (k : (∃ c, c < e ∧ Rn xs xl c mm_test 0 [some (.inr (.inr 182)), some (.inl v1), none] [] h (fun r h' => Rn xs xl e mm_all 5 [some (.inr (.inr 182)), some (.inl v1), none] (r.toList ++ []) h' Q))) :
    Rn xs xl e mm_all 0 [some (.inr (.inr 182)), some (.inl v1), none] [] h Q := by
  refine R_ld (v := .inr (.inr 182)) dd_all_0 rfl rfl rfl rfl ?_
  refine R_ld (v := .inl v1) dd_all_1 rfl rfl rfl rfl ?_
  obtain ⟨c, hc, k⟩ := k
  exact R_call (as := [.inr (.inr 182), .inl v1]) (rest := []) (M' := mm_test) (ls0 := [some (.inr (.inr 182)), some (.inl v1), none]) dd_all_2 rfl rfl (cw_v cw_12_301 io_182 rfl rfl (Nat.le_of_ble_eq_true rfl) (Nat.le_of_ble_eq_true rfl)) mt_test rfl hc rfl k
theorem B_all_5 {xs : Nat → Int} {xl e : Nat} {h : LH} {Q : Option LV → LH → Prop} {v1 : Int} {o2 : Option LV} (no2 : nL o2) (hF : RF h)
    (k : (∃ c, c < e ∧ Rn xs xl c mm_isWord 0 [some (.inr (.inr 182)), some (.inl 23)] [] h (fun r h' => Rn xs xl e mm_all 11 [some (.inr (.inr 182)), some (.inl v1), o2] (r.toList ++ []) h' Q))) :
    Rn xs xl e mm_all 5 [some (.inr (.inr 182)), some (.inl v1), o2] [] h Q := by
  refine R_ld (v := .inr (.inr 182)) dd_all_5 rfl rfl rfl rfl ?_
  refine R_bi dd_all_6 (by decide) rfl ?_
  obtain ⟨c, hc, k⟩ := k
  exact R_call (as := [.inr (.inr 182), .inl 23]) (rest := []) (M' := mm_isWord) (ls0 := [some (.inr (.inr 182)), some (.inl 23)]) dd_all_8 rfl rfl (cw_v cw_12_219 io_182 rfl rfl (Nat.le_of_ble_eq_true rfl) (Nat.le_of_ble_eq_true rfl)) mt_isWord rfl hc rfl k
theorem B_all_11_1 {xs : Nat → Int} {xl e : Nat} {h : LH} {Q : Option LV → LH → Prop} {v1 : Int} {o2 : Option LV} (no2 : nL o2) (hF : RF h)
    (k : (∃ c, c < e ∧ Rn xs xl c mm_isWord 0 [some (.inr (.inr 182)), some (.inl 23)] [] h (fun r h' => Rn xs xl e mm_all 29 [some (.inr (.inr 182)), some (.inl v1), o2] (r.toList ++ []) h' Q))) :
    Rn xs xl e mm_all 11 [some (.inr (.inr 182)), some (.inl v1), o2] [.inl 1] h Q := by
  refine R_if dd_all_11 rfl rfl (fun (c2 : 1 ≠ 0) => ?_) (fun (c2 : 1 = 0) => ?_)
  · skip
    refine R_ld (v := .inr (.inr 182)) dd_all_23 rfl rfl rfl rfl ?_
    refine R_bi dd_all_24 (by decide) rfl ?_
    obtain ⟨c, hc, k⟩ := k
    exact R_call (as := [.inr (.inr 182), .inl 23]) (rest := []) (M' := mm_isWord) (ls0 := [some (.inr (.inr 182)), some (.inl 23)]) dd_all_26 rfl rfl (cw_v cw_12_219 io_182 rfl rfl (Nat.le_of_ble_eq_true rfl) (Nat.le_of_ble_eq_true rfl)) mt_isWord rfl hc rfl k
  · exact absurd c2 (by omega)
theorem B_all_11_0 {xs : Nat → Int} {xl e : Nat} {h : LH} {Q : Option LV → LH → Prop} {v1 : Int} {o2 : Option LV} (no2 : nL o2) (hF : RF h)
    (k : (∃ c, c < e ∧ Rn xs xl c mm_isWord 0 [some (.inr (.inr 182)), some (.inl 24)] [] h (fun r h' => Rn xs xl e mm_all 20 [some (.inr (.inr 182)), some (.inl v1), o2] (r.toList ++ []) h' Q))) :
    Rn xs xl e mm_all 11 [some (.inr (.inr 182)), some (.inl v1), o2] [.inl 0] h Q := by
  refine R_if dd_all_11 rfl rfl (fun (c2 : 0 ≠ 0) => ?_) (fun (c2 : 0 = 0) => ?_)
  · exact absurd c2 (by omega)
  · skip
    refine R_ld (v := .inr (.inr 182)) dd_all_14 rfl rfl rfl rfl ?_
    refine R_bi dd_all_15 (by decide) rfl ?_
    obtain ⟨c, hc, k⟩ := k
    exact R_call (as := [.inr (.inr 182), .inl 24]) (rest := []) (M' := mm_isWord) (ls0 := [some (.inr (.inr 182)), some (.inl 24)]) dd_all_17 rfl rfl (cw_v cw_12_219 io_182 rfl rfl (Nat.le_of_ble_eq_true rfl) (Nat.le_of_ble_eq_true rfl)) mt_isWord rfl hc rfl k
theorem B_all_20_1 {xs : Nat → Int} {xl e : Nat} {h : LH} {Q : Option LV → LH → Prop} {v1 : Int} {o2 : Option LV} (no2 : nL o2) (hF : RF h)
    (k : (∃ c, c < e ∧ Rn xs xl c mm_isWord 0 [some (.inr (.inr 182)), some (.inl 23)] [] h (fun r h' => Rn xs xl e mm_all 29 [some (.inr (.inr 182)), some (.inl v1), o2] (r.toList ++ []) h' Q))) :
    Rn xs xl e mm_all 20 [some (.inr (.inr 182)), some (.inl v1), o2] [.inl 1] h Q := by
  refine R_if dd_all_20 rfl rfl (fun (c2 : 1 = 0) => ?_) (fun (c2 : 1 ≠ 0) => ?_)
  · exact absurd c2 (by omega)
  · skip
    refine R_ld (v := .inr (.inr 182)) dd_all_23 rfl rfl rfl rfl ?_
    refine R_bi dd_all_24 (by decide) rfl ?_
    obtain ⟨c, hc, k⟩ := k
    exact R_call (as := [.inr (.inr 182), .inl 23]) (rest := []) (M' := mm_isWord) (ls0 := [some (.inr (.inr 182)), some (.inl 23)]) dd_all_26 rfl rfl (cw_v cw_12_219 io_182 rfl rfl (Nat.le_of_ble_eq_true rfl) (Nat.le_of_ble_eq_true rfl)) mt_isWord rfl hc rfl k
theorem B_all_20_0 {xs : Nat → Int} {xl e : Nat} {h : LH} {Q : Option LV → LH → Prop} {v1 : Int} {o2 : Option LV} (no2 : nL o2) (hF : RF h)
    (k : Q none h) :
    Rn xs xl e mm_all 20 [some (.inr (.inr 182)), some (.inl v1), o2] [.inl 0] h Q := by
  refine R_if dd_all_20 rfl rfl (fun (c1 : 0 = 0) => ?_) (fun (c1 : 0 ≠ 0) => ?_)
  · skip
    exact R_vret dd_all_64 rfl k
  · exact absurd c1 (by omega)
theorem B_all_29 {xs : Nat → Int} {xl e : Nat} {h : LH} {Q : Option LV → LH → Prop} {v1 w0 : Int} {o2 : Option LV} (no2 : nL o2) (hF : RF h)
    (k : (-2147483648 ≤ (rd h 182 7) + 1 ∧ (rd h 182 7) + 1 ≤ 2147483647) ∧
      (∃ c, c < e ∧ Rn xs xl c mm_test 0 [some (.inr (.inr 182)), some (.inl v1), none] [] (wr h 182 7 ((rd h 182 7) + 1)) (fun r h' => Rn xs xl e mm_all 45 [some (.inr (.inr 182)), some (.inl v1), some (.inl w0)] (r.toList ++ []) h' Q))) :
    Rn xs xl e mm_all 29 [some (.inr (.inr 182)), some (.inl v1), o2] [.inl w0] h Q := by
  refine R_st (ls' := [some (.inr (.inr 182)), some (.inl v1), some (.inl w0)]) dd_all_29 rfl rfl rfl (Nat.le_of_ble_eq_true rfl) rfl rfl ?_
  refine R_ld (v := .inr (.inr 182)) dd_all_30 rfl rfl rfl rfl ?_
  refine R_A dd_all_31 rfl rfl rfl rfl ?_
  refine R_gf (v := .inl (rd h 182 7)) dd_all_32 fd_12_207 io_182 (congrArg (fun z : Int => (Sum.inl z : LV)) (rfl)) rfl ?_
  refine R_ic dd_all_35 (by decide) rfl ?_
  obtain ⟨s1, k⟩ := k
  refine R_iadd (c := (rd h 182 7) + 1) dd_all_36 (by omega) s1 rfl ?_
  refine R_pf (z := ((rd h 182 7) + 1)) dd_all_37 fd_12_207 io_182 fn_12_7 rfl rfl ?_
  refine R_ld (v := .inr (.inr 182)) dd_all_40 rfl rfl rfl rfl ?_
  refine R_ld (v := .inl v1) dd_all_41 rfl rfl rfl rfl ?_
  obtain ⟨c, hc, k⟩ := k
  exact R_call (as := [.inr (.inr 182), .inl v1]) (rest := []) (M' := mm_test) (ls0 := [some (.inr (.inr 182)), some (.inl v1), none]) dd_all_42 rfl rfl (cw_v cw_12_301 io_182 rfl rfl (Nat.le_of_ble_eq_true rfl) (Nat.le_of_ble_eq_true rfl)) mt_test rfl hc rfl k
theorem B_all_45 {xs : Nat → Int} {xl e : Nat} {h : LH} {Q : Option LV → LH → Prop} {v1 v2 : Int} (hF : RF h)
    (k : (v2 = 0 →
        (∃ c, c < e ∧ Rn xs xl c mm_emit 0 [some (.inr (.inr 182)), some (.inl 10), some (.inl 0)] [] h (fun r h' => Rn xs xl e mm_all 61 [some (.inr (.inr 182)), some (.inl v1), some (.inl v2)] (r.toList ++ []) h' Q))) ∧
      (v2 ≠ 0 →
        (∃ c, c < e ∧ Rn xs xl c mm_emit 0 [some (.inr (.inr 182)), some (.inl 9), some (.inl 0)] [] h (fun r h' => Rn xs xl e mm_all 61 [some (.inr (.inr 182)), some (.inl v1), some (.inl v2)] (r.toList ++ []) h' Q)))) :
    Rn xs xl e mm_all 45 [some (.inr (.inr 182)), some (.inl v1), some (.inl v2)] [] h Q := by
  refine R_ld (v := .inr (.inr 182)) dd_all_45 rfl rfl rfl rfl ?_
  refine R_ld (v := .inl v2) dd_all_46 rfl rfl rfl rfl ?_
  refine R_if dd_all_47 rfl rfl (fun (c3 : v2 = 0) => ?_) (fun (c3 : v2 ≠ 0) => ?_)
  · replace k := k.1 c3
    refine R_bi dd_all_55 (by decide) rfl ?_
    refine R_ic dd_all_57 (by decide) rfl ?_
    obtain ⟨c, hc, k⟩ := k
    exact R_call (as := [.inr (.inr 182), .inl 10, .inl 0]) (rest := []) (M' := mm_emit) (ls0 := [some (.inr (.inr 182)), some (.inl 10), some (.inl 0)]) dd_all_58 rfl rfl (cw_v cw_12_284 io_182 rfl rfl (Nat.le_of_ble_eq_true rfl) (Nat.le_of_ble_eq_true rfl)) mt_emit rfl hc rfl k
  · replace k := k.2 c3
    refine R_bi dd_all_50 (by decide) rfl ?_
    refine R_goto dd_all_52 rfl ?_
    refine R_ic dd_all_57 (by decide) rfl ?_
    obtain ⟨c, hc, k⟩ := k
    exact R_call (as := [.inr (.inr 182), .inl 9, .inl 0]) (rest := []) (M' := mm_emit) (ls0 := [some (.inr (.inr 182)), some (.inl 9), some (.inl 0)]) dd_all_58 rfl rfl (cw_v cw_12_284 io_182 rfl rfl (Nat.le_of_ble_eq_true rfl) (Nat.le_of_ble_eq_true rfl)) mt_emit rfl hc rfl k
theorem B_all_61 {xs : Nat → Int} {xl e : Nat} {h : LH} {Q : Option LV → LH → Prop} {v1 v2 : Int} (hF : RF h)
    (k : Rn xs xl e mm_all 5 [some (.inr (.inr 182)), some (.inl v1), some (.inl v2)] [] h Q) :
    Rn xs xl e mm_all 61 [some (.inr (.inr 182)), some (.inl v1), some (.inl v2)] [] h Q := by
  refine R_goto dd_all_61 rfl ?_
  exact k
theorem B_test_0 {xs : Nat → Int} {xl e : Nat} {h : LH} {Q : Option LV → LH → Prop} {v1 : Int} (hF : RF h)
    (k : (∃ c, c < e ∧ Rn xs xl c mm_sums 0 [some (.inr (.inr 182)), some (.inl v1), none] [] h (fun r h' => Rn xs xl e mm_test 5 [some (.inr (.inr 182)), some (.inl v1), none] (r.toList ++ []) h' Q))) :
    Rn xs xl e mm_test 0 [some (.inr (.inr 182)), some (.inl v1), none] [] h Q := by
  refine R_ld (v := .inr (.inr 182)) dd_test_0 rfl rfl rfl rfl ?_
  refine R_ld (v := .inl v1) dd_test_1 rfl rfl rfl rfl ?_
  obtain ⟨c, hc, k⟩ := k
  exact R_call (as := [.inr (.inr 182), .inl v1]) (rest := []) (M' := mm_sums) (ls0 := [some (.inr (.inr 182)), some (.inl v1), none]) dd_test_2 rfl rfl (cw_v cw_12_304 io_182 rfl rfl (Nat.le_of_ble_eq_true rfl) (Nat.le_of_ble_eq_true rfl)) mt_sums rfl hc rfl k
theorem B_test_5 {xs : Nat → Int} {xl e : Nat} {h : LH} {Q : Option LV → LH → Prop} {v1 : Int} (hF : RF h)
    (k : (∃ c, c < e ∧ Rn xs xl c mm_isSign 0 [some (.inr (.inr 182)), some (.inl 60)] [] h (fun r h' => Rn xs xl e mm_test 11 [some (.inr (.inr 182)), some (.inl v1), none] (r.toList ++ []) h' Q))) :
    Rn xs xl e mm_test 5 [some (.inr (.inr 182)), some (.inl v1), none] [] h Q := by
  refine R_ld (v := .inr (.inr 182)) dd_test_5 rfl rfl rfl rfl ?_
  refine R_bi dd_test_6 (by decide) rfl ?_
  obtain ⟨c, hc, k⟩ := k
  exact R_call (as := [.inr (.inr 182), .inl 60]) (rest := []) (M' := mm_isSign) (ls0 := [some (.inr (.inr 182)), some (.inl 60)]) dd_test_8 rfl rfl (cw_v cw_12_213 io_182 rfl rfl (Nat.le_of_ble_eq_true rfl) (Nat.le_of_ble_eq_true rfl)) mt_isSign rfl hc rfl k
theorem B_test_11 {xs : Nat → Int} {xl e : Nat} {h : LH} {Q : Option LV → LH → Prop} {v1 w0 : Int} (hF : RF h)
    (k : (∃ c, c < e ∧ Rn xs xl c mm_hasSign 0 [some (.inr (.inr 182)), some (.inl 60), none] [] h (fun r h' => Rn xs xl e mm_test 18 [some (.inr (.inr 182)), some (.inl v1), some (.inl w0)] (r.toList ++ []) h' Q))) :
    Rn xs xl e mm_test 11 [some (.inr (.inr 182)), some (.inl v1), none] [.inl w0] h Q := by
  refine R_st (ls' := [some (.inr (.inr 182)), some (.inl v1), some (.inl w0)]) dd_test_11 rfl rfl rfl (Nat.le_of_ble_eq_true rfl) rfl rfl ?_
  refine R_ld (v := .inr (.inr 182)) dd_test_12 rfl rfl rfl rfl ?_
  refine R_bi dd_test_13 (by decide) rfl ?_
  obtain ⟨c, hc, k⟩ := k
  exact R_call (as := [.inr (.inr 182), .inl 60]) (rest := []) (M' := mm_hasSign) (ls0 := [some (.inr (.inr 182)), some (.inl 60), none]) dd_test_15 rfl rfl (cw_v cw_12_307 io_182 rfl rfl (Nat.le_of_ble_eq_true rfl) (Nat.le_of_ble_eq_true rfl)) mt_hasSign rfl hc rfl k
theorem B_test_18_1 {xs : Nat → Int} {xl e : Nat} {h : LH} {Q : Option LV → LH → Prop} {v1 v2 : Int} (hF : RF h)
    (k : (∃ c, c < e ∧ Rn xs xl c mm_sums 0 [some (.inr (.inr 182)), some (.inl v1), none] [] h (fun r h' => Rn xs xl e mm_test 35 [some (.inr (.inr 182)), some (.inl v1), some (.inl v2)] (r.toList ++ []) h' Q))) :
    Rn xs xl e mm_test 18 [some (.inr (.inr 182)), some (.inl v1), some (.inl v2)] [.inl 1] h Q := by
  refine R_if dd_test_18 rfl rfl (fun (c2 : 1 ≠ 0) => ?_) (fun (c2 : 1 = 0) => ?_)
  · skip
    refine R_ld (v := .inr (.inr 182)) dd_test_30 rfl rfl rfl rfl ?_
    refine R_ld (v := .inl v1) dd_test_31 rfl rfl rfl rfl ?_
    obtain ⟨c, hc, k⟩ := k
    exact R_call (as := [.inr (.inr 182), .inl v1]) (rest := []) (M' := mm_sums) (ls0 := [some (.inr (.inr 182)), some (.inl v1), none]) dd_test_32 rfl rfl (cw_v cw_12_304 io_182 rfl rfl (Nat.le_of_ble_eq_true rfl) (Nat.le_of_ble_eq_true rfl)) mt_sums rfl hc rfl k
  · exact absurd c2 (by omega)
theorem B_test_18_0 {xs : Nat → Int} {xl e : Nat} {h : LH} {Q : Option LV → LH → Prop} {v1 v2 : Int} (hF : RF h)
    (k : (∃ c, c < e ∧ Rn xs xl c mm_hasSign 0 [some (.inr (.inr 182)), some (.inl 61), none] [] h (fun r h' => Rn xs xl e mm_test 27 [some (.inr (.inr 182)), some (.inl v1), some (.inl v2)] (r.toList ++ []) h' Q))) :
    Rn xs xl e mm_test 18 [some (.inr (.inr 182)), some (.inl v1), some (.inl v2)] [.inl 0] h Q := by
  refine R_if dd_test_18 rfl rfl (fun (c2 : 0 ≠ 0) => ?_) (fun (c2 : 0 = 0) => ?_)
  · exact absurd c2 (by omega)
  · skip
    refine R_ld (v := .inr (.inr 182)) dd_test_21 rfl rfl rfl rfl ?_
    refine R_bi dd_test_22 (by decide) rfl ?_
    obtain ⟨c, hc, k⟩ := k
    exact R_call (as := [.inr (.inr 182), .inl 61]) (rest := []) (M' := mm_hasSign) (ls0 := [some (.inr (.inr 182)), some (.inl 61), none]) dd_test_24 rfl rfl (cw_v cw_12_307 io_182 rfl rfl (Nat.le_of_ble_eq_true rfl) (Nat.le_of_ble_eq_true rfl)) mt_hasSign rfl hc rfl k
theorem B_test_27_1 {xs : Nat → Int} {xl e : Nat} {h : LH} {Q : Option LV → LH → Prop} {v1 v2 : Int} (hF : RF h)
    (k : (∃ c, c < e ∧ Rn xs xl c mm_sums 0 [some (.inr (.inr 182)), some (.inl v1), none] [] h (fun r h' => Rn xs xl e mm_test 35 [some (.inr (.inr 182)), some (.inl v1), some (.inl v2)] (r.toList ++ []) h' Q))) :
    Rn xs xl e mm_test 27 [some (.inr (.inr 182)), some (.inl v1), some (.inl v2)] [.inl 1] h Q := by
  refine R_if dd_test_27 rfl rfl (fun (c2 : 1 = 0) => ?_) (fun (c2 : 1 ≠ 0) => ?_)
  · exact absurd c2 (by omega)
  · skip
    refine R_ld (v := .inr (.inr 182)) dd_test_30 rfl rfl rfl rfl ?_
    refine R_ld (v := .inl v1) dd_test_31 rfl rfl rfl rfl ?_
    obtain ⟨c, hc, k⟩ := k
    exact R_call (as := [.inr (.inr 182), .inl v1]) (rest := []) (M' := mm_sums) (ls0 := [some (.inr (.inr 182)), some (.inl v1), none]) dd_test_32 rfl rfl (cw_v cw_12_304 io_182 rfl rfl (Nat.le_of_ble_eq_true rfl) (Nat.le_of_ble_eq_true rfl)) mt_sums rfl hc rfl k
theorem B_test_27_0 {xs : Nat → Int} {xl e : Nat} {h : LH} {Q : Option LV → LH → Prop} {v1 v2 : Int} (hF : RF h)
    (k : Q none h) :
    Rn xs xl e mm_test 27 [some (.inr (.inr 182)), some (.inl v1), some (.inl v2)] [.inl 0] h Q := by
  refine R_if dd_test_27 rfl rfl (fun (c1 : 0 = 0) => ?_) (fun (c1 : 0 ≠ 0) => ?_)
  · skip
    exact R_vret dd_test_51 rfl k
  · exact absurd c1 (by omega)
theorem B_test_35 {xs : Nat → Int} {xl e : Nat} {h : LH} {Q : Option LV → LH → Prop} {v1 v2 : Int} (hF : RF h)
    (k : (v2 = 0 →
        (∃ c, c < e ∧ Rn xs xl c mm_emit 0 [some (.inr (.inr 182)), some (.inl 8), some (.inl 0)] [] h (fun r h' => Rn xs xl e mm_test 51 [some (.inr (.inr 182)), some (.inl v1), some (.inl v2)] (r.toList ++ []) h' Q))) ∧
      (v2 ≠ 0 →
        (∃ c, c < e ∧ Rn xs xl c mm_emit 0 [some (.inr (.inr 182)), some (.inl 7), some (.inl 0)] [] h (fun r h' => Rn xs xl e mm_test 51 [some (.inr (.inr 182)), some (.inl v1), some (.inl v2)] (r.toList ++ []) h' Q)))) :
    Rn xs xl e mm_test 35 [some (.inr (.inr 182)), some (.inl v1), some (.inl v2)] [] h Q := by
  refine R_ld (v := .inr (.inr 182)) dd_test_35 rfl rfl rfl rfl ?_
  refine R_ld (v := .inl v2) dd_test_36 rfl rfl rfl rfl ?_
  refine R_if dd_test_37 rfl rfl (fun (c3 : v2 = 0) => ?_) (fun (c3 : v2 ≠ 0) => ?_)
  · replace k := k.1 c3
    refine R_bi dd_test_45 (by decide) rfl ?_
    refine R_ic dd_test_47 (by decide) rfl ?_
    obtain ⟨c, hc, k⟩ := k
    exact R_call (as := [.inr (.inr 182), .inl 8, .inl 0]) (rest := []) (M' := mm_emit) (ls0 := [some (.inr (.inr 182)), some (.inl 8), some (.inl 0)]) dd_test_48 rfl rfl (cw_v cw_12_284 io_182 rfl rfl (Nat.le_of_ble_eq_true rfl) (Nat.le_of_ble_eq_true rfl)) mt_emit rfl hc rfl k
  · replace k := k.2 c3
    refine R_bi dd_test_40 (by decide) rfl ?_
    refine R_goto dd_test_42 rfl ?_
    refine R_ic dd_test_47 (by decide) rfl ?_
    obtain ⟨c, hc, k⟩ := k
    exact R_call (as := [.inr (.inr 182), .inl 7, .inl 0]) (rest := []) (M' := mm_emit) (ls0 := [some (.inr (.inr 182)), some (.inl 7), some (.inl 0)]) dd_test_48 rfl rfl (cw_v cw_12_284 io_182 rfl rfl (Nat.le_of_ble_eq_true rfl) (Nat.le_of_ble_eq_true rfl)) mt_emit rfl hc rfl k
theorem B_test_51 {xs : Nat → Int} {xl e : Nat} {h : LH} {Q : Option LV → LH → Prop} {v1 v2 : Int} (hF : RF h)
    (k : Q none h) :
    Rn xs xl e mm_test 51 [some (.inr (.inr 182)), some (.inl v1), some (.inl v2)] [] h Q := by
  exact R_vret dd_test_51 rfl k
theorem B_takePart_0 {xs : Nat → Int} {xl e : Nat} {h : LH} {Q : Option LV → LH → Prop} {v1 : Int} (hF : RF h)
    (k : ((rd h 182 8) ≤ 0 →
        (0 ≤ (rd h 182 7) ∧ (rd h 182 7) < 1002) ∧
        ((rd h 184 (rd h 182 7)) ≠ 2 →
          (∃ c, c < e ∧ Rn xs xl c mm_wordHere 0 [some (.inr (.inr 182)), some (.inl 25), some (.inl 4), none, none] [] h (fun r h' => Rn xs xl e mm_takePart 34 [some (.inr (.inr 182)), some (.inl v1), some (.inl 0), none] (r.toList ++ []) h' Q))) ∧
        ((rd h 184 (rd h 182 7)) = 2 →
          (∃ c, c < e ∧ Rn xs xl c mm_wordHere 0 [some (.inr (.inr 182)), some (.inl 25), some (.inl 4), none, none] [] h (fun r h' => Rn xs xl e mm_takePart 34 [some (.inr (.inr 182)), some (.inl v1), some (.inl 1), none] (r.toList ++ []) h' Q)))) ∧
      (0 < (rd h 182 8) →
        Q none h)) :
    Rn xs xl e mm_takePart 0 [some (.inr (.inr 182)), some (.inl v1), none, none] [] h Q := by
  refine R_ld (v := .inr (.inr 182)) dd_takePart_0 rfl rfl rfl rfl ?_
  refine R_gf (v := .inl (rd h 182 8)) dd_takePart_1 fd_12_210 io_182 (congrArg (fun z : Int => (Sum.inl z : LV)) (rfl)) rfl ?_
  refine R_if dd_takePart_4 rfl rfl (fun (c4 : (rd h 182 8) ≤ 0) => ?_) (fun (c4 : 0 < (rd h 182 8)) => ?_)
  · replace k := k.1 c4
    refine R_ld (v := .inr (.inr 182)) dd_takePart_8 rfl rfl rfl rfl ?_
    refine R_gf (v := .inr (.inr 184)) dd_takePart_9 fd_12_24 io_182 (congrArg (fun z : Int => (Sum.inr (Sum.inr z) : LV)) (rf_182_4 hF)) rfl ?_
    refine R_ld (v := .inr (.inr 182)) dd_takePart_12 rfl rfl rfl rfl ?_
    refine R_gf (v := .inl (rd h 182 7)) dd_takePart_13 fd_12_207 io_182 (congrArg (fun z : Int => (Sum.inl z : LV)) (rfl)) rfl ?_
    obtain ⟨s1, k⟩ := k
    refine R_iald (v := (rd h 184 (rd h 182 7))) (n := 1002) dd_takePart_16 ia_184 la_184 s1 (rfl) rfl ?_
    refine R_ic dd_takePart_17 (by decide) rfl ?_
    refine R_icmp dd_takePart_18 rfl rfl (fun (c5 : (rd h 184 (rd h 182 7)) ≠ 2) => ?_) (fun (c5 : (rd h 184 (rd h 182 7)) = 2) => ?_)
    · replace k := k.1 c5
      refine R_ic dd_takePart_25 (by decide) rfl ?_
      refine R_st (ls' := [some (.inr (.inr 182)), some (.inl v1), some (.inl 0), none]) dd_takePart_26 rfl rfl rfl (Nat.le_of_ble_eq_true rfl) rfl rfl ?_
      refine R_ld (v := .inr (.inr 182)) dd_takePart_27 rfl rfl rfl rfl ?_
      refine R_bi dd_takePart_28 (by decide) rfl ?_
      refine R_ic dd_takePart_30 (by decide) rfl ?_
      obtain ⟨c, hc, k⟩ := k
      exact R_call (as := [.inr (.inr 182), .inl 25, .inl 4]) (rest := []) (M' := mm_wordHere) (ls0 := [some (.inr (.inr 182)), some (.inl 25), some (.inl 4), none, none]) dd_takePart_31 rfl rfl (cw_v cw_12_232 io_182 rfl rfl (Nat.le_of_ble_eq_true rfl) (Nat.le_of_ble_eq_true rfl)) mt_wordHere rfl hc rfl k
    · replace k := k.2 c5
      refine R_ic dd_takePart_21 (by decide) rfl ?_
      refine R_goto dd_takePart_22 rfl ?_
      refine R_st (ls' := [some (.inr (.inr 182)), some (.inl v1), some (.inl 1), none]) dd_takePart_26 rfl rfl rfl (Nat.le_of_ble_eq_true rfl) rfl rfl ?_
      refine R_ld (v := .inr (.inr 182)) dd_takePart_27 rfl rfl rfl rfl ?_
      refine R_bi dd_takePart_28 (by decide) rfl ?_
      refine R_ic dd_takePart_30 (by decide) rfl ?_
      obtain ⟨c, hc, k⟩ := k
      exact R_call (as := [.inr (.inr 182), .inl 25, .inl 4]) (rest := []) (M' := mm_wordHere) (ls0 := [some (.inr (.inr 182)), some (.inl 25), some (.inl 4), none, none]) dd_takePart_31 rfl rfl (cw_v cw_12_232 io_182 rfl rfl (Nat.le_of_ble_eq_true rfl) (Nat.le_of_ble_eq_true rfl)) mt_wordHere rfl hc rfl k
  · replace k := k.2 c4
    exact R_vret dd_takePart_7 rfl k
theorem B_takePart_34 {xs : Nat → Int} {xl e : Nat} {h : LH} {Q : Option LV → LH → Prop} {v1 v2 w0 : Int} (hF : RF h)
    (k : (0 ≤ w0 →
        Rn xs xl e mm_takePart 69 [some (.inr (.inr 182)), some (.inl v1), some (.inl v2), some (.inl w0)] [] h Q) ∧
      (w0 < 0 →
        (v2 ≠ 0 →
          Rn xs xl e mm_takePart 69 [some (.inr (.inr 182)), some (.inl v1), some (.inl v2), some (.inl w0)] [] h Q) ∧
        (v2 = 0 →
          (∃ c, c < e ∧ Rn xs xl c mm_isSign 0 [some (.inr (.inr 182)), some (.inl 40)] [] h (fun r h' => Rn xs xl e mm_takePart 49 [some (.inr (.inr 182)), some (.inl v1), some (.inl v2), some (.inl w0)] (r.toList ++ []) h' Q))))) :
    Rn xs xl e mm_takePart 34 [some (.inr (.inr 182)), some (.inl v1), some (.inl v2), none] [.inl w0] h Q := by
  refine R_st (ls' := [some (.inr (.inr 182)), some (.inl v1), some (.inl v2), some (.inl w0)]) dd_takePart_34 rfl rfl rfl (Nat.le_of_ble_eq_true rfl) rfl rfl ?_
  refine R_ld (v := .inl w0) dd_takePart_35 rfl rfl rfl rfl ?_
  refine R_if dd_takePart_36 rfl rfl (fun (c2 : 0 ≤ w0) => ?_) (fun (c2 : w0 < 0) => ?_)
  · replace k := k.1 c2
    exact k
  · replace k := k.2 c2
    refine R_ld (v := .inl v2) dd_takePart_39 rfl rfl rfl rfl ?_
    refine R_if dd_takePart_40 rfl rfl (fun (c3 : v2 ≠ 0) => ?_) (fun (c3 : v2 = 0) => ?_)
    · replace k := k.1 c3
      exact k
    · replace k := k.2 c3
      refine R_ld (v := .inr (.inr 182)) dd_takePart_43 rfl rfl rfl rfl ?_
      refine R_bi dd_takePart_44 (by decide) rfl ?_
      obtain ⟨c, hc, k⟩ := k
      exact R_call (as := [.inr (.inr 182), .inl 40]) (rest := []) (M' := mm_isSign) (ls0 := [some (.inr (.inr 182)), some (.inl 40)]) dd_takePart_46 rfl rfl (cw_v cw_12_213 io_182 rfl rfl (Nat.le_of_ble_eq_true rfl) (Nat.le_of_ble_eq_true rfl)) mt_isSign rfl hc rfl k
theorem B_takePart_49_1 {xs : Nat → Int} {xl e : Nat} {h : LH} {Q : Option LV → LH → Prop} {v1 v2 v3 : Int} (hF : RF h)
    (k : Rn xs xl e mm_takePart 69 [some (.inr (.inr 182)), some (.inl v1), some (.inl v2), some (.inl v3)] [] h Q) :
    Rn xs xl e mm_takePart 49 [some (.inr (.inr 182)), some (.inl v1), some (.inl v2), some (.inl v3)] [.inl 1] h Q := by
  refine R_if dd_takePart_49 rfl rfl (fun (c1 : 1 ≠ 0) => ?_) (fun (c1 : 1 = 0) => ?_)
  · skip
    exact k
  · exact absurd c1 (by omega)
theorem B_takePart_49_0 {xs : Nat → Int} {xl e : Nat} {h : LH} {Q : Option LV → LH → Prop} {v1 v2 v3 : Int} (hF : RF h)
    (k : (∃ c, c < e ∧ Rn xs xl c mm_isWord 0 [some (.inr (.inr 182)), some (.inl 22)] [] h (fun r h' => Rn xs xl e mm_takePart 58 [some (.inr (.inr 182)), some (.inl v1), some (.inl v2), some (.inl v3)] (r.toList ++ []) h' Q))) :
    Rn xs xl e mm_takePart 49 [some (.inr (.inr 182)), some (.inl v1), some (.inl v2), some (.inl v3)] [.inl 0] h Q := by
  refine R_if dd_takePart_49 rfl rfl (fun (c2 : 0 ≠ 0) => ?_) (fun (c2 : 0 = 0) => ?_)
  · exact absurd c2 (by omega)
  · skip
    refine R_ld (v := .inr (.inr 182)) dd_takePart_52 rfl rfl rfl rfl ?_
    refine R_bi dd_takePart_53 (by decide) rfl ?_
    obtain ⟨c, hc, k⟩ := k
    exact R_call (as := [.inr (.inr 182), .inl 22]) (rest := []) (M' := mm_isWord) (ls0 := [some (.inr (.inr 182)), some (.inl 22)]) dd_takePart_55 rfl rfl (cw_v cw_12_219 io_182 rfl rfl (Nat.le_of_ble_eq_true rfl) (Nat.le_of_ble_eq_true rfl)) mt_isWord rfl hc rfl k
theorem B_takePart_58_1 {xs : Nat → Int} {xl e : Nat} {h : LH} {Q : Option LV → LH → Prop} {v1 v2 v3 : Int} (hF : RF h)
    (k : Rn xs xl e mm_takePart 69 [some (.inr (.inr 182)), some (.inl v1), some (.inl v2), some (.inl v3)] [] h Q) :
    Rn xs xl e mm_takePart 58 [some (.inr (.inr 182)), some (.inl v1), some (.inl v2), some (.inl v3)] [.inl 1] h Q := by
  refine R_if dd_takePart_58 rfl rfl (fun (c1 : 1 ≠ 0) => ?_) (fun (c1 : 1 = 0) => ?_)
  · skip
    exact k
  · exact absurd c1 (by omega)
theorem B_takePart_58_0 {xs : Nat → Int} {xl e : Nat} {h : LH} {Q : Option LV → LH → Prop} {v1 v2 v3 : Int} (hF : RF h)
    (k : (∃ c, c < e ∧ Rn xs xl c mm_wrong 0 [some (.inr (.inr 182)), some (.inl 1)] [] h (fun r h' => Rn xs xl e mm_takePart 66 [some (.inr (.inr 182)), some (.inl v1), some (.inl v2), some (.inl v3)] (r.toList ++ []) h' Q))) :
    Rn xs xl e mm_takePart 58 [some (.inr (.inr 182)), some (.inl v1), some (.inl v2), some (.inl v3)] [.inl 0] h Q := by
  refine R_if dd_takePart_58 rfl rfl (fun (c2 : 0 ≠ 0) => ?_) (fun (c2 : 0 = 0) => ?_)
  · exact absurd c2 (by omega)
  · skip
    refine R_ld (v := .inr (.inr 182)) dd_takePart_61 rfl rfl rfl rfl ?_
    refine R_ic dd_takePart_62 (by decide) rfl ?_
    obtain ⟨c, hc, k⟩ := k
    exact R_call (as := [.inr (.inr 182), .inl 1]) (rest := []) (M' := mm_wrong) (ls0 := [some (.inr (.inr 182)), some (.inl 1)]) dd_takePart_63 rfl rfl (cw_v cw_12_216 io_182 rfl rfl (Nat.le_of_ble_eq_true rfl) (Nat.le_of_ble_eq_true rfl)) mt_wrong rfl hc rfl k
theorem B_takePart_66 {xs : Nat → Int} {xl e : Nat} {h : LH} {Q : Option LV → LH → Prop} {v1 v2 v3 : Int} (hF : RF h)
    (k : Rn xs xl e mm_takePart 79 [some (.inr (.inr 182)), some (.inl v1), some (.inl v2), some (.inl v3)] [] h Q) :
    Rn xs xl e mm_takePart 66 [some (.inr (.inr 182)), some (.inl v1), some (.inl v2), some (.inl v3)] [] h Q := by
  refine R_goto dd_takePart_66 rfl ?_
  exact k
theorem B_takePart_69 {xs : Nat → Int} {xl e : Nat} {h : LH} {Q : Option LV → LH → Prop} {v1 v2 v3 : Int} (hF : RF h)
    (k : (v1 ≠ 5 →
        Rn xs xl e mm_takePart 79 [some (.inr (.inr 182)), some (.inl v1), some (.inl v2), some (.inl v3)] [] h Q) ∧
      (v1 = 5 →
        (∃ c, c < e ∧ Rn xs xl c mm_wrong 0 [some (.inr (.inr 182)), some (.inl 5)] [] h (fun r h' => Rn xs xl e mm_takePart 79 [some (.inr (.inr 182)), some (.inl v1), some (.inl v2), some (.inl v3)] (r.toList ++ []) h' Q)))) :
    Rn xs xl e mm_takePart 69 [some (.inr (.inr 182)), some (.inl v1), some (.inl v2), some (.inl v3)] [] h Q := by
  refine R_ld (v := .inl v1) dd_takePart_69 rfl rfl rfl rfl ?_
  refine R_ic dd_takePart_70 (by decide) rfl ?_
  refine R_icmp dd_takePart_71 rfl rfl (fun (c2 : v1 ≠ 5) => ?_) (fun (c2 : v1 = 5) => ?_)
  · replace k := k.1 c2
    exact k
  · replace k := k.2 c2
    refine R_ld (v := .inr (.inr 182)) dd_takePart_74 rfl rfl rfl rfl ?_
    refine R_ic dd_takePart_75 (by decide) rfl ?_
    obtain ⟨c, hc, k⟩ := k
    exact R_call (as := [.inr (.inr 182), .inl 5]) (rest := []) (M' := mm_wrong) (ls0 := [some (.inr (.inr 182)), some (.inl 5)]) dd_takePart_76 rfl rfl (cw_v cw_12_216 io_182 rfl rfl (Nat.le_of_ble_eq_true rfl) (Nat.le_of_ble_eq_true rfl)) mt_wrong rfl hc rfl k
theorem B_takePart_79 {xs : Nat → Int} {xl e : Nat} {h : LH} {Q : Option LV → LH → Prop} {v1 v2 v3 : Int} (hF : RF h)
    (k : ((rd h 182 8) ≤ 0 →
        (∃ c, c < e ∧ Rn xs xl c mm_hasWord 0 [some (.inr (.inr 182)), some (.inl 22), none] [] h (fun r h' => Rn xs xl e mm_takePart 93 [some (.inr (.inr 182)), some (.inl v1), some (.inl v2), some (.inl v3)] (r.toList ++ []) h' Q))) ∧
      (0 < (rd h 182 8) →
        Q none h)) :
    Rn xs xl e mm_takePart 79 [some (.inr (.inr 182)), some (.inl v1), some (.inl v2), some (.inl v3)] [] h Q := by
  refine R_ld (v := .inr (.inr 182)) dd_takePart_79 rfl rfl rfl rfl ?_
  refine R_gf (v := .inl (rd h 182 8)) dd_takePart_80 fd_12_210 io_182 (congrArg (fun z : Int => (Sum.inl z : LV)) (rfl)) rfl ?_
  refine R_if dd_takePart_83 rfl rfl (fun (c2 : (rd h 182 8) ≤ 0) => ?_) (fun (c2 : 0 < (rd h 182 8)) => ?_)
  · replace k := k.1 c2
    refine R_ld (v := .inr (.inr 182)) dd_takePart_87 rfl rfl rfl rfl ?_
    refine R_bi dd_takePart_88 (by decide) rfl ?_
    obtain ⟨c, hc, k⟩ := k
    exact R_call (as := [.inr (.inr 182), .inl 22]) (rest := []) (M' := mm_hasWord) (ls0 := [some (.inr (.inr 182)), some (.inl 22), none]) dd_takePart_90 rfl rfl (cw_v cw_12_222 io_182 rfl rfl (Nat.le_of_ble_eq_true rfl) (Nat.le_of_ble_eq_true rfl)) mt_hasWord rfl hc rfl k
  · replace k := k.2 c2
    exact R_vret dd_takePart_86 rfl k
theorem B_takePart_93_1 {xs : Nat → Int} {xl e : Nat} {h : LH} {Q : Option LV → LH → Prop} {v1 v2 v3 : Int} (hF : RF h)
    (k : (-2147483648 ≤ v1 + 1 ∧ v1 + 1 ≤ 2147483647) ∧
      (∃ c, c < e ∧ Rn xs xl c mm_takePart 0 [some (.inr (.inr 182)), some (.inl (v1 + 1)), none, none] [] h (fun r h' => Rn xs xl e mm_takePart 103 [some (.inr (.inr 182)), some (.inl v1), some (.inl v2), some (.inl v3)] (r.toList ++ []) h' Q))) :
    Rn xs xl e mm_takePart 93 [some (.inr (.inr 182)), some (.inl v1), some (.inl v2), some (.inl v3)] [.inl 1] h Q := by
  refine R_if dd_takePart_93 rfl rfl (fun (c3 : 1 = 0) => ?_) (fun (c3 : 1 ≠ 0) => ?_)
  · exact absurd c3 (by omega)
  · skip
    refine R_ld (v := .inr (.inr 182)) dd_takePart_96 rfl rfl rfl rfl ?_
    refine R_ld (v := .inl v1) dd_takePart_97 rfl rfl rfl rfl ?_
    refine R_ic dd_takePart_98 (by decide) rfl ?_
    obtain ⟨s1, k⟩ := k
    refine R_iadd (c := v1 + 1) dd_takePart_99 (by omega) s1 rfl ?_
    obtain ⟨c, hc, k⟩ := k
    exact R_call (as := [.inr (.inr 182), .inl (v1 + 1)]) (rest := []) (M' := mm_takePart) (ls0 := [some (.inr (.inr 182)), some (.inl (v1 + 1)), none, none]) dd_takePart_100 rfl rfl (cw_v cw_12_313 io_182 rfl rfl (Nat.le_of_ble_eq_true rfl) (Nat.le_of_ble_eq_true rfl)) mt_takePart rfl hc rfl k
theorem B_takePart_93_0 {xs : Nat → Int} {xl e : Nat} {h : LH} {Q : Option LV → LH → Prop} {v1 v2 v3 : Int} (hF : RF h)
    (k : (∃ c, c < e ∧ Rn xs xl c mm_hasSign 0 [some (.inr (.inr 182)), some (.inl 40), none] [] h (fun r h' => Rn xs xl e mm_takePart 118 [some (.inr (.inr 182)), some (.inl v1), some (.inl v2), some (.inl v3)] (r.toList ++ []) h' Q))) :
    Rn xs xl e mm_takePart 93 [some (.inr (.inr 182)), some (.inl v1), some (.inl v2), some (.inl v3)] [.inl 0] h Q := by
  refine R_if dd_takePart_93 rfl rfl (fun (c2 : 0 = 0) => ?_) (fun (c2 : 0 ≠ 0) => ?_)
  · skip
    refine R_ld (v := .inr (.inr 182)) dd_takePart_112 rfl rfl rfl rfl ?_
    refine R_bi dd_takePart_113 (by decide) rfl ?_
    obtain ⟨c, hc, k⟩ := k
    exact R_call (as := [.inr (.inr 182), .inl 40]) (rest := []) (M' := mm_hasSign) (ls0 := [some (.inr (.inr 182)), some (.inl 40), none]) dd_takePart_115 rfl rfl (cw_v cw_12_307 io_182 rfl rfl (Nat.le_of_ble_eq_true rfl) (Nat.le_of_ble_eq_true rfl)) mt_hasSign rfl hc rfl k
  · exact absurd c2 (by omega)
theorem B_takePart_103 {xs : Nat → Int} {xl e : Nat} {h : LH} {Q : Option LV → LH → Prop} {v1 v2 v3 : Int} (hF : RF h)
    (k : (∃ c, c < e ∧ Rn xs xl c mm_emit 0 [some (.inr (.inr 182)), some (.inl 3), some (.inl 0)] [] h (fun r h' => Rn xs xl e mm_takePart 109 [some (.inr (.inr 182)), some (.inl v1), some (.inl v2), some (.inl v3)] (r.toList ++ []) h' Q))) :
    Rn xs xl e mm_takePart 103 [some (.inr (.inr 182)), some (.inl v1), some (.inl v2), some (.inl v3)] [] h Q := by
  refine R_ld (v := .inr (.inr 182)) dd_takePart_103 rfl rfl rfl rfl ?_
  refine R_ic dd_takePart_104 (by decide) rfl ?_
  refine R_ic dd_takePart_105 (by decide) rfl ?_
  obtain ⟨c, hc, k⟩ := k
  exact R_call (as := [.inr (.inr 182), .inl 3, .inl 0]) (rest := []) (M' := mm_emit) (ls0 := [some (.inr (.inr 182)), some (.inl 3), some (.inl 0)]) dd_takePart_106 rfl rfl (cw_v cw_12_284 io_182 rfl rfl (Nat.le_of_ble_eq_true rfl) (Nat.le_of_ble_eq_true rfl)) mt_emit rfl hc rfl k
theorem B_takePart_109 {xs : Nat → Int} {xl e : Nat} {h : LH} {Q : Option LV → LH → Prop} {v1 v2 v3 : Int} (hF : RF h)
    (k : Q none h) :
    Rn xs xl e mm_takePart 109 [some (.inr (.inr 182)), some (.inl v1), some (.inl v2), some (.inl v3)] [] h Q := by
  refine R_goto dd_takePart_109 rfl ?_
  exact R_vret dd_takePart_178 rfl k
theorem B_takePart_118_1 {xs : Nat → Int} {xl e : Nat} {h : LH} {Q : Option LV → LH → Prop} {v1 v2 v3 : Int} (hF : RF h)
    (k : (-2147483648 ≤ v1 + 1 ∧ v1 + 1 ≤ 2147483647) ∧
      (∃ c, c < e ∧ Rn xs xl c mm_all 0 [some (.inr (.inr 182)), some (.inl (v1 + 1)), none] [] h (fun r h' => Rn xs xl e mm_takePart 128 [some (.inr (.inr 182)), some (.inl v1), some (.inl v2), some (.inl v3)] (r.toList ++ []) h' Q))) :
    Rn xs xl e mm_takePart 118 [some (.inr (.inr 182)), some (.inl v1), some (.inl v2), some (.inl v3)] [.inl 1] h Q := by
  refine R_if dd_takePart_118 rfl rfl (fun (c3 : 1 = 0) => ?_) (fun (c3 : 1 ≠ 0) => ?_)
  · exact absurd c3 (by omega)
  · skip
    refine R_ld (v := .inr (.inr 182)) dd_takePart_121 rfl rfl rfl rfl ?_
    refine R_ld (v := .inl v1) dd_takePart_122 rfl rfl rfl rfl ?_
    refine R_ic dd_takePart_123 (by decide) rfl ?_
    obtain ⟨s1, k⟩ := k
    refine R_iadd (c := v1 + 1) dd_takePart_124 (by omega) s1 rfl ?_
    obtain ⟨c, hc, k⟩ := k
    exact R_call (as := [.inr (.inr 182), .inl (v1 + 1)]) (rest := []) (M' := mm_all) (ls0 := [some (.inr (.inr 182)), some (.inl (v1 + 1)), none]) dd_takePart_125 rfl rfl (cw_v cw_12_281 io_182 rfl rfl (Nat.le_of_ble_eq_true rfl) (Nat.le_of_ble_eq_true rfl)) mt_all rfl hc rfl k
theorem B_takePart_118_0 {xs : Nat → Int} {xl e : Nat} {h : LH} {Q : Option LV → LH → Prop} {v1 v2 v3 : Int} (hF : RF h)
    (k : (v2 = 0 →
        (v2 = 0 →
          (∃ c, c < e ∧ Rn xs xl c mm_emit 0 [some (.inr (.inr 182)), some (.inl 2), some (.inl v3)] [] h (fun r h' => Rn xs xl e mm_takePart 168 [some (.inr (.inr 182)), some (.inl v1), some (.inl v2), some (.inl v3)] (r.toList ++ []) h' Q))) ∧
        (v2 ≠ 0 →
          (0 ≤ (rd h 182 7) ∧ (rd h 182 7) < 1002) ∧
          (∃ c, c < e ∧ Rn xs xl c mm_emit 0 [some (.inr (.inr 182)), some (.inl 2), some (.inl (w32 (rd h 186 (rd h 182 7))))] [] h (fun r h' => Rn xs xl e mm_takePart 168 [some (.inr (.inr 182)), some (.inl v1), some (.inl v2), some (.inl v3)] (r.toList ++ []) h' Q)))) ∧
      (v2 ≠ 0 →
        (v2 = 0 →
          (∃ c, c < e ∧ Rn xs xl c mm_emit 0 [some (.inr (.inr 182)), some (.inl 1), some (.inl v3)] [] h (fun r h' => Rn xs xl e mm_takePart 168 [some (.inr (.inr 182)), some (.inl v1), some (.inl v2), some (.inl v3)] (r.toList ++ []) h' Q))) ∧
        (v2 ≠ 0 →
          (0 ≤ (rd h 182 7) ∧ (rd h 182 7) < 1002) ∧
          (∃ c, c < e ∧ Rn xs xl c mm_emit 0 [some (.inr (.inr 182)), some (.inl 1), some (.inl (w32 (rd h 186 (rd h 182 7))))] [] h (fun r h' => Rn xs xl e mm_takePart 168 [some (.inr (.inr 182)), some (.inl v1), some (.inl v2), some (.inl v3)] (r.toList ++ []) h' Q))))) :
    Rn xs xl e mm_takePart 118 [some (.inr (.inr 182)), some (.inl v1), some (.inl v2), some (.inl v3)] [.inl 0] h Q := by
  refine R_if dd_takePart_118 rfl rfl (fun (c7 : 0 = 0) => ?_) (fun (c7 : 0 ≠ 0) => ?_)
  · skip
    refine R_ld (v := .inr (.inr 182)) dd_takePart_137 rfl rfl rfl rfl ?_
    refine R_ld (v := .inl v2) dd_takePart_138 rfl rfl rfl rfl ?_
    refine R_if dd_takePart_139 rfl rfl (fun (c8 : v2 = 0) => ?_) (fun (c8 : v2 ≠ 0) => ?_)
    · replace k := k.1 c8
      refine R_ic dd_takePart_146 (by decide) rfl ?_
      refine R_ld (v := .inl v2) dd_takePart_147 rfl rfl rfl rfl ?_
      refine R_if dd_takePart_148 rfl rfl (fun (c9 : v2 = 0) => ?_) (fun (c9 : v2 ≠ 0) => ?_)
      · replace k := k.1 c9
        refine R_ld (v := .inl v3) dd_takePart_164 rfl rfl rfl rfl ?_
        obtain ⟨c, hc, k⟩ := k
        exact R_call (as := [.inr (.inr 182), .inl 2, .inl v3]) (rest := []) (M' := mm_emit) (ls0 := [some (.inr (.inr 182)), some (.inl 2), some (.inl v3)]) dd_takePart_165 rfl rfl (cw_v cw_12_284 io_182 rfl rfl (Nat.le_of_ble_eq_true rfl) (Nat.le_of_ble_eq_true rfl)) mt_emit rfl hc rfl k
      · replace k := k.2 c9
        refine R_ld (v := .inr (.inr 182)) dd_takePart_151 rfl rfl rfl rfl ?_
        refine R_gf (v := .inr (.inr 186)) dd_takePart_152 fd_12_30 io_182 (congrArg (fun z : Int => (Sum.inr (Sum.inr z) : LV)) (rf_182_6 hF)) rfl ?_
        refine R_ld (v := .inr (.inr 182)) dd_takePart_155 rfl rfl rfl rfl ?_
        refine R_gf (v := .inl (rd h 182 7)) dd_takePart_156 fd_12_207 io_182 (congrArg (fun z : Int => (Sum.inl z : LV)) (rfl)) rfl ?_
        obtain ⟨s2, k⟩ := k
        refine R_lald (v := (rd h 186 (rd h 182 7))) (n := 1002) dd_takePart_159 ia_186 la_186 s2 (rfl) rfl ?_
        refine R_A dd_takePart_160 rfl rfl rfl rfl ?_
        refine R_goto dd_takePart_161 rfl ?_
        obtain ⟨c, hc, k⟩ := k
        exact R_call (as := [.inr (.inr 182), .inl 2, .inl (w32 (rd h 186 (rd h 182 7)))]) (rest := []) (M' := mm_emit) (ls0 := [some (.inr (.inr 182)), some (.inl 2), some (.inl (w32 (rd h 186 (rd h 182 7))))]) dd_takePart_165 rfl rfl (cw_v cw_12_284 io_182 rfl rfl (Nat.le_of_ble_eq_true rfl) (Nat.le_of_ble_eq_true rfl)) mt_emit rfl hc rfl k
    · replace k := k.2 c8
      refine R_ic dd_takePart_142 (by decide) rfl ?_
      refine R_goto dd_takePart_143 rfl ?_
      refine R_ld (v := .inl v2) dd_takePart_147 rfl rfl rfl rfl ?_
      refine R_if dd_takePart_148 rfl rfl (fun (c10 : v2 = 0) => ?_) (fun (c10 : v2 ≠ 0) => ?_)
      · replace k := k.1 c10
        refine R_ld (v := .inl v3) dd_takePart_164 rfl rfl rfl rfl ?_
        obtain ⟨c, hc, k⟩ := k
        exact R_call (as := [.inr (.inr 182), .inl 1, .inl v3]) (rest := []) (M' := mm_emit) (ls0 := [some (.inr (.inr 182)), some (.inl 1), some (.inl v3)]) dd_takePart_165 rfl rfl (cw_v cw_12_284 io_182 rfl rfl (Nat.le_of_ble_eq_true rfl) (Nat.le_of_ble_eq_true rfl)) mt_emit rfl hc rfl k
      · replace k := k.2 c10
        refine R_ld (v := .inr (.inr 182)) dd_takePart_151 rfl rfl rfl rfl ?_
        refine R_gf (v := .inr (.inr 186)) dd_takePart_152 fd_12_30 io_182 (congrArg (fun z : Int => (Sum.inr (Sum.inr z) : LV)) (rf_182_6 hF)) rfl ?_
        refine R_ld (v := .inr (.inr 182)) dd_takePart_155 rfl rfl rfl rfl ?_
        refine R_gf (v := .inl (rd h 182 7)) dd_takePart_156 fd_12_207 io_182 (congrArg (fun z : Int => (Sum.inl z : LV)) (rfl)) rfl ?_
        obtain ⟨s5, k⟩ := k
        refine R_lald (v := (rd h 186 (rd h 182 7))) (n := 1002) dd_takePart_159 ia_186 la_186 s5 (rfl) rfl ?_
        refine R_A dd_takePart_160 rfl rfl rfl rfl ?_
        refine R_goto dd_takePart_161 rfl ?_
        obtain ⟨c, hc, k⟩ := k
        exact R_call (as := [.inr (.inr 182), .inl 1, .inl (w32 (rd h 186 (rd h 182 7)))]) (rest := []) (M' := mm_emit) (ls0 := [some (.inr (.inr 182)), some (.inl 1), some (.inl (w32 (rd h 186 (rd h 182 7))))]) dd_takePart_165 rfl rfl (cw_v cw_12_284 io_182 rfl rfl (Nat.le_of_ble_eq_true rfl) (Nat.le_of_ble_eq_true rfl)) mt_emit rfl hc rfl k
  · exact absurd c7 (by omega)
theorem B_takePart_128 {xs : Nat → Int} {xl e : Nat} {h : LH} {Q : Option LV → LH → Prop} {v1 v2 v3 : Int} (hF : RF h)
    (k : (∃ c, c < e ∧ Rn xs xl c mm_takeSign 0 [some (.inr (.inr 182)), some (.inl 41)] [] h (fun r h' => Rn xs xl e mm_takePart 134 [some (.inr (.inr 182)), some (.inl v1), some (.inl v2), some (.inl v3)] (r.toList ++ []) h' Q))) :
    Rn xs xl e mm_takePart 128 [some (.inr (.inr 182)), some (.inl v1), some (.inl v2), some (.inl v3)] [] h Q := by
  refine R_ld (v := .inr (.inr 182)) dd_takePart_128 rfl rfl rfl rfl ?_
  refine R_bi dd_takePart_129 (by decide) rfl ?_
  obtain ⟨c, hc, k⟩ := k
  exact R_call (as := [.inr (.inr 182), .inl 41]) (rest := []) (M' := mm_takeSign) (ls0 := [some (.inr (.inr 182)), some (.inl 41)]) dd_takePart_131 rfl rfl (cw_v cw_12_247 io_182 rfl rfl (Nat.le_of_ble_eq_true rfl) (Nat.le_of_ble_eq_true rfl)) mt_takeSign rfl hc rfl k
theorem B_takePart_134 {xs : Nat → Int} {xl e : Nat} {h : LH} {Q : Option LV → LH → Prop} {v1 v2 v3 : Int} (hF : RF h)
    (k : Q none h) :
    Rn xs xl e mm_takePart 134 [some (.inr (.inr 182)), some (.inl v1), some (.inl v2), some (.inl v3)] [] h Q := by
  refine R_goto dd_takePart_134 rfl ?_
  exact R_vret dd_takePart_178 rfl k
theorem B_takePart_168 {xs : Nat → Int} {xl e : Nat} {h : LH} {Q : Option LV → LH → Prop} {v1 v2 v3 : Int} (hF : RF h)
    (k : (-2147483648 ≤ (rd h 182 7) + 1 ∧ (rd h 182 7) + 1 ≤ 2147483647) ∧
      Q none (wr h 182 7 ((rd h 182 7) + 1))) :
    Rn xs xl e mm_takePart 168 [some (.inr (.inr 182)), some (.inl v1), some (.inl v2), some (.inl v3)] [] h Q := by
  refine R_ld (v := .inr (.inr 182)) dd_takePart_168 rfl rfl rfl rfl ?_
  refine R_A dd_takePart_169 rfl rfl rfl rfl ?_
  refine R_gf (v := .inl (rd h 182 7)) dd_takePart_170 fd_12_207 io_182 (congrArg (fun z : Int => (Sum.inl z : LV)) (rfl)) rfl ?_
  refine R_ic dd_takePart_173 (by decide) rfl ?_
  obtain ⟨s1, k⟩ := k
  refine R_iadd (c := (rd h 182 7) + 1) dd_takePart_174 (by omega) s1 rfl ?_
  refine R_pf (z := ((rd h 182 7) + 1)) dd_takePart_175 fd_12_207 io_182 fn_12_7 rfl rfl ?_
  exact R_vret dd_takePart_178 rfl k
