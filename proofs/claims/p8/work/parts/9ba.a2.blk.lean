/-! LM, by program (wip/p2/hand.py): p3: rows of the class's reader, tokens -/
def mm_Reader_isLetter : LM_M := (⟨"OneSided$Reader", "isLetter", "(I)Z"⟩, prog_9_method_27_code, 2, (some .boolean), 7, 2, 0, 599, 598, 1000002)
def mm_Reader_isDigit : LM_M := (⟨"OneSided$Reader", "isDigit", "(I)Z"⟩, prog_9_method_28_code, 2, (some .boolean), 7, 2, 0, 607, 606, 1000004)
def mm_Reader_isTokenSign : LM_M := (⟨"OneSided$Reader", "isTokenSign", "(I)Z"⟩, prog_9_method_29_code, 1, (some .boolean), 7, 1, 1, 616, 615, 0)
def mm_Reader_scanNumber : LM_M := (⟨"OneSided$Reader", "scanNumber", "()V"⟩, prog_9_method_26_code, 2, none, 7, 1, 0, 611, 610, 1000005)
def mm_Reader_scanWord : LM_M := (⟨"OneSided$Reader", "scanWord", "()V"⟩, prog_9_method_25_code, 3, none, 7, 1, 0, 603, 602, 1000003)
def mm_Reader_withLetter : LM_M := (⟨"OneSided$Reader", "withLetter", "(JC)J"⟩, prog_9_method_30_code, 3, (some .long), 7, 2, 1, 87, 86, 0)
def mm_Reader_begin : LM_M := (⟨"OneSided$Reader", "begin", "()V"⟩, prog_9_method_23_code, 1, none, 7, 1, 0, 591, 590, 1000000)
def mm_Reader_takeWord : LM_M := (⟨"OneSided$Reader", "takeWord", "(I)V"⟩, prog_9_method_12_code, 2, none, 7, 2, 0, 624, 623, 1000006)
theorem dd_Reader_step_13 : decode mm_Reader_step.2.1 13 = .ok (.iload_n 1, 1) := by decide +kernel
theorem dd_Reader_step_14 : decode mm_Reader_step.2.1 14 = .ok (.aload_n 0, 1) := by decide +kernel
theorem dd_Reader_step_15 : decode mm_Reader_step.2.1 15 = .ok (.getfield 35, 3) := by decide +kernel
theorem dd_Reader_step_18 : decode mm_Reader_step.2.1 18 = .ok (.if_icmp .ge (31), 3) := by decide +kernel
theorem dd_Reader_step_21 : decode mm_Reader_step.2.1 21 = .ok (.aload_n 0, 1) := by decide +kernel
theorem dd_Reader_step_22 : decode mm_Reader_step.2.1 22 = .ok (.getfield 9, 3) := by decide +kernel
theorem dd_Reader_step_25 : decode mm_Reader_step.2.1 25 = .ok (.iload_n 1, 1) := by decide +kernel
theorem dd_Reader_step_26 : decode mm_Reader_step.2.1 26 = .ok (.baload, 1) := by decide +kernel
theorem dd_Reader_step_27 : decode mm_Reader_step.2.1 27 = .ok (.bipush 10, 2) := by decide +kernel
theorem dd_Reader_step_29 : decode mm_Reader_step.2.1 29 = .ok (.if_icmp .eq (14), 3) := by decide +kernel
theorem dd_Reader_step_43 : decode mm_Reader_step.2.1 43 = .ok (.iinc 1 1, 3) := by decide +kernel
theorem dd_Reader_step_46 : decode mm_Reader_step.2.1 46 = .ok (.goto (-33), 3) := by decide +kernel
theorem dd_Reader_step_32 : decode mm_Reader_step.2.1 32 = .ok (.aload_n 0, 1) := by decide +kernel
theorem dd_Reader_step_33 : decode mm_Reader_step.2.1 33 = .ok (.getfield 9, 3) := by decide +kernel
theorem dd_Reader_step_36 : decode mm_Reader_step.2.1 36 = .ok (.iload_n 1, 1) := by decide +kernel
theorem dd_Reader_step_37 : decode mm_Reader_step.2.1 37 = .ok (.baload, 1) := by decide +kernel
theorem dd_Reader_step_38 : decode mm_Reader_step.2.1 38 = .ok (.bipush 32, 2) := by decide +kernel
theorem dd_Reader_step_40 : decode mm_Reader_step.2.1 40 = .ok (.if_icmp .ne (9), 3) := by decide +kernel
theorem dd_Reader_step_49 : decode mm_Reader_step.2.1 49 = .ok (.aload_n 0, 1) := by decide +kernel
theorem dd_Reader_step_50 : decode mm_Reader_step.2.1 50 = .ok (.iload_n 1, 1) := by decide +kernel
theorem dd_Reader_step_51 : decode mm_Reader_step.2.1 51 = .ok (.putfield 209, 3) := by decide +kernel
theorem fn_7_4 : fin 7 4 = false := by decide +kernel
theorem dd_Reader_step_54 : decode mm_Reader_step.2.1 54 = .ok (.aload_n 0, 1) := by decide +kernel
theorem dd_Reader_step_55 : decode mm_Reader_step.2.1 55 = .ok (.lconst 0, 1) := by decide +kernel
theorem dd_Reader_step_56 : decode mm_Reader_step.2.1 56 = .ok (.putfield 174, 3) := by decide +kernel
theorem fn_7_6 : fin 7 6 = false := by decide +kernel
theorem dd_Reader_step_59 : decode mm_Reader_step.2.1 59 = .ok (.aload_n 0, 1) := by decide +kernel
theorem dd_Reader_step_60 : decode mm_Reader_step.2.1 60 = .ok (.iconst (-1), 1) := by decide +kernel
theorem dd_Reader_step_61 : decode mm_Reader_step.2.1 61 = .ok (.putfield 67, 3) := by decide +kernel
theorem fn_7_7 : fin 7 7 = false := by decide +kernel
theorem dd_Reader_step_64 : decode mm_Reader_step.2.1 64 = .ok (.iload_n 1, 1) := by decide +kernel
theorem dd_Reader_step_65 : decode mm_Reader_step.2.1 65 = .ok (.aload_n 0, 1) := by decide +kernel
theorem dd_Reader_step_66 : decode mm_Reader_step.2.1 66 = .ok (.getfield 35, 3) := by decide +kernel
theorem dd_Reader_step_69 : decode mm_Reader_step.2.1 69 = .ok (.if_icmp .lt (11), 3) := by decide +kernel
theorem dd_Reader_step_80 : decode mm_Reader_step.2.1 80 = .ok (.aload_n 0, 1) := by decide +kernel
theorem dd_Reader_step_81 : decode mm_Reader_step.2.1 81 = .ok (.iload_n 1, 1) := by decide +kernel
theorem dd_Reader_step_82 : decode mm_Reader_step.2.1 82 = .ok (.invokevirtual 215, 3) := by decide +kernel
theorem cw_7_215 : cwOk 7 215 0 19 2 2 7 = true := by decide +kernel
theorem mt_Reader_isLetter : MTB 19 = some mm_Reader_isLetter := rfl
theorem dd_Reader_isLetter_0 : decode mm_Reader_isLetter.2.1 0 = .ok (.aload_n 0, 1) := by decide +kernel
theorem dd_Reader_isLetter_1 : decode mm_Reader_isLetter.2.1 1 = .ok (.getfield 9, 3) := by decide +kernel
theorem dd_Reader_isLetter_4 : decode mm_Reader_isLetter.2.1 4 = .ok (.iload_n 1, 1) := by decide +kernel
theorem dd_Reader_isLetter_5 : decode mm_Reader_isLetter.2.1 5 = .ok (.baload, 1) := by decide +kernel
theorem dd_Reader_isLetter_6 : decode mm_Reader_isLetter.2.1 6 = .ok (.bipush 97, 2) := by decide +kernel
theorem dd_Reader_isLetter_8 : decode mm_Reader_isLetter.2.1 8 = .ok (.if_icmp .lt (18), 3) := by decide +kernel
theorem dd_Reader_isLetter_26 : decode mm_Reader_isLetter.2.1 26 = .ok (.iconst 0, 1) := by decide +kernel
theorem dd_Reader_isLetter_27 : decode mm_Reader_isLetter.2.1 27 = .ok (.ireturn, 1) := by decide +kernel
theorem dd_Reader_step_85 : decode mm_Reader_step.2.1 85 = .ok (.ifCond .eq (10), 3) := by decide +kernel
theorem dd_Reader_step_95 : decode mm_Reader_step.2.1 95 = .ok (.aload_n 0, 1) := by decide +kernel
theorem dd_Reader_step_96 : decode mm_Reader_step.2.1 96 = .ok (.iload_n 1, 1) := by decide +kernel
theorem dd_Reader_step_97 : decode mm_Reader_step.2.1 97 = .ok (.invokevirtual 221, 3) := by decide +kernel
theorem cw_7_221 : cwOk 7 221 0 21 2 2 7 = true := by decide +kernel
theorem mt_Reader_isDigit : MTB 21 = some mm_Reader_isDigit := rfl
theorem dd_Reader_isDigit_0 : decode mm_Reader_isDigit.2.1 0 = .ok (.aload_n 0, 1) := by decide +kernel
theorem dd_Reader_isDigit_1 : decode mm_Reader_isDigit.2.1 1 = .ok (.getfield 9, 3) := by decide +kernel
theorem dd_Reader_isDigit_4 : decode mm_Reader_isDigit.2.1 4 = .ok (.iload_n 1, 1) := by decide +kernel
theorem dd_Reader_isDigit_5 : decode mm_Reader_isDigit.2.1 5 = .ok (.baload, 1) := by decide +kernel
theorem dd_Reader_isDigit_6 : decode mm_Reader_isDigit.2.1 6 = .ok (.bipush 48, 2) := by decide +kernel
theorem dd_Reader_isDigit_8 : decode mm_Reader_isDigit.2.1 8 = .ok (.if_icmp .lt (18), 3) := by decide +kernel
theorem dd_Reader_isDigit_26 : decode mm_Reader_isDigit.2.1 26 = .ok (.iconst 0, 1) := by decide +kernel
theorem dd_Reader_isDigit_27 : decode mm_Reader_isDigit.2.1 27 = .ok (.ireturn, 1) := by decide +kernel
theorem dd_Reader_step_100 : decode mm_Reader_step.2.1 100 = .ok (.ifCond .eq (10), 3) := by decide +kernel
theorem dd_Reader_step_110 : decode mm_Reader_step.2.1 110 = .ok (.aload_n 0, 1) := by decide +kernel
theorem dd_Reader_step_111 : decode mm_Reader_step.2.1 111 = .ok (.iload_n 1, 1) := by decide +kernel
theorem dd_Reader_step_112 : decode mm_Reader_step.2.1 112 = .ok (.iconst 1, 1) := by decide +kernel
theorem dd_Reader_step_113 : decode mm_Reader_step.2.1 113 = .ok (.iadd, 1) := by decide +kernel
theorem dd_Reader_step_114 : decode mm_Reader_step.2.1 114 = .ok (.putfield 212, 3) := by decide +kernel
theorem fn_7_5 : fin 7 5 = false := by decide +kernel
theorem dd_Reader_step_117 : decode mm_Reader_step.2.1 117 = .ok (.aload_n 0, 1) := by decide +kernel
theorem dd_Reader_step_118 : decode mm_Reader_step.2.1 118 = .ok (.aload_n 0, 1) := by decide +kernel
theorem dd_Reader_step_119 : decode mm_Reader_step.2.1 119 = .ok (.getfield 9, 3) := by decide +kernel
theorem dd_Reader_step_122 : decode mm_Reader_step.2.1 122 = .ok (.iload_n 1, 1) := by decide +kernel
theorem dd_Reader_step_123 : decode mm_Reader_step.2.1 123 = .ok (.baload, 1) := by decide +kernel
theorem dd_Reader_step_124 : decode mm_Reader_step.2.1 124 = .ok (.i2l, 1) := by decide +kernel
theorem dd_Reader_step_125 : decode mm_Reader_step.2.1 125 = .ok (.putfield 174, 3) := by decide +kernel
theorem dd_Reader_step_128 : decode mm_Reader_step.2.1 128 = .ok (.aload_n 0, 1) := by decide +kernel
theorem dd_Reader_step_129 : decode mm_Reader_step.2.1 129 = .ok (.aload_n 0, 1) := by decide +kernel
theorem dd_Reader_step_130 : decode mm_Reader_step.2.1 130 = .ok (.getfield 9, 3) := by decide +kernel
theorem dd_Reader_step_133 : decode mm_Reader_step.2.1 133 = .ok (.iload_n 1, 1) := by decide +kernel
theorem dd_Reader_step_134 : decode mm_Reader_step.2.1 134 = .ok (.baload, 1) := by decide +kernel
theorem dd_Reader_step_135 : decode mm_Reader_step.2.1 135 = .ok (.invokestatic 227, 3) := by decide +kernel
theorem cw_7_227 : cwOk 7 227 1 23 1 1 7 = true := by decide +kernel
theorem mt_Reader_isTokenSign : MTB 23 = some mm_Reader_isTokenSign := rfl
theorem dd_Reader_isDigit_11 : decode mm_Reader_isDigit.2.1 11 = .ok (.aload_n 0, 1) := by decide +kernel
theorem dd_Reader_isDigit_12 : decode mm_Reader_isDigit.2.1 12 = .ok (.getfield 9, 3) := by decide +kernel
theorem dd_Reader_isDigit_15 : decode mm_Reader_isDigit.2.1 15 = .ok (.iload_n 1, 1) := by decide +kernel
theorem dd_Reader_isDigit_16 : decode mm_Reader_isDigit.2.1 16 = .ok (.baload, 1) := by decide +kernel
theorem dd_Reader_isDigit_17 : decode mm_Reader_isDigit.2.1 17 = .ok (.bipush 57, 2) := by decide +kernel
theorem dd_Reader_isDigit_19 : decode mm_Reader_isDigit.2.1 19 = .ok (.if_icmp .gt (7), 3) := by decide +kernel
theorem dd_Reader_isDigit_22 : decode mm_Reader_isDigit.2.1 22 = .ok (.iconst 1, 1) := by decide +kernel
theorem dd_Reader_isDigit_23 : decode mm_Reader_isDigit.2.1 23 = .ok (.goto 4, 3) := by decide +kernel
theorem dd_Reader_step_103 : decode mm_Reader_step.2.1 103 = .ok (.aload_n 0, 1) := by decide +kernel
theorem dd_Reader_step_104 : decode mm_Reader_step.2.1 104 = .ok (.invokevirtual 224, 3) := by decide +kernel
theorem cw_7_224 : cwOk 7 224 0 22 1 2 7 = true := by decide +kernel
theorem mt_Reader_scanNumber : MTB 22 = some mm_Reader_scanNumber := rfl
theorem dd_Reader_isLetter_11 : decode mm_Reader_isLetter.2.1 11 = .ok (.aload_n 0, 1) := by decide +kernel
theorem dd_Reader_isLetter_12 : decode mm_Reader_isLetter.2.1 12 = .ok (.getfield 9, 3) := by decide +kernel
theorem dd_Reader_isLetter_15 : decode mm_Reader_isLetter.2.1 15 = .ok (.iload_n 1, 1) := by decide +kernel
theorem dd_Reader_isLetter_16 : decode mm_Reader_isLetter.2.1 16 = .ok (.baload, 1) := by decide +kernel
theorem dd_Reader_isLetter_17 : decode mm_Reader_isLetter.2.1 17 = .ok (.bipush 122, 2) := by decide +kernel
theorem dd_Reader_isLetter_19 : decode mm_Reader_isLetter.2.1 19 = .ok (.if_icmp .gt (7), 3) := by decide +kernel
theorem dd_Reader_isLetter_22 : decode mm_Reader_isLetter.2.1 22 = .ok (.iconst 1, 1) := by decide +kernel
theorem dd_Reader_isLetter_23 : decode mm_Reader_isLetter.2.1 23 = .ok (.goto 4, 3) := by decide +kernel
theorem dd_Reader_step_88 : decode mm_Reader_step.2.1 88 = .ok (.aload_n 0, 1) := by decide +kernel
theorem dd_Reader_step_89 : decode mm_Reader_step.2.1 89 = .ok (.invokevirtual 218, 3) := by decide +kernel
theorem cw_7_218 : cwOk 7 218 0 20 1 3 7 = true := by decide +kernel
theorem mt_Reader_scanWord : MTB 20 = some mm_Reader_scanWord := rfl
theorem dd_Reader_step_72 : decode mm_Reader_step.2.1 72 = .ok (.aload_n 0, 1) := by decide +kernel
theorem dd_Reader_step_73 : decode mm_Reader_step.2.1 73 = .ok (.iconst 0, 1) := by decide +kernel
theorem dd_Reader_step_74 : decode mm_Reader_step.2.1 74 = .ok (.putfield 64, 3) := by decide +kernel
theorem fd_7_64 : fld 7 64 = some (7, 3) := by decide +kernel
theorem fn_7_3 : fin 7 3 = false := by decide +kernel
theorem dd_Reader_step_77 : decode mm_Reader_step.2.1 77 = .ok (.goto 72, 3) := by decide +kernel
theorem dd_Reader_step_149 : decode mm_Reader_step.2.1 149 = .ok (.return_, 1) := by decide +kernel
theorem dd_Reader_step_92 : decode mm_Reader_step.2.1 92 = .ok (.goto 57, 3) := by decide +kernel
theorem dd_Reader_step_107 : decode mm_Reader_step.2.1 107 = .ok (.goto 42, 3) := by decide +kernel
theorem dd_Reader_scanWord_0 : decode mm_Reader_scanWord.2.1 0 = .ok (.aload_n 0, 1) := by decide +kernel
theorem dd_Reader_scanWord_1 : decode mm_Reader_scanWord.2.1 1 = .ok (.getfield 209, 3) := by decide +kernel
theorem dd_Reader_scanWord_4 : decode mm_Reader_scanWord.2.1 4 = .ok (.istore_n 1, 1) := by decide +kernel
theorem dd_Reader_scanWord_5 : decode mm_Reader_scanWord.2.1 5 = .ok (.iload_n 1, 1) := by decide +kernel
theorem dd_Reader_scanWord_6 : decode mm_Reader_scanWord.2.1 6 = .ok (.aload_n 0, 1) := by decide +kernel
theorem dd_Reader_scanWord_7 : decode mm_Reader_scanWord.2.1 7 = .ok (.getfield 35, 3) := by decide +kernel
theorem dd_Reader_scanWord_10 : decode mm_Reader_scanWord.2.1 10 = .ok (.if_icmp .ge (35), 3) := by decide +kernel
theorem dd_Reader_scanWord_13 : decode mm_Reader_scanWord.2.1 13 = .ok (.aload_n 0, 1) := by decide +kernel
theorem dd_Reader_scanWord_14 : decode mm_Reader_scanWord.2.1 14 = .ok (.iload_n 1, 1) := by decide +kernel
theorem dd_Reader_scanWord_15 : decode mm_Reader_scanWord.2.1 15 = .ok (.invokevirtual 215, 3) := by decide +kernel
theorem dd_Reader_scanWord_18 : decode mm_Reader_scanWord.2.1 18 = .ok (.ifCond .eq (27), 3) := by decide +kernel
theorem dd_Reader_scanWord_21 : decode mm_Reader_scanWord.2.1 21 = .ok (.aload_n 0, 1) := by decide +kernel
theorem dd_Reader_scanWord_22 : decode mm_Reader_scanWord.2.1 22 = .ok (.aload_n 0, 1) := by decide +kernel
theorem dd_Reader_scanWord_23 : decode mm_Reader_scanWord.2.1 23 = .ok (.getfield 174, 3) := by decide +kernel
theorem dd_Reader_scanWord_26 : decode mm_Reader_scanWord.2.1 26 = .ok (.aload_n 0, 1) := by decide +kernel
theorem dd_Reader_scanWord_27 : decode mm_Reader_scanWord.2.1 27 = .ok (.getfield 9, 3) := by decide +kernel
theorem dd_Reader_scanWord_30 : decode mm_Reader_scanWord.2.1 30 = .ok (.iload_n 1, 1) := by decide +kernel
theorem dd_Reader_scanWord_31 : decode mm_Reader_scanWord.2.1 31 = .ok (.baload, 1) := by decide +kernel
theorem dd_Reader_scanWord_32 : decode mm_Reader_scanWord.2.1 32 = .ok (.i2c, 1) := by decide +kernel
theorem dd_Reader_scanWord_33 : decode mm_Reader_scanWord.2.1 33 = .ok (.invokestatic 31, 3) := by decide +kernel
theorem cw_7_31 : cwOk 7 31 1 2 2 3 7 = true := by decide +kernel
theorem mt_Reader_withLetter : MTB 2 = some mm_Reader_withLetter := rfl
theorem dd_Reader_withLetter_0 : decode mm_Reader_withLetter.2.1 0 = .ok (.lload_n 0, 1) := by decide +kernel
theorem dd_Reader_withLetter_1 : decode mm_Reader_withLetter.2.1 1 = .ok (.ldc2_w 234, 3) := by decide +kernel
theorem dd_Reader_withLetter_4 : decode mm_Reader_withLetter.2.1 4 = .ok (.lmul, 1) := by decide +kernel
theorem dd_Reader_withLetter_5 : decode mm_Reader_withLetter.2.1 5 = .ok (.iload_n 2, 1) := by decide +kernel
theorem dd_Reader_withLetter_6 : decode mm_Reader_withLetter.2.1 6 = .ok (.i2l, 1) := by decide +kernel
theorem dd_Reader_withLetter_7 : decode mm_Reader_withLetter.2.1 7 = .ok (.ladd, 1) := by decide +kernel
theorem dd_Reader_withLetter_8 : decode mm_Reader_withLetter.2.1 8 = .ok (.ldc2_w 236, 3) := by decide +kernel
theorem dd_Reader_withLetter_11 : decode mm_Reader_withLetter.2.1 11 = .ok (.lsub, 1) := by decide +kernel
theorem dd_Reader_withLetter_12 : decode mm_Reader_withLetter.2.1 12 = .ok (.lconst 1, 1) := by decide +kernel
theorem dd_Reader_withLetter_13 : decode mm_Reader_withLetter.2.1 13 = .ok (.ladd, 1) := by decide +kernel
theorem dd_Reader_withLetter_14 : decode mm_Reader_withLetter.2.1 14 = .ok (.lreturn, 1) := by decide +kernel
theorem dd_Reader_scanWord_36 : decode mm_Reader_scanWord.2.1 36 = .ok (.putfield 174, 3) := by decide +kernel
theorem dd_Reader_scanWord_39 : decode mm_Reader_scanWord.2.1 39 = .ok (.iinc 1 1, 3) := by decide +kernel
theorem dd_Reader_scanWord_42 : decode mm_Reader_scanWord.2.1 42 = .ok (.goto (-37), 3) := by decide +kernel
theorem dd_Reader_scanWord_45 : decode mm_Reader_scanWord.2.1 45 = .ok (.aload_n 0, 1) := by decide +kernel
theorem dd_Reader_scanWord_46 : decode mm_Reader_scanWord.2.1 46 = .ok (.iload_n 1, 1) := by decide +kernel
theorem dd_Reader_scanWord_47 : decode mm_Reader_scanWord.2.1 47 = .ok (.putfield 212, 3) := by decide +kernel
theorem dd_Reader_scanWord_50 : decode mm_Reader_scanWord.2.1 50 = .ok (.aload_n 0, 1) := by decide +kernel
theorem dd_Reader_scanWord_51 : decode mm_Reader_scanWord.2.1 51 = .ok (.iload_n 1, 1) := by decide +kernel
theorem dd_Reader_scanWord_52 : decode mm_Reader_scanWord.2.1 52 = .ok (.aload_n 0, 1) := by decide +kernel
theorem dd_Reader_scanWord_53 : decode mm_Reader_scanWord.2.1 53 = .ok (.getfield 209, 3) := by decide +kernel
theorem dd_Reader_scanWord_56 : decode mm_Reader_scanWord.2.1 56 = .ok (.isub, 1) := by decide +kernel
theorem dd_Reader_scanWord_57 : decode mm_Reader_scanWord.2.1 57 = .ok (.bipush 8, 2) := by decide +kernel
theorem dd_Reader_scanWord_59 : decode mm_Reader_scanWord.2.1 59 = .ok (.if_icmp .gt (7), 3) := by decide +kernel
theorem dd_Reader_scanWord_66 : decode mm_Reader_scanWord.2.1 66 = .ok (.iconst 1, 1) := by decide +kernel
theorem dd_Reader_scanWord_67 : decode mm_Reader_scanWord.2.1 67 = .ok (.putfield 64, 3) := by decide +kernel
theorem dd_Reader_scanWord_70 : decode mm_Reader_scanWord.2.1 70 = .ok (.iconst 0, 1) := by decide +kernel
theorem dd_Reader_scanWord_71 : decode mm_Reader_scanWord.2.1 71 = .ok (.istore_n 2, 1) := by decide +kernel
theorem dd_Reader_scanWord_62 : decode mm_Reader_scanWord.2.1 62 = .ok (.iconst 2, 1) := by decide +kernel
theorem dd_Reader_scanWord_63 : decode mm_Reader_scanWord.2.1 63 = .ok (.goto 4, 3) := by decide +kernel
theorem dd_Reader_scanWord_72 : decode mm_Reader_scanWord.2.1 72 = .ok (.iload_n 2, 1) := by decide +kernel
theorem dd_Reader_scanWord_73 : decode mm_Reader_scanWord.2.1 73 = .ok (.bipush 29, 2) := by decide +kernel
theorem dd_Reader_scanWord_75 : decode mm_Reader_scanWord.2.1 75 = .ok (.if_icmp .ge (36), 3) := by decide +kernel
theorem dd_Reader_scanWord_111 : decode mm_Reader_scanWord.2.1 111 = .ok (.return_, 1) := by decide +kernel
theorem dd_Reader_scanWord_78 : decode mm_Reader_scanWord.2.1 78 = .ok (.aload_n 0, 1) := by decide +kernel
theorem dd_Reader_scanWord_79 : decode mm_Reader_scanWord.2.1 79 = .ok (.getfield 64, 3) := by decide +kernel
theorem dd_Reader_scanWord_82 : decode mm_Reader_scanWord.2.1 82 = .ok (.iconst 2, 1) := by decide +kernel
theorem dd_Reader_scanWord_83 : decode mm_Reader_scanWord.2.1 83 = .ok (.if_icmp .ne (28), 3) := by decide +kernel
theorem dd_Reader_scanWord_86 : decode mm_Reader_scanWord.2.1 86 = .ok (.aload_n 0, 1) := by decide +kernel
theorem dd_Reader_scanWord_87 : decode mm_Reader_scanWord.2.1 87 = .ok (.getfield 15, 3) := by decide +kernel
theorem fd_7_15 : fld 7 15 = some (7, 2) := by decide +kernel
theorem rf_2_2 {h : LH} (hF : RF h) : rd h 2 2 = 4 := hF 2 2 4 (by decide +kernel) (by decide +kernel)
theorem dd_Reader_scanWord_90 : decode mm_Reader_scanWord.2.1 90 = .ok (.iload_n 2, 1) := by decide +kernel
theorem dd_Reader_scanWord_91 : decode mm_Reader_scanWord.2.1 91 = .ok (.laload, 1) := by decide +kernel
theorem ia_4 : isA NC 4 2 = true := by decide +kernel
theorem la_4 : (lay (4 : Int).toNat).2.2 = 29 := by decide +kernel
theorem dd_Reader_scanWord_92 : decode mm_Reader_scanWord.2.1 92 = .ok (.aload_n 0, 1) := by decide +kernel
theorem dd_Reader_scanWord_93 : decode mm_Reader_scanWord.2.1 93 = .ok (.getfield 174, 3) := by decide +kernel
theorem dd_Reader_scanWord_96 : decode mm_Reader_scanWord.2.1 96 = .ok (.lcmp, 1) := by decide +kernel
theorem dd_Reader_scanWord_97 : decode mm_Reader_scanWord.2.1 97 = .ok (.ifCond .ne (8), 3) := by decide +kernel
theorem dd_Reader_scanWord_105 : decode mm_Reader_scanWord.2.1 105 = .ok (.iinc 2 1, 3) := by decide +kernel
theorem dd_Reader_scanWord_108 : decode mm_Reader_scanWord.2.1 108 = .ok (.goto (-36), 3) := by decide +kernel
theorem dd_Reader_scanWord_100 : decode mm_Reader_scanWord.2.1 100 = .ok (.aload_n 0, 1) := by decide +kernel
theorem dd_Reader_scanWord_101 : decode mm_Reader_scanWord.2.1 101 = .ok (.iload_n 2, 1) := by decide +kernel
theorem dd_Reader_scanWord_102 : decode mm_Reader_scanWord.2.1 102 = .ok (.putfield 67, 3) := by decide +kernel
theorem dd_Reader_scanNumber_0 : decode mm_Reader_scanNumber.2.1 0 = .ok (.aload_n 0, 1) := by decide +kernel
theorem dd_Reader_scanNumber_1 : decode mm_Reader_scanNumber.2.1 1 = .ok (.getfield 209, 3) := by decide +kernel
theorem dd_Reader_scanNumber_4 : decode mm_Reader_scanNumber.2.1 4 = .ok (.istore_n 1, 1) := by decide +kernel
theorem dd_Reader_scanNumber_5 : decode mm_Reader_scanNumber.2.1 5 = .ok (.iload_n 1, 1) := by decide +kernel
theorem dd_Reader_scanNumber_6 : decode mm_Reader_scanNumber.2.1 6 = .ok (.aload_n 0, 1) := by decide +kernel
theorem dd_Reader_scanNumber_7 : decode mm_Reader_scanNumber.2.1 7 = .ok (.getfield 35, 3) := by decide +kernel
theorem dd_Reader_scanNumber_10 : decode mm_Reader_scanNumber.2.1 10 = .ok (.if_icmp .ge (41), 3) := by decide +kernel
theorem dd_Reader_scanNumber_13 : decode mm_Reader_scanNumber.2.1 13 = .ok (.aload_n 0, 1) := by decide +kernel
theorem dd_Reader_scanNumber_14 : decode mm_Reader_scanNumber.2.1 14 = .ok (.iload_n 1, 1) := by decide +kernel
theorem dd_Reader_scanNumber_15 : decode mm_Reader_scanNumber.2.1 15 = .ok (.invokevirtual 221, 3) := by decide +kernel
theorem dd_Reader_scanNumber_18 : decode mm_Reader_scanNumber.2.1 18 = .ok (.ifCond .eq (33), 3) := by decide +kernel
theorem dd_Reader_scanNumber_21 : decode mm_Reader_scanNumber.2.1 21 = .ok (.aload_n 0, 1) := by decide +kernel
theorem dd_Reader_scanNumber_22 : decode mm_Reader_scanNumber.2.1 22 = .ok (.aload_n 0, 1) := by decide +kernel
theorem dd_Reader_scanNumber_23 : decode mm_Reader_scanNumber.2.1 23 = .ok (.getfield 174, 3) := by decide +kernel
theorem dd_Reader_scanNumber_26 : decode mm_Reader_scanNumber.2.1 26 = .ok (.ldc2_w 230, 3) := by decide +kernel
theorem dd_Reader_scanNumber_29 : decode mm_Reader_scanNumber.2.1 29 = .ok (.lmul, 1) := by decide +kernel
theorem dd_Reader_scanNumber_30 : decode mm_Reader_scanNumber.2.1 30 = .ok (.aload_n 0, 1) := by decide +kernel
theorem dd_Reader_scanNumber_31 : decode mm_Reader_scanNumber.2.1 31 = .ok (.getfield 9, 3) := by decide +kernel
theorem dd_Reader_scanNumber_34 : decode mm_Reader_scanNumber.2.1 34 = .ok (.iload_n 1, 1) := by decide +kernel
theorem dd_Reader_scanNumber_35 : decode mm_Reader_scanNumber.2.1 35 = .ok (.baload, 1) := by decide +kernel
theorem dd_Reader_scanNumber_36 : decode mm_Reader_scanNumber.2.1 36 = .ok (.i2l, 1) := by decide +kernel
theorem dd_Reader_scanNumber_37 : decode mm_Reader_scanNumber.2.1 37 = .ok (.ladd, 1) := by decide +kernel
theorem dd_Reader_scanNumber_38 : decode mm_Reader_scanNumber.2.1 38 = .ok (.ldc2_w 232, 3) := by decide +kernel
theorem dd_Reader_scanNumber_41 : decode mm_Reader_scanNumber.2.1 41 = .ok (.lsub, 1) := by decide +kernel
theorem dd_Reader_scanNumber_42 : decode mm_Reader_scanNumber.2.1 42 = .ok (.putfield 174, 3) := by decide +kernel
theorem dd_Reader_scanNumber_45 : decode mm_Reader_scanNumber.2.1 45 = .ok (.iinc 1 1, 3) := by decide +kernel
theorem dd_Reader_scanNumber_48 : decode mm_Reader_scanNumber.2.1 48 = .ok (.goto (-43), 3) := by decide +kernel
theorem dd_Reader_scanNumber_51 : decode mm_Reader_scanNumber.2.1 51 = .ok (.aload_n 0, 1) := by decide +kernel
theorem dd_Reader_scanNumber_52 : decode mm_Reader_scanNumber.2.1 52 = .ok (.iload_n 1, 1) := by decide +kernel
theorem dd_Reader_scanNumber_53 : decode mm_Reader_scanNumber.2.1 53 = .ok (.putfield 212, 3) := by decide +kernel
theorem dd_Reader_scanNumber_56 : decode mm_Reader_scanNumber.2.1 56 = .ok (.aload_n 0, 1) := by decide +kernel
theorem dd_Reader_scanNumber_57 : decode mm_Reader_scanNumber.2.1 57 = .ok (.iload_n 1, 1) := by decide +kernel
theorem dd_Reader_scanNumber_58 : decode mm_Reader_scanNumber.2.1 58 = .ok (.aload_n 0, 1) := by decide +kernel
theorem dd_Reader_scanNumber_59 : decode mm_Reader_scanNumber.2.1 59 = .ok (.getfield 209, 3) := by decide +kernel
theorem dd_Reader_scanNumber_62 : decode mm_Reader_scanNumber.2.1 62 = .ok (.isub, 1) := by decide +kernel
theorem dd_Reader_scanNumber_63 : decode mm_Reader_scanNumber.2.1 63 = .ok (.iconst 4, 1) := by decide +kernel
theorem dd_Reader_scanNumber_64 : decode mm_Reader_scanNumber.2.1 64 = .ok (.if_icmp .gt (7), 3) := by decide +kernel
theorem dd_Reader_scanNumber_71 : decode mm_Reader_scanNumber.2.1 71 = .ok (.iconst 1, 1) := by decide +kernel
theorem dd_Reader_scanNumber_72 : decode mm_Reader_scanNumber.2.1 72 = .ok (.putfield 64, 3) := by decide +kernel
theorem dd_Reader_scanNumber_75 : decode mm_Reader_scanNumber.2.1 75 = .ok (.return_, 1) := by decide +kernel
theorem dd_Reader_scanNumber_67 : decode mm_Reader_scanNumber.2.1 67 = .ok (.iconst 3, 1) := by decide +kernel
theorem dd_Reader_scanNumber_68 : decode mm_Reader_scanNumber.2.1 68 = .ok (.goto 4, 3) := by decide +kernel
theorem dd_Reader_begin_0 : decode mm_Reader_begin.2.1 0 = .ok (.aload_n 0, 1) := by decide +kernel
theorem dd_Reader_begin_1 : decode mm_Reader_begin.2.1 1 = .ok (.iconst 0, 1) := by decide +kernel
theorem dd_Reader_begin_2 : decode mm_Reader_begin.2.1 2 = .ok (.putfield 61, 3) := by decide +kernel
theorem dd_Reader_begin_5 : decode mm_Reader_begin.2.1 5 = .ok (.aload_n 0, 1) := by decide +kernel
theorem dd_Reader_begin_6 : decode mm_Reader_begin.2.1 6 = .ok (.iconst 0, 1) := by decide +kernel
theorem dd_Reader_begin_7 : decode mm_Reader_begin.2.1 7 = .ok (.putfield 212, 3) := by decide +kernel
theorem dd_Reader_begin_10 : decode mm_Reader_begin.2.1 10 = .ok (.aload_n 0, 1) := by decide +kernel
theorem dd_Reader_begin_11 : decode mm_Reader_begin.2.1 11 = .ok (.invokevirtual 99, 3) := by decide +kernel
theorem dd_Reader_begin_14 : decode mm_Reader_begin.2.1 14 = .ok (.return_, 1) := by decide +kernel
theorem dd_Reader_step_138 : decode mm_Reader_step.2.1 138 = .ok (.ifCond .eq (7), 3) := by decide +kernel
theorem dd_Reader_step_145 : decode mm_Reader_step.2.1 145 = .ok (.iconst 1, 1) := by decide +kernel
theorem dd_Reader_step_146 : decode mm_Reader_step.2.1 146 = .ok (.putfield 64, 3) := by decide +kernel
theorem dd_Reader_step_141 : decode mm_Reader_step.2.1 141 = .ok (.iconst 4, 1) := by decide +kernel
theorem dd_Reader_step_142 : decode mm_Reader_step.2.1 142 = .ok (.goto 4, 3) := by decide +kernel
theorem dd_Reader_isTokenSign_0 : decode mm_Reader_isTokenSign.2.1 0 = .ok (.iload_n 0, 1) := by decide +kernel
theorem dd_Reader_isTokenSign_1 : decode mm_Reader_isTokenSign.2.1 1 = .ok (.bipush 40, 2) := by decide +kernel
theorem dd_Reader_isTokenSign_3 : decode mm_Reader_isTokenSign.2.1 3 = .ok (.if_icmp .eq (45), 3) := by decide +kernel
theorem dd_Reader_isTokenSign_48 : decode mm_Reader_isTokenSign.2.1 48 = .ok (.iconst 1, 1) := by decide +kernel
theorem dd_Reader_isTokenSign_49 : decode mm_Reader_isTokenSign.2.1 49 = .ok (.goto 4, 3) := by decide +kernel
theorem dd_Reader_isTokenSign_53 : decode mm_Reader_isTokenSign.2.1 53 = .ok (.ireturn, 1) := by decide +kernel
theorem dd_Reader_isTokenSign_6 : decode mm_Reader_isTokenSign.2.1 6 = .ok (.iload_n 0, 1) := by decide +kernel
theorem dd_Reader_isTokenSign_7 : decode mm_Reader_isTokenSign.2.1 7 = .ok (.bipush 41, 2) := by decide +kernel
theorem dd_Reader_isTokenSign_9 : decode mm_Reader_isTokenSign.2.1 9 = .ok (.if_icmp .eq (39), 3) := by decide +kernel
theorem dd_Reader_isTokenSign_12 : decode mm_Reader_isTokenSign.2.1 12 = .ok (.iload_n 0, 1) := by decide +kernel
theorem dd_Reader_isTokenSign_13 : decode mm_Reader_isTokenSign.2.1 13 = .ok (.bipush 60, 2) := by decide +kernel
theorem dd_Reader_isTokenSign_15 : decode mm_Reader_isTokenSign.2.1 15 = .ok (.if_icmp .eq (33), 3) := by decide +kernel
theorem dd_Reader_isTokenSign_18 : decode mm_Reader_isTokenSign.2.1 18 = .ok (.iload_n 0, 1) := by decide +kernel
theorem dd_Reader_isTokenSign_19 : decode mm_Reader_isTokenSign.2.1 19 = .ok (.bipush 61, 2) := by decide +kernel
theorem dd_Reader_isTokenSign_21 : decode mm_Reader_isTokenSign.2.1 21 = .ok (.if_icmp .eq (27), 3) := by decide +kernel
theorem dd_Reader_isTokenSign_24 : decode mm_Reader_isTokenSign.2.1 24 = .ok (.iload_n 0, 1) := by decide +kernel
theorem dd_Reader_isTokenSign_25 : decode mm_Reader_isTokenSign.2.1 25 = .ok (.bipush 43, 2) := by decide +kernel
theorem dd_Reader_isTokenSign_27 : decode mm_Reader_isTokenSign.2.1 27 = .ok (.if_icmp .eq (21), 3) := by decide +kernel
theorem dd_Reader_isTokenSign_30 : decode mm_Reader_isTokenSign.2.1 30 = .ok (.iload_n 0, 1) := by decide +kernel
theorem dd_Reader_isTokenSign_31 : decode mm_Reader_isTokenSign.2.1 31 = .ok (.bipush 45, 2) := by decide +kernel
theorem dd_Reader_isTokenSign_33 : decode mm_Reader_isTokenSign.2.1 33 = .ok (.if_icmp .eq (15), 3) := by decide +kernel
theorem dd_Reader_isTokenSign_36 : decode mm_Reader_isTokenSign.2.1 36 = .ok (.iload_n 0, 1) := by decide +kernel
theorem dd_Reader_isTokenSign_37 : decode mm_Reader_isTokenSign.2.1 37 = .ok (.bipush 42, 2) := by decide +kernel
theorem dd_Reader_isTokenSign_39 : decode mm_Reader_isTokenSign.2.1 39 = .ok (.if_icmp .eq (9), 3) := by decide +kernel
theorem dd_Reader_isTokenSign_42 : decode mm_Reader_isTokenSign.2.1 42 = .ok (.iload_n 0, 1) := by decide +kernel
theorem dd_Reader_isTokenSign_43 : decode mm_Reader_isTokenSign.2.1 43 = .ok (.bipush 59, 2) := by decide +kernel
theorem dd_Reader_isTokenSign_45 : decode mm_Reader_isTokenSign.2.1 45 = .ok (.if_icmp .ne (7), 3) := by decide +kernel
theorem dd_Reader_isTokenSign_52 : decode mm_Reader_isTokenSign.2.1 52 = .ok (.iconst 0, 1) := by decide +kernel
theorem dd_Reader_isName_0 : decode mm_Reader_isName.2.1 0 = .ok (.aload_n 0, 1) := by decide +kernel
theorem dd_Reader_isName_1 : decode mm_Reader_isName.2.1 1 = .ok (.getfield 64, 3) := by decide +kernel
theorem dd_Reader_isName_4 : decode mm_Reader_isName.2.1 4 = .ok (.iconst 2, 1) := by decide +kernel
theorem dd_Reader_isName_5 : decode mm_Reader_isName.2.1 5 = .ok (.if_icmp .ne (24), 3) := by decide +kernel
theorem dd_Reader_isName_29 : decode mm_Reader_isName.2.1 29 = .ok (.iconst 0, 1) := by decide +kernel
theorem dd_Reader_isName_30 : decode mm_Reader_isName.2.1 30 = .ok (.ireturn, 1) := by decide +kernel
theorem dd_Reader_isName_8 : decode mm_Reader_isName.2.1 8 = .ok (.aload_n 0, 1) := by decide +kernel
theorem dd_Reader_isName_9 : decode mm_Reader_isName.2.1 9 = .ok (.getfield 67, 3) := by decide +kernel
theorem dd_Reader_isName_12 : decode mm_Reader_isName.2.1 12 = .ok (.iconst (-1), 1) := by decide +kernel
theorem dd_Reader_isName_13 : decode mm_Reader_isName.2.1 13 = .ok (.if_icmp .eq (12), 3) := by decide +kernel
theorem dd_Reader_isName_25 : decode mm_Reader_isName.2.1 25 = .ok (.iconst 1, 1) := by decide +kernel
theorem dd_Reader_isName_26 : decode mm_Reader_isName.2.1 26 = .ok (.goto 4, 3) := by decide +kernel
theorem dd_Reader_isName_16 : decode mm_Reader_isName.2.1 16 = .ok (.aload_n 0, 1) := by decide +kernel
theorem dd_Reader_isName_17 : decode mm_Reader_isName.2.1 17 = .ok (.getfield 67, 3) := by decide +kernel
theorem dd_Reader_isName_20 : decode mm_Reader_isName.2.1 20 = .ok (.bipush 25, 2) := by decide +kernel
theorem dd_Reader_isName_22 : decode mm_Reader_isName.2.1 22 = .ok (.if_icmp .lt (7), 3) := by decide +kernel
theorem dd_Reader_isSign_0 : decode mm_Reader_isSign.2.1 0 = .ok (.aload_n 0, 1) := by decide +kernel
theorem dd_Reader_isSign_1 : decode mm_Reader_isSign.2.1 1 = .ok (.getfield 64, 3) := by decide +kernel
theorem dd_Reader_isSign_4 : decode mm_Reader_isSign.2.1 4 = .ok (.iconst 4, 1) := by decide +kernel
theorem dd_Reader_isSign_5 : decode mm_Reader_isSign.2.1 5 = .ok (.if_icmp .ne (17), 3) := by decide +kernel
theorem dd_Reader_isSign_22 : decode mm_Reader_isSign.2.1 22 = .ok (.iconst 0, 1) := by decide +kernel
theorem dd_Reader_isSign_23 : decode mm_Reader_isSign.2.1 23 = .ok (.ireturn, 1) := by decide +kernel
theorem dd_Reader_isSign_8 : decode mm_Reader_isSign.2.1 8 = .ok (.aload_n 0, 1) := by decide +kernel
theorem dd_Reader_isSign_9 : decode mm_Reader_isSign.2.1 9 = .ok (.getfield 174, 3) := by decide +kernel
theorem dd_Reader_isSign_12 : decode mm_Reader_isSign.2.1 12 = .ok (.iload_n 1, 1) := by decide +kernel
theorem dd_Reader_isSign_13 : decode mm_Reader_isSign.2.1 13 = .ok (.i2l, 1) := by decide +kernel
theorem dd_Reader_isSign_14 : decode mm_Reader_isSign.2.1 14 = .ok (.lcmp, 1) := by decide +kernel
theorem dd_Reader_isSign_15 : decode mm_Reader_isSign.2.1 15 = .ok (.ifCond .ne (7), 3) := by decide +kernel
theorem dd_Reader_isSign_18 : decode mm_Reader_isSign.2.1 18 = .ok (.iconst 1, 1) := by decide +kernel
theorem dd_Reader_isSign_19 : decode mm_Reader_isSign.2.1 19 = .ok (.goto 4, 3) := by decide +kernel
theorem dd_Reader_takeWord_0 : decode mm_Reader_takeWord.2.1 0 = .ok (.aload_n 0, 1) := by decide +kernel
theorem dd_Reader_takeWord_1 : decode mm_Reader_takeWord.2.1 1 = .ok (.getfield 67, 3) := by decide +kernel
theorem dd_Reader_takeWord_4 : decode mm_Reader_takeWord.2.1 4 = .ok (.iload_n 1, 1) := by decide +kernel
theorem dd_Reader_takeWord_5 : decode mm_Reader_takeWord.2.1 5 = .ok (.if_icmp .ne (10), 3) := by decide +kernel
theorem dd_Reader_takeWord_15 : decode mm_Reader_takeWord.2.1 15 = .ok (.aload_n 0, 1) := by decide +kernel
theorem dd_Reader_takeWord_16 : decode mm_Reader_takeWord.2.1 16 = .ok (.iconst 1, 1) := by decide +kernel
theorem dd_Reader_takeWord_17 : decode mm_Reader_takeWord.2.1 17 = .ok (.invokevirtual 80, 3) := by decide +kernel
theorem dd_Reader_takeWord_8 : decode mm_Reader_takeWord.2.1 8 = .ok (.aload_n 0, 1) := by decide +kernel
theorem dd_Reader_takeWord_9 : decode mm_Reader_takeWord.2.1 9 = .ok (.invokevirtual 99, 3) := by decide +kernel
theorem dd_Reader_takeWord_12 : decode mm_Reader_takeWord.2.1 12 = .ok (.goto 8, 3) := by decide +kernel
theorem dd_Reader_takeWord_20 : decode mm_Reader_takeWord.2.1 20 = .ok (.return_, 1) := by decide +kernel
theorem B_Reader_step_13 {xs : Nat → Int} {xl e : Nat} {h : LH} {Q : Option LV → LH → Prop} {v1 : Int} (hF : RF h) (r_v1 : 0 ≤ v1 ∧ v1 ≤ 1000)
    (k : ((rd h 2 0) ≤ v1 →
        Rn xs xl e mm_Reader_step 49 [some (.inr (.inr 2)), some (.inl v1)] [] h Q) ∧
      (v1 < (rd h 2 0) →
        (0 ≤ v1 ∧ v1 < 1000) ∧
        ((rd h 3 v1) = 10 →
          Rn xs xl e mm_Reader_step 13 [some (.inr (.inr 2)), some (.inl (v1 + 1))] [] h Q) ∧
        ((rd h 3 v1) ≠ 10 →
          (0 ≤ v1 ∧ v1 < 1000) ∧
          ((rd h 3 v1) ≠ 32 →
            Rn xs xl e mm_Reader_step 49 [some (.inr (.inr 2)), some (.inl v1)] [] h Q) ∧
          ((rd h 3 v1) = 32 →
            Rn xs xl e mm_Reader_step 13 [some (.inr (.inr 2)), some (.inl (v1 + 1))] [] h Q)))) :
    Rn xs xl e mm_Reader_step 13 [some (.inr (.inr 2)), some (.inl v1)] [] h Q := by
  refine R_ld (v := .inl v1) dd_Reader_step_13 rfl rfl rfl rfl ?_
  refine R_ld (v := .inr (.inr 2)) dd_Reader_step_14 rfl rfl rfl rfl ?_
  refine R_gf (v := .inl (rd h 2 0)) dd_Reader_step_15 fd_7_35 io_2 (congrArg (fun z : Int => (Sum.inl z : LV)) (rfl)) rfl ?_
  refine R_icmp dd_Reader_step_18 rfl rfl (fun (c3 : (rd h 2 0) ≤ v1) => ?_) (fun (c3 : v1 < (rd h 2 0)) => ?_)
  · replace k := k.1 c3
    exact k
  · replace k := k.2 c3
    refine R_ld (v := .inr (.inr 2)) dd_Reader_step_21 rfl rfl rfl rfl ?_
    refine R_gf (v := .inr (.inr 3)) dd_Reader_step_22 fd_7_9 io_2 (congrArg (fun z : Int => (Sum.inr (Sum.inr z) : LV)) (rf_2_1 hF)) rfl ?_
    refine R_ld (v := .inl v1) dd_Reader_step_25 rfl rfl rfl rfl ?_
    obtain ⟨s1, k⟩ := k
    refine R_bald (v := (rd h 3 v1)) (n := 1000) dd_Reader_step_26 ia_3 la_3 s1 (rfl) rfl ?_
    refine R_bi dd_Reader_step_27 (by decide) rfl ?_
    refine R_icmp dd_Reader_step_29 rfl rfl (fun (c4 : (rd h 3 v1) = 10) => ?_) (fun (c4 : (rd h 3 v1) ≠ 10) => ?_)
    · replace k := k.1 c4
      refine R_inc (y := v1 + 1) (ls' := [some (.inr (.inr 2)), some (.inl (v1 + 1))]) dd_Reader_step_43 rfl (by decide) (by omega) (by omega) rfl rfl ?_
      refine R_goto dd_Reader_step_46 rfl ?_
      exact k
    · replace k := k.2 c4
      refine R_ld (v := .inr (.inr 2)) dd_Reader_step_32 rfl rfl rfl rfl ?_
      refine R_gf (v := .inr (.inr 3)) dd_Reader_step_33 fd_7_9 io_2 (congrArg (fun z : Int => (Sum.inr (Sum.inr z) : LV)) (rf_2_1 hF)) rfl ?_
      refine R_ld (v := .inl v1) dd_Reader_step_36 rfl rfl rfl rfl ?_
      obtain ⟨s2, k⟩ := k
      refine R_bald (v := (rd h 3 v1)) (n := 1000) dd_Reader_step_37 ia_3 la_3 s2 (rfl) rfl ?_
      refine R_bi dd_Reader_step_38 (by decide) rfl ?_
      refine R_icmp dd_Reader_step_40 rfl rfl (fun (c5 : (rd h 3 v1) ≠ 32) => ?_) (fun (c5 : (rd h 3 v1) = 32) => ?_)
      · replace k := k.1 c5
        exact k
      · replace k := k.2 c5
        refine R_inc (y := v1 + 1) (ls' := [some (.inr (.inr 2)), some (.inl (v1 + 1))]) dd_Reader_step_43 rfl (by decide) (by omega) (by omega) rfl rfl ?_
        refine R_goto dd_Reader_step_46 rfl ?_
        exact k
theorem B_Reader_step_49 {xs : Nat → Int} {xl e : Nat} {h : LH} {Q : Option LV → LH → Prop} {v1 : Int} (hF : RF h) (r_v1 : 0 ≤ v1 ∧ v1 ≤ 1000) (he : 1 ≤ e)
    (k : (v1 < (rd h 2 0) →
        (0 ≤ v1 ∧ v1 < 1000) ∧
        ((rd h 3 v1) < 97 →
          (0 ≤ v1 ∧ v1 < 1000) ∧
          ((rd h 3 v1) < 48 →
            (0 ≤ v1 ∧ v1 < 1000) ∧
            (0 ≤ v1 ∧ v1 < 1000) ∧
            (∃ c, c < e ∧ Rn xs xl c mm_Reader_isTokenSign 0 [some (.inl (rd h 3 v1))] [] (wr (wr (wr (wr (wr h 2 4 v1) 2 6 0) 2 7 (-1)) 2 5 (v1 + 1)) 2 6 (rd h 3 v1)) (fun r h' => Rn xs xl e mm_Reader_step 138 [some (.inr (.inr 2)), some (.inl v1)] (r.toList ++ [.inr (.inr 2)]) h' Q))) ∧
          (48 ≤ (rd h 3 v1) →
            (0 ≤ v1 ∧ v1 < 1000) ∧
            (57 < (rd h 3 v1) →
              (0 ≤ v1 ∧ v1 < 1000) ∧
              (0 ≤ v1 ∧ v1 < 1000) ∧
              (∃ c, c < e ∧ Rn xs xl c mm_Reader_isTokenSign 0 [some (.inl (rd h 3 v1))] [] (wr (wr (wr (wr (wr h 2 4 v1) 2 6 0) 2 7 (-1)) 2 5 (v1 + 1)) 2 6 (rd h 3 v1)) (fun r h' => Rn xs xl e mm_Reader_step 138 [some (.inr (.inr 2)), some (.inl v1)] (r.toList ++ [.inr (.inr 2)]) h' Q))) ∧
            ((rd h 3 v1) ≤ 57 →
              (∃ c, c < e ∧ Rn xs xl c mm_Reader_scanNumber 0 [some (.inr (.inr 2)), none] [] (wr (wr (wr h 2 4 v1) 2 6 0) 2 7 (-1)) (fun r h' => Rn xs xl e mm_Reader_step 107 [some (.inr (.inr 2)), some (.inl v1)] (r.toList ++ []) h' Q))))) ∧
        (97 ≤ (rd h 3 v1) →
          (0 ≤ v1 ∧ v1 < 1000) ∧
          (122 < (rd h 3 v1) →
            (0 ≤ v1 ∧ v1 < 1000) ∧
            ((rd h 3 v1) < 48 →
              (0 ≤ v1 ∧ v1 < 1000) ∧
              (0 ≤ v1 ∧ v1 < 1000) ∧
              (∃ c, c < e ∧ Rn xs xl c mm_Reader_isTokenSign 0 [some (.inl (rd h 3 v1))] [] (wr (wr (wr (wr (wr h 2 4 v1) 2 6 0) 2 7 (-1)) 2 5 (v1 + 1)) 2 6 (rd h 3 v1)) (fun r h' => Rn xs xl e mm_Reader_step 138 [some (.inr (.inr 2)), some (.inl v1)] (r.toList ++ [.inr (.inr 2)]) h' Q))) ∧
            (48 ≤ (rd h 3 v1) →
              (0 ≤ v1 ∧ v1 < 1000) ∧
              (57 < (rd h 3 v1) →
                (0 ≤ v1 ∧ v1 < 1000) ∧
                (0 ≤ v1 ∧ v1 < 1000) ∧
                (∃ c, c < e ∧ Rn xs xl c mm_Reader_isTokenSign 0 [some (.inl (rd h 3 v1))] [] (wr (wr (wr (wr (wr h 2 4 v1) 2 6 0) 2 7 (-1)) 2 5 (v1 + 1)) 2 6 (rd h 3 v1)) (fun r h' => Rn xs xl e mm_Reader_step 138 [some (.inr (.inr 2)), some (.inl v1)] (r.toList ++ [.inr (.inr 2)]) h' Q))) ∧
              ((rd h 3 v1) ≤ 57 →
                (∃ c, c < e ∧ Rn xs xl c mm_Reader_scanNumber 0 [some (.inr (.inr 2)), none] [] (wr (wr (wr h 2 4 v1) 2 6 0) 2 7 (-1)) (fun r h' => Rn xs xl e mm_Reader_step 107 [some (.inr (.inr 2)), some (.inl v1)] (r.toList ++ []) h' Q))))) ∧
          ((rd h 3 v1) ≤ 122 →
            (∃ c, c < e ∧ Rn xs xl c mm_Reader_scanWord 0 [some (.inr (.inr 2)), none, none] [] (wr (wr (wr h 2 4 v1) 2 6 0) 2 7 (-1)) (fun r h' => Rn xs xl e mm_Reader_step 92 [some (.inr (.inr 2)), some (.inl v1)] (r.toList ++ []) h' Q))))) ∧
      ((rd h 2 0) ≤ v1 →
        Q none (wr (wr (wr (wr h 2 4 v1) 2 6 0) 2 7 (-1)) 2 3 0))) :
    Rn xs xl e mm_Reader_step 49 [some (.inr (.inr 2)), some (.inl v1)] [] h Q := by
  refine R_ld (v := .inr (.inr 2)) dd_Reader_step_49 rfl rfl rfl rfl ?_
  refine R_ld (v := .inl v1) dd_Reader_step_50 rfl rfl rfl rfl ?_
  refine R_pf (z := v1) dd_Reader_step_51 fd_7_209 io_2 fn_7_4 rfl rfl ?_
  refine R_ld (v := .inr (.inr 2)) dd_Reader_step_54 rfl rfl rfl rfl ?_
  refine R_A dd_Reader_step_55 rfl rfl rfl rfl ?_
  refine R_pf (z := 0) dd_Reader_step_56 fd_7_174 io_2 fn_7_6 rfl rfl ?_
  refine R_ld (v := .inr (.inr 2)) dd_Reader_step_59 rfl rfl rfl rfl ?_
  refine R_ic dd_Reader_step_60 (by decide) rfl ?_
  refine R_pf (z := (-1)) dd_Reader_step_61 fd_7_67 io_2 fn_7_7 rfl rfl ?_
  refine R_ld (v := .inl v1) dd_Reader_step_64 rfl rfl rfl rfl ?_
  refine R_ld (v := .inr (.inr 2)) dd_Reader_step_65 rfl rfl rfl rfl ?_
  refine R_gf (v := .inl (rd h 2 0)) dd_Reader_step_66 fd_7_35 io_2 (congrArg (fun z : Int => (Sum.inl z : LV)) ((rdw_nei (by omega)).trans ((rdw_nei (by omega)).trans (rdw_nei (by omega))))) rfl ?_
  refine R_icmp dd_Reader_step_69 rfl rfl (fun (c22 : v1 < (rd h 2 0)) => ?_) (fun (c22 : (rd h 2 0) ≤ v1) => ?_)
  · replace k := k.1 c22
    refine R_ld (v := .inr (.inr 2)) dd_Reader_step_80 rfl rfl rfl rfl ?_
    refine R_ld (v := .inl v1) dd_Reader_step_81 rfl rfl rfl rfl ?_
    refine R_call (as := [.inr (.inr 2), .inl v1]) (rest := []) (M' := mm_Reader_isLetter) (ls0 := [some (.inr (.inr 2)), some (.inl v1)]) dd_Reader_step_82 rfl rfl (cw_v cw_7_215 io_2 rfl rfl (Nat.le_of_ble_eq_true rfl) (Nat.le_of_ble_eq_true rfl)) mt_Reader_isLetter rfl (c := e - 1) (by omega) rfl ?_
    refine R_ld (v := .inr (.inr 2)) dd_Reader_isLetter_0 rfl rfl rfl rfl ?_
    refine R_gf (v := .inr (.inr 3)) dd_Reader_isLetter_1 fd_7_9 io_2 (congrArg (fun z : Int => (Sum.inr (Sum.inr z) : LV)) ((rdw_nei (by omega)).trans ((rdw_nei (by omega)).trans ((rdw_nei (by omega)).trans (rf_2_1 hF))))) rfl ?_
    refine R_ld (v := .inl v1) dd_Reader_isLetter_4 rfl rfl rfl rfl ?_
    obtain ⟨s1, k⟩ := k
    refine R_bald (v := (rd h 3 v1)) (n := 1000) dd_Reader_isLetter_5 ia_3 la_3 s1 ((rdw_ne (by decide)).trans ((rdw_ne (by decide)).trans (rdw_ne (by decide)))) rfl ?_
    refine R_bi dd_Reader_isLetter_6 (by decide) rfl ?_
    refine R_icmp dd_Reader_isLetter_8 rfl rfl (fun (c23 : (rd h 3 v1) < 97) => ?_) (fun (c23 : 97 ≤ (rd h 3 v1)) => ?_)
    · replace k := k.1 c23
      refine R_ic dd_Reader_isLetter_26 (by decide) rfl ?_
      refine R_zret dd_Reader_isLetter_27 rfl (by decide) ?_
      change Rn xs xl e mm_Reader_step 85 [some (.inr (.inr 2)), some (.inl v1)] [.inl 0] (wr (wr (wr h 2 4 v1) 2 6 0) 2 7 (-1)) _
      refine R_if dd_Reader_step_85 rfl rfl (fun (c24 : 0 = 0) => ?_) (fun (c24 : 0 ≠ 0) => ?_)
      · skip
        refine R_ld (v := .inr (.inr 2)) dd_Reader_step_95 rfl rfl rfl rfl ?_
        refine R_ld (v := .inl v1) dd_Reader_step_96 rfl rfl rfl rfl ?_
        refine R_call (as := [.inr (.inr 2), .inl v1]) (rest := []) (M' := mm_Reader_isDigit) (ls0 := [some (.inr (.inr 2)), some (.inl v1)]) dd_Reader_step_97 rfl rfl (cw_v cw_7_221 io_2 rfl rfl (Nat.le_of_ble_eq_true rfl) (Nat.le_of_ble_eq_true rfl)) mt_Reader_isDigit rfl (c := e - 1) (by omega) rfl ?_
        refine R_ld (v := .inr (.inr 2)) dd_Reader_isDigit_0 rfl rfl rfl rfl ?_
        refine R_gf (v := .inr (.inr 3)) dd_Reader_isDigit_1 fd_7_9 io_2 (congrArg (fun z : Int => (Sum.inr (Sum.inr z) : LV)) ((rdw_nei (by omega)).trans ((rdw_nei (by omega)).trans ((rdw_nei (by omega)).trans (rf_2_1 hF))))) rfl ?_
        refine R_ld (v := .inl v1) dd_Reader_isDigit_4 rfl rfl rfl rfl ?_
        obtain ⟨s2, k⟩ := k
        refine R_bald (v := (rd h 3 v1)) (n := 1000) dd_Reader_isDigit_5 ia_3 la_3 s2 ((rdw_ne (by decide)).trans ((rdw_ne (by decide)).trans (rdw_ne (by decide)))) rfl ?_
        refine R_bi dd_Reader_isDigit_6 (by decide) rfl ?_
        refine R_icmp dd_Reader_isDigit_8 rfl rfl (fun (c25 : (rd h 3 v1) < 48) => ?_) (fun (c25 : 48 ≤ (rd h 3 v1)) => ?_)
        · replace k := k.1 c25
          refine R_ic dd_Reader_isDigit_26 (by decide) rfl ?_
          refine R_zret dd_Reader_isDigit_27 rfl (by decide) ?_
          change Rn xs xl e mm_Reader_step 100 [some (.inr (.inr 2)), some (.inl v1)] [.inl 0] (wr (wr (wr h 2 4 v1) 2 6 0) 2 7 (-1)) _
          refine R_if dd_Reader_step_100 rfl rfl (fun (c26 : 0 = 0) => ?_) (fun (c26 : 0 ≠ 0) => ?_)
          · skip
            refine R_ld (v := .inr (.inr 2)) dd_Reader_step_110 rfl rfl rfl rfl ?_
            refine R_ld (v := .inl v1) dd_Reader_step_111 rfl rfl rfl rfl ?_
            refine R_ic dd_Reader_step_112 (by decide) rfl ?_
            refine R_iadd (c := v1 + 1) dd_Reader_step_113 (by omega) (by omega) rfl ?_
            refine R_pf (z := (v1 + 1)) dd_Reader_step_114 fd_7_212 io_2 fn_7_5 rfl rfl ?_
            refine R_ld (v := .inr (.inr 2)) dd_Reader_step_117 rfl rfl rfl rfl ?_
            refine R_ld (v := .inr (.inr 2)) dd_Reader_step_118 rfl rfl rfl rfl ?_
            refine R_gf (v := .inr (.inr 3)) dd_Reader_step_119 fd_7_9 io_2 (congrArg (fun z : Int => (Sum.inr (Sum.inr z) : LV)) ((rdw_nei (by omega)).trans ((rdw_nei (by omega)).trans ((rdw_nei (by omega)).trans ((rdw_nei (by omega)).trans (rf_2_1 hF)))))) rfl ?_
            refine R_ld (v := .inl v1) dd_Reader_step_122 rfl rfl rfl rfl ?_
            obtain ⟨s3, k⟩ := k
            refine R_bald (v := (rd h 3 v1)) (n := 1000) dd_Reader_step_123 ia_3 la_3 s3 ((rdw_ne (by decide)).trans ((rdw_ne (by decide)).trans ((rdw_ne (by decide)).trans (rdw_ne (by decide))))) rfl ?_
            refine R_A dd_Reader_step_124 rfl rfl rfl rfl ?_
            refine R_pf (z := (rd h 3 v1)) dd_Reader_step_125 fd_7_174 io_2 fn_7_6 rfl rfl ?_
            refine R_ld (v := .inr (.inr 2)) dd_Reader_step_128 rfl rfl rfl rfl ?_
            refine R_ld (v := .inr (.inr 2)) dd_Reader_step_129 rfl rfl rfl rfl ?_
            refine R_gf (v := .inr (.inr 3)) dd_Reader_step_130 fd_7_9 io_2 (congrArg (fun z : Int => (Sum.inr (Sum.inr z) : LV)) ((rdw_nei (by omega)).trans ((rdw_nei (by omega)).trans ((rdw_nei (by omega)).trans ((rdw_nei (by omega)).trans ((rdw_nei (by omega)).trans (rf_2_1 hF))))))) rfl ?_
            refine R_ld (v := .inl v1) dd_Reader_step_133 rfl rfl rfl rfl ?_
            obtain ⟨s4, k⟩ := k
            refine R_bald (v := (rd h 3 v1)) (n := 1000) dd_Reader_step_134 ia_3 la_3 s4 ((rdw_ne (by decide)).trans ((rdw_ne (by decide)).trans ((rdw_ne (by decide)).trans ((rdw_ne (by decide)).trans (rdw_ne (by decide)))))) rfl ?_
            obtain ⟨c, hc, k⟩ := k
            exact R_call (as := [.inl (rd h 3 v1)]) (rest := [.inr (.inr 2)]) (M' := mm_Reader_isTokenSign) (ls0 := [some (.inl (rd h 3 v1))]) dd_Reader_step_135 rfl rfl (cw_s cw_7_227 rfl rfl (Nat.le_of_ble_eq_true rfl) (Nat.le_of_ble_eq_true rfl)) mt_Reader_isTokenSign rfl hc rfl k
          · exact absurd c26 (by omega)
        · replace k := k.2 c25
          refine R_ld (v := .inr (.inr 2)) dd_Reader_isDigit_11 rfl rfl rfl rfl ?_
          refine R_gf (v := .inr (.inr 3)) dd_Reader_isDigit_12 fd_7_9 io_2 (congrArg (fun z : Int => (Sum.inr (Sum.inr z) : LV)) ((rdw_nei (by omega)).trans ((rdw_nei (by omega)).trans ((rdw_nei (by omega)).trans (rf_2_1 hF))))) rfl ?_
          refine R_ld (v := .inl v1) dd_Reader_isDigit_15 rfl rfl rfl rfl ?_
          obtain ⟨s6, k⟩ := k
          refine R_bald (v := (rd h 3 v1)) (n := 1000) dd_Reader_isDigit_16 ia_3 la_3 s6 ((rdw_ne (by decide)).trans ((rdw_ne (by decide)).trans (rdw_ne (by decide)))) rfl ?_
          refine R_bi dd_Reader_isDigit_17 (by decide) rfl ?_
          refine R_icmp dd_Reader_isDigit_19 rfl rfl (fun (c27 : 57 < (rd h 3 v1)) => ?_) (fun (c27 : (rd h 3 v1) ≤ 57) => ?_)
          · replace k := k.1 c27
            refine R_ic dd_Reader_isDigit_26 (by decide) rfl ?_
            refine R_zret dd_Reader_isDigit_27 rfl (by decide) ?_
            change Rn xs xl e mm_Reader_step 100 [some (.inr (.inr 2)), some (.inl v1)] [.inl 0] (wr (wr (wr h 2 4 v1) 2 6 0) 2 7 (-1)) _
            refine R_if dd_Reader_step_100 rfl rfl (fun (c28 : 0 = 0) => ?_) (fun (c28 : 0 ≠ 0) => ?_)
            · skip
              refine R_ld (v := .inr (.inr 2)) dd_Reader_step_110 rfl rfl rfl rfl ?_
              refine R_ld (v := .inl v1) dd_Reader_step_111 rfl rfl rfl rfl ?_
              refine R_ic dd_Reader_step_112 (by decide) rfl ?_
              refine R_iadd (c := v1 + 1) dd_Reader_step_113 (by omega) (by omega) rfl ?_
              refine R_pf (z := (v1 + 1)) dd_Reader_step_114 fd_7_212 io_2 fn_7_5 rfl rfl ?_
              refine R_ld (v := .inr (.inr 2)) dd_Reader_step_117 rfl rfl rfl rfl ?_
              refine R_ld (v := .inr (.inr 2)) dd_Reader_step_118 rfl rfl rfl rfl ?_
              refine R_gf (v := .inr (.inr 3)) dd_Reader_step_119 fd_7_9 io_2 (congrArg (fun z : Int => (Sum.inr (Sum.inr z) : LV)) ((rdw_nei (by omega)).trans ((rdw_nei (by omega)).trans ((rdw_nei (by omega)).trans ((rdw_nei (by omega)).trans (rf_2_1 hF)))))) rfl ?_
              refine R_ld (v := .inl v1) dd_Reader_step_122 rfl rfl rfl rfl ?_
              obtain ⟨s7, k⟩ := k
              refine R_bald (v := (rd h 3 v1)) (n := 1000) dd_Reader_step_123 ia_3 la_3 s7 ((rdw_ne (by decide)).trans ((rdw_ne (by decide)).trans ((rdw_ne (by decide)).trans (rdw_ne (by decide))))) rfl ?_
              refine R_A dd_Reader_step_124 rfl rfl rfl rfl ?_
              refine R_pf (z := (rd h 3 v1)) dd_Reader_step_125 fd_7_174 io_2 fn_7_6 rfl rfl ?_
              refine R_ld (v := .inr (.inr 2)) dd_Reader_step_128 rfl rfl rfl rfl ?_
              refine R_ld (v := .inr (.inr 2)) dd_Reader_step_129 rfl rfl rfl rfl ?_
              refine R_gf (v := .inr (.inr 3)) dd_Reader_step_130 fd_7_9 io_2 (congrArg (fun z : Int => (Sum.inr (Sum.inr z) : LV)) ((rdw_nei (by omega)).trans ((rdw_nei (by omega)).trans ((rdw_nei (by omega)).trans ((rdw_nei (by omega)).trans ((rdw_nei (by omega)).trans (rf_2_1 hF))))))) rfl ?_
              refine R_ld (v := .inl v1) dd_Reader_step_133 rfl rfl rfl rfl ?_
              obtain ⟨s8, k⟩ := k
              refine R_bald (v := (rd h 3 v1)) (n := 1000) dd_Reader_step_134 ia_3 la_3 s8 ((rdw_ne (by decide)).trans ((rdw_ne (by decide)).trans ((rdw_ne (by decide)).trans ((rdw_ne (by decide)).trans (rdw_ne (by decide)))))) rfl ?_
              obtain ⟨c, hc, k⟩ := k
              exact R_call (as := [.inl (rd h 3 v1)]) (rest := [.inr (.inr 2)]) (M' := mm_Reader_isTokenSign) (ls0 := [some (.inl (rd h 3 v1))]) dd_Reader_step_135 rfl rfl (cw_s cw_7_227 rfl rfl (Nat.le_of_ble_eq_true rfl) (Nat.le_of_ble_eq_true rfl)) mt_Reader_isTokenSign rfl hc rfl k
            · exact absurd c28 (by omega)
          · replace k := k.2 c27
            refine R_ic dd_Reader_isDigit_22 (by decide) rfl ?_
            refine R_goto dd_Reader_isDigit_23 rfl ?_
            refine R_zret dd_Reader_isDigit_27 rfl (by decide) ?_
            change Rn xs xl e mm_Reader_step 100 [some (.inr (.inr 2)), some (.inl v1)] [.inl 1] (wr (wr (wr h 2 4 v1) 2 6 0) 2 7 (-1)) _
            refine R_if dd_Reader_step_100 rfl rfl (fun (c29 : 1 = 0) => ?_) (fun (c29 : 1 ≠ 0) => ?_)
            · exact absurd c29 (by omega)
            · skip
              refine R_ld (v := .inr (.inr 2)) dd_Reader_step_103 rfl rfl rfl rfl ?_
              obtain ⟨c, hc, k⟩ := k
              exact R_call (as := [.inr (.inr 2)]) (rest := []) (M' := mm_Reader_scanNumber) (ls0 := [some (.inr (.inr 2)), none]) dd_Reader_step_104 rfl rfl (cw_v cw_7_224 io_2 rfl rfl (Nat.le_of_ble_eq_true rfl) (Nat.le_of_ble_eq_true rfl)) mt_Reader_scanNumber rfl hc rfl k
      · exact absurd c24 (by omega)
    · replace k := k.2 c23
      refine R_ld (v := .inr (.inr 2)) dd_Reader_isLetter_11 rfl rfl rfl rfl ?_
      refine R_gf (v := .inr (.inr 3)) dd_Reader_isLetter_12 fd_7_9 io_2 (congrArg (fun z : Int => (Sum.inr (Sum.inr z) : LV)) ((rdw_nei (by omega)).trans ((rdw_nei (by omega)).trans ((rdw_nei (by omega)).trans (rf_2_1 hF))))) rfl ?_
      refine R_ld (v := .inl v1) dd_Reader_isLetter_15 rfl rfl rfl rfl ?_
      obtain ⟨s11, k⟩ := k
      refine R_bald (v := (rd h 3 v1)) (n := 1000) dd_Reader_isLetter_16 ia_3 la_3 s11 ((rdw_ne (by decide)).trans ((rdw_ne (by decide)).trans (rdw_ne (by decide)))) rfl ?_
      refine R_bi dd_Reader_isLetter_17 (by decide) rfl ?_
      refine R_icmp dd_Reader_isLetter_19 rfl rfl (fun (c30 : 122 < (rd h 3 v1)) => ?_) (fun (c30 : (rd h 3 v1) ≤ 122) => ?_)
      · replace k := k.1 c30
        refine R_ic dd_Reader_isLetter_26 (by decide) rfl ?_
        refine R_zret dd_Reader_isLetter_27 rfl (by decide) ?_
        change Rn xs xl e mm_Reader_step 85 [some (.inr (.inr 2)), some (.inl v1)] [.inl 0] (wr (wr (wr h 2 4 v1) 2 6 0) 2 7 (-1)) _
        refine R_if dd_Reader_step_85 rfl rfl (fun (c31 : 0 = 0) => ?_) (fun (c31 : 0 ≠ 0) => ?_)
        · skip
          refine R_ld (v := .inr (.inr 2)) dd_Reader_step_95 rfl rfl rfl rfl ?_
          refine R_ld (v := .inl v1) dd_Reader_step_96 rfl rfl rfl rfl ?_
          refine R_call (as := [.inr (.inr 2), .inl v1]) (rest := []) (M' := mm_Reader_isDigit) (ls0 := [some (.inr (.inr 2)), some (.inl v1)]) dd_Reader_step_97 rfl rfl (cw_v cw_7_221 io_2 rfl rfl (Nat.le_of_ble_eq_true rfl) (Nat.le_of_ble_eq_true rfl)) mt_Reader_isDigit rfl (c := e - 1) (by omega) rfl ?_
          refine R_ld (v := .inr (.inr 2)) dd_Reader_isDigit_0 rfl rfl rfl rfl ?_
          refine R_gf (v := .inr (.inr 3)) dd_Reader_isDigit_1 fd_7_9 io_2 (congrArg (fun z : Int => (Sum.inr (Sum.inr z) : LV)) ((rdw_nei (by omega)).trans ((rdw_nei (by omega)).trans ((rdw_nei (by omega)).trans (rf_2_1 hF))))) rfl ?_
          refine R_ld (v := .inl v1) dd_Reader_isDigit_4 rfl rfl rfl rfl ?_
          obtain ⟨s12, k⟩ := k
          refine R_bald (v := (rd h 3 v1)) (n := 1000) dd_Reader_isDigit_5 ia_3 la_3 s12 ((rdw_ne (by decide)).trans ((rdw_ne (by decide)).trans (rdw_ne (by decide)))) rfl ?_
          refine R_bi dd_Reader_isDigit_6 (by decide) rfl ?_
          refine R_icmp dd_Reader_isDigit_8 rfl rfl (fun (c32 : (rd h 3 v1) < 48) => ?_) (fun (c32 : 48 ≤ (rd h 3 v1)) => ?_)
          · replace k := k.1 c32
            refine R_ic dd_Reader_isDigit_26 (by decide) rfl ?_
            refine R_zret dd_Reader_isDigit_27 rfl (by decide) ?_
            change Rn xs xl e mm_Reader_step 100 [some (.inr (.inr 2)), some (.inl v1)] [.inl 0] (wr (wr (wr h 2 4 v1) 2 6 0) 2 7 (-1)) _
            refine R_if dd_Reader_step_100 rfl rfl (fun (c33 : 0 = 0) => ?_) (fun (c33 : 0 ≠ 0) => ?_)
            · skip
              refine R_ld (v := .inr (.inr 2)) dd_Reader_step_110 rfl rfl rfl rfl ?_
              refine R_ld (v := .inl v1) dd_Reader_step_111 rfl rfl rfl rfl ?_
              refine R_ic dd_Reader_step_112 (by decide) rfl ?_
              refine R_iadd (c := v1 + 1) dd_Reader_step_113 (by omega) (by omega) rfl ?_
              refine R_pf (z := (v1 + 1)) dd_Reader_step_114 fd_7_212 io_2 fn_7_5 rfl rfl ?_
              refine R_ld (v := .inr (.inr 2)) dd_Reader_step_117 rfl rfl rfl rfl ?_
              refine R_ld (v := .inr (.inr 2)) dd_Reader_step_118 rfl rfl rfl rfl ?_
              refine R_gf (v := .inr (.inr 3)) dd_Reader_step_119 fd_7_9 io_2 (congrArg (fun z : Int => (Sum.inr (Sum.inr z) : LV)) ((rdw_nei (by omega)).trans ((rdw_nei (by omega)).trans ((rdw_nei (by omega)).trans ((rdw_nei (by omega)).trans (rf_2_1 hF)))))) rfl ?_
              refine R_ld (v := .inl v1) dd_Reader_step_122 rfl rfl rfl rfl ?_
              obtain ⟨s13, k⟩ := k
              refine R_bald (v := (rd h 3 v1)) (n := 1000) dd_Reader_step_123 ia_3 la_3 s13 ((rdw_ne (by decide)).trans ((rdw_ne (by decide)).trans ((rdw_ne (by decide)).trans (rdw_ne (by decide))))) rfl ?_
              refine R_A dd_Reader_step_124 rfl rfl rfl rfl ?_
              refine R_pf (z := (rd h 3 v1)) dd_Reader_step_125 fd_7_174 io_2 fn_7_6 rfl rfl ?_
              refine R_ld (v := .inr (.inr 2)) dd_Reader_step_128 rfl rfl rfl rfl ?_
              refine R_ld (v := .inr (.inr 2)) dd_Reader_step_129 rfl rfl rfl rfl ?_
              refine R_gf (v := .inr (.inr 3)) dd_Reader_step_130 fd_7_9 io_2 (congrArg (fun z : Int => (Sum.inr (Sum.inr z) : LV)) ((rdw_nei (by omega)).trans ((rdw_nei (by omega)).trans ((rdw_nei (by omega)).trans ((rdw_nei (by omega)).trans ((rdw_nei (by omega)).trans (rf_2_1 hF))))))) rfl ?_
              refine R_ld (v := .inl v1) dd_Reader_step_133 rfl rfl rfl rfl ?_
              obtain ⟨s14, k⟩ := k
              refine R_bald (v := (rd h 3 v1)) (n := 1000) dd_Reader_step_134 ia_3 la_3 s14 ((rdw_ne (by decide)).trans ((rdw_ne (by decide)).trans ((rdw_ne (by decide)).trans ((rdw_ne (by decide)).trans (rdw_ne (by decide)))))) rfl ?_
              obtain ⟨c, hc, k⟩ := k
              exact R_call (as := [.inl (rd h 3 v1)]) (rest := [.inr (.inr 2)]) (M' := mm_Reader_isTokenSign) (ls0 := [some (.inl (rd h 3 v1))]) dd_Reader_step_135 rfl rfl (cw_s cw_7_227 rfl rfl (Nat.le_of_ble_eq_true rfl) (Nat.le_of_ble_eq_true rfl)) mt_Reader_isTokenSign rfl hc rfl k
            · exact absurd c33 (by omega)
          · replace k := k.2 c32
            refine R_ld (v := .inr (.inr 2)) dd_Reader_isDigit_11 rfl rfl rfl rfl ?_
            refine R_gf (v := .inr (.inr 3)) dd_Reader_isDigit_12 fd_7_9 io_2 (congrArg (fun z : Int => (Sum.inr (Sum.inr z) : LV)) ((rdw_nei (by omega)).trans ((rdw_nei (by omega)).trans ((rdw_nei (by omega)).trans (rf_2_1 hF))))) rfl ?_
            refine R_ld (v := .inl v1) dd_Reader_isDigit_15 rfl rfl rfl rfl ?_
            obtain ⟨s16, k⟩ := k
            refine R_bald (v := (rd h 3 v1)) (n := 1000) dd_Reader_isDigit_16 ia_3 la_3 s16 ((rdw_ne (by decide)).trans ((rdw_ne (by decide)).trans (rdw_ne (by decide)))) rfl ?_
            refine R_bi dd_Reader_isDigit_17 (by decide) rfl ?_
            refine R_icmp dd_Reader_isDigit_19 rfl rfl (fun (c34 : 57 < (rd h 3 v1)) => ?_) (fun (c34 : (rd h 3 v1) ≤ 57) => ?_)
            · replace k := k.1 c34
              refine R_ic dd_Reader_isDigit_26 (by decide) rfl ?_
              refine R_zret dd_Reader_isDigit_27 rfl (by decide) ?_
              change Rn xs xl e mm_Reader_step 100 [some (.inr (.inr 2)), some (.inl v1)] [.inl 0] (wr (wr (wr h 2 4 v1) 2 6 0) 2 7 (-1)) _
              refine R_if dd_Reader_step_100 rfl rfl (fun (c35 : 0 = 0) => ?_) (fun (c35 : 0 ≠ 0) => ?_)
              · skip
                refine R_ld (v := .inr (.inr 2)) dd_Reader_step_110 rfl rfl rfl rfl ?_
                refine R_ld (v := .inl v1) dd_Reader_step_111 rfl rfl rfl rfl ?_
                refine R_ic dd_Reader_step_112 (by decide) rfl ?_
                refine R_iadd (c := v1 + 1) dd_Reader_step_113 (by omega) (by omega) rfl ?_
                refine R_pf (z := (v1 + 1)) dd_Reader_step_114 fd_7_212 io_2 fn_7_5 rfl rfl ?_
                refine R_ld (v := .inr (.inr 2)) dd_Reader_step_117 rfl rfl rfl rfl ?_
                refine R_ld (v := .inr (.inr 2)) dd_Reader_step_118 rfl rfl rfl rfl ?_
                refine R_gf (v := .inr (.inr 3)) dd_Reader_step_119 fd_7_9 io_2 (congrArg (fun z : Int => (Sum.inr (Sum.inr z) : LV)) ((rdw_nei (by omega)).trans ((rdw_nei (by omega)).trans ((rdw_nei (by omega)).trans ((rdw_nei (by omega)).trans (rf_2_1 hF)))))) rfl ?_
                refine R_ld (v := .inl v1) dd_Reader_step_122 rfl rfl rfl rfl ?_
                obtain ⟨s17, k⟩ := k
                refine R_bald (v := (rd h 3 v1)) (n := 1000) dd_Reader_step_123 ia_3 la_3 s17 ((rdw_ne (by decide)).trans ((rdw_ne (by decide)).trans ((rdw_ne (by decide)).trans (rdw_ne (by decide))))) rfl ?_
                refine R_A dd_Reader_step_124 rfl rfl rfl rfl ?_
                refine R_pf (z := (rd h 3 v1)) dd_Reader_step_125 fd_7_174 io_2 fn_7_6 rfl rfl ?_
                refine R_ld (v := .inr (.inr 2)) dd_Reader_step_128 rfl rfl rfl rfl ?_
                refine R_ld (v := .inr (.inr 2)) dd_Reader_step_129 rfl rfl rfl rfl ?_
                refine R_gf (v := .inr (.inr 3)) dd_Reader_step_130 fd_7_9 io_2 (congrArg (fun z : Int => (Sum.inr (Sum.inr z) : LV)) ((rdw_nei (by omega)).trans ((rdw_nei (by omega)).trans ((rdw_nei (by omega)).trans ((rdw_nei (by omega)).trans ((rdw_nei (by omega)).trans (rf_2_1 hF))))))) rfl ?_
                refine R_ld (v := .inl v1) dd_Reader_step_133 rfl rfl rfl rfl ?_
                obtain ⟨s18, k⟩ := k
                refine R_bald (v := (rd h 3 v1)) (n := 1000) dd_Reader_step_134 ia_3 la_3 s18 ((rdw_ne (by decide)).trans ((rdw_ne (by decide)).trans ((rdw_ne (by decide)).trans ((rdw_ne (by decide)).trans (rdw_ne (by decide)))))) rfl ?_
                obtain ⟨c, hc, k⟩ := k
                exact R_call (as := [.inl (rd h 3 v1)]) (rest := [.inr (.inr 2)]) (M' := mm_Reader_isTokenSign) (ls0 := [some (.inl (rd h 3 v1))]) dd_Reader_step_135 rfl rfl (cw_s cw_7_227 rfl rfl (Nat.le_of_ble_eq_true rfl) (Nat.le_of_ble_eq_true rfl)) mt_Reader_isTokenSign rfl hc rfl k
              · exact absurd c35 (by omega)
            · replace k := k.2 c34
              refine R_ic dd_Reader_isDigit_22 (by decide) rfl ?_
              refine R_goto dd_Reader_isDigit_23 rfl ?_
              refine R_zret dd_Reader_isDigit_27 rfl (by decide) ?_
              change Rn xs xl e mm_Reader_step 100 [some (.inr (.inr 2)), some (.inl v1)] [.inl 1] (wr (wr (wr h 2 4 v1) 2 6 0) 2 7 (-1)) _
              refine R_if dd_Reader_step_100 rfl rfl (fun (c36 : 1 = 0) => ?_) (fun (c36 : 1 ≠ 0) => ?_)
              · exact absurd c36 (by omega)
              · skip
                refine R_ld (v := .inr (.inr 2)) dd_Reader_step_103 rfl rfl rfl rfl ?_
                obtain ⟨c, hc, k⟩ := k
                exact R_call (as := [.inr (.inr 2)]) (rest := []) (M' := mm_Reader_scanNumber) (ls0 := [some (.inr (.inr 2)), none]) dd_Reader_step_104 rfl rfl (cw_v cw_7_224 io_2 rfl rfl (Nat.le_of_ble_eq_true rfl) (Nat.le_of_ble_eq_true rfl)) mt_Reader_scanNumber rfl hc rfl k
        · exact absurd c31 (by omega)
      · replace k := k.2 c30
        refine R_ic dd_Reader_isLetter_22 (by decide) rfl ?_
        refine R_goto dd_Reader_isLetter_23 rfl ?_
        refine R_zret dd_Reader_isLetter_27 rfl (by decide) ?_
        change Rn xs xl e mm_Reader_step 85 [some (.inr (.inr 2)), some (.inl v1)] [.inl 1] (wr (wr (wr h 2 4 v1) 2 6 0) 2 7 (-1)) _
        refine R_if dd_Reader_step_85 rfl rfl (fun (c37 : 1 = 0) => ?_) (fun (c37 : 1 ≠ 0) => ?_)
        · exact absurd c37 (by omega)
        · skip
          refine R_ld (v := .inr (.inr 2)) dd_Reader_step_88 rfl rfl rfl rfl ?_
          obtain ⟨c, hc, k⟩ := k
          exact R_call (as := [.inr (.inr 2)]) (rest := []) (M' := mm_Reader_scanWord) (ls0 := [some (.inr (.inr 2)), none, none]) dd_Reader_step_89 rfl rfl (cw_v cw_7_218 io_2 rfl rfl (Nat.le_of_ble_eq_true rfl) (Nat.le_of_ble_eq_true rfl)) mt_Reader_scanWord rfl hc rfl k
  · replace k := k.2 c22
    refine R_ld (v := .inr (.inr 2)) dd_Reader_step_72 rfl rfl rfl rfl ?_
    refine R_ic dd_Reader_step_73 (by decide) rfl ?_
    refine R_pf (z := 0) dd_Reader_step_74 fd_7_64 io_2 fn_7_3 rfl rfl ?_
    refine R_goto dd_Reader_step_77 rfl ?_
    exact R_vret dd_Reader_step_149 rfl k
theorem B_Reader_step_92 {xs : Nat → Int} {xl e : Nat} {h : LH} {Q : Option LV → LH → Prop} {v1 : Int} (hF : RF h)
    (k : Q none h) :
    Rn xs xl e mm_Reader_step 92 [some (.inr (.inr 2)), some (.inl v1)] [] h Q := by
  refine R_goto dd_Reader_step_92 rfl ?_
  exact R_vret dd_Reader_step_149 rfl k
theorem B_Reader_step_107 {xs : Nat → Int} {xl e : Nat} {h : LH} {Q : Option LV → LH → Prop} {v1 : Int} (hF : RF h)
    (k : Q none h) :
    Rn xs xl e mm_Reader_step 107 [some (.inr (.inr 2)), some (.inl v1)] [] h Q := by
  refine R_goto dd_Reader_step_107 rfl ?_
  exact R_vret dd_Reader_step_149 rfl k
theorem B_Reader_scanWord_0 {xs : Nat → Int} {xl e : Nat} {h : LH} {Q : Option LV → LH → Prop} (hF : RF h)
    (k : Rn xs xl e mm_Reader_scanWord 5 [some (.inr (.inr 2)), some (.inl (rd h 2 4)), none] [] h Q) :
    Rn xs xl e mm_Reader_scanWord 0 [some (.inr (.inr 2)), none, none] [] h Q := by
  refine R_ld (v := .inr (.inr 2)) dd_Reader_scanWord_0 rfl rfl rfl rfl ?_
  refine R_gf (v := .inl (rd h 2 4)) dd_Reader_scanWord_1 fd_7_209 io_2 (congrArg (fun z : Int => (Sum.inl z : LV)) (rfl)) rfl ?_
  refine R_st (ls' := [some (.inr (.inr 2)), some (.inl (rd h 2 4)), none]) dd_Reader_scanWord_4 rfl rfl rfl (Nat.le_of_ble_eq_true rfl) rfl rfl ?_
  exact k
theorem B_Reader_scanWord_5 {xs : Nat → Int} {xl e : Nat} {h : LH} {Q : Option LV → LH → Prop} {v1 : Int} (hF : RF h) (r_v1 : 0 ≤ v1 ∧ v1 ≤ 1000) (he : 1 ≤ e)
    (k : ((rd h 2 0) ≤ v1 →
        Rn xs xl e mm_Reader_scanWord 45 [some (.inr (.inr 2)), some (.inl v1), none] [] h Q) ∧
      (v1 < (rd h 2 0) →
        (0 ≤ v1 ∧ v1 < 1000) ∧
        ((rd h 3 v1) < 97 →
          Rn xs xl e mm_Reader_scanWord 45 [some (.inr (.inr 2)), some (.inl v1), none] [] h Q) ∧
        (97 ≤ (rd h 3 v1) →
          (0 ≤ v1 ∧ v1 < 1000) ∧
          (122 < (rd h 3 v1) →
            Rn xs xl e mm_Reader_scanWord 45 [some (.inr (.inr 2)), some (.inl v1), none] [] h Q) ∧
          ((rd h 3 v1) ≤ 122 →
            (0 ≤ v1 ∧ v1 < 1000) ∧
            Rn xs xl e mm_Reader_scanWord 5 [some (.inr (.inr 2)), some (.inl (v1 + 1)), none] [] (wr h 2 6 (w64 ((w64 ((w64 ((w64 ((rd h 2 6) * (32))) + (((Int32.ofInt (rd h 3 v1)).toUInt32 % 65536).toInt32.toInt))) - (97))) + 1))) Q)))) :
    Rn xs xl e mm_Reader_scanWord 5 [some (.inr (.inr 2)), some (.inl v1), none] [] h Q := by
  refine R_ld (v := .inl v1) dd_Reader_scanWord_5 rfl rfl rfl rfl ?_
  refine R_ld (v := .inr (.inr 2)) dd_Reader_scanWord_6 rfl rfl rfl rfl ?_
  refine R_gf (v := .inl (rd h 2 0)) dd_Reader_scanWord_7 fd_7_35 io_2 (congrArg (fun z : Int => (Sum.inl z : LV)) (rfl)) rfl ?_
  refine R_icmp dd_Reader_scanWord_10 rfl rfl (fun (c4 : (rd h 2 0) ≤ v1) => ?_) (fun (c4 : v1 < (rd h 2 0)) => ?_)
  · replace k := k.1 c4
    exact k
  · replace k := k.2 c4
    refine R_ld (v := .inr (.inr 2)) dd_Reader_scanWord_13 rfl rfl rfl rfl ?_
    refine R_ld (v := .inl v1) dd_Reader_scanWord_14 rfl rfl rfl rfl ?_
    refine R_call (as := [.inr (.inr 2), .inl v1]) (rest := []) (M' := mm_Reader_isLetter) (ls0 := [some (.inr (.inr 2)), some (.inl v1)]) dd_Reader_scanWord_15 rfl rfl (cw_v cw_7_215 io_2 rfl rfl (Nat.le_of_ble_eq_true rfl) (Nat.le_of_ble_eq_true rfl)) mt_Reader_isLetter rfl (c := e - 1) (by omega) rfl ?_
    refine R_ld (v := .inr (.inr 2)) dd_Reader_isLetter_0 rfl rfl rfl rfl ?_
    refine R_gf (v := .inr (.inr 3)) dd_Reader_isLetter_1 fd_7_9 io_2 (congrArg (fun z : Int => (Sum.inr (Sum.inr z) : LV)) (rf_2_1 hF)) rfl ?_
    refine R_ld (v := .inl v1) dd_Reader_isLetter_4 rfl rfl rfl rfl ?_
    obtain ⟨s1, k⟩ := k
    refine R_bald (v := (rd h 3 v1)) (n := 1000) dd_Reader_isLetter_5 ia_3 la_3 s1 (rfl) rfl ?_
    refine R_bi dd_Reader_isLetter_6 (by decide) rfl ?_
    refine R_icmp dd_Reader_isLetter_8 rfl rfl (fun (c5 : (rd h 3 v1) < 97) => ?_) (fun (c5 : 97 ≤ (rd h 3 v1)) => ?_)
    · replace k := k.1 c5
      refine R_ic dd_Reader_isLetter_26 (by decide) rfl ?_
      refine R_zret dd_Reader_isLetter_27 rfl (by decide) ?_
      change Rn xs xl e mm_Reader_scanWord 18 [some (.inr (.inr 2)), some (.inl v1), none] [.inl 0] h _
      refine R_if dd_Reader_scanWord_18 rfl rfl (fun (c6 : 0 = 0) => ?_) (fun (c6 : 0 ≠ 0) => ?_)
      · skip
        exact k
      · exact absurd c6 (by omega)
    · replace k := k.2 c5
      refine R_ld (v := .inr (.inr 2)) dd_Reader_isLetter_11 rfl rfl rfl rfl ?_
      refine R_gf (v := .inr (.inr 3)) dd_Reader_isLetter_12 fd_7_9 io_2 (congrArg (fun z : Int => (Sum.inr (Sum.inr z) : LV)) (rf_2_1 hF)) rfl ?_
      refine R_ld (v := .inl v1) dd_Reader_isLetter_15 rfl rfl rfl rfl ?_
      obtain ⟨s2, k⟩ := k
      refine R_bald (v := (rd h 3 v1)) (n := 1000) dd_Reader_isLetter_16 ia_3 la_3 s2 (rfl) rfl ?_
      refine R_bi dd_Reader_isLetter_17 (by decide) rfl ?_
      refine R_icmp dd_Reader_isLetter_19 rfl rfl (fun (c7 : 122 < (rd h 3 v1)) => ?_) (fun (c7 : (rd h 3 v1) ≤ 122) => ?_)
      · replace k := k.1 c7
        refine R_ic dd_Reader_isLetter_26 (by decide) rfl ?_
        refine R_zret dd_Reader_isLetter_27 rfl (by decide) ?_
        change Rn xs xl e mm_Reader_scanWord 18 [some (.inr (.inr 2)), some (.inl v1), none] [.inl 0] h _
        refine R_if dd_Reader_scanWord_18 rfl rfl (fun (c8 : 0 = 0) => ?_) (fun (c8 : 0 ≠ 0) => ?_)
        · skip
          exact k
        · exact absurd c8 (by omega)
      · replace k := k.2 c7
        refine R_ic dd_Reader_isLetter_22 (by decide) rfl ?_
        refine R_goto dd_Reader_isLetter_23 rfl ?_
        refine R_zret dd_Reader_isLetter_27 rfl (by decide) ?_
        change Rn xs xl e mm_Reader_scanWord 18 [some (.inr (.inr 2)), some (.inl v1), none] [.inl 1] h _
        refine R_if dd_Reader_scanWord_18 rfl rfl (fun (c9 : 1 = 0) => ?_) (fun (c9 : 1 ≠ 0) => ?_)
        · exact absurd c9 (by omega)
        · skip
          refine R_ld (v := .inr (.inr 2)) dd_Reader_scanWord_21 rfl rfl rfl rfl ?_
          refine R_ld (v := .inr (.inr 2)) dd_Reader_scanWord_22 rfl rfl rfl rfl ?_
          refine R_gf (v := .inr (.inl (rd h 2 6))) dd_Reader_scanWord_23 fd_7_174 io_2 (congrArg (fun z : Int => (Sum.inr (Sum.inl z) : LV)) (rfl)) rfl ?_
          refine R_ld (v := .inr (.inr 2)) dd_Reader_scanWord_26 rfl rfl rfl rfl ?_
          refine R_gf (v := .inr (.inr 3)) dd_Reader_scanWord_27 fd_7_9 io_2 (congrArg (fun z : Int => (Sum.inr (Sum.inr z) : LV)) (rf_2_1 hF)) rfl ?_
          refine R_ld (v := .inl v1) dd_Reader_scanWord_30 rfl rfl rfl rfl ?_
          obtain ⟨s3, k⟩ := k
          refine R_bald (v := (rd h 3 v1)) (n := 1000) dd_Reader_scanWord_31 ia_3 la_3 s3 (rfl) rfl ?_
          refine R_A dd_Reader_scanWord_32 rfl rfl rfl rfl ?_
          refine R_call (as := [.inr (.inl (rd h 2 6)), .inl (((Int32.ofInt (rd h 3 v1)).toUInt32 % 65536).toInt32.toInt)]) (rest := [.inr (.inr 2)]) (M' := mm_Reader_withLetter) (ls0 := [some (.inr (.inl (rd h 2 6))), none, some (.inl (((Int32.ofInt (rd h 3 v1)).toUInt32 % 65536).toInt32.toInt))]) dd_Reader_scanWord_33 rfl rfl (cw_s cw_7_31 rfl rfl (Nat.le_of_ble_eq_true rfl) (Nat.le_of_ble_eq_true rfl)) mt_Reader_withLetter rfl (c := e - 1) (by omega) rfl ?_
          refine R_ld (v := .inr (.inl (rd h 2 6))) dd_Reader_withLetter_0 rfl rfl rfl rfl ?_
          refine R_C (v := .inr (.inl (32))) dd_Reader_withLetter_1 rfl rfl (by decide +kernel) rfl ?_
          refine R_A dd_Reader_withLetter_4 rfl rfl rfl rfl ?_
          refine R_ld (v := .inl (((Int32.ofInt (rd h 3 v1)).toUInt32 % 65536).toInt32.toInt)) dd_Reader_withLetter_5 rfl rfl rfl rfl ?_
          refine R_A dd_Reader_withLetter_6 rfl rfl rfl rfl ?_
          refine R_A dd_Reader_withLetter_7 rfl rfl rfl rfl ?_
          refine R_C (v := .inr (.inl (97))) dd_Reader_withLetter_8 rfl rfl (by decide +kernel) rfl ?_
          refine R_A dd_Reader_withLetter_11 rfl rfl rfl rfl ?_
          refine R_A dd_Reader_withLetter_12 rfl rfl rfl rfl ?_
          refine R_A dd_Reader_withLetter_13 rfl rfl rfl rfl ?_
          refine R_lret dd_Reader_withLetter_14 rfl ?_
          change Rn xs xl e mm_Reader_scanWord 36 [some (.inr (.inr 2)), some (.inl v1), none] [.inr (.inl (w64 ((w64 ((w64 ((w64 ((rd h 2 6) * (32))) + (((Int32.ofInt (rd h 3 v1)).toUInt32 % 65536).toInt32.toInt))) - (97))) + 1))), .inr (.inr 2)] h _
          refine R_pf (z := (w64 ((w64 ((w64 ((w64 ((rd h 2 6) * (32))) + (((Int32.ofInt (rd h 3 v1)).toUInt32 % 65536).toInt32.toInt))) - (97))) + 1))) dd_Reader_scanWord_36 fd_7_174 io_2 fn_7_6 rfl rfl ?_
          refine R_inc (y := v1 + 1) (ls' := [some (.inr (.inr 2)), some (.inl (v1 + 1)), none]) dd_Reader_scanWord_39 rfl (by decide) (by omega) (by omega) rfl rfl ?_
          refine R_goto dd_Reader_scanWord_42 rfl ?_
          exact k
theorem B_Reader_scanWord_45 {xs : Nat → Int} {xl e : Nat} {h : LH} {Q : Option LV → LH → Prop} {v1 : Int} (hF : RF h) (r_v1 : 0 ≤ v1 ∧ v1 ≤ 1000)
    (k : (-2147483648 ≤ v1 - (rd h 2 4) ∧ v1 - (rd h 2 4) ≤ 2147483647) ∧
      (8 < (v1 - (rd h 2 4)) →
        Rn xs xl e mm_Reader_scanWord 72 [some (.inr (.inr 2)), some (.inl v1), some (.inl 0)] [] (wr (wr h 2 5 v1) 2 3 1) Q) ∧
      ((v1 - (rd h 2 4)) ≤ 8 →
        Rn xs xl e mm_Reader_scanWord 72 [some (.inr (.inr 2)), some (.inl v1), some (.inl 0)] [] (wr (wr h 2 5 v1) 2 3 2) Q)) :
    Rn xs xl e mm_Reader_scanWord 45 [some (.inr (.inr 2)), some (.inl v1), none] [] h Q := by
  refine R_ld (v := .inr (.inr 2)) dd_Reader_scanWord_45 rfl rfl rfl rfl ?_
  refine R_ld (v := .inl v1) dd_Reader_scanWord_46 rfl rfl rfl rfl ?_
  refine R_pf (z := v1) dd_Reader_scanWord_47 fd_7_212 io_2 fn_7_5 rfl rfl ?_
  refine R_ld (v := .inr (.inr 2)) dd_Reader_scanWord_50 rfl rfl rfl rfl ?_
  refine R_ld (v := .inl v1) dd_Reader_scanWord_51 rfl rfl rfl rfl ?_
  refine R_ld (v := .inr (.inr 2)) dd_Reader_scanWord_52 rfl rfl rfl rfl ?_
  refine R_gf (v := .inl (rd h 2 4)) dd_Reader_scanWord_53 fd_7_209 io_2 (congrArg (fun z : Int => (Sum.inl z : LV)) (rdw_nei (by omega))) rfl ?_
  obtain ⟨s1, k⟩ := k
  refine R_isub (c := v1 - (rd h 2 4)) dd_Reader_scanWord_56 (by omega) s1 rfl ?_
  refine R_bi dd_Reader_scanWord_57 (by decide) rfl ?_
  refine R_icmp dd_Reader_scanWord_59 rfl rfl (fun (c2 : 8 < (v1 - (rd h 2 4))) => ?_) (fun (c2 : (v1 - (rd h 2 4)) ≤ 8) => ?_)
  · replace k := k.1 c2
    refine R_ic dd_Reader_scanWord_66 (by decide) rfl ?_
    refine R_pf (z := 1) dd_Reader_scanWord_67 fd_7_64 io_2 fn_7_3 rfl rfl ?_
    refine R_ic dd_Reader_scanWord_70 (by decide) rfl ?_
    refine R_st (ls' := [some (.inr (.inr 2)), some (.inl v1), some (.inl 0)]) dd_Reader_scanWord_71 rfl rfl rfl (Nat.le_of_ble_eq_true rfl) rfl rfl ?_
    exact k
  · replace k := k.2 c2
    refine R_ic dd_Reader_scanWord_62 (by decide) rfl ?_
    refine R_goto dd_Reader_scanWord_63 rfl ?_
    refine R_pf (z := 2) dd_Reader_scanWord_67 fd_7_64 io_2 fn_7_3 rfl rfl ?_
    refine R_ic dd_Reader_scanWord_70 (by decide) rfl ?_
    refine R_st (ls' := [some (.inr (.inr 2)), some (.inl v1), some (.inl 0)]) dd_Reader_scanWord_71 rfl rfl rfl (Nat.le_of_ble_eq_true rfl) rfl rfl ?_
    exact k
theorem B_Reader_scanWord_72 {xs : Nat → Int} {xl e : Nat} {h : LH} {Q : Option LV → LH → Prop} {v1 v2 : Int} (hF : RF h) (r_v2 : 0 ≤ v2 ∧ v2 ≤ 29)
    (k : (29 ≤ v2 →
        Q none h) ∧
      (v2 < 29 →
        ((rd h 2 3) ≠ 2 →
          Q none h) ∧
        ((rd h 2 3) = 2 →
          (0 ≤ v2 ∧ v2 < 29) ∧
          ((lcmp_ (rd h 4 v2) (rd h 2 6)) ≠ 0 →
            Rn xs xl e mm_Reader_scanWord 72 [some (.inr (.inr 2)), some (.inl v1), some (.inl (v2 + 1))] [] h Q) ∧
          ((lcmp_ (rd h 4 v2) (rd h 2 6)) = 0 →
            Rn xs xl e mm_Reader_scanWord 72 [some (.inr (.inr 2)), some (.inl v1), some (.inl (v2 + 1))] [] (wr h 2 7 v2) Q)))) :
    Rn xs xl e mm_Reader_scanWord 72 [some (.inr (.inr 2)), some (.inl v1), some (.inl v2)] [] h Q := by
  refine R_ld (v := .inl v2) dd_Reader_scanWord_72 rfl rfl rfl rfl ?_
  refine R_bi dd_Reader_scanWord_73 (by decide) rfl ?_
  refine R_icmp dd_Reader_scanWord_75 rfl rfl (fun (c2 : 29 ≤ v2) => ?_) (fun (c2 : v2 < 29) => ?_)
  · replace k := k.1 c2
    exact R_vret dd_Reader_scanWord_111 rfl k
  · replace k := k.2 c2
    refine R_ld (v := .inr (.inr 2)) dd_Reader_scanWord_78 rfl rfl rfl rfl ?_
    refine R_gf (v := .inl (rd h 2 3)) dd_Reader_scanWord_79 fd_7_64 io_2 (congrArg (fun z : Int => (Sum.inl z : LV)) (rfl)) rfl ?_
    refine R_ic dd_Reader_scanWord_82 (by decide) rfl ?_
    refine R_icmp dd_Reader_scanWord_83 rfl rfl (fun (c3 : (rd h 2 3) ≠ 2) => ?_) (fun (c3 : (rd h 2 3) = 2) => ?_)
    · replace k := k.1 c3
      exact R_vret dd_Reader_scanWord_111 rfl k
    · replace k := k.2 c3
      refine R_ld (v := .inr (.inr 2)) dd_Reader_scanWord_86 rfl rfl rfl rfl ?_
      refine R_gf (v := .inr (.inr 4)) dd_Reader_scanWord_87 fd_7_15 io_2 (congrArg (fun z : Int => (Sum.inr (Sum.inr z) : LV)) (rf_2_2 hF)) rfl ?_
      refine R_ld (v := .inl v2) dd_Reader_scanWord_90 rfl rfl rfl rfl ?_
      obtain ⟨s1, k⟩ := k
      refine R_lald (v := (rd h 4 v2)) (n := 29) dd_Reader_scanWord_91 ia_4 la_4 s1 (rfl) rfl ?_
      refine R_ld (v := .inr (.inr 2)) dd_Reader_scanWord_92 rfl rfl rfl rfl ?_
      refine R_gf (v := .inr (.inl (rd h 2 6))) dd_Reader_scanWord_93 fd_7_174 io_2 (congrArg (fun z : Int => (Sum.inr (Sum.inl z) : LV)) (rfl)) rfl ?_
      refine R_A dd_Reader_scanWord_96 rfl rfl rfl rfl ?_
      refine R_if dd_Reader_scanWord_97 rfl rfl (fun (c4 : (lcmp_ (rd h 4 v2) (rd h 2 6)) ≠ 0) => ?_) (fun (c4 : (lcmp_ (rd h 4 v2) (rd h 2 6)) = 0) => ?_)
      · replace k := k.1 c4
        refine R_inc (y := v2 + 1) (ls' := [some (.inr (.inr 2)), some (.inl v1), some (.inl (v2 + 1))]) dd_Reader_scanWord_105 rfl (by decide) (by omega) (by omega) rfl rfl ?_
        refine R_goto dd_Reader_scanWord_108 rfl ?_
        exact k
      · replace k := k.2 c4
        refine R_ld (v := .inr (.inr 2)) dd_Reader_scanWord_100 rfl rfl rfl rfl ?_
        refine R_ld (v := .inl v2) dd_Reader_scanWord_101 rfl rfl rfl rfl ?_
        refine R_pf (z := v2) dd_Reader_scanWord_102 fd_7_67 io_2 fn_7_7 rfl rfl ?_
        refine R_inc (y := v2 + 1) (ls' := [some (.inr (.inr 2)), some (.inl v1), some (.inl (v2 + 1))]) dd_Reader_scanWord_105 rfl (by decide) (by omega) (by omega) rfl rfl ?_
        refine R_goto dd_Reader_scanWord_108 rfl ?_
        exact k
theorem B_Reader_scanNumber_0 {xs : Nat → Int} {xl e : Nat} {h : LH} {Q : Option LV → LH → Prop} (hF : RF h)
    (k : Rn xs xl e mm_Reader_scanNumber 5 [some (.inr (.inr 2)), some (.inl (rd h 2 4))] [] h Q) :
    Rn xs xl e mm_Reader_scanNumber 0 [some (.inr (.inr 2)), none] [] h Q := by
  refine R_ld (v := .inr (.inr 2)) dd_Reader_scanNumber_0 rfl rfl rfl rfl ?_
  refine R_gf (v := .inl (rd h 2 4)) dd_Reader_scanNumber_1 fd_7_209 io_2 (congrArg (fun z : Int => (Sum.inl z : LV)) (rfl)) rfl ?_
  refine R_st (ls' := [some (.inr (.inr 2)), some (.inl (rd h 2 4))]) dd_Reader_scanNumber_4 rfl rfl rfl (Nat.le_of_ble_eq_true rfl) rfl rfl ?_
  exact k
theorem B_Reader_scanNumber_5 {xs : Nat → Int} {xl e : Nat} {h : LH} {Q : Option LV → LH → Prop} {v1 : Int} (hF : RF h) (r_v1 : 0 ≤ v1 ∧ v1 ≤ 1000) (he : 1 ≤ e)
    (k : ((rd h 2 0) ≤ v1 →
        Rn xs xl e mm_Reader_scanNumber 51 [some (.inr (.inr 2)), some (.inl v1)] [] h Q) ∧
      (v1 < (rd h 2 0) →
        (0 ≤ v1 ∧ v1 < 1000) ∧
        ((rd h 3 v1) < 48 →
          Rn xs xl e mm_Reader_scanNumber 51 [some (.inr (.inr 2)), some (.inl v1)] [] h Q) ∧
        (48 ≤ (rd h 3 v1) →
          (0 ≤ v1 ∧ v1 < 1000) ∧
          (57 < (rd h 3 v1) →
            Rn xs xl e mm_Reader_scanNumber 51 [some (.inr (.inr 2)), some (.inl v1)] [] h Q) ∧
          ((rd h 3 v1) ≤ 57 →
            (0 ≤ v1 ∧ v1 < 1000) ∧
            Rn xs xl e mm_Reader_scanNumber 5 [some (.inr (.inr 2)), some (.inl (v1 + 1))] [] (wr h 2 6 (w64 ((w64 ((w64 ((rd h 2 6) * (10))) + (rd h 3 v1))) - (48)))) Q)))) :
    Rn xs xl e mm_Reader_scanNumber 5 [some (.inr (.inr 2)), some (.inl v1)] [] h Q := by
  refine R_ld (v := .inl v1) dd_Reader_scanNumber_5 rfl rfl rfl rfl ?_
  refine R_ld (v := .inr (.inr 2)) dd_Reader_scanNumber_6 rfl rfl rfl rfl ?_
  refine R_gf (v := .inl (rd h 2 0)) dd_Reader_scanNumber_7 fd_7_35 io_2 (congrArg (fun z : Int => (Sum.inl z : LV)) (rfl)) rfl ?_
  refine R_icmp dd_Reader_scanNumber_10 rfl rfl (fun (c4 : (rd h 2 0) ≤ v1) => ?_) (fun (c4 : v1 < (rd h 2 0)) => ?_)
  · replace k := k.1 c4
    exact k
  · replace k := k.2 c4
    refine R_ld (v := .inr (.inr 2)) dd_Reader_scanNumber_13 rfl rfl rfl rfl ?_
    refine R_ld (v := .inl v1) dd_Reader_scanNumber_14 rfl rfl rfl rfl ?_
    refine R_call (as := [.inr (.inr 2), .inl v1]) (rest := []) (M' := mm_Reader_isDigit) (ls0 := [some (.inr (.inr 2)), some (.inl v1)]) dd_Reader_scanNumber_15 rfl rfl (cw_v cw_7_221 io_2 rfl rfl (Nat.le_of_ble_eq_true rfl) (Nat.le_of_ble_eq_true rfl)) mt_Reader_isDigit rfl (c := e - 1) (by omega) rfl ?_
    refine R_ld (v := .inr (.inr 2)) dd_Reader_isDigit_0 rfl rfl rfl rfl ?_
    refine R_gf (v := .inr (.inr 3)) dd_Reader_isDigit_1 fd_7_9 io_2 (congrArg (fun z : Int => (Sum.inr (Sum.inr z) : LV)) (rf_2_1 hF)) rfl ?_
    refine R_ld (v := .inl v1) dd_Reader_isDigit_4 rfl rfl rfl rfl ?_
    obtain ⟨s1, k⟩ := k
    refine R_bald (v := (rd h 3 v1)) (n := 1000) dd_Reader_isDigit_5 ia_3 la_3 s1 (rfl) rfl ?_
    refine R_bi dd_Reader_isDigit_6 (by decide) rfl ?_
    refine R_icmp dd_Reader_isDigit_8 rfl rfl (fun (c5 : (rd h 3 v1) < 48) => ?_) (fun (c5 : 48 ≤ (rd h 3 v1)) => ?_)
    · replace k := k.1 c5
      refine R_ic dd_Reader_isDigit_26 (by decide) rfl ?_
      refine R_zret dd_Reader_isDigit_27 rfl (by decide) ?_
      change Rn xs xl e mm_Reader_scanNumber 18 [some (.inr (.inr 2)), some (.inl v1)] [.inl 0] h _
      refine R_if dd_Reader_scanNumber_18 rfl rfl (fun (c6 : 0 = 0) => ?_) (fun (c6 : 0 ≠ 0) => ?_)
      · skip
        exact k
      · exact absurd c6 (by omega)
    · replace k := k.2 c5
      refine R_ld (v := .inr (.inr 2)) dd_Reader_isDigit_11 rfl rfl rfl rfl ?_
      refine R_gf (v := .inr (.inr 3)) dd_Reader_isDigit_12 fd_7_9 io_2 (congrArg (fun z : Int => (Sum.inr (Sum.inr z) : LV)) (rf_2_1 hF)) rfl ?_
      refine R_ld (v := .inl v1) dd_Reader_isDigit_15 rfl rfl rfl rfl ?_
      obtain ⟨s2, k⟩ := k
      refine R_bald (v := (rd h 3 v1)) (n := 1000) dd_Reader_isDigit_16 ia_3 la_3 s2 (rfl) rfl ?_
      refine R_bi dd_Reader_isDigit_17 (by decide) rfl ?_
      refine R_icmp dd_Reader_isDigit_19 rfl rfl (fun (c7 : 57 < (rd h 3 v1)) => ?_) (fun (c7 : (rd h 3 v1) ≤ 57) => ?_)
      · replace k := k.1 c7
        refine R_ic dd_Reader_isDigit_26 (by decide) rfl ?_
        refine R_zret dd_Reader_isDigit_27 rfl (by decide) ?_
        change Rn xs xl e mm_Reader_scanNumber 18 [some (.inr (.inr 2)), some (.inl v1)] [.inl 0] h _
        refine R_if dd_Reader_scanNumber_18 rfl rfl (fun (c8 : 0 = 0) => ?_) (fun (c8 : 0 ≠ 0) => ?_)
        · skip
          exact k
        · exact absurd c8 (by omega)
      · replace k := k.2 c7
        refine R_ic dd_Reader_isDigit_22 (by decide) rfl ?_
        refine R_goto dd_Reader_isDigit_23 rfl ?_
        refine R_zret dd_Reader_isDigit_27 rfl (by decide) ?_
        change Rn xs xl e mm_Reader_scanNumber 18 [some (.inr (.inr 2)), some (.inl v1)] [.inl 1] h _
        refine R_if dd_Reader_scanNumber_18 rfl rfl (fun (c9 : 1 = 0) => ?_) (fun (c9 : 1 ≠ 0) => ?_)
        · exact absurd c9 (by omega)
        · skip
          refine R_ld (v := .inr (.inr 2)) dd_Reader_scanNumber_21 rfl rfl rfl rfl ?_
          refine R_ld (v := .inr (.inr 2)) dd_Reader_scanNumber_22 rfl rfl rfl rfl ?_
          refine R_gf (v := .inr (.inl (rd h 2 6))) dd_Reader_scanNumber_23 fd_7_174 io_2 (congrArg (fun z : Int => (Sum.inr (Sum.inl z) : LV)) (rfl)) rfl ?_
          refine R_C (v := .inr (.inl (10))) dd_Reader_scanNumber_26 rfl rfl (by decide +kernel) rfl ?_
          refine R_A dd_Reader_scanNumber_29 rfl rfl rfl rfl ?_
          refine R_ld (v := .inr (.inr 2)) dd_Reader_scanNumber_30 rfl rfl rfl rfl ?_
          refine R_gf (v := .inr (.inr 3)) dd_Reader_scanNumber_31 fd_7_9 io_2 (congrArg (fun z : Int => (Sum.inr (Sum.inr z) : LV)) (rf_2_1 hF)) rfl ?_
          refine R_ld (v := .inl v1) dd_Reader_scanNumber_34 rfl rfl rfl rfl ?_
          obtain ⟨s3, k⟩ := k
          refine R_bald (v := (rd h 3 v1)) (n := 1000) dd_Reader_scanNumber_35 ia_3 la_3 s3 (rfl) rfl ?_
          refine R_A dd_Reader_scanNumber_36 rfl rfl rfl rfl ?_
          refine R_A dd_Reader_scanNumber_37 rfl rfl rfl rfl ?_
          refine R_C (v := .inr (.inl (48))) dd_Reader_scanNumber_38 rfl rfl (by decide +kernel) rfl ?_
          refine R_A dd_Reader_scanNumber_41 rfl rfl rfl rfl ?_
          refine R_pf (z := (w64 ((w64 ((w64 ((rd h 2 6) * (10))) + (rd h 3 v1))) - (48)))) dd_Reader_scanNumber_42 fd_7_174 io_2 fn_7_6 rfl rfl ?_
          refine R_inc (y := v1 + 1) (ls' := [some (.inr (.inr 2)), some (.inl (v1 + 1))]) dd_Reader_scanNumber_45 rfl (by decide) (by omega) (by omega) rfl rfl ?_
          refine R_goto dd_Reader_scanNumber_48 rfl ?_
          exact k
theorem B_Reader_scanNumber_51 {xs : Nat → Int} {xl e : Nat} {h : LH} {Q : Option LV → LH → Prop} {v1 : Int} (hF : RF h) (r_v1 : 0 ≤ v1 ∧ v1 ≤ 1000)
    (k : (-2147483648 ≤ v1 - (rd h 2 4) ∧ v1 - (rd h 2 4) ≤ 2147483647) ∧
      (4 < (v1 - (rd h 2 4)) →
        Q none (wr (wr h 2 5 v1) 2 3 1)) ∧
      ((v1 - (rd h 2 4)) ≤ 4 →
        Q none (wr (wr h 2 5 v1) 2 3 3))) :
    Rn xs xl e mm_Reader_scanNumber 51 [some (.inr (.inr 2)), some (.inl v1)] [] h Q := by
  refine R_ld (v := .inr (.inr 2)) dd_Reader_scanNumber_51 rfl rfl rfl rfl ?_
  refine R_ld (v := .inl v1) dd_Reader_scanNumber_52 rfl rfl rfl rfl ?_
  refine R_pf (z := v1) dd_Reader_scanNumber_53 fd_7_212 io_2 fn_7_5 rfl rfl ?_
  refine R_ld (v := .inr (.inr 2)) dd_Reader_scanNumber_56 rfl rfl rfl rfl ?_
  refine R_ld (v := .inl v1) dd_Reader_scanNumber_57 rfl rfl rfl rfl ?_
  refine R_ld (v := .inr (.inr 2)) dd_Reader_scanNumber_58 rfl rfl rfl rfl ?_
  refine R_gf (v := .inl (rd h 2 4)) dd_Reader_scanNumber_59 fd_7_209 io_2 (congrArg (fun z : Int => (Sum.inl z : LV)) (rdw_nei (by omega))) rfl ?_
  obtain ⟨s1, k⟩ := k
  refine R_isub (c := v1 - (rd h 2 4)) dd_Reader_scanNumber_62 (by omega) s1 rfl ?_
  refine R_ic dd_Reader_scanNumber_63 (by decide) rfl ?_
  refine R_icmp dd_Reader_scanNumber_64 rfl rfl (fun (c2 : 4 < (v1 - (rd h 2 4))) => ?_) (fun (c2 : (v1 - (rd h 2 4)) ≤ 4) => ?_)
  · replace k := k.1 c2
    refine R_ic dd_Reader_scanNumber_71 (by decide) rfl ?_
    refine R_pf (z := 1) dd_Reader_scanNumber_72 fd_7_64 io_2 fn_7_3 rfl rfl ?_
    exact R_vret dd_Reader_scanNumber_75 rfl k
  · replace k := k.2 c2
    refine R_ic dd_Reader_scanNumber_67 (by decide) rfl ?_
    refine R_goto dd_Reader_scanNumber_68 rfl ?_
    refine R_pf (z := 3) dd_Reader_scanNumber_72 fd_7_64 io_2 fn_7_3 rfl rfl ?_
    exact R_vret dd_Reader_scanNumber_75 rfl k
theorem B_Reader_begin_0 {xs : Nat → Int} {xl e : Nat} {h : LH} {Q : Option LV → LH → Prop} (hF : RF h)
    (k : (∃ c, c < e ∧ Rn xs xl c mm_Reader_step 0 [some (.inr (.inr 2)), none] [] (wr (wr h 2 8 0) 2 5 0) (fun r h' => Rn xs xl e mm_Reader_begin 14 [some (.inr (.inr 2))] (r.toList ++ []) h' Q))) :
    Rn xs xl e mm_Reader_begin 0 [some (.inr (.inr 2))] [] h Q := by
  refine R_ld (v := .inr (.inr 2)) dd_Reader_begin_0 rfl rfl rfl rfl ?_
  refine R_ic dd_Reader_begin_1 (by decide) rfl ?_
  refine R_pf (z := 0) dd_Reader_begin_2 fd_7_61 io_2 fn_7_8 rfl rfl ?_
  refine R_ld (v := .inr (.inr 2)) dd_Reader_begin_5 rfl rfl rfl rfl ?_
  refine R_ic dd_Reader_begin_6 (by decide) rfl ?_
  refine R_pf (z := 0) dd_Reader_begin_7 fd_7_212 io_2 fn_7_5 rfl rfl ?_
  refine R_ld (v := .inr (.inr 2)) dd_Reader_begin_10 rfl rfl rfl rfl ?_
  obtain ⟨c, hc, k⟩ := k
  exact R_call (as := [.inr (.inr 2)]) (rest := []) (M' := mm_Reader_step) (ls0 := [some (.inr (.inr 2)), none]) dd_Reader_begin_11 rfl rfl (cw_v cw_7_99 io_2 rfl rfl (Nat.le_of_ble_eq_true rfl) (Nat.le_of_ble_eq_true rfl)) mt_Reader_step rfl hc rfl k
theorem B_Reader_begin_14 {xs : Nat → Int} {xl e : Nat} {h : LH} {Q : Option LV → LH → Prop} (hF : RF h)
    (k : Q none h) :
    Rn xs xl e mm_Reader_begin 14 [some (.inr (.inr 2))] [] h Q := by
  exact R_vret dd_Reader_begin_14 rfl k
theorem B_Reader_step_138 {xs : Nat → Int} {xl e : Nat} {h : LH} {Q : Option LV → LH → Prop} {v1 w1 : Int} (hF : RF h)
    (k : (w1 = 0 →
        Q none (wr h 2 3 1)) ∧
      (w1 ≠ 0 →
        Q none (wr h 2 3 4))) :
    Rn xs xl e mm_Reader_step 138 [some (.inr (.inr 2)), some (.inl v1)] [.inl w1, .inr (.inr 2)] h Q := by
  refine R_if dd_Reader_step_138 rfl rfl (fun (c1 : w1 = 0) => ?_) (fun (c1 : w1 ≠ 0) => ?_)
  · replace k := k.1 c1
    refine R_ic dd_Reader_step_145 (by decide) rfl ?_
    refine R_pf (z := 1) dd_Reader_step_146 fd_7_64 io_2 fn_7_3 rfl rfl ?_
    exact R_vret dd_Reader_step_149 rfl k
  · replace k := k.2 c1
    refine R_ic dd_Reader_step_141 (by decide) rfl ?_
    refine R_goto dd_Reader_step_142 rfl ?_
    refine R_pf (z := 4) dd_Reader_step_146 fd_7_64 io_2 fn_7_3 rfl rfl ?_
    exact R_vret dd_Reader_step_149 rfl k
theorem B_Reader_isTokenSign_0 {xs : Nat → Int} {xl e : Nat} {h : LH} {Q : Option LV → LH → Prop} {v0 : Int} (hF : RF h)
    (k : (v0 = 40 →
        Q (some (.inl 1)) h) ∧
      (v0 ≠ 40 →
        (v0 = 41 →
          Q (some (.inl 1)) h) ∧
        (v0 ≠ 41 →
          (v0 = 60 →
            Q (some (.inl 1)) h) ∧
          (v0 ≠ 60 →
            (v0 = 61 →
              Q (some (.inl 1)) h) ∧
            (v0 ≠ 61 →
              (v0 = 43 →
                Q (some (.inl 1)) h) ∧
              (v0 ≠ 43 →
                (v0 = 45 →
                  Q (some (.inl 1)) h) ∧
                (v0 ≠ 45 →
                  (v0 = 42 →
                    Q (some (.inl 1)) h) ∧
                  (v0 ≠ 42 →
                    (v0 ≠ 59 →
                      Q (some (.inl 0)) h) ∧
                    (v0 = 59 →
                      Q (some (.inl 1)) h))))))))) :
    Rn xs xl e mm_Reader_isTokenSign 0 [some (.inl v0)] [] h Q := by
  refine R_ld (v := .inl v0) dd_Reader_isTokenSign_0 rfl rfl rfl rfl ?_
  refine R_bi dd_Reader_isTokenSign_1 (by decide) rfl ?_
  refine R_icmp dd_Reader_isTokenSign_3 rfl rfl (fun (c1 : v0 = 40) => ?_) (fun (c1 : v0 ≠ 40) => ?_)
  · replace k := k.1 c1
    refine R_ic dd_Reader_isTokenSign_48 (by decide) rfl ?_
    refine R_goto dd_Reader_isTokenSign_49 rfl ?_
    exact R_zret dd_Reader_isTokenSign_53 rfl (by decide) k
  · replace k := k.2 c1
    refine R_ld (v := .inl v0) dd_Reader_isTokenSign_6 rfl rfl rfl rfl ?_
    refine R_bi dd_Reader_isTokenSign_7 (by decide) rfl ?_
    refine R_icmp dd_Reader_isTokenSign_9 rfl rfl (fun (c2 : v0 = 41) => ?_) (fun (c2 : v0 ≠ 41) => ?_)
    · replace k := k.1 c2
      refine R_ic dd_Reader_isTokenSign_48 (by decide) rfl ?_
      refine R_goto dd_Reader_isTokenSign_49 rfl ?_
      exact R_zret dd_Reader_isTokenSign_53 rfl (by decide) k
    · replace k := k.2 c2
      refine R_ld (v := .inl v0) dd_Reader_isTokenSign_12 rfl rfl rfl rfl ?_
      refine R_bi dd_Reader_isTokenSign_13 (by decide) rfl ?_
      refine R_icmp dd_Reader_isTokenSign_15 rfl rfl (fun (c3 : v0 = 60) => ?_) (fun (c3 : v0 ≠ 60) => ?_)
      · replace k := k.1 c3
        refine R_ic dd_Reader_isTokenSign_48 (by decide) rfl ?_
        refine R_goto dd_Reader_isTokenSign_49 rfl ?_
        exact R_zret dd_Reader_isTokenSign_53 rfl (by decide) k
      · replace k := k.2 c3
        refine R_ld (v := .inl v0) dd_Reader_isTokenSign_18 rfl rfl rfl rfl ?_
        refine R_bi dd_Reader_isTokenSign_19 (by decide) rfl ?_
        refine R_icmp dd_Reader_isTokenSign_21 rfl rfl (fun (c4 : v0 = 61) => ?_) (fun (c4 : v0 ≠ 61) => ?_)
        · replace k := k.1 c4
          refine R_ic dd_Reader_isTokenSign_48 (by decide) rfl ?_
          refine R_goto dd_Reader_isTokenSign_49 rfl ?_
          exact R_zret dd_Reader_isTokenSign_53 rfl (by decide) k
        · replace k := k.2 c4
          refine R_ld (v := .inl v0) dd_Reader_isTokenSign_24 rfl rfl rfl rfl ?_
          refine R_bi dd_Reader_isTokenSign_25 (by decide) rfl ?_
          refine R_icmp dd_Reader_isTokenSign_27 rfl rfl (fun (c5 : v0 = 43) => ?_) (fun (c5 : v0 ≠ 43) => ?_)
          · replace k := k.1 c5
            refine R_ic dd_Reader_isTokenSign_48 (by decide) rfl ?_
            refine R_goto dd_Reader_isTokenSign_49 rfl ?_
            exact R_zret dd_Reader_isTokenSign_53 rfl (by decide) k
          · replace k := k.2 c5
            refine R_ld (v := .inl v0) dd_Reader_isTokenSign_30 rfl rfl rfl rfl ?_
            refine R_bi dd_Reader_isTokenSign_31 (by decide) rfl ?_
            refine R_icmp dd_Reader_isTokenSign_33 rfl rfl (fun (c6 : v0 = 45) => ?_) (fun (c6 : v0 ≠ 45) => ?_)
            · replace k := k.1 c6
              refine R_ic dd_Reader_isTokenSign_48 (by decide) rfl ?_
              refine R_goto dd_Reader_isTokenSign_49 rfl ?_
              exact R_zret dd_Reader_isTokenSign_53 rfl (by decide) k
            · replace k := k.2 c6
              refine R_ld (v := .inl v0) dd_Reader_isTokenSign_36 rfl rfl rfl rfl ?_
              refine R_bi dd_Reader_isTokenSign_37 (by decide) rfl ?_
              refine R_icmp dd_Reader_isTokenSign_39 rfl rfl (fun (c7 : v0 = 42) => ?_) (fun (c7 : v0 ≠ 42) => ?_)
              · replace k := k.1 c7
                refine R_ic dd_Reader_isTokenSign_48 (by decide) rfl ?_
                refine R_goto dd_Reader_isTokenSign_49 rfl ?_
                exact R_zret dd_Reader_isTokenSign_53 rfl (by decide) k
              · replace k := k.2 c7
                refine R_ld (v := .inl v0) dd_Reader_isTokenSign_42 rfl rfl rfl rfl ?_
                refine R_bi dd_Reader_isTokenSign_43 (by decide) rfl ?_
                refine R_icmp dd_Reader_isTokenSign_45 rfl rfl (fun (c8 : v0 ≠ 59) => ?_) (fun (c8 : v0 = 59) => ?_)
                · replace k := k.1 c8
                  refine R_ic dd_Reader_isTokenSign_52 (by decide) rfl ?_
                  exact R_zret dd_Reader_isTokenSign_53 rfl (by decide) k
                · replace k := k.2 c8
                  refine R_ic dd_Reader_isTokenSign_48 (by decide) rfl ?_
                  refine R_goto dd_Reader_isTokenSign_49 rfl ?_
                  exact R_zret dd_Reader_isTokenSign_53 rfl (by decide) k
theorem B_Reader_isName_0 {xs : Nat → Int} {xl e : Nat} {h : LH} {Q : Option LV → LH → Prop} (hF : RF h)
    (k : ((rd h 2 3) ≠ 2 →
        Q (some (.inl 0)) h) ∧
      ((rd h 2 3) = 2 →
        ((rd h 2 7) = (-1) →
          Q (some (.inl 1)) h) ∧
        ((rd h 2 7) ≠ (-1) →
          ((rd h 2 7) < 25 →
            Q (some (.inl 0)) h) ∧
          (25 ≤ (rd h 2 7) →
            Q (some (.inl 1)) h)))) :
    Rn xs xl e mm_Reader_isName 0 [some (.inr (.inr 2))] [] h Q := by
  refine R_ld (v := .inr (.inr 2)) dd_Reader_isName_0 rfl rfl rfl rfl ?_
  refine R_gf (v := .inl (rd h 2 3)) dd_Reader_isName_1 fd_7_64 io_2 (congrArg (fun z : Int => (Sum.inl z : LV)) (rfl)) rfl ?_
  refine R_ic dd_Reader_isName_4 (by decide) rfl ?_
  refine R_icmp dd_Reader_isName_5 rfl rfl (fun (c1 : (rd h 2 3) ≠ 2) => ?_) (fun (c1 : (rd h 2 3) = 2) => ?_)
  · replace k := k.1 c1
    refine R_ic dd_Reader_isName_29 (by decide) rfl ?_
    exact R_zret dd_Reader_isName_30 rfl (by decide) k
  · replace k := k.2 c1
    refine R_ld (v := .inr (.inr 2)) dd_Reader_isName_8 rfl rfl rfl rfl ?_
    refine R_gf (v := .inl (rd h 2 7)) dd_Reader_isName_9 fd_7_67 io_2 (congrArg (fun z : Int => (Sum.inl z : LV)) (rfl)) rfl ?_
    refine R_ic dd_Reader_isName_12 (by decide) rfl ?_
    refine R_icmp dd_Reader_isName_13 rfl rfl (fun (c2 : (rd h 2 7) = (-1)) => ?_) (fun (c2 : (rd h 2 7) ≠ (-1)) => ?_)
    · replace k := k.1 c2
      refine R_ic dd_Reader_isName_25 (by decide) rfl ?_
      refine R_goto dd_Reader_isName_26 rfl ?_
      exact R_zret dd_Reader_isName_30 rfl (by decide) k
    · replace k := k.2 c2
      refine R_ld (v := .inr (.inr 2)) dd_Reader_isName_16 rfl rfl rfl rfl ?_
      refine R_gf (v := .inl (rd h 2 7)) dd_Reader_isName_17 fd_7_67 io_2 (congrArg (fun z : Int => (Sum.inl z : LV)) (rfl)) rfl ?_
      refine R_bi dd_Reader_isName_20 (by decide) rfl ?_
      refine R_icmp dd_Reader_isName_22 rfl rfl (fun (c3 : (rd h 2 7) < 25) => ?_) (fun (c3 : 25 ≤ (rd h 2 7)) => ?_)
      · replace k := k.1 c3
        refine R_ic dd_Reader_isName_29 (by decide) rfl ?_
        exact R_zret dd_Reader_isName_30 rfl (by decide) k
      · replace k := k.2 c3
        refine R_ic dd_Reader_isName_25 (by decide) rfl ?_
        refine R_goto dd_Reader_isName_26 rfl ?_
        exact R_zret dd_Reader_isName_30 rfl (by decide) k
theorem B_Reader_isSign_0 {xs : Nat → Int} {xl e : Nat} {h : LH} {Q : Option LV → LH → Prop} {v1 : Int} (hF : RF h)
    (k : ((rd h 2 3) ≠ 4 →
        Q (some (.inl 0)) h) ∧
      ((rd h 2 3) = 4 →
        ((lcmp_ (rd h 2 6) v1) ≠ 0 →
          Q (some (.inl 0)) h) ∧
        ((lcmp_ (rd h 2 6) v1) = 0 →
          Q (some (.inl 1)) h))) :
    Rn xs xl e mm_Reader_isSign 0 [some (.inr (.inr 2)), some (.inl v1)] [] h Q := by
  refine R_ld (v := .inr (.inr 2)) dd_Reader_isSign_0 rfl rfl rfl rfl ?_
  refine R_gf (v := .inl (rd h 2 3)) dd_Reader_isSign_1 fd_7_64 io_2 (congrArg (fun z : Int => (Sum.inl z : LV)) (rfl)) rfl ?_
  refine R_ic dd_Reader_isSign_4 (by decide) rfl ?_
  refine R_icmp dd_Reader_isSign_5 rfl rfl (fun (c1 : (rd h 2 3) ≠ 4) => ?_) (fun (c1 : (rd h 2 3) = 4) => ?_)
  · replace k := k.1 c1
    refine R_ic dd_Reader_isSign_22 (by decide) rfl ?_
    exact R_zret dd_Reader_isSign_23 rfl (by decide) k
  · replace k := k.2 c1
    refine R_ld (v := .inr (.inr 2)) dd_Reader_isSign_8 rfl rfl rfl rfl ?_
    refine R_gf (v := .inr (.inl (rd h 2 6))) dd_Reader_isSign_9 fd_7_174 io_2 (congrArg (fun z : Int => (Sum.inr (Sum.inl z) : LV)) (rfl)) rfl ?_
    refine R_ld (v := .inl v1) dd_Reader_isSign_12 rfl rfl rfl rfl ?_
    refine R_A dd_Reader_isSign_13 rfl rfl rfl rfl ?_
    refine R_A dd_Reader_isSign_14 rfl rfl rfl rfl ?_
    refine R_if dd_Reader_isSign_15 rfl rfl (fun (c2 : (lcmp_ (rd h 2 6) v1) ≠ 0) => ?_) (fun (c2 : (lcmp_ (rd h 2 6) v1) = 0) => ?_)
    · replace k := k.1 c2
      refine R_ic dd_Reader_isSign_22 (by decide) rfl ?_
      exact R_zret dd_Reader_isSign_23 rfl (by decide) k
    · replace k := k.2 c2
      refine R_ic dd_Reader_isSign_18 (by decide) rfl ?_
      refine R_goto dd_Reader_isSign_19 rfl ?_
      exact R_zret dd_Reader_isSign_23 rfl (by decide) k
theorem B_Reader_takeWord_0 {xs : Nat → Int} {xl e : Nat} {h : LH} {Q : Option LV → LH → Prop} {v1 : Int} (hF : RF h)
    (k : ((rd h 2 7) ≠ v1 →
        (∃ c, c < e ∧ Rn xs xl c mm_Reader_fail 0 [some (.inr (.inr 2)), some (.inl 1)] [] h (fun r h' => Rn xs xl e mm_Reader_takeWord 20 [some (.inr (.inr 2)), some (.inl v1)] (r.toList ++ []) h' Q))) ∧
      ((rd h 2 7) = v1 →
        (∃ c, c < e ∧ Rn xs xl c mm_Reader_step 0 [some (.inr (.inr 2)), none] [] h (fun r h' => Rn xs xl e mm_Reader_takeWord 12 [some (.inr (.inr 2)), some (.inl v1)] (r.toList ++ []) h' Q)))) :
    Rn xs xl e mm_Reader_takeWord 0 [some (.inr (.inr 2)), some (.inl v1)] [] h Q := by
  refine R_ld (v := .inr (.inr 2)) dd_Reader_takeWord_0 rfl rfl rfl rfl ?_
  refine R_gf (v := .inl (rd h 2 7)) dd_Reader_takeWord_1 fd_7_67 io_2 (congrArg (fun z : Int => (Sum.inl z : LV)) (rfl)) rfl ?_
  refine R_ld (v := .inl v1) dd_Reader_takeWord_4 rfl rfl rfl rfl ?_
  refine R_icmp dd_Reader_takeWord_5 rfl rfl (fun (c3 : (rd h 2 7) ≠ v1) => ?_) (fun (c3 : (rd h 2 7) = v1) => ?_)
  · replace k := k.1 c3
    refine R_ld (v := .inr (.inr 2)) dd_Reader_takeWord_15 rfl rfl rfl rfl ?_
    refine R_ic dd_Reader_takeWord_16 (by decide) rfl ?_
    obtain ⟨c, hc, k⟩ := k
    exact R_call (as := [.inr (.inr 2), .inl 1]) (rest := []) (M' := mm_Reader_fail) (ls0 := [some (.inr (.inr 2)), some (.inl 1)]) dd_Reader_takeWord_17 rfl rfl (cw_v cw_7_80 io_2 rfl rfl (Nat.le_of_ble_eq_true rfl) (Nat.le_of_ble_eq_true rfl)) mt_Reader_fail rfl hc rfl k
  · replace k := k.2 c3
    refine R_ld (v := .inr (.inr 2)) dd_Reader_takeWord_8 rfl rfl rfl rfl ?_
    obtain ⟨c, hc, k⟩ := k
    exact R_call (as := [.inr (.inr 2)]) (rest := []) (M' := mm_Reader_step) (ls0 := [some (.inr (.inr 2)), none]) dd_Reader_takeWord_9 rfl rfl (cw_v cw_7_99 io_2 rfl rfl (Nat.le_of_ble_eq_true rfl) (Nat.le_of_ble_eq_true rfl)) mt_Reader_step rfl hc rfl k
theorem B_Reader_takeWord_12 {xs : Nat → Int} {xl e : Nat} {h : LH} {Q : Option LV → LH → Prop} {v1 : Int} (hF : RF h)
    (k : Q none h) :
    Rn xs xl e mm_Reader_takeWord 12 [some (.inr (.inr 2)), some (.inl v1)] [] h Q := by
  refine R_goto dd_Reader_takeWord_12 rfl ?_
  exact R_vret dd_Reader_takeWord_20 rfl k
theorem B_Reader_takeWord_20 {xs : Nat → Int} {xl e : Nat} {h : LH} {Q : Option LV → LH → Prop} {v1 : Int} (hF : RF h)
    (k : Q none h) :
    Rn xs xl e mm_Reader_takeWord 20 [some (.inr (.inr 2)), some (.inl v1)] [] h Q := by
  exact R_vret dd_Reader_takeWord_20 rfl k
