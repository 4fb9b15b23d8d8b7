/-! LM, by program (wip/p2/hand.py): rows of turn -/
def mm_Web_isOneRing : LM_M := (⟨"OneSided$Web", "isOneRing", "(LOneSided$Quarter;II)Z"⟩, prog_12_method_4_code, 4, (some .boolean), 10, 3, 1, 969, 968, 0)
def mm_Web_doorsToTurn : LM_M := (⟨"OneSided$Web", "doorsToTurn", "(LOneSided$Quarter;III)I"⟩, prog_12_method_6_code, 14, (some .int), 10, 4, 1, 963, 962, 0)
def mm_every : LM_M := (⟨"OneSidedModel", "every", "()I"⟩, prog_14_method_83_code, 1, (some .int), 12, 1, 0, 1722, 1721, 1000118)
theorem dd_Web_isOneRing_0 : decode mm_Web_isOneRing.2.1 0 = .ok (.iconst 1, 1) := by decide +kernel
theorem dd_Web_isOneRing_1 : decode mm_Web_isOneRing.2.1 1 = .ok (.aload_n 0, 1) := by decide +kernel
theorem dd_Web_isOneRing_2 : decode mm_Web_isOneRing.2.1 2 = .ok (.getfield 31, 3) := by decide +kernel
theorem fd_10_31 : fld 10 31 = some (6, 0) := by decide +kernel
theorem dd_Web_isOneRing_5 : decode mm_Web_isOneRing.2.1 5 = .ok (.ishl, 1) := by decide +kernel
theorem dd_Web_isOneRing_6 : decode mm_Web_isOneRing.2.1 6 = .ok (.iconst 1, 1) := by decide +kernel
theorem dd_Web_isOneRing_7 : decode mm_Web_isOneRing.2.1 7 = .ok (.isub, 1) := by decide +kernel
theorem dd_Web_isOneRing_8 : decode mm_Web_isOneRing.2.1 8 = .ok (.istore_n 3, 1) := by decide +kernel
theorem dd_Web_isOneRing_9 : decode mm_Web_isOneRing.2.1 9 = .ok (.aload_n 0, 1) := by decide +kernel
theorem dd_Web_isOneRing_10 : decode mm_Web_isOneRing.2.1 10 = .ok (.iload_n 1, 1) := by decide +kernel
theorem dd_Web_isOneRing_11 : decode mm_Web_isOneRing.2.1 11 = .ok (.iload_n 2, 1) := by decide +kernel
theorem dd_Web_isOneRing_12 : decode mm_Web_isOneRing.2.1 12 = .ok (.iconst 0, 1) := by decide +kernel
theorem dd_Web_isOneRing_13 : decode mm_Web_isOneRing.2.1 13 = .ok (.invokestatic 27, 3) := by decide +kernel
theorem dd_Web_isOneRing_16 : decode mm_Web_isOneRing.2.1 16 = .ok (.iload_n 3, 1) := by decide +kernel
theorem dd_Web_isOneRing_17 : decode mm_Web_isOneRing.2.1 17 = .ok (.if_icmp .ne (18), 3) := by decide +kernel
theorem dd_Web_isOneRing_35 : decode mm_Web_isOneRing.2.1 35 = .ok (.iconst 0, 1) := by decide +kernel
theorem dd_Web_isOneRing_36 : decode mm_Web_isOneRing.2.1 36 = .ok (.ireturn, 1) := by decide +kernel
theorem dd_Web_isOneRing_20 : decode mm_Web_isOneRing.2.1 20 = .ok (.aload_n 0, 1) := by decide +kernel
theorem dd_Web_isOneRing_21 : decode mm_Web_isOneRing.2.1 21 = .ok (.iload_n 2, 1) := by decide +kernel
theorem dd_Web_isOneRing_22 : decode mm_Web_isOneRing.2.1 22 = .ok (.iload_n 1, 1) := by decide +kernel
theorem dd_Web_isOneRing_23 : decode mm_Web_isOneRing.2.1 23 = .ok (.iconst 0, 1) := by decide +kernel
theorem dd_Web_isOneRing_24 : decode mm_Web_isOneRing.2.1 24 = .ok (.invokestatic 27, 3) := by decide +kernel
theorem dd_Web_isOneRing_27 : decode mm_Web_isOneRing.2.1 27 = .ok (.iload_n 3, 1) := by decide +kernel
theorem dd_Web_isOneRing_28 : decode mm_Web_isOneRing.2.1 28 = .ok (.if_icmp .ne (7), 3) := by decide +kernel
theorem dd_Web_isOneRing_31 : decode mm_Web_isOneRing.2.1 31 = .ok (.iconst 1, 1) := by decide +kernel
theorem dd_Web_isOneRing_32 : decode mm_Web_isOneRing.2.1 32 = .ok (.goto 4, 3) := by decide +kernel
theorem dd_Web_doorsToTurn_0 : decode mm_Web_doorsToTurn.2.1 0 = .ok (.aload_n 0, 1) := by decide +kernel
theorem dd_Web_doorsToTurn_1 : decode mm_Web_doorsToTurn.2.1 1 = .ok (.iload_n 1, 1) := by decide +kernel
theorem dd_Web_doorsToTurn_2 : decode mm_Web_doorsToTurn.2.1 2 = .ok (.iload_n 2, 1) := by decide +kernel
theorem dd_Web_doorsToTurn_3 : decode mm_Web_doorsToTurn.2.1 3 = .ok (.iload_n 3, 1) := by decide +kernel
theorem dd_Web_doorsToTurn_4 : decode mm_Web_doorsToTurn.2.1 4 = .ok (.invokevirtual 41, 3) := by decide +kernel
theorem cw_10_41 : cwOk 10 41 0 68 4 4 6 = true := by decide +kernel
theorem dd_Web_doorsToTurn_7 : decode mm_Web_doorsToTurn.2.1 7 = .ok (.istore 4, 2) := by decide +kernel
theorem dd_Web_doorsToTurn_9 : decode mm_Web_doorsToTurn.2.1 9 = .ok (.aload_n 0, 1) := by decide +kernel
theorem dd_Web_doorsToTurn_10 : decode mm_Web_doorsToTurn.2.1 10 = .ok (.iload_n 1, 1) := by decide +kernel
theorem dd_Web_doorsToTurn_11 : decode mm_Web_doorsToTurn.2.1 11 = .ok (.iload_n 2, 1) := by decide +kernel
theorem dd_Web_doorsToTurn_12 : decode mm_Web_doorsToTurn.2.1 12 = .ok (.iload_n 3, 1) := by decide +kernel
theorem dd_Web_doorsToTurn_13 : decode mm_Web_doorsToTurn.2.1 13 = .ok (.invokevirtual 44, 3) := by decide +kernel
theorem cw_10_44 : cwOk 10 44 0 69 4 4 6 = true := by decide +kernel
theorem dd_Web_doorsToTurn_16 : decode mm_Web_doorsToTurn.2.1 16 = .ok (.istore 5, 2) := by decide +kernel
theorem dd_Web_doorsToTurn_18 : decode mm_Web_doorsToTurn.2.1 18 = .ok (.iconst 0, 1) := by decide +kernel
theorem dd_Web_doorsToTurn_19 : decode mm_Web_doorsToTurn.2.1 19 = .ok (.istore 6, 2) := by decide +kernel
theorem dd_Web_doorsToTurn_21 : decode mm_Web_doorsToTurn.2.1 21 = .ok (.iconst 0, 1) := by decide +kernel
theorem dd_Web_doorsToTurn_22 : decode mm_Web_doorsToTurn.2.1 22 = .ok (.istore 7, 2) := by decide +kernel
theorem dd_Web_doorsToTurn_24 : decode mm_Web_doorsToTurn.2.1 24 = .ok (.iconst 0, 1) := by decide +kernel
theorem dd_Web_doorsToTurn_25 : decode mm_Web_doorsToTurn.2.1 25 = .ok (.istore 8, 2) := by decide +kernel
theorem dd_Web_doorsToTurn_27 : decode mm_Web_doorsToTurn.2.1 27 = .ok (.iload 8, 2) := by decide +kernel
theorem dd_Web_doorsToTurn_29 : decode mm_Web_doorsToTurn.2.1 29 = .ok (.aload_n 0, 1) := by decide +kernel
theorem dd_Web_doorsToTurn_30 : decode mm_Web_doorsToTurn.2.1 30 = .ok (.getfield 47, 3) := by decide +kernel
theorem dd_Web_doorsToTurn_33 : decode mm_Web_doorsToTurn.2.1 33 = .ok (.if_icmp .ge (70), 3) := by decide +kernel
theorem dd_Web_doorsToTurn_36 : decode mm_Web_doorsToTurn.2.1 36 = .ok (.aload_n 0, 1) := by decide +kernel
theorem dd_Web_doorsToTurn_37 : decode mm_Web_doorsToTurn.2.1 37 = .ok (.iload 8, 2) := by decide +kernel
theorem dd_Web_doorsToTurn_39 : decode mm_Web_doorsToTurn.2.1 39 = .ok (.iload_n 1, 1) := by decide +kernel
theorem dd_Web_doorsToTurn_40 : decode mm_Web_doorsToTurn.2.1 40 = .ok (.iload_n 2, 1) := by decide +kernel
theorem dd_Web_doorsToTurn_41 : decode mm_Web_doorsToTurn.2.1 41 = .ok (.aload_n 0, 1) := by decide +kernel
theorem dd_Web_doorsToTurn_42 : decode mm_Web_doorsToTurn.2.1 42 = .ok (.getfield 50, 3) := by decide +kernel
theorem fd_10_50 : fld 10 50 = some (6, 1) := by decide +kernel
theorem dd_Web_doorsToTurn_45 : decode mm_Web_doorsToTurn.2.1 45 = .ok (.iload 8, 2) := by decide +kernel
theorem dd_Web_doorsToTurn_47 : decode mm_Web_doorsToTurn.2.1 47 = .ok (.aaload, 1) := by decide +kernel
theorem dd_Web_doorsToTurn_48 : decode mm_Web_doorsToTurn.2.1 48 = .ok (.getfield 54, 3) := by decide +kernel
theorem fd_10_54 : fld 10 54 = some (1, 8) := by decide +kernel
theorem dd_Web_doorsToTurn_51 : decode mm_Web_doorsToTurn.2.1 51 = .ok (.iconst 1, 1) := by decide +kernel
theorem dd_Web_doorsToTurn_52 : decode mm_Web_doorsToTurn.2.1 52 = .ok (.invokevirtual 59, 3) := by decide +kernel
theorem cw_10_59 : cwOk 10 59 0 46 6 9 6 = true := by decide +kernel
theorem dd_Web_doorsToTurn_55 : decode mm_Web_doorsToTurn.2.1 55 = .ok (.istore 9, 2) := by decide +kernel
theorem dd_Web_doorsToTurn_57 : decode mm_Web_doorsToTurn.2.1 57 = .ok (.iload 6, 2) := by decide +kernel
theorem dd_Web_doorsToTurn_59 : decode mm_Web_doorsToTurn.2.1 59 = .ok (.iload 9, 2) := by decide +kernel
theorem dd_Web_doorsToTurn_61 : decode mm_Web_doorsToTurn.2.1 61 = .ok (.iconst 1, 1) := by decide +kernel
theorem dd_Web_doorsToTurn_62 : decode mm_Web_doorsToTurn.2.1 62 = .ok (.iand, 1) := by decide +kernel
theorem dd_Web_doorsToTurn_63 : decode mm_Web_doorsToTurn.2.1 63 = .ok (.ifCond .eq (10), 3) := by decide +kernel
theorem dd_Web_doorsToTurn_73 : decode mm_Web_doorsToTurn.2.1 73 = .ok (.iconst 0, 1) := by decide +kernel
theorem dd_Web_doorsToTurn_74 : decode mm_Web_doorsToTurn.2.1 74 = .ok (.ior, 1) := by decide +kernel
theorem dd_Web_doorsToTurn_75 : decode mm_Web_doorsToTurn.2.1 75 = .ok (.istore 6, 2) := by decide +kernel
theorem dd_Web_doorsToTurn_66 : decode mm_Web_doorsToTurn.2.1 66 = .ok (.iconst 1, 1) := by decide +kernel
theorem dd_Web_doorsToTurn_67 : decode mm_Web_doorsToTurn.2.1 67 = .ok (.iload 8, 2) := by decide +kernel
theorem dd_Web_doorsToTurn_69 : decode mm_Web_doorsToTurn.2.1 69 = .ok (.ishl, 1) := by decide +kernel
theorem dd_Web_doorsToTurn_70 : decode mm_Web_doorsToTurn.2.1 70 = .ok (.goto 4, 3) := by decide +kernel
theorem dd_Web_doorsToTurn_77 : decode mm_Web_doorsToTurn.2.1 77 = .ok (.iload 7, 2) := by decide +kernel
theorem dd_Web_doorsToTurn_79 : decode mm_Web_doorsToTurn.2.1 79 = .ok (.iload 9, 2) := by decide +kernel
theorem dd_Web_doorsToTurn_81 : decode mm_Web_doorsToTurn.2.1 81 = .ok (.iconst 2, 1) := by decide +kernel
theorem dd_Web_doorsToTurn_82 : decode mm_Web_doorsToTurn.2.1 82 = .ok (.iand, 1) := by decide +kernel
theorem dd_Web_doorsToTurn_83 : decode mm_Web_doorsToTurn.2.1 83 = .ok (.ifCond .eq (10), 3) := by decide +kernel
theorem dd_Web_doorsToTurn_93 : decode mm_Web_doorsToTurn.2.1 93 = .ok (.iconst 0, 1) := by decide +kernel
theorem dd_Web_doorsToTurn_94 : decode mm_Web_doorsToTurn.2.1 94 = .ok (.ior, 1) := by decide +kernel
theorem dd_Web_doorsToTurn_95 : decode mm_Web_doorsToTurn.2.1 95 = .ok (.istore 7, 2) := by decide +kernel
theorem dd_Web_doorsToTurn_97 : decode mm_Web_doorsToTurn.2.1 97 = .ok (.iinc 8 1, 3) := by decide +kernel
theorem dd_Web_doorsToTurn_100 : decode mm_Web_doorsToTurn.2.1 100 = .ok (.goto (-73), 3) := by decide +kernel
theorem dd_Web_doorsToTurn_86 : decode mm_Web_doorsToTurn.2.1 86 = .ok (.iconst 1, 1) := by decide +kernel
theorem dd_Web_doorsToTurn_87 : decode mm_Web_doorsToTurn.2.1 87 = .ok (.iload 8, 2) := by decide +kernel
theorem dd_Web_doorsToTurn_89 : decode mm_Web_doorsToTurn.2.1 89 = .ok (.ishl, 1) := by decide +kernel
theorem dd_Web_doorsToTurn_90 : decode mm_Web_doorsToTurn.2.1 90 = .ok (.goto 4, 3) := by decide +kernel
theorem dd_Web_doorsToTurn_103 : decode mm_Web_doorsToTurn.2.1 103 = .ok (.iload 6, 2) := by decide +kernel
theorem dd_Web_doorsToTurn_105 : decode mm_Web_doorsToTurn.2.1 105 = .ok (.iload_n 3, 1) := by decide +kernel
theorem dd_Web_doorsToTurn_106 : decode mm_Web_doorsToTurn.2.1 106 = .ok (.iconst (-1), 1) := by decide +kernel
theorem dd_Web_doorsToTurn_107 : decode mm_Web_doorsToTurn.2.1 107 = .ok (.ixor, 1) := by decide +kernel
theorem dd_Web_doorsToTurn_108 : decode mm_Web_doorsToTurn.2.1 108 = .ok (.iand, 1) := by decide +kernel
theorem dd_Web_doorsToTurn_109 : decode mm_Web_doorsToTurn.2.1 109 = .ok (.istore 6, 2) := by decide +kernel
theorem dd_Web_doorsToTurn_111 : decode mm_Web_doorsToTurn.2.1 111 = .ok (.iload 7, 2) := by decide +kernel
theorem dd_Web_doorsToTurn_113 : decode mm_Web_doorsToTurn.2.1 113 = .ok (.iload_n 3, 1) := by decide +kernel
theorem dd_Web_doorsToTurn_114 : decode mm_Web_doorsToTurn.2.1 114 = .ok (.iconst (-1), 1) := by decide +kernel
theorem dd_Web_doorsToTurn_115 : decode mm_Web_doorsToTurn.2.1 115 = .ok (.ixor, 1) := by decide +kernel
theorem dd_Web_doorsToTurn_116 : decode mm_Web_doorsToTurn.2.1 116 = .ok (.iand, 1) := by decide +kernel
theorem dd_Web_doorsToTurn_117 : decode mm_Web_doorsToTurn.2.1 117 = .ok (.istore 7, 2) := by decide +kernel
theorem dd_Web_doorsToTurn_119 : decode mm_Web_doorsToTurn.2.1 119 = .ok (.aload_n 0, 1) := by decide +kernel
theorem dd_Web_doorsToTurn_120 : decode mm_Web_doorsToTurn.2.1 120 = .ok (.iload 4, 2) := by decide +kernel
theorem dd_Web_doorsToTurn_122 : decode mm_Web_doorsToTurn.2.1 122 = .ok (.iload 6, 2) := by decide +kernel
theorem dd_Web_doorsToTurn_124 : decode mm_Web_doorsToTurn.2.1 124 = .ok (.ior, 1) := by decide +kernel
theorem dd_Web_doorsToTurn_125 : decode mm_Web_doorsToTurn.2.1 125 = .ok (.iload 5, 2) := by decide +kernel
theorem dd_Web_doorsToTurn_127 : decode mm_Web_doorsToTurn.2.1 127 = .ok (.iload 7, 2) := by decide +kernel
theorem dd_Web_doorsToTurn_129 : decode mm_Web_doorsToTurn.2.1 129 = .ok (.ior, 1) := by decide +kernel
theorem dd_Web_doorsToTurn_130 : decode mm_Web_doorsToTurn.2.1 130 = .ok (.invokestatic 63, 3) := by decide +kernel
theorem cw_10_63 : cwOk 10 63 1 106 3 4 10 = true := by decide +kernel
theorem mt_Web_isOneRing : MTB 106 = some mm_Web_isOneRing := rfl
theorem dd_Web_doorsToTurn_133 : decode mm_Web_doorsToTurn.2.1 133 = .ok (.ifCond .ne (5), 3) := by decide +kernel
theorem dd_Web_doorsToTurn_138 : decode mm_Web_doorsToTurn.2.1 138 = .ok (.iload 4, 2) := by decide +kernel
theorem dd_Web_doorsToTurn_140 : decode mm_Web_doorsToTurn.2.1 140 = .ok (.iload 6, 2) := by decide +kernel
theorem dd_Web_doorsToTurn_142 : decode mm_Web_doorsToTurn.2.1 142 = .ok (.ixor, 1) := by decide +kernel
theorem dd_Web_doorsToTurn_143 : decode mm_Web_doorsToTurn.2.1 143 = .ok (.iload 5, 2) := by decide +kernel
theorem dd_Web_doorsToTurn_145 : decode mm_Web_doorsToTurn.2.1 145 = .ok (.iload 7, 2) := by decide +kernel
theorem dd_Web_doorsToTurn_147 : decode mm_Web_doorsToTurn.2.1 147 = .ok (.ixor, 1) := by decide +kernel
theorem dd_Web_doorsToTurn_148 : decode mm_Web_doorsToTurn.2.1 148 = .ok (.ior, 1) := by decide +kernel
theorem dd_Web_doorsToTurn_149 : decode mm_Web_doorsToTurn.2.1 149 = .ok (.iconst (-1), 1) := by decide +kernel
theorem dd_Web_doorsToTurn_150 : decode mm_Web_doorsToTurn.2.1 150 = .ok (.ixor, 1) := by decide +kernel
theorem dd_Web_doorsToTurn_151 : decode mm_Web_doorsToTurn.2.1 151 = .ok (.istore 8, 2) := by decide +kernel
theorem dd_Web_doorsToTurn_153 : decode mm_Web_doorsToTurn.2.1 153 = .ok (.iconst (-1), 1) := by decide +kernel
theorem dd_Web_doorsToTurn_154 : decode mm_Web_doorsToTurn.2.1 154 = .ok (.istore 9, 2) := by decide +kernel
theorem dd_Web_doorsToTurn_156 : decode mm_Web_doorsToTurn.2.1 156 = .ok (.bipush 15, 2) := by decide +kernel
theorem dd_Web_doorsToTurn_158 : decode mm_Web_doorsToTurn.2.1 158 = .ok (.istore 10, 2) := by decide +kernel
theorem dd_Web_doorsToTurn_160 : decode mm_Web_doorsToTurn.2.1 160 = .ok (.iconst 0, 1) := by decide +kernel
theorem dd_Web_doorsToTurn_161 : decode mm_Web_doorsToTurn.2.1 161 = .ok (.istore 11, 2) := by decide +kernel
theorem dd_Web_doorsToTurn_136 : decode mm_Web_doorsToTurn.2.1 136 = .ok (.iconst (-1), 1) := by decide +kernel
theorem dd_Web_doorsToTurn_137 : decode mm_Web_doorsToTurn.2.1 137 = .ok (.ireturn, 1) := by decide +kernel
theorem dd_Web_doorsToTurn_163 : decode mm_Web_doorsToTurn.2.1 163 = .ok (.iload 11, 2) := by decide +kernel
theorem dd_Web_doorsToTurn_165 : decode mm_Web_doorsToTurn.2.1 165 = .ok (.iconst 1, 1) := by decide +kernel
theorem dd_Web_doorsToTurn_166 : decode mm_Web_doorsToTurn.2.1 166 = .ok (.aload_n 0, 1) := by decide +kernel
theorem dd_Web_doorsToTurn_167 : decode mm_Web_doorsToTurn.2.1 167 = .ok (.getfield 47, 3) := by decide +kernel
theorem dd_Web_doorsToTurn_170 : decode mm_Web_doorsToTurn.2.1 170 = .ok (.ishl, 1) := by decide +kernel
theorem dd_Web_doorsToTurn_171 : decode mm_Web_doorsToTurn.2.1 171 = .ok (.if_icmp .ge (82), 3) := by decide +kernel
theorem dd_Web_doorsToTurn_253 : decode mm_Web_doorsToTurn.2.1 253 = .ok (.iload 9, 2) := by decide +kernel
theorem dd_Web_doorsToTurn_255 : decode mm_Web_doorsToTurn.2.1 255 = .ok (.ireturn, 1) := by decide +kernel
theorem dd_Web_doorsToTurn_174 : decode mm_Web_doorsToTurn.2.1 174 = .ok (.iload 11, 2) := by decide +kernel
theorem dd_Web_doorsToTurn_176 : decode mm_Web_doorsToTurn.2.1 176 = .ok (.iload 8, 2) := by decide +kernel
theorem dd_Web_doorsToTurn_178 : decode mm_Web_doorsToTurn.2.1 178 = .ok (.iand, 1) := by decide +kernel
theorem dd_Web_doorsToTurn_179 : decode mm_Web_doorsToTurn.2.1 179 = .ok (.ifCond .ne (68), 3) := by decide +kernel
theorem dd_Web_doorsToTurn_182 : decode mm_Web_doorsToTurn.2.1 182 = .ok (.iload 11, 2) := by decide +kernel
theorem dd_Web_doorsToTurn_184 : decode mm_Web_doorsToTurn.2.1 184 = .ok (.invokestatic 67, 3) := by decide +kernel
theorem dd_Web_doorsToTurn_187 : decode mm_Web_doorsToTurn.2.1 187 = .ok (.iload 10, 2) := by decide +kernel
theorem dd_Web_doorsToTurn_189 : decode mm_Web_doorsToTurn.2.1 189 = .ok (.if_icmp .lt (6), 3) := by decide +kernel
theorem dd_Web_doorsToTurn_195 : decode mm_Web_doorsToTurn.2.1 195 = .ok (.iload 4, 2) := by decide +kernel
theorem dd_Web_doorsToTurn_197 : decode mm_Web_doorsToTurn.2.1 197 = .ok (.iload 11, 2) := by decide +kernel
theorem dd_Web_doorsToTurn_199 : decode mm_Web_doorsToTurn.2.1 199 = .ok (.iconst (-1), 1) := by decide +kernel
theorem dd_Web_doorsToTurn_200 : decode mm_Web_doorsToTurn.2.1 200 = .ok (.ixor, 1) := by decide +kernel
theorem dd_Web_doorsToTurn_201 : decode mm_Web_doorsToTurn.2.1 201 = .ok (.iand, 1) := by decide +kernel
theorem dd_Web_doorsToTurn_202 : decode mm_Web_doorsToTurn.2.1 202 = .ok (.iload 6, 2) := by decide +kernel
theorem dd_Web_doorsToTurn_204 : decode mm_Web_doorsToTurn.2.1 204 = .ok (.iload 11, 2) := by decide +kernel
theorem dd_Web_doorsToTurn_206 : decode mm_Web_doorsToTurn.2.1 206 = .ok (.iand, 1) := by decide +kernel
theorem dd_Web_doorsToTurn_207 : decode mm_Web_doorsToTurn.2.1 207 = .ok (.ior, 1) := by decide +kernel
theorem dd_Web_doorsToTurn_208 : decode mm_Web_doorsToTurn.2.1 208 = .ok (.istore 12, 2) := by decide +kernel
theorem dd_Web_doorsToTurn_210 : decode mm_Web_doorsToTurn.2.1 210 = .ok (.iload 5, 2) := by decide +kernel
theorem dd_Web_doorsToTurn_212 : decode mm_Web_doorsToTurn.2.1 212 = .ok (.iload 11, 2) := by decide +kernel
theorem dd_Web_doorsToTurn_214 : decode mm_Web_doorsToTurn.2.1 214 = .ok (.iconst (-1), 1) := by decide +kernel
theorem dd_Web_doorsToTurn_215 : decode mm_Web_doorsToTurn.2.1 215 = .ok (.ixor, 1) := by decide +kernel
theorem dd_Web_doorsToTurn_216 : decode mm_Web_doorsToTurn.2.1 216 = .ok (.iand, 1) := by decide +kernel
theorem dd_Web_doorsToTurn_217 : decode mm_Web_doorsToTurn.2.1 217 = .ok (.iload 7, 2) := by decide +kernel
theorem dd_Web_doorsToTurn_219 : decode mm_Web_doorsToTurn.2.1 219 = .ok (.iload 11, 2) := by decide +kernel
theorem dd_Web_doorsToTurn_221 : decode mm_Web_doorsToTurn.2.1 221 = .ok (.iand, 1) := by decide +kernel
theorem dd_Web_doorsToTurn_222 : decode mm_Web_doorsToTurn.2.1 222 = .ok (.ior, 1) := by decide +kernel
theorem dd_Web_doorsToTurn_223 : decode mm_Web_doorsToTurn.2.1 223 = .ok (.istore 13, 2) := by decide +kernel
theorem dd_Web_doorsToTurn_225 : decode mm_Web_doorsToTurn.2.1 225 = .ok (.aload_n 0, 1) := by decide +kernel
theorem dd_Web_doorsToTurn_226 : decode mm_Web_doorsToTurn.2.1 226 = .ok (.iload 12, 2) := by decide +kernel
theorem dd_Web_doorsToTurn_228 : decode mm_Web_doorsToTurn.2.1 228 = .ok (.iload 13, 2) := by decide +kernel
theorem dd_Web_doorsToTurn_230 : decode mm_Web_doorsToTurn.2.1 230 = .ok (.invokestatic 63, 3) := by decide +kernel
theorem dd_Web_doorsToTurn_192 : decode mm_Web_doorsToTurn.2.1 192 = .ok (.goto 55, 3) := by decide +kernel
theorem dd_Web_doorsToTurn_233 : decode mm_Web_doorsToTurn.2.1 233 = .ok (.ifCond .eq (14), 3) := by decide +kernel
theorem dd_Web_doorsToTurn_236 : decode mm_Web_doorsToTurn.2.1 236 = .ok (.iload 11, 2) := by decide +kernel
theorem dd_Web_doorsToTurn_238 : decode mm_Web_doorsToTurn.2.1 238 = .ok (.istore 9, 2) := by decide +kernel
theorem dd_Web_doorsToTurn_240 : decode mm_Web_doorsToTurn.2.1 240 = .ok (.iload 11, 2) := by decide +kernel
theorem dd_Web_doorsToTurn_242 : decode mm_Web_doorsToTurn.2.1 242 = .ok (.invokestatic 67, 3) := by decide +kernel
theorem dd_Web_doorsToTurn_245 : decode mm_Web_doorsToTurn.2.1 245 = .ok (.istore 10, 2) := by decide +kernel
theorem dd_Web_doorsToTurn_247 : decode mm_Web_doorsToTurn.2.1 247 = .ok (.iinc 11 1, 3) := by decide +kernel
theorem dd_Web_doorsToTurn_250 : decode mm_Web_doorsToTurn.2.1 250 = .ok (.goto (-87), 3) := by decide +kernel
theorem dd_OneSided_turn_0 : decode mm_OneSided_turn.2.1 0 = .ok (.aload_n 0, 1) := by decide +kernel
theorem dd_OneSided_turn_1 : decode mm_OneSided_turn.2.1 1 = .ok (.iload_n 1, 1) := by decide +kernel
theorem dd_OneSided_turn_2 : decode mm_OneSided_turn.2.1 2 = .ok (.iload_n 2, 1) := by decide +kernel
theorem dd_OneSided_turn_3 : decode mm_OneSided_turn.2.1 3 = .ok (.invokevirtual 193, 3) := by decide +kernel
theorem dd_OneSided_turn_6 : decode mm_OneSided_turn.2.1 6 = .ok (.ifCond .ne (5), 3) := by decide +kernel
theorem dd_OneSided_turn_9 : decode mm_OneSided_turn.2.1 9 = .ok (.iconst (-1), 1) := by decide +kernel
theorem dd_OneSided_turn_10 : decode mm_OneSided_turn.2.1 10 = .ok (.ireturn, 1) := by decide +kernel
theorem dd_OneSided_turn_11 : decode mm_OneSided_turn.2.1 11 = .ok (.aload_n 0, 1) := by decide +kernel
theorem dd_OneSided_turn_12 : decode mm_OneSided_turn.2.1 12 = .ok (.getfield 19, 3) := by decide +kernel
theorem dd_OneSided_turn_15 : decode mm_OneSided_turn.2.1 15 = .ok (.iload_n 1, 1) := by decide +kernel
theorem dd_OneSided_turn_16 : decode mm_OneSided_turn.2.1 16 = .ok (.iload_n 2, 1) := by decide +kernel
theorem dd_OneSided_turn_17 : decode mm_OneSided_turn.2.1 17 = .ok (.aload_n 0, 1) := by decide +kernel
theorem dd_OneSided_turn_18 : decode mm_OneSided_turn.2.1 18 = .ok (.getfield 29, 3) := by decide +kernel
theorem dd_OneSided_turn_21 : decode mm_OneSided_turn.2.1 21 = .ok (.getfield 149, 3) := by decide +kernel
theorem dd_OneSided_turn_24 : decode mm_OneSided_turn.2.1 24 = .ok (.getfield 153, 3) := by decide +kernel
theorem dd_OneSided_turn_27 : decode mm_OneSided_turn.2.1 27 = .ok (.invokestatic 277, 3) := by decide +kernel
theorem cw_11_277 : cwOk 11 277 1 105 4 14 10 = true := by decide +kernel
theorem mt_Web_doorsToTurn : MTB 105 = some mm_Web_doorsToTurn := rfl
theorem dd_OneSided_turn_30 : decode mm_OneSided_turn.2.1 30 = .ok (.ireturn, 1) := by decide +kernel
theorem dd_turn_0 : decode mm_turn.2.1 0 = .ok (.aload_n 0, 1) := by decide +kernel
theorem dd_turn_1 : decode mm_turn.2.1 1 = .ok (.iconst 0, 1) := by decide +kernel
theorem dd_turn_2 : decode mm_turn.2.1 2 = .ok (.putfield 1, 3) := by decide +kernel
theorem dd_turn_5 : decode mm_turn.2.1 5 = .ok (.aload_n 0, 1) := by decide +kernel
theorem dd_turn_6 : decode mm_turn.2.1 6 = .ok (.iload_n 1, 1) := by decide +kernel
theorem dd_turn_7 : decode mm_turn.2.1 7 = .ok (.iload_n 2, 1) := by decide +kernel
theorem dd_turn_8 : decode mm_turn.2.1 8 = .ok (.invokevirtual 422, 3) := by decide +kernel
theorem dd_turn_11 : decode mm_turn.2.1 11 = .ok (.ifCond .ne (5), 3) := by decide +kernel
theorem dd_turn_14 : decode mm_turn.2.1 14 = .ok (.iconst (-1), 1) := by decide +kernel
theorem dd_turn_15 : decode mm_turn.2.1 15 = .ok (.ireturn, 1) := by decide +kernel
theorem dd_turn_16 : decode mm_turn.2.1 16 = .ok (.iconst (-1), 1) := by decide +kernel
theorem dd_turn_17 : decode mm_turn.2.1 17 = .ok (.istore_n 3, 1) := by decide +kernel
theorem dd_turn_18 : decode mm_turn.2.1 18 = .ok (.iconst 0, 1) := by decide +kernel
theorem dd_turn_19 : decode mm_turn.2.1 19 = .ok (.istore 4, 2) := by decide +kernel
theorem dd_turn_21 : decode mm_turn.2.1 21 = .ok (.iload 4, 2) := by decide +kernel
theorem dd_turn_23 : decode mm_turn.2.1 23 = .ok (.iconst 1, 1) := by decide +kernel
theorem dd_turn_24 : decode mm_turn.2.1 24 = .ok (.aload_n 0, 1) := by decide +kernel
theorem dd_turn_25 : decode mm_turn.2.1 25 = .ok (.invokevirtual 335, 3) := by decide +kernel
theorem dd_turn_28 : decode mm_turn.2.1 28 = .ok (.ishl, 1) := by decide +kernel
theorem dd_turn_29 : decode mm_turn.2.1 29 = .ok (.if_icmp .ge (66), 3) := by decide +kernel
theorem dd_turn_95 : decode mm_turn.2.1 95 = .ok (.iload_n 3, 1) := by decide +kernel
theorem dd_turn_96 : decode mm_turn.2.1 96 = .ok (.ireturn, 1) := by decide +kernel
theorem dd_turn_32 : decode mm_turn.2.1 32 = .ok (.iload_n 3, 1) := by decide +kernel
theorem dd_turn_33 : decode mm_turn.2.1 33 = .ok (.ifCond .lt (15), 3) := by decide +kernel
theorem dd_turn_36 : decode mm_turn.2.1 36 = .ok (.iload 4, 2) := by decide +kernel
theorem dd_turn_38 : decode mm_turn.2.1 38 = .ok (.invokestatic 435, 3) := by decide +kernel
theorem dd_turn_41 : decode mm_turn.2.1 41 = .ok (.iload_n 3, 1) := by decide +kernel
theorem dd_turn_42 : decode mm_turn.2.1 42 = .ok (.invokestatic 435, 3) := by decide +kernel
theorem dd_turn_45 : decode mm_turn.2.1 45 = .ok (.if_icmp .ge (44), 3) := by decide +kernel
theorem dd_turn_48 : decode mm_turn.2.1 48 = .ok (.aload_n 0, 1) := by decide +kernel
theorem dd_turn_49 : decode mm_turn.2.1 49 = .ok (.iload_n 1, 1) := by decide +kernel
theorem dd_turn_50 : decode mm_turn.2.1 50 = .ok (.iload_n 2, 1) := by decide +kernel
theorem dd_turn_51 : decode mm_turn.2.1 51 = .ok (.aload_n 0, 1) := by decide +kernel
theorem dd_turn_52 : decode mm_turn.2.1 52 = .ok (.getfield 125, 3) := by decide +kernel
theorem dd_turn_55 : decode mm_turn.2.1 55 = .ok (.iconst 1, 1) := by decide +kernel
theorem dd_turn_56 : decode mm_turn.2.1 56 = .ok (.iaload, 1) := by decide +kernel
theorem dd_turn_57 : decode mm_turn.2.1 57 = .ok (.iload 4, 2) := by decide +kernel
theorem dd_turn_59 : decode mm_turn.2.1 59 = .ok (.invokevirtual 425, 3) := by decide +kernel
theorem dd_turn_62 : decode mm_turn.2.1 62 = .ok (.aload_n 0, 1) := by decide +kernel
theorem dd_turn_63 : decode mm_turn.2.1 63 = .ok (.iconst 0, 1) := by decide +kernel
theorem dd_turn_64 : decode mm_turn.2.1 64 = .ok (.invokevirtual 419, 3) := by decide +kernel
theorem dd_turn_67 : decode mm_turn.2.1 67 = .ok (.aload_n 0, 1) := by decide +kernel
theorem dd_turn_68 : decode mm_turn.2.1 68 = .ok (.invokevirtual 432, 3) := by decide +kernel
theorem cw_12_432 : cwOk 12 432 0 239 1 1 12 = true := by decide +kernel
theorem mt_every : MTB 239 = some mm_every := rfl
theorem dd_every_0 : decode mm_every.2.1 0 = .ok (.iconst 1, 1) := by decide +kernel
theorem dd_every_1 : decode mm_every.2.1 1 = .ok (.aload_n 0, 1) := by decide +kernel
theorem dd_every_2 : decode mm_every.2.1 2 = .ok (.invokevirtual 332, 3) := by decide +kernel
theorem dd_every_5 : decode mm_every.2.1 5 = .ok (.ishl, 1) := by decide +kernel
theorem dd_every_6 : decode mm_every.2.1 6 = .ok (.iconst 1, 1) := by decide +kernel
theorem dd_every_7 : decode mm_every.2.1 7 = .ok (.isub, 1) := by decide +kernel
theorem dd_every_8 : decode mm_every.2.1 8 = .ok (.ireturn, 1) := by decide +kernel
theorem dd_turn_71 : decode mm_turn.2.1 71 = .ok (.if_icmp .ne (16), 3) := by decide +kernel
theorem dd_turn_87 : decode mm_turn.2.1 87 = .ok (.iload_n 3, 1) := by decide +kernel
theorem dd_turn_88 : decode mm_turn.2.1 88 = .ok (.istore_n 3, 1) := by decide +kernel
theorem dd_turn_74 : decode mm_turn.2.1 74 = .ok (.aload_n 0, 1) := by decide +kernel
theorem dd_turn_75 : decode mm_turn.2.1 75 = .ok (.iconst 0, 1) := by decide +kernel
theorem dd_turn_76 : decode mm_turn.2.1 76 = .ok (.invokevirtual 429, 3) := by decide +kernel
theorem dd_turn_79 : decode mm_turn.2.1 79 = .ok (.ifCond .ne (8), 3) := by decide +kernel
theorem dd_turn_82 : decode mm_turn.2.1 82 = .ok (.iload 4, 2) := by decide +kernel
theorem dd_turn_84 : decode mm_turn.2.1 84 = .ok (.goto 4, 3) := by decide +kernel
theorem dd_turn_89 : decode mm_turn.2.1 89 = .ok (.iinc 4 1, 3) := by decide +kernel
theorem dd_turn_92 : decode mm_turn.2.1 92 = .ok (.goto (-71), 3) := by decide +kernel
theorem B_Web_isOneRing_0 {xs : Nat → Int} {xl e : Nat} {h : LH} {Q : Option LV → LH → Prop} {v1 v2 : Int} {q : Int} (hq : q = 5 ∨ q = 32) (hF : RF h)
    (k : (-2147483648 ≤ (zshl 1 (rd h q 0)) - 1 ∧ (zshl 1 (rd h q 0)) - 1 ≤ 2147483647) ∧
      (∃ c, c < e ∧ Rn xs xl c mm_Web_roomsFrom 0 [some (.inr (.inr q)), some (.inl v1), some (.inl v2), some (.inl 0), none, none, none] [] h (fun r h' => Rn xs xl e mm_Web_isOneRing 16 [some (.inr (.inr q)), some (.inl v1), some (.inl v2), some (.inl ((zshl 1 (rd h q 0)) - 1))] (r.toList ++ []) h' Q))) :
    Rn xs xl e mm_Web_isOneRing 0 [some (.inr (.inr q)), some (.inl v1), some (.inl v2), none] [] h Q := by
  refine R_ic dd_Web_isOneRing_0 (by decide) rfl ?_
  refine R_ld (v := .inr (.inr q)) dd_Web_isOneRing_1 rfl rfl rfl rfl ?_
  refine R_gf (v := .inl (rd h q 0)) dd_Web_isOneRing_2 fd_10_31 (io_q hq) (congrArg (fun z : Int => (Sum.inl z : LV)) (rfl)) rfl ?_
  refine R_A dd_Web_isOneRing_5 rfl rfl rfl rfl ?_
  refine R_ic dd_Web_isOneRing_6 (by decide) rfl ?_
  obtain ⟨s1, k⟩ := k
  refine R_isub (c := (zshl 1 (rd h q 0)) - 1) dd_Web_isOneRing_7 (by omega) s1 rfl ?_
  refine R_st (ls' := [some (.inr (.inr q)), some (.inl v1), some (.inl v2), some (.inl ((zshl 1 (rd h q 0)) - 1))]) dd_Web_isOneRing_8 rfl rfl rfl (Nat.le_of_ble_eq_true rfl) rfl rfl ?_
  refine R_ld (v := .inr (.inr q)) dd_Web_isOneRing_9 rfl rfl rfl rfl ?_
  refine R_ld (v := .inl v1) dd_Web_isOneRing_10 rfl rfl rfl rfl ?_
  refine R_ld (v := .inl v2) dd_Web_isOneRing_11 rfl rfl rfl rfl ?_
  refine R_ic dd_Web_isOneRing_12 (by decide) rfl ?_
  obtain ⟨c, hc, k⟩ := k
  exact R_call (as := [.inr (.inr q), .inl v1, .inl v2, .inl 0]) (rest := []) (M' := mm_Web_roomsFrom) (ls0 := [some (.inr (.inr q)), some (.inl v1), some (.inl v2), some (.inl 0), none, none, none]) dd_Web_isOneRing_13 rfl rfl (cw_s cw_10_27 rfl rfl (Nat.le_of_ble_eq_true rfl) (Nat.le_of_ble_eq_true rfl)) mt_Web_roomsFrom rfl hc rfl k
theorem B_Web_isOneRing_16 {xs : Nat → Int} {xl e : Nat} {h : LH} {Q : Option LV → LH → Prop} {v1 v2 v3 w0 : Int} {q : Int} (hq : q = 5 ∨ q = 32) (hF : RF h)
    (k : (w0 ≠ v3 →
        Q (some (.inl 0)) h) ∧
      (w0 = v3 →
        (∃ c, c < e ∧ Rn xs xl c mm_Web_roomsFrom 0 [some (.inr (.inr q)), some (.inl v2), some (.inl v1), some (.inl 0), none, none, none] [] h (fun r h' => Rn xs xl e mm_Web_isOneRing 27 [some (.inr (.inr q)), some (.inl v1), some (.inl v2), some (.inl v3)] (r.toList ++ []) h' Q)))) :
    Rn xs xl e mm_Web_isOneRing 16 [some (.inr (.inr q)), some (.inl v1), some (.inl v2), some (.inl v3)] [.inl w0] h Q := by
  refine R_ld (v := .inl v3) dd_Web_isOneRing_16 rfl rfl rfl rfl ?_
  refine R_icmp dd_Web_isOneRing_17 rfl rfl (fun (c2 : w0 ≠ v3) => ?_) (fun (c2 : w0 = v3) => ?_)
  · replace k := k.1 c2
    refine R_ic dd_Web_isOneRing_35 (by decide) rfl ?_
    exact R_zret dd_Web_isOneRing_36 rfl (by decide) k
  · replace k := k.2 c2
    refine R_ld (v := .inr (.inr q)) dd_Web_isOneRing_20 rfl rfl rfl rfl ?_
    refine R_ld (v := .inl v2) dd_Web_isOneRing_21 rfl rfl rfl rfl ?_
    refine R_ld (v := .inl v1) dd_Web_isOneRing_22 rfl rfl rfl rfl ?_
    refine R_ic dd_Web_isOneRing_23 (by decide) rfl ?_
    obtain ⟨c, hc, k⟩ := k
    exact R_call (as := [.inr (.inr q), .inl v2, .inl v1, .inl 0]) (rest := []) (M' := mm_Web_roomsFrom) (ls0 := [some (.inr (.inr q)), some (.inl v2), some (.inl v1), some (.inl 0), none, none, none]) dd_Web_isOneRing_24 rfl rfl (cw_s cw_10_27 rfl rfl (Nat.le_of_ble_eq_true rfl) (Nat.le_of_ble_eq_true rfl)) mt_Web_roomsFrom rfl hc rfl k
theorem B_Web_isOneRing_27 {xs : Nat → Int} {xl e : Nat} {h : LH} {Q : Option LV → LH → Prop} {v1 v2 v3 w0 : Int} {q : Int} (hq : q = 5 ∨ q = 32) (hF : RF h)
    (k : (w0 ≠ v3 →
        Q (some (.inl 0)) h) ∧
      (w0 = v3 →
        Q (some (.inl 1)) h)) :
    Rn xs xl e mm_Web_isOneRing 27 [some (.inr (.inr q)), some (.inl v1), some (.inl v2), some (.inl v3)] [.inl w0] h Q := by
  refine R_ld (v := .inl v3) dd_Web_isOneRing_27 rfl rfl rfl rfl ?_
  refine R_icmp dd_Web_isOneRing_28 rfl rfl (fun (c1 : w0 ≠ v3) => ?_) (fun (c1 : w0 = v3) => ?_)
  · replace k := k.1 c1
    refine R_ic dd_Web_isOneRing_35 (by decide) rfl ?_
    exact R_zret dd_Web_isOneRing_36 rfl (by decide) k
  · replace k := k.2 c1
    refine R_ic dd_Web_isOneRing_31 (by decide) rfl ?_
    refine R_goto dd_Web_isOneRing_32 rfl ?_
    exact R_zret dd_Web_isOneRing_36 rfl (by decide) k
theorem B_Web_doorsToTurn_0 {xs : Nat → Int} {xl e : Nat} {h : LH} {Q : Option LV → LH → Prop} {v1 v2 v3 : Int} {q : Int} (hq : q = 5 ∨ q = 32) (hF : RF h) (r_v1 : 0 ≤ v1 ∧ v1 ≤ 3) (r_v2 : 0 ≤ v2 ∧ v2 ≤ 23) (he : 1 ≤ e)
    (k : (24 ≤ v2 →
        Rn xs xl e mm_Web_doorsToTurn 27 [some (.inr (.inr q)), some (.inl v1), some (.inl v2), some (.inl v3), some (.inl 0), some (.inl 0), some (.inl 0), some (.inl 0), some (.inl 0), none, none, none, none, none] [] h Q) ∧
      (v2 < 24 →
        Rn xs xl e mm_Web_doorsToTurn 27 [some (.inr (.inr q)), some (.inl v1), some (.inl v2), some (.inl v3), some (.inl (zand (rd h (q + 5) (24 * v1 + v2)) (zxor v3 (-1)))), some (.inl (zand (rd h (q + 6) (24 * v1 + v2)) (zxor v3 (-1)))), some (.inl 0), some (.inl 0), some (.inl 0), none, none, none, none, none] [] h Q)) :
    Rn xs xl e mm_Web_doorsToTurn 0 [some (.inr (.inr q)), some (.inl v1), some (.inl v2), some (.inl v3), none, none, none, none, none, none, none, none, none, none] [] h Q := by
  refine R_ld (v := .inr (.inr q)) dd_Web_doorsToTurn_0 rfl rfl rfl rfl ?_
  refine R_ld (v := .inl v1) dd_Web_doorsToTurn_1 rfl rfl rfl rfl ?_
  refine R_ld (v := .inl v2) dd_Web_doorsToTurn_2 rfl rfl rfl rfl ?_
  refine R_ld (v := .inl v3) dd_Web_doorsToTurn_3 rfl rfl rfl rfl ?_
  refine R_call (as := [.inr (.inr q), .inl v1, .inl v2, .inl v3]) (rest := []) (M' := mm_Quarter_aheadIn) (ls0 := [some (.inr (.inr q)), some (.inl v1), some (.inl v2), some (.inl v3)]) dd_Web_doorsToTurn_4 rfl rfl (cw_v cw_10_41 (io_q hq) rfl rfl (Nat.le_of_ble_eq_true rfl) (Nat.le_of_ble_eq_true rfl)) mt_Quarter_aheadIn rfl (c := e - 1) (by omega) rfl ?_
  refine R_ld (v := .inl v2) dd_Quarter_aheadIn_0 rfl rfl rfl rfl ?_
  refine R_bi dd_Quarter_aheadIn_1 (by decide) rfl ?_
  refine R_icmp dd_Quarter_aheadIn_3 rfl rfl (fun (c1 : 24 ≤ v2) => ?_) (fun (c1 : v2 < 24) => ?_)
  · replace k := k.1 c1
    refine R_ic dd_Quarter_aheadIn_24 (by decide) rfl ?_
    refine R_iret dd_Quarter_aheadIn_25 rfl ?_
    change Rn xs xl e mm_Web_doorsToTurn 7 [some (.inr (.inr q)), some (.inl v1), some (.inl v2), some (.inl v3), none, none, none, none, none, none, none, none, none, none] [.inl 0] h _
    refine R_st (ls' := [some (.inr (.inr q)), some (.inl v1), some (.inl v2), some (.inl v3), some (.inl 0), none, none, none, none, none, none, none, none, none]) dd_Web_doorsToTurn_7 rfl rfl rfl (Nat.le_of_ble_eq_true rfl) rfl rfl ?_
    refine R_ld (v := .inr (.inr q)) dd_Web_doorsToTurn_9 rfl rfl rfl rfl ?_
    refine R_ld (v := .inl v1) dd_Web_doorsToTurn_10 rfl rfl rfl rfl ?_
    refine R_ld (v := .inl v2) dd_Web_doorsToTurn_11 rfl rfl rfl rfl ?_
    refine R_ld (v := .inl v3) dd_Web_doorsToTurn_12 rfl rfl rfl rfl ?_
    refine R_call (as := [.inr (.inr q), .inl v1, .inl v2, .inl v3]) (rest := []) (M' := mm_Quarter_backIn) (ls0 := [some (.inr (.inr q)), some (.inl v1), some (.inl v2), some (.inl v3)]) dd_Web_doorsToTurn_13 rfl rfl (cw_v cw_10_44 (io_q hq) rfl rfl (Nat.le_of_ble_eq_true rfl) (Nat.le_of_ble_eq_true rfl)) mt_Quarter_backIn rfl (c := e - 1) (by omega) rfl ?_
    refine R_ld (v := .inl v2) dd_Quarter_backIn_0 rfl rfl rfl rfl ?_
    refine R_bi dd_Quarter_backIn_1 (by decide) rfl ?_
    refine R_icmp dd_Quarter_backIn_3 rfl rfl (fun (c2 : 24 ≤ v2) => ?_) (fun (c2 : v2 < 24) => ?_)
    · skip
      refine R_ic dd_Quarter_backIn_24 (by decide) rfl ?_
      refine R_iret dd_Quarter_backIn_25 rfl ?_
      change Rn xs xl e mm_Web_doorsToTurn 16 [some (.inr (.inr q)), some (.inl v1), some (.inl v2), some (.inl v3), some (.inl 0), none, none, none, none, none, none, none, none, none] [.inl 0] h _
      refine R_st (ls' := [some (.inr (.inr q)), some (.inl v1), some (.inl v2), some (.inl v3), some (.inl 0), some (.inl 0), none, none, none, none, none, none, none, none]) dd_Web_doorsToTurn_16 rfl rfl rfl (Nat.le_of_ble_eq_true rfl) rfl rfl ?_
      refine R_ic dd_Web_doorsToTurn_18 (by decide) rfl ?_
      refine R_st (ls' := [some (.inr (.inr q)), some (.inl v1), some (.inl v2), some (.inl v3), some (.inl 0), some (.inl 0), some (.inl 0), none, none, none, none, none, none, none]) dd_Web_doorsToTurn_19 rfl rfl rfl (Nat.le_of_ble_eq_true rfl) rfl rfl ?_
      refine R_ic dd_Web_doorsToTurn_21 (by decide) rfl ?_
      refine R_st (ls' := [some (.inr (.inr q)), some (.inl v1), some (.inl v2), some (.inl v3), some (.inl 0), some (.inl 0), some (.inl 0), some (.inl 0), none, none, none, none, none, none]) dd_Web_doorsToTurn_22 rfl rfl rfl (Nat.le_of_ble_eq_true rfl) rfl rfl ?_
      refine R_ic dd_Web_doorsToTurn_24 (by decide) rfl ?_
      refine R_st (ls' := [some (.inr (.inr q)), some (.inl v1), some (.inl v2), some (.inl v3), some (.inl 0), some (.inl 0), some (.inl 0), some (.inl 0), some (.inl 0), none, none, none, none, none]) dd_Web_doorsToTurn_25 rfl rfl rfl (Nat.le_of_ble_eq_true rfl) rfl rfl ?_
      exact k
    · exact absurd c2 (by omega)
  · replace k := k.2 c1
    refine R_ld (v := .inr (.inr q)) dd_Quarter_aheadIn_6 rfl rfl rfl rfl ?_
    refine R_gf (v := .inr (.inr (q + 5))) dd_Quarter_aheadIn_7 fd_6_34 (io_q hq) (congrArg (fun z : Int => (Sum.inr (Sum.inr z) : LV)) (rq_ahd hF hq)) rfl ?_
    refine R_ld (v := .inl v1) dd_Quarter_aheadIn_10 rfl rfl rfl rfl ?_
    refine R_bi dd_Quarter_aheadIn_11 (by decide) rfl ?_
    refine R_imul (c := 24 * v1) dd_Quarter_aheadIn_13 (by omega) (by omega) rfl ?_
    refine R_ld (v := .inl v2) dd_Quarter_aheadIn_14 rfl rfl rfl rfl ?_
    refine R_iadd (c := 24 * v1 + v2) dd_Quarter_aheadIn_15 (by omega) (by omega) rfl ?_
    refine R_iald (v := (rd h (q + 5) (24 * v1 + v2))) (n := 96) dd_Quarter_aheadIn_16 (ia_aq hq) (la_aq hq) (by omega) (rfl) rfl ?_
    refine R_ld (v := .inl v3) dd_Quarter_aheadIn_17 rfl rfl rfl rfl ?_
    refine R_ic dd_Quarter_aheadIn_18 (by decide) rfl ?_
    refine R_A dd_Quarter_aheadIn_19 rfl rfl rfl rfl ?_
    refine R_A dd_Quarter_aheadIn_20 rfl rfl rfl rfl ?_
    refine R_goto dd_Quarter_aheadIn_21 rfl ?_
    refine R_iret dd_Quarter_aheadIn_25 rfl ?_
    change Rn xs xl e mm_Web_doorsToTurn 7 [some (.inr (.inr q)), some (.inl v1), some (.inl v2), some (.inl v3), none, none, none, none, none, none, none, none, none, none] [.inl (zand (rd h (q + 5) (24 * v1 + v2)) (zxor v3 (-1)))] h _
    refine R_st (ls' := [some (.inr (.inr q)), some (.inl v1), some (.inl v2), some (.inl v3), some (.inl (zand (rd h (q + 5) (24 * v1 + v2)) (zxor v3 (-1)))), none, none, none, none, none, none, none, none, none]) dd_Web_doorsToTurn_7 rfl rfl rfl (Nat.le_of_ble_eq_true rfl) rfl rfl ?_
    refine R_ld (v := .inr (.inr q)) dd_Web_doorsToTurn_9 rfl rfl rfl rfl ?_
    refine R_ld (v := .inl v1) dd_Web_doorsToTurn_10 rfl rfl rfl rfl ?_
    refine R_ld (v := .inl v2) dd_Web_doorsToTurn_11 rfl rfl rfl rfl ?_
    refine R_ld (v := .inl v3) dd_Web_doorsToTurn_12 rfl rfl rfl rfl ?_
    refine R_call (as := [.inr (.inr q), .inl v1, .inl v2, .inl v3]) (rest := []) (M' := mm_Quarter_backIn) (ls0 := [some (.inr (.inr q)), some (.inl v1), some (.inl v2), some (.inl v3)]) dd_Web_doorsToTurn_13 rfl rfl (cw_v cw_10_44 (io_q hq) rfl rfl (Nat.le_of_ble_eq_true rfl) (Nat.le_of_ble_eq_true rfl)) mt_Quarter_backIn rfl (c := e - 1) (by omega) rfl ?_
    refine R_ld (v := .inl v2) dd_Quarter_backIn_0 rfl rfl rfl rfl ?_
    refine R_bi dd_Quarter_backIn_1 (by decide) rfl ?_
    refine R_icmp dd_Quarter_backIn_3 rfl rfl (fun (c3 : 24 ≤ v2) => ?_) (fun (c3 : v2 < 24) => ?_)
    · exact absurd c3 (by omega)
    · skip
      refine R_ld (v := .inr (.inr q)) dd_Quarter_backIn_6 rfl rfl rfl rfl ?_
      refine R_gf (v := .inr (.inr (q + 6))) dd_Quarter_backIn_7 fd_6_37 (io_q hq) (congrArg (fun z : Int => (Sum.inr (Sum.inr z) : LV)) (rq_bck hF hq)) rfl ?_
      refine R_ld (v := .inl v1) dd_Quarter_backIn_10 rfl rfl rfl rfl ?_
      refine R_bi dd_Quarter_backIn_11 (by decide) rfl ?_
      refine R_imul (c := 24 * v1) dd_Quarter_backIn_13 (by omega) (by omega) rfl ?_
      refine R_ld (v := .inl v2) dd_Quarter_backIn_14 rfl rfl rfl rfl ?_
      refine R_iadd (c := 24 * v1 + v2) dd_Quarter_backIn_15 (by omega) (by omega) rfl ?_
      refine R_iald (v := (rd h (q + 6) (24 * v1 + v2))) (n := 96) dd_Quarter_backIn_16 (ia_bq hq) (la_bq hq) (by omega) (rfl) rfl ?_
      refine R_ld (v := .inl v3) dd_Quarter_backIn_17 rfl rfl rfl rfl ?_
      refine R_ic dd_Quarter_backIn_18 (by decide) rfl ?_
      refine R_A dd_Quarter_backIn_19 rfl rfl rfl rfl ?_
      refine R_A dd_Quarter_backIn_20 rfl rfl rfl rfl ?_
      refine R_goto dd_Quarter_backIn_21 rfl ?_
      refine R_iret dd_Quarter_backIn_25 rfl ?_
      change Rn xs xl e mm_Web_doorsToTurn 16 [some (.inr (.inr q)), some (.inl v1), some (.inl v2), some (.inl v3), some (.inl (zand (rd h (q + 5) (24 * v1 + v2)) (zxor v3 (-1)))), none, none, none, none, none, none, none, none, none] [.inl (zand (rd h (q + 6) (24 * v1 + v2)) (zxor v3 (-1)))] h _
      refine R_st (ls' := [some (.inr (.inr q)), some (.inl v1), some (.inl v2), some (.inl v3), some (.inl (zand (rd h (q + 5) (24 * v1 + v2)) (zxor v3 (-1)))), some (.inl (zand (rd h (q + 6) (24 * v1 + v2)) (zxor v3 (-1)))), none, none, none, none, none, none, none, none]) dd_Web_doorsToTurn_16 rfl rfl rfl (Nat.le_of_ble_eq_true rfl) rfl rfl ?_
      refine R_ic dd_Web_doorsToTurn_18 (by decide) rfl ?_
      refine R_st (ls' := [some (.inr (.inr q)), some (.inl v1), some (.inl v2), some (.inl v3), some (.inl (zand (rd h (q + 5) (24 * v1 + v2)) (zxor v3 (-1)))), some (.inl (zand (rd h (q + 6) (24 * v1 + v2)) (zxor v3 (-1)))), some (.inl 0), none, none, none, none, none, none, none]) dd_Web_doorsToTurn_19 rfl rfl rfl (Nat.le_of_ble_eq_true rfl) rfl rfl ?_
      refine R_ic dd_Web_doorsToTurn_21 (by decide) rfl ?_
      refine R_st (ls' := [some (.inr (.inr q)), some (.inl v1), some (.inl v2), some (.inl v3), some (.inl (zand (rd h (q + 5) (24 * v1 + v2)) (zxor v3 (-1)))), some (.inl (zand (rd h (q + 6) (24 * v1 + v2)) (zxor v3 (-1)))), some (.inl 0), some (.inl 0), none, none, none, none, none, none]) dd_Web_doorsToTurn_22 rfl rfl rfl (Nat.le_of_ble_eq_true rfl) rfl rfl ?_
      refine R_ic dd_Web_doorsToTurn_24 (by decide) rfl ?_
      refine R_st (ls' := [some (.inr (.inr q)), some (.inl v1), some (.inl v2), some (.inl v3), some (.inl (zand (rd h (q + 5) (24 * v1 + v2)) (zxor v3 (-1)))), some (.inl (zand (rd h (q + 6) (24 * v1 + v2)) (zxor v3 (-1)))), some (.inl 0), some (.inl 0), some (.inl 0), none, none, none, none, none]) dd_Web_doorsToTurn_25 rfl rfl rfl (Nat.le_of_ble_eq_true rfl) rfl rfl ?_
      exact k
theorem B_Web_doorsToTurn_27 {xs : Nat → Int} {xl e : Nat} {h : LH} {Q : Option LV → LH → Prop} {v1 v2 v3 v4 v5 v6 v7 v8 : Int} {q : Int} (hq : q = 5 ∨ q = 32) {o9 : Option LV} (hF : RF h) (hP : PT h) (r_v8 : 0 ≤ v8 ∧ v8 ≤ 14)
    (k : ((rd h q 2) ≤ v8 →
        Rn xs xl e mm_Web_doorsToTurn 103 [some (.inr (.inr q)), some (.inl v1), some (.inl v2), some (.inl v3), some (.inl v4), some (.inl v5), some (.inl v6), some (.inl v7), some (.inl v8), o9, none, none, none, none] [] h Q) ∧
      (v8 < (rd h q 2) →
        (0 ≤ v8 ∧ v8 < 14) ∧
        (∃ c, c < e ∧ Rn xs xl c mm_Quarter_ways 0 [some (.inr (.inr q)), some (.inl v8), some (.inl v1), some (.inl v2), some (.inl (rd h (q + 7 + v8) 8)), some (.inl 1), none, none, none] [] h (fun r h' => Rn xs xl e mm_Web_doorsToTurn 55 [some (.inr (.inr q)), some (.inl v1), some (.inl v2), some (.inl v3), some (.inl v4), some (.inl v5), some (.inl v6), some (.inl v7), some (.inl v8), o9, none, none, none, none] (r.toList ++ []) h' Q)))) :
    Rn xs xl e mm_Web_doorsToTurn 27 [some (.inr (.inr q)), some (.inl v1), some (.inl v2), some (.inl v3), some (.inl v4), some (.inl v5), some (.inl v6), some (.inl v7), some (.inl v8), o9, none, none, none, none] [] h Q := by
  refine R_ld (v := .inl v8) dd_Web_doorsToTurn_27 rfl rfl rfl rfl ?_
  refine R_ld (v := .inr (.inr q)) dd_Web_doorsToTurn_29 rfl rfl rfl rfl ?_
  refine R_gf (v := .inl (rd h q 2)) dd_Web_doorsToTurn_30 fd_10_47 (io_q hq) (congrArg (fun z : Int => (Sum.inl z : LV)) (rfl)) rfl ?_
  refine R_icmp dd_Web_doorsToTurn_33 rfl rfl (fun (c3 : (rd h q 2) ≤ v8) => ?_) (fun (c3 : v8 < (rd h q 2)) => ?_)
  · replace k := k.1 c3
    exact k
  · replace k := k.2 c3
    refine R_ld (v := .inr (.inr q)) dd_Web_doorsToTurn_36 rfl rfl rfl rfl ?_
    refine R_ld (v := .inl v8) dd_Web_doorsToTurn_37 rfl rfl rfl rfl ?_
    refine R_ld (v := .inl v1) dd_Web_doorsToTurn_39 rfl rfl rfl rfl ?_
    refine R_ld (v := .inl v2) dd_Web_doorsToTurn_40 rfl rfl rfl rfl ?_
    refine R_ld (v := .inr (.inr q)) dd_Web_doorsToTurn_41 rfl rfl rfl rfl ?_
    refine R_gf (v := .inr (.inr (q + 1))) dd_Web_doorsToTurn_42 fd_10_50 (io_q hq) (congrArg (fun z : Int => (Sum.inr (Sum.inr z) : LV)) (rq_arr hF hq)) rfl ?_
    refine R_ld (v := .inl v8) dd_Web_doorsToTurn_45 rfl rfl rfl rfl ?_
    obtain ⟨s1, k⟩ := k
    refine R_aald (v := (q + 7 + v8)) (n := 14) dd_Web_doorsToTurn_47 (ia_dq hq) (la_dq hq) s1 (rq_d hP hq s1) rfl ?_
    refine R_gf (v := .inl (rd h (q + 7 + v8) 8)) dd_Web_doorsToTurn_48 fd_10_54 (io_d hq (by omega)) (congrArg (fun z : Int => (Sum.inl z : LV)) (rfl)) rfl ?_
    refine R_ic dd_Web_doorsToTurn_51 (by decide) rfl ?_
    obtain ⟨c, hc, k⟩ := k
    exact R_call (as := [.inr (.inr q), .inl v8, .inl v1, .inl v2, .inl (rd h (q + 7 + v8) 8), .inl 1]) (rest := []) (M' := mm_Quarter_ways) (ls0 := [some (.inr (.inr q)), some (.inl v8), some (.inl v1), some (.inl v2), some (.inl (rd h (q + 7 + v8) 8)), some (.inl 1), none, none, none]) dd_Web_doorsToTurn_52 rfl rfl (cw_v cw_10_59 (io_q hq) rfl rfl (Nat.le_of_ble_eq_true rfl) (Nat.le_of_ble_eq_true rfl)) mt_Quarter_ways rfl hc rfl k
theorem B_Web_doorsToTurn_55 {xs : Nat → Int} {xl e : Nat} {h : LH} {Q : Option LV → LH → Prop} {v1 v2 v3 v4 v5 v6 v7 v8 w0 : Int} {q : Int} (hq : q = 5 ∨ q = 32) {o9 : Option LV} (hF : RF h) (r_v8 : 0 ≤ v8 ∧ v8 ≤ 13)
    (k : ((zand w0 1) = 0 →
        Rn xs xl e mm_Web_doorsToTurn 77 [some (.inr (.inr q)), some (.inl v1), some (.inl v2), some (.inl v3), some (.inl v4), some (.inl v5), some (.inl (zor v6 0)), some (.inl v7), some (.inl v8), some (.inl w0), none, none, none, none] [] h Q) ∧
      ((zand w0 1) ≠ 0 →
        Rn xs xl e mm_Web_doorsToTurn 77 [some (.inr (.inr q)), some (.inl v1), some (.inl v2), some (.inl v3), some (.inl v4), some (.inl v5), some (.inl (zor v6 (zshl 1 v8))), some (.inl v7), some (.inl v8), some (.inl w0), none, none, none, none] [] h Q)) :
    Rn xs xl e mm_Web_doorsToTurn 55 [some (.inr (.inr q)), some (.inl v1), some (.inl v2), some (.inl v3), some (.inl v4), some (.inl v5), some (.inl v6), some (.inl v7), some (.inl v8), o9, none, none, none, none] [.inl w0] h Q := by
  refine R_st (ls' := [some (.inr (.inr q)), some (.inl v1), some (.inl v2), some (.inl v3), some (.inl v4), some (.inl v5), some (.inl v6), some (.inl v7), some (.inl v8), some (.inl w0), none, none, none, none]) dd_Web_doorsToTurn_55 rfl rfl rfl (Nat.le_of_ble_eq_true rfl) rfl rfl ?_
  refine R_ld (v := .inl v6) dd_Web_doorsToTurn_57 rfl rfl rfl rfl ?_
  refine R_ld (v := .inl w0) dd_Web_doorsToTurn_59 rfl rfl rfl rfl ?_
  refine R_ic dd_Web_doorsToTurn_61 (by decide) rfl ?_
  refine R_A dd_Web_doorsToTurn_62 rfl rfl rfl rfl ?_
  refine R_if dd_Web_doorsToTurn_63 rfl rfl (fun (c1 : (zand w0 1) = 0) => ?_) (fun (c1 : (zand w0 1) ≠ 0) => ?_)
  · replace k := k.1 c1
    refine R_ic dd_Web_doorsToTurn_73 (by decide) rfl ?_
    refine R_A dd_Web_doorsToTurn_74 rfl rfl rfl rfl ?_
    refine R_st (ls' := [some (.inr (.inr q)), some (.inl v1), some (.inl v2), some (.inl v3), some (.inl v4), some (.inl v5), some (.inl (zor v6 0)), some (.inl v7), some (.inl v8), some (.inl w0), none, none, none, none]) dd_Web_doorsToTurn_75 rfl rfl rfl (Nat.le_of_ble_eq_true rfl) rfl rfl ?_
    exact k
  · replace k := k.2 c1
    refine R_ic dd_Web_doorsToTurn_66 (by decide) rfl ?_
    refine R_ld (v := .inl v8) dd_Web_doorsToTurn_67 rfl rfl rfl rfl ?_
    refine R_A dd_Web_doorsToTurn_69 rfl rfl rfl rfl ?_
    refine R_goto dd_Web_doorsToTurn_70 rfl ?_
    refine R_A dd_Web_doorsToTurn_74 rfl rfl rfl rfl ?_
    refine R_st (ls' := [some (.inr (.inr q)), some (.inl v1), some (.inl v2), some (.inl v3), some (.inl v4), some (.inl v5), some (.inl (zor v6 (zshl 1 v8))), some (.inl v7), some (.inl v8), some (.inl w0), none, none, none, none]) dd_Web_doorsToTurn_75 rfl rfl rfl (Nat.le_of_ble_eq_true rfl) rfl rfl ?_
    exact k
theorem B_Web_doorsToTurn_77 {xs : Nat → Int} {xl e : Nat} {h : LH} {Q : Option LV → LH → Prop} {v1 v2 v3 v4 v5 v6 v7 v8 v9 : Int} {q : Int} (hq : q = 5 ∨ q = 32) (hF : RF h) (r_v8 : 0 ≤ v8 ∧ v8 ≤ 13)
    (k : ((zand v9 2) = 0 →
        Rn xs xl e mm_Web_doorsToTurn 27 [some (.inr (.inr q)), some (.inl v1), some (.inl v2), some (.inl v3), some (.inl v4), some (.inl v5), some (.inl v6), some (.inl (zor v7 0)), some (.inl (v8 + 1)), some (.inl v9), none, none, none, none] [] h Q) ∧
      ((zand v9 2) ≠ 0 →
        Rn xs xl e mm_Web_doorsToTurn 27 [some (.inr (.inr q)), some (.inl v1), some (.inl v2), some (.inl v3), some (.inl v4), some (.inl v5), some (.inl v6), some (.inl (zor v7 (zshl 1 v8))), some (.inl (v8 + 1)), some (.inl v9), none, none, none, none] [] h Q)) :
    Rn xs xl e mm_Web_doorsToTurn 77 [some (.inr (.inr q)), some (.inl v1), some (.inl v2), some (.inl v3), some (.inl v4), some (.inl v5), some (.inl v6), some (.inl v7), some (.inl v8), some (.inl v9), none, none, none, none] [] h Q := by
  refine R_ld (v := .inl v7) dd_Web_doorsToTurn_77 rfl rfl rfl rfl ?_
  refine R_ld (v := .inl v9) dd_Web_doorsToTurn_79 rfl rfl rfl rfl ?_
  refine R_ic dd_Web_doorsToTurn_81 (by decide) rfl ?_
  refine R_A dd_Web_doorsToTurn_82 rfl rfl rfl rfl ?_
  refine R_if dd_Web_doorsToTurn_83 rfl rfl (fun (c1 : (zand v9 2) = 0) => ?_) (fun (c1 : (zand v9 2) ≠ 0) => ?_)
  · replace k := k.1 c1
    refine R_ic dd_Web_doorsToTurn_93 (by decide) rfl ?_
    refine R_A dd_Web_doorsToTurn_94 rfl rfl rfl rfl ?_
    refine R_st (ls' := [some (.inr (.inr q)), some (.inl v1), some (.inl v2), some (.inl v3), some (.inl v4), some (.inl v5), some (.inl v6), some (.inl (zor v7 0)), some (.inl v8), some (.inl v9), none, none, none, none]) dd_Web_doorsToTurn_95 rfl rfl rfl (Nat.le_of_ble_eq_true rfl) rfl rfl ?_
    refine R_inc (y := v8 + 1) (ls' := [some (.inr (.inr q)), some (.inl v1), some (.inl v2), some (.inl v3), some (.inl v4), some (.inl v5), some (.inl v6), some (.inl (zor v7 0)), some (.inl (v8 + 1)), some (.inl v9), none, none, none, none]) dd_Web_doorsToTurn_97 rfl (by decide) (by omega) (by omega) rfl rfl ?_
    refine R_goto dd_Web_doorsToTurn_100 rfl ?_
    exact k
  · replace k := k.2 c1
    refine R_ic dd_Web_doorsToTurn_86 (by decide) rfl ?_
    refine R_ld (v := .inl v8) dd_Web_doorsToTurn_87 rfl rfl rfl rfl ?_
    refine R_A dd_Web_doorsToTurn_89 rfl rfl rfl rfl ?_
    refine R_goto dd_Web_doorsToTurn_90 rfl ?_
    refine R_A dd_Web_doorsToTurn_94 rfl rfl rfl rfl ?_
    refine R_st (ls' := [some (.inr (.inr q)), some (.inl v1), some (.inl v2), some (.inl v3), some (.inl v4), some (.inl v5), some (.inl v6), some (.inl (zor v7 (zshl 1 v8))), some (.inl v8), some (.inl v9), none, none, none, none]) dd_Web_doorsToTurn_95 rfl rfl rfl (Nat.le_of_ble_eq_true rfl) rfl rfl ?_
    refine R_inc (y := v8 + 1) (ls' := [some (.inr (.inr q)), some (.inl v1), some (.inl v2), some (.inl v3), some (.inl v4), some (.inl v5), some (.inl v6), some (.inl (zor v7 (zshl 1 v8))), some (.inl (v8 + 1)), some (.inl v9), none, none, none, none]) dd_Web_doorsToTurn_97 rfl (by decide) (by omega) (by omega) rfl rfl ?_
    refine R_goto dd_Web_doorsToTurn_100 rfl ?_
    exact k
theorem B_Web_doorsToTurn_103 {xs : Nat → Int} {xl e : Nat} {h : LH} {Q : Option LV → LH → Prop} {v1 v2 v3 v4 v5 v6 v7 v8 : Int} {q : Int} (hq : q = 5 ∨ q = 32) {o9 : Option LV} (hF : RF h)
    (k : (∃ c, c < e ∧ Rn xs xl c mm_Web_isOneRing 0 [some (.inr (.inr q)), some (.inl (zor v4 (zand v6 (zxor v3 (-1))))), some (.inl (zor v5 (zand v7 (zxor v3 (-1))))), none] [] h (fun r h' => Rn xs xl e mm_Web_doorsToTurn 133 [some (.inr (.inr q)), some (.inl v1), some (.inl v2), some (.inl v3), some (.inl v4), some (.inl v5), some (.inl (zand v6 (zxor v3 (-1)))), some (.inl (zand v7 (zxor v3 (-1)))), some (.inl v8), o9, none, none, none, none] (r.toList ++ []) h' Q))) :
    Rn xs xl e mm_Web_doorsToTurn 103 [some (.inr (.inr q)), some (.inl v1), some (.inl v2), some (.inl v3), some (.inl v4), some (.inl v5), some (.inl v6), some (.inl v7), some (.inl v8), o9, none, none, none, none] [] h Q := by
  refine R_ld (v := .inl v6) dd_Web_doorsToTurn_103 rfl rfl rfl rfl ?_
  refine R_ld (v := .inl v3) dd_Web_doorsToTurn_105 rfl rfl rfl rfl ?_
  refine R_ic dd_Web_doorsToTurn_106 (by decide) rfl ?_
  refine R_A dd_Web_doorsToTurn_107 rfl rfl rfl rfl ?_
  refine R_A dd_Web_doorsToTurn_108 rfl rfl rfl rfl ?_
  refine R_st (ls' := [some (.inr (.inr q)), some (.inl v1), some (.inl v2), some (.inl v3), some (.inl v4), some (.inl v5), some (.inl (zand v6 (zxor v3 (-1)))), some (.inl v7), some (.inl v8), o9, none, none, none, none]) dd_Web_doorsToTurn_109 rfl rfl rfl (Nat.le_of_ble_eq_true rfl) rfl rfl ?_
  refine R_ld (v := .inl v7) dd_Web_doorsToTurn_111 rfl rfl rfl rfl ?_
  refine R_ld (v := .inl v3) dd_Web_doorsToTurn_113 rfl rfl rfl rfl ?_
  refine R_ic dd_Web_doorsToTurn_114 (by decide) rfl ?_
  refine R_A dd_Web_doorsToTurn_115 rfl rfl rfl rfl ?_
  refine R_A dd_Web_doorsToTurn_116 rfl rfl rfl rfl ?_
  refine R_st (ls' := [some (.inr (.inr q)), some (.inl v1), some (.inl v2), some (.inl v3), some (.inl v4), some (.inl v5), some (.inl (zand v6 (zxor v3 (-1)))), some (.inl (zand v7 (zxor v3 (-1)))), some (.inl v8), o9, none, none, none, none]) dd_Web_doorsToTurn_117 rfl rfl rfl (Nat.le_of_ble_eq_true rfl) rfl rfl ?_
  refine R_ld (v := .inr (.inr q)) dd_Web_doorsToTurn_119 rfl rfl rfl rfl ?_
  refine R_ld (v := .inl v4) dd_Web_doorsToTurn_120 rfl rfl rfl rfl ?_
  refine R_ld (v := .inl (zand v6 (zxor v3 (-1)))) dd_Web_doorsToTurn_122 rfl rfl rfl rfl ?_
  refine R_A dd_Web_doorsToTurn_124 rfl rfl rfl rfl ?_
  refine R_ld (v := .inl v5) dd_Web_doorsToTurn_125 rfl rfl rfl rfl ?_
  refine R_ld (v := .inl (zand v7 (zxor v3 (-1)))) dd_Web_doorsToTurn_127 rfl rfl rfl rfl ?_
  refine R_A dd_Web_doorsToTurn_129 rfl rfl rfl rfl ?_
  obtain ⟨c, hc, k⟩ := k
  exact R_call (as := [.inr (.inr q), .inl (zor v4 (zand v6 (zxor v3 (-1)))), .inl (zor v5 (zand v7 (zxor v3 (-1))))]) (rest := []) (M' := mm_Web_isOneRing) (ls0 := [some (.inr (.inr q)), some (.inl (zor v4 (zand v6 (zxor v3 (-1))))), some (.inl (zor v5 (zand v7 (zxor v3 (-1))))), none]) dd_Web_doorsToTurn_130 rfl rfl (cw_s cw_10_63 rfl rfl (Nat.le_of_ble_eq_true rfl) (Nat.le_of_ble_eq_true rfl)) mt_Web_isOneRing rfl hc rfl k
theorem B_Web_doorsToTurn_133 {xs : Nat → Int} {xl e : Nat} {h : LH} {Q : Option LV → LH → Prop} {v1 v2 v3 v4 v5 v6 v7 v8 w0 : Int} {q : Int} (hq : q = 5 ∨ q = 32) {o9 : Option LV} (hF : RF h)
    (k : (w0 ≠ 0 →
        Rn xs xl e mm_Web_doorsToTurn 163 [some (.inr (.inr q)), some (.inl v1), some (.inl v2), some (.inl v3), some (.inl v4), some (.inl v5), some (.inl v6), some (.inl v7), some (.inl (zxor (zor (zxor v4 v6) (zxor v5 v7)) (-1))), some (.inl (-1)), some (.inl 15), some (.inl 0), none, none] [] h Q) ∧
      (w0 = 0 →
        Q (some (.inl (-1))) h)) :
    Rn xs xl e mm_Web_doorsToTurn 133 [some (.inr (.inr q)), some (.inl v1), some (.inl v2), some (.inl v3), some (.inl v4), some (.inl v5), some (.inl v6), some (.inl v7), some (.inl v8), o9, none, none, none, none] [.inl w0] h Q := by
  refine R_if dd_Web_doorsToTurn_133 rfl rfl (fun (c1 : w0 ≠ 0) => ?_) (fun (c1 : w0 = 0) => ?_)
  · replace k := k.1 c1
    refine R_ld (v := .inl v4) dd_Web_doorsToTurn_138 rfl rfl rfl rfl ?_
    refine R_ld (v := .inl v6) dd_Web_doorsToTurn_140 rfl rfl rfl rfl ?_
    refine R_A dd_Web_doorsToTurn_142 rfl rfl rfl rfl ?_
    refine R_ld (v := .inl v5) dd_Web_doorsToTurn_143 rfl rfl rfl rfl ?_
    refine R_ld (v := .inl v7) dd_Web_doorsToTurn_145 rfl rfl rfl rfl ?_
    refine R_A dd_Web_doorsToTurn_147 rfl rfl rfl rfl ?_
    refine R_A dd_Web_doorsToTurn_148 rfl rfl rfl rfl ?_
    refine R_ic dd_Web_doorsToTurn_149 (by decide) rfl ?_
    refine R_A dd_Web_doorsToTurn_150 rfl rfl rfl rfl ?_
    refine R_st (ls' := [some (.inr (.inr q)), some (.inl v1), some (.inl v2), some (.inl v3), some (.inl v4), some (.inl v5), some (.inl v6), some (.inl v7), some (.inl (zxor (zor (zxor v4 v6) (zxor v5 v7)) (-1))), o9, none, none, none, none]) dd_Web_doorsToTurn_151 rfl rfl rfl (Nat.le_of_ble_eq_true rfl) rfl rfl ?_
    refine R_ic dd_Web_doorsToTurn_153 (by decide) rfl ?_
    refine R_st (ls' := [some (.inr (.inr q)), some (.inl v1), some (.inl v2), some (.inl v3), some (.inl v4), some (.inl v5), some (.inl v6), some (.inl v7), some (.inl (zxor (zor (zxor v4 v6) (zxor v5 v7)) (-1))), some (.inl (-1)), none, none, none, none]) dd_Web_doorsToTurn_154 rfl rfl rfl (Nat.le_of_ble_eq_true rfl) rfl rfl ?_
    refine R_bi dd_Web_doorsToTurn_156 (by decide) rfl ?_
    refine R_st (ls' := [some (.inr (.inr q)), some (.inl v1), some (.inl v2), some (.inl v3), some (.inl v4), some (.inl v5), some (.inl v6), some (.inl v7), some (.inl (zxor (zor (zxor v4 v6) (zxor v5 v7)) (-1))), some (.inl (-1)), some (.inl 15), none, none, none]) dd_Web_doorsToTurn_158 rfl rfl rfl (Nat.le_of_ble_eq_true rfl) rfl rfl ?_
    refine R_ic dd_Web_doorsToTurn_160 (by decide) rfl ?_
    refine R_st (ls' := [some (.inr (.inr q)), some (.inl v1), some (.inl v2), some (.inl v3), some (.inl v4), some (.inl v5), some (.inl v6), some (.inl v7), some (.inl (zxor (zor (zxor v4 v6) (zxor v5 v7)) (-1))), some (.inl (-1)), some (.inl 15), some (.inl 0), none, none]) dd_Web_doorsToTurn_161 rfl rfl rfl (Nat.le_of_ble_eq_true rfl) rfl rfl ?_
    exact k
  · replace k := k.2 c1
    refine R_ic dd_Web_doorsToTurn_136 (by decide) rfl ?_
    exact R_iret dd_Web_doorsToTurn_137 rfl k
theorem B_Web_doorsToTurn_163 {xs : Nat → Int} {xl e : Nat} {h : LH} {Q : Option LV → LH → Prop} {v1 v2 v3 v4 v5 v6 v7 v8 v9 v10 v11 : Int} {q : Int} (hq : q = 5 ∨ q = 32) {o12 : Option LV} {o13 : Option LV} (hF : RF h) (r_v11 : 0 ≤ v11 ∧ v11 ≤ 16384)
    (k : ((zshl 1 (rd h q 2)) ≤ v11 →
        Q (some (.inl v9)) h) ∧
      (v11 < (zshl 1 (rd h q 2)) →
        ((zand v11 v8) ≠ 0 →
          Rn xs xl e mm_Web_doorsToTurn 247 [some (.inr (.inr q)), some (.inl v1), some (.inl v2), some (.inl v3), some (.inl v4), some (.inl v5), some (.inl v6), some (.inl v7), some (.inl v8), some (.inl v9), some (.inl v10), some (.inl v11), o12, o13] [] h Q) ∧
        ((zand v11 v8) = 0 →
          (∃ c, c < e ∧ Rn xs xl c mm_java_lang_Integer_bitCount 0 [some (.inl v11)] [] h (fun r h' => Rn xs xl e mm_Web_doorsToTurn 187 [some (.inr (.inr q)), some (.inl v1), some (.inl v2), some (.inl v3), some (.inl v4), some (.inl v5), some (.inl v6), some (.inl v7), some (.inl v8), some (.inl v9), some (.inl v10), some (.inl v11), o12, o13] (r.toList ++ []) h' Q))))) :
    Rn xs xl e mm_Web_doorsToTurn 163 [some (.inr (.inr q)), some (.inl v1), some (.inl v2), some (.inl v3), some (.inl v4), some (.inl v5), some (.inl v6), some (.inl v7), some (.inl v8), some (.inl v9), some (.inl v10), some (.inl v11), o12, o13] [] h Q := by
  refine R_ld (v := .inl v11) dd_Web_doorsToTurn_163 rfl rfl rfl rfl ?_
  refine R_ic dd_Web_doorsToTurn_165 (by decide) rfl ?_
  refine R_ld (v := .inr (.inr q)) dd_Web_doorsToTurn_166 rfl rfl rfl rfl ?_
  refine R_gf (v := .inl (rd h q 2)) dd_Web_doorsToTurn_167 fd_10_47 (io_q hq) (congrArg (fun z : Int => (Sum.inl z : LV)) (rfl)) rfl ?_
  refine R_A dd_Web_doorsToTurn_170 rfl rfl rfl rfl ?_
  refine R_icmp dd_Web_doorsToTurn_171 rfl rfl (fun (c2 : (zshl 1 (rd h q 2)) ≤ v11) => ?_) (fun (c2 : v11 < (zshl 1 (rd h q 2))) => ?_)
  · replace k := k.1 c2
    refine R_ld (v := .inl v9) dd_Web_doorsToTurn_253 rfl rfl rfl rfl ?_
    exact R_iret dd_Web_doorsToTurn_255 rfl k
  · replace k := k.2 c2
    refine R_ld (v := .inl v11) dd_Web_doorsToTurn_174 rfl rfl rfl rfl ?_
    refine R_ld (v := .inl v8) dd_Web_doorsToTurn_176 rfl rfl rfl rfl ?_
    refine R_A dd_Web_doorsToTurn_178 rfl rfl rfl rfl ?_
    refine R_if dd_Web_doorsToTurn_179 rfl rfl (fun (c3 : (zand v11 v8) ≠ 0) => ?_) (fun (c3 : (zand v11 v8) = 0) => ?_)
    · replace k := k.1 c3
      exact k
    · replace k := k.2 c3
      refine R_ld (v := .inl v11) dd_Web_doorsToTurn_182 rfl rfl rfl rfl ?_
      obtain ⟨c, hc, k⟩ := k
      exact R_call (as := [.inl v11]) (rest := []) (M' := mm_java_lang_Integer_bitCount) (ls0 := [some (.inl v11)]) dd_Web_doorsToTurn_184 rfl rfl (cw_s cw_10_67 rfl rfl (Nat.le_of_ble_eq_true rfl) (Nat.le_of_ble_eq_true rfl)) mt_java_lang_Integer_bitCount rfl hc rfl k
theorem B_Web_doorsToTurn_187 {xs : Nat → Int} {xl e : Nat} {h : LH} {Q : Option LV → LH → Prop} {v1 v2 v3 v4 v5 v6 v7 v8 v9 v10 v11 w0 : Int} {q : Int} (hq : q = 5 ∨ q = 32) {o12 : Option LV} {o13 : Option LV} (hF : RF h) (r_v11 : 0 ≤ v11 ∧ v11 ≤ 16383)
    (k : (w0 < v10 →
        (∃ c, c < e ∧ Rn xs xl c mm_Web_isOneRing 0 [some (.inr (.inr q)), some (.inl (zor (zand v4 (zxor v11 (-1))) (zand v6 v11))), some (.inl (zor (zand v5 (zxor v11 (-1))) (zand v7 v11))), none] [] h (fun r h' => Rn xs xl e mm_Web_doorsToTurn 233 [some (.inr (.inr q)), some (.inl v1), some (.inl v2), some (.inl v3), some (.inl v4), some (.inl v5), some (.inl v6), some (.inl v7), some (.inl v8), some (.inl v9), some (.inl v10), some (.inl v11), some (.inl (zor (zand v4 (zxor v11 (-1))) (zand v6 v11))), some (.inl (zor (zand v5 (zxor v11 (-1))) (zand v7 v11)))] (r.toList ++ []) h' Q))) ∧
      (v10 ≤ w0 →
        Rn xs xl e mm_Web_doorsToTurn 247 [some (.inr (.inr q)), some (.inl v1), some (.inl v2), some (.inl v3), some (.inl v4), some (.inl v5), some (.inl v6), some (.inl v7), some (.inl v8), some (.inl v9), some (.inl v10), some (.inl v11), o12, o13] [] h Q)) :
    Rn xs xl e mm_Web_doorsToTurn 187 [some (.inr (.inr q)), some (.inl v1), some (.inl v2), some (.inl v3), some (.inl v4), some (.inl v5), some (.inl v6), some (.inl v7), some (.inl v8), some (.inl v9), some (.inl v10), some (.inl v11), o12, o13] [.inl w0] h Q := by
  refine R_ld (v := .inl v10) dd_Web_doorsToTurn_187 rfl rfl rfl rfl ?_
  refine R_icmp dd_Web_doorsToTurn_189 rfl rfl (fun (c2 : w0 < v10) => ?_) (fun (c2 : v10 ≤ w0) => ?_)
  · replace k := k.1 c2
    refine R_ld (v := .inl v4) dd_Web_doorsToTurn_195 rfl rfl rfl rfl ?_
    refine R_ld (v := .inl v11) dd_Web_doorsToTurn_197 rfl rfl rfl rfl ?_
    refine R_ic dd_Web_doorsToTurn_199 (by decide) rfl ?_
    refine R_A dd_Web_doorsToTurn_200 rfl rfl rfl rfl ?_
    refine R_A dd_Web_doorsToTurn_201 rfl rfl rfl rfl ?_
    refine R_ld (v := .inl v6) dd_Web_doorsToTurn_202 rfl rfl rfl rfl ?_
    refine R_ld (v := .inl v11) dd_Web_doorsToTurn_204 rfl rfl rfl rfl ?_
    refine R_A dd_Web_doorsToTurn_206 rfl rfl rfl rfl ?_
    refine R_A dd_Web_doorsToTurn_207 rfl rfl rfl rfl ?_
    refine R_st (ls' := [some (.inr (.inr q)), some (.inl v1), some (.inl v2), some (.inl v3), some (.inl v4), some (.inl v5), some (.inl v6), some (.inl v7), some (.inl v8), some (.inl v9), some (.inl v10), some (.inl v11), some (.inl (zor (zand v4 (zxor v11 (-1))) (zand v6 v11))), o13]) dd_Web_doorsToTurn_208 rfl rfl rfl (Nat.le_of_ble_eq_true rfl) rfl rfl ?_
    refine R_ld (v := .inl v5) dd_Web_doorsToTurn_210 rfl rfl rfl rfl ?_
    refine R_ld (v := .inl v11) dd_Web_doorsToTurn_212 rfl rfl rfl rfl ?_
    refine R_ic dd_Web_doorsToTurn_214 (by decide) rfl ?_
    refine R_A dd_Web_doorsToTurn_215 rfl rfl rfl rfl ?_
    refine R_A dd_Web_doorsToTurn_216 rfl rfl rfl rfl ?_
    refine R_ld (v := .inl v7) dd_Web_doorsToTurn_217 rfl rfl rfl rfl ?_
    refine R_ld (v := .inl v11) dd_Web_doorsToTurn_219 rfl rfl rfl rfl ?_
    refine R_A dd_Web_doorsToTurn_221 rfl rfl rfl rfl ?_
    refine R_A dd_Web_doorsToTurn_222 rfl rfl rfl rfl ?_
    refine R_st (ls' := [some (.inr (.inr q)), some (.inl v1), some (.inl v2), some (.inl v3), some (.inl v4), some (.inl v5), some (.inl v6), some (.inl v7), some (.inl v8), some (.inl v9), some (.inl v10), some (.inl v11), some (.inl (zor (zand v4 (zxor v11 (-1))) (zand v6 v11))), some (.inl (zor (zand v5 (zxor v11 (-1))) (zand v7 v11)))]) dd_Web_doorsToTurn_223 rfl rfl rfl (Nat.le_of_ble_eq_true rfl) rfl rfl ?_
    refine R_ld (v := .inr (.inr q)) dd_Web_doorsToTurn_225 rfl rfl rfl rfl ?_
    refine R_ld (v := .inl (zor (zand v4 (zxor v11 (-1))) (zand v6 v11))) dd_Web_doorsToTurn_226 rfl rfl rfl rfl ?_
    refine R_ld (v := .inl (zor (zand v5 (zxor v11 (-1))) (zand v7 v11))) dd_Web_doorsToTurn_228 rfl rfl rfl rfl ?_
    obtain ⟨c, hc, k⟩ := k
    exact R_call (as := [.inr (.inr q), .inl (zor (zand v4 (zxor v11 (-1))) (zand v6 v11)), .inl (zor (zand v5 (zxor v11 (-1))) (zand v7 v11))]) (rest := []) (M' := mm_Web_isOneRing) (ls0 := [some (.inr (.inr q)), some (.inl (zor (zand v4 (zxor v11 (-1))) (zand v6 v11))), some (.inl (zor (zand v5 (zxor v11 (-1))) (zand v7 v11))), none]) dd_Web_doorsToTurn_230 rfl rfl (cw_s cw_10_63 rfl rfl (Nat.le_of_ble_eq_true rfl) (Nat.le_of_ble_eq_true rfl)) mt_Web_isOneRing rfl hc rfl k
  · replace k := k.2 c2
    refine R_goto dd_Web_doorsToTurn_192 rfl ?_
    exact k
theorem B_Web_doorsToTurn_233 {xs : Nat → Int} {xl e : Nat} {h : LH} {Q : Option LV → LH → Prop} {v1 v2 v3 v4 v5 v6 v7 v8 v9 v10 v11 v12 v13 w0 : Int} {q : Int} (hq : q = 5 ∨ q = 32) (hF : RF h) (r_v11 : 0 ≤ v11 ∧ v11 ≤ 16383)
    (k : (w0 = 0 →
        Rn xs xl e mm_Web_doorsToTurn 247 [some (.inr (.inr q)), some (.inl v1), some (.inl v2), some (.inl v3), some (.inl v4), some (.inl v5), some (.inl v6), some (.inl v7), some (.inl v8), some (.inl v9), some (.inl v10), some (.inl v11), some (.inl v12), some (.inl v13)] [] h Q) ∧
      (w0 ≠ 0 →
        (∃ c, c < e ∧ Rn xs xl c mm_java_lang_Integer_bitCount 0 [some (.inl v11)] [] h (fun r h' => Rn xs xl e mm_Web_doorsToTurn 245 [some (.inr (.inr q)), some (.inl v1), some (.inl v2), some (.inl v3), some (.inl v4), some (.inl v5), some (.inl v6), some (.inl v7), some (.inl v8), some (.inl v11), some (.inl v10), some (.inl v11), some (.inl v12), some (.inl v13)] (r.toList ++ []) h' Q)))) :
    Rn xs xl e mm_Web_doorsToTurn 233 [some (.inr (.inr q)), some (.inl v1), some (.inl v2), some (.inl v3), some (.inl v4), some (.inl v5), some (.inl v6), some (.inl v7), some (.inl v8), some (.inl v9), some (.inl v10), some (.inl v11), some (.inl v12), some (.inl v13)] [.inl w0] h Q := by
  refine R_if dd_Web_doorsToTurn_233 rfl rfl (fun (c2 : w0 = 0) => ?_) (fun (c2 : w0 ≠ 0) => ?_)
  · replace k := k.1 c2
    exact k
  · replace k := k.2 c2
    refine R_ld (v := .inl v11) dd_Web_doorsToTurn_236 rfl rfl rfl rfl ?_
    refine R_st (ls' := [some (.inr (.inr q)), some (.inl v1), some (.inl v2), some (.inl v3), some (.inl v4), some (.inl v5), some (.inl v6), some (.inl v7), some (.inl v8), some (.inl v11), some (.inl v10), some (.inl v11), some (.inl v12), some (.inl v13)]) dd_Web_doorsToTurn_238 rfl rfl rfl (Nat.le_of_ble_eq_true rfl) rfl rfl ?_
    refine R_ld (v := .inl v11) dd_Web_doorsToTurn_240 rfl rfl rfl rfl ?_
    obtain ⟨c, hc, k⟩ := k
    exact R_call (as := [.inl v11]) (rest := []) (M' := mm_java_lang_Integer_bitCount) (ls0 := [some (.inl v11)]) dd_Web_doorsToTurn_242 rfl rfl (cw_s cw_10_67 rfl rfl (Nat.le_of_ble_eq_true rfl) (Nat.le_of_ble_eq_true rfl)) mt_java_lang_Integer_bitCount rfl hc rfl k
theorem B_Web_doorsToTurn_245 {xs : Nat → Int} {xl e : Nat} {h : LH} {Q : Option LV → LH → Prop} {v1 v2 v3 v4 v5 v6 v7 v8 v9 v10 v11 v12 v13 w0 : Int} {q : Int} (hq : q = 5 ∨ q = 32) (hF : RF h) (r_v11 : 0 ≤ v11 ∧ v11 ≤ 16383)
    (k : Rn xs xl e mm_Web_doorsToTurn 247 [some (.inr (.inr q)), some (.inl v1), some (.inl v2), some (.inl v3), some (.inl v4), some (.inl v5), some (.inl v6), some (.inl v7), some (.inl v8), some (.inl v9), some (.inl w0), some (.inl v11), some (.inl v12), some (.inl v13)] [] h Q) :
    Rn xs xl e mm_Web_doorsToTurn 245 [some (.inr (.inr q)), some (.inl v1), some (.inl v2), some (.inl v3), some (.inl v4), some (.inl v5), some (.inl v6), some (.inl v7), some (.inl v8), some (.inl v9), some (.inl v10), some (.inl v11), some (.inl v12), some (.inl v13)] [.inl w0] h Q := by
  refine R_st (ls' := [some (.inr (.inr q)), some (.inl v1), some (.inl v2), some (.inl v3), some (.inl v4), some (.inl v5), some (.inl v6), some (.inl v7), some (.inl v8), some (.inl v9), some (.inl w0), some (.inl v11), some (.inl v12), some (.inl v13)]) dd_Web_doorsToTurn_245 rfl rfl rfl (Nat.le_of_ble_eq_true rfl) rfl rfl ?_
  exact k
theorem B_Web_doorsToTurn_247 {xs : Nat → Int} {xl e : Nat} {h : LH} {Q : Option LV → LH → Prop} {v1 v2 v3 v4 v5 v6 v7 v8 v9 v10 v11 : Int} {q : Int} (hq : q = 5 ∨ q = 32) {o12 : Option LV} {o13 : Option LV} (hF : RF h) (r_v11 : 0 ≤ v11 ∧ v11 ≤ 16383)
    (k : Rn xs xl e mm_Web_doorsToTurn 163 [some (.inr (.inr q)), some (.inl v1), some (.inl v2), some (.inl v3), some (.inl v4), some (.inl v5), some (.inl v6), some (.inl v7), some (.inl v8), some (.inl v9), some (.inl v10), some (.inl (v11 + 1)), o12, o13] [] h Q) :
    Rn xs xl e mm_Web_doorsToTurn 247 [some (.inr (.inr q)), some (.inl v1), some (.inl v2), some (.inl v3), some (.inl v4), some (.inl v5), some (.inl v6), some (.inl v7), some (.inl v8), some (.inl v9), some (.inl v10), some (.inl v11), o12, o13] [] h Q := by
  refine R_inc (y := v11 + 1) (ls' := [some (.inr (.inr q)), some (.inl v1), some (.inl v2), some (.inl v3), some (.inl v4), some (.inl v5), some (.inl v6), some (.inl v7), some (.inl v8), some (.inl v9), some (.inl v10), some (.inl (v11 + 1)), o12, o13]) dd_Web_doorsToTurn_247 rfl (by decide) (by omega) (by omega) rfl rfl ?_
  refine R_goto dd_Web_doorsToTurn_250 rfl ?_
  exact k
theorem B_OneSided_turn_0 {xs : Nat → Int} {xl e : Nat} {h : LH} {Q : Option LV → LH → Prop} {v1 v2 : Int} {q : Int} (hq : q = 5 ∨ q = 32) (hQ : rd h 1 ((1 : Nat) : Int) = q) (hF : RF h) (he : 1 ≤ e)
    (k : (v1 < 0 →
        Q (some (.inl (-1))) h) ∧
      (0 ≤ v1 →
        (4 ≤ v1 →
          Q (some (.inl (-1))) h) ∧
        (v1 < 4 →
          (v2 < 0 →
            Q (some (.inl (-1))) h) ∧
          (0 ≤ v2 →
            (24 ≤ v2 →
              Q (some (.inl (-1))) h) ∧
            (v2 < 24 →
              (∃ c, c < e ∧ Rn xs xl c mm_Web_doorsToTurn 0 [some (.inr (.inr q)), some (.inl v1), some (.inl v2), some (.inl (rd h 60 1)), none, none, none, none, none, none, none, none, none, none] [] h (fun r h' => Rn xs xl e mm_OneSided_turn 30 [some (.inr (.inr 1)), some (.inl v1), some (.inl v2)] (r.toList ++ []) h' Q))))))) :
    Rn xs xl e mm_OneSided_turn 0 [some (.inr (.inr 1)), some (.inl v1), some (.inl v2)] [] h Q := by
  refine R_ld (v := .inr (.inr 1)) dd_OneSided_turn_0 rfl rfl rfl rfl ?_
  refine R_ld (v := .inl v1) dd_OneSided_turn_1 rfl rfl rfl rfl ?_
  refine R_ld (v := .inl v2) dd_OneSided_turn_2 rfl rfl rfl rfl ?_
  refine R_call (as := [.inr (.inr 1), .inl v1, .inl v2]) (rest := []) (M' := mm_OneSided_isSortInHour) (ls0 := [some (.inr (.inr 1)), some (.inl v1), some (.inl v2)]) dd_OneSided_turn_3 rfl rfl (cw_v cw_11_193 io_1 rfl rfl (Nat.le_of_ble_eq_true rfl) (Nat.le_of_ble_eq_true rfl)) mt_OneSided_isSortInHour rfl (c := e - 1) (by omega) rfl ?_
  refine R_ld (v := .inl v1) dd_OneSided_isSortInHour_0 rfl rfl rfl rfl ?_
  refine R_if dd_OneSided_isSortInHour_1 rfl rfl (fun (c2 : v1 < 0) => ?_) (fun (c2 : 0 ≤ v1) => ?_)
  · replace k := k.1 c2
    refine R_ic dd_OneSided_isSortInHour_23 (by decide) rfl ?_
    refine R_zret dd_OneSided_isSortInHour_24 rfl (by decide) ?_
    change Rn xs xl e mm_OneSided_turn 6 [some (.inr (.inr 1)), some (.inl v1), some (.inl v2)] [.inl 0] h _
    refine R_if dd_OneSided_turn_6 rfl rfl (fun (c3 : 0 ≠ 0) => ?_) (fun (c3 : 0 = 0) => ?_)
    · exact absurd c3 (by omega)
    · skip
      refine R_ic dd_OneSided_turn_9 (by decide) rfl ?_
      exact R_iret dd_OneSided_turn_10 rfl k
  · replace k := k.2 c2
    refine R_ld (v := .inl v1) dd_OneSided_isSortInHour_4 rfl rfl rfl rfl ?_
    refine R_ic dd_OneSided_isSortInHour_5 (by decide) rfl ?_
    refine R_icmp dd_OneSided_isSortInHour_6 rfl rfl (fun (c4 : 4 ≤ v1) => ?_) (fun (c4 : v1 < 4) => ?_)
    · replace k := k.1 c4
      refine R_ic dd_OneSided_isSortInHour_23 (by decide) rfl ?_
      refine R_zret dd_OneSided_isSortInHour_24 rfl (by decide) ?_
      change Rn xs xl e mm_OneSided_turn 6 [some (.inr (.inr 1)), some (.inl v1), some (.inl v2)] [.inl 0] h _
      refine R_if dd_OneSided_turn_6 rfl rfl (fun (c5 : 0 ≠ 0) => ?_) (fun (c5 : 0 = 0) => ?_)
      · exact absurd c5 (by omega)
      · skip
        refine R_ic dd_OneSided_turn_9 (by decide) rfl ?_
        exact R_iret dd_OneSided_turn_10 rfl k
    · replace k := k.2 c4
      refine R_ld (v := .inl v2) dd_OneSided_isSortInHour_9 rfl rfl rfl rfl ?_
      refine R_if dd_OneSided_isSortInHour_10 rfl rfl (fun (c6 : v2 < 0) => ?_) (fun (c6 : 0 ≤ v2) => ?_)
      · replace k := k.1 c6
        refine R_ic dd_OneSided_isSortInHour_23 (by decide) rfl ?_
        refine R_zret dd_OneSided_isSortInHour_24 rfl (by decide) ?_
        change Rn xs xl e mm_OneSided_turn 6 [some (.inr (.inr 1)), some (.inl v1), some (.inl v2)] [.inl 0] h _
        refine R_if dd_OneSided_turn_6 rfl rfl (fun (c7 : 0 ≠ 0) => ?_) (fun (c7 : 0 = 0) => ?_)
        · exact absurd c7 (by omega)
        · skip
          refine R_ic dd_OneSided_turn_9 (by decide) rfl ?_
          exact R_iret dd_OneSided_turn_10 rfl k
      · replace k := k.2 c6
        refine R_ld (v := .inl v2) dd_OneSided_isSortInHour_13 rfl rfl rfl rfl ?_
        refine R_bi dd_OneSided_isSortInHour_14 (by decide) rfl ?_
        refine R_icmp dd_OneSided_isSortInHour_16 rfl rfl (fun (c8 : 24 ≤ v2) => ?_) (fun (c8 : v2 < 24) => ?_)
        · replace k := k.1 c8
          refine R_ic dd_OneSided_isSortInHour_23 (by decide) rfl ?_
          refine R_zret dd_OneSided_isSortInHour_24 rfl (by decide) ?_
          change Rn xs xl e mm_OneSided_turn 6 [some (.inr (.inr 1)), some (.inl v1), some (.inl v2)] [.inl 0] h _
          refine R_if dd_OneSided_turn_6 rfl rfl (fun (c9 : 0 ≠ 0) => ?_) (fun (c9 : 0 = 0) => ?_)
          · exact absurd c9 (by omega)
          · skip
            refine R_ic dd_OneSided_turn_9 (by decide) rfl ?_
            exact R_iret dd_OneSided_turn_10 rfl k
        · replace k := k.2 c8
          refine R_ic dd_OneSided_isSortInHour_19 (by decide) rfl ?_
          refine R_goto dd_OneSided_isSortInHour_20 rfl ?_
          refine R_zret dd_OneSided_isSortInHour_24 rfl (by decide) ?_
          change Rn xs xl e mm_OneSided_turn 6 [some (.inr (.inr 1)), some (.inl v1), some (.inl v2)] [.inl 1] h _
          refine R_if dd_OneSided_turn_6 rfl rfl (fun (c10 : 1 ≠ 0) => ?_) (fun (c10 : 1 = 0) => ?_)
          · skip
            refine R_ld (v := .inr (.inr 1)) dd_OneSided_turn_11 rfl rfl rfl rfl ?_
            refine R_gf (v := .inr (.inr q)) dd_OneSided_turn_12 fd_11_19 io_1 (congrArg (fun z : Int => (Sum.inr (Sum.inr z) : LV)) hQ) rfl ?_
            refine R_ld (v := .inl v1) dd_OneSided_turn_15 rfl rfl rfl rfl ?_
            refine R_ld (v := .inl v2) dd_OneSided_turn_16 rfl rfl rfl rfl ?_
            refine R_ld (v := .inr (.inr 1)) dd_OneSided_turn_17 rfl rfl rfl rfl ?_
            refine R_gf (v := .inr (.inr 59)) dd_OneSided_turn_18 fd_11_29 io_1 (congrArg (fun z : Int => (Sum.inr (Sum.inr z) : LV)) (rf_1_3 hF)) rfl ?_
            refine R_gf (v := .inr (.inr 60)) dd_OneSided_turn_21 fd_11_149 io_59 (congrArg (fun z : Int => (Sum.inr (Sum.inr z) : LV)) (rf_59_0 hF)) rfl ?_
            refine R_gf (v := .inl (rd h 60 1)) dd_OneSided_turn_24 fd_11_153 io_60 (congrArg (fun z : Int => (Sum.inl z : LV)) (rfl)) rfl ?_
            obtain ⟨c, hc, k⟩ := k
            exact R_call (as := [.inr (.inr q), .inl v1, .inl v2, .inl (rd h 60 1)]) (rest := []) (M' := mm_Web_doorsToTurn) (ls0 := [some (.inr (.inr q)), some (.inl v1), some (.inl v2), some (.inl (rd h 60 1)), none, none, none, none, none, none, none, none, none, none]) dd_OneSided_turn_27 rfl rfl (cw_s cw_11_277 rfl rfl (Nat.le_of_ble_eq_true rfl) (Nat.le_of_ble_eq_true rfl)) mt_Web_doorsToTurn rfl hc rfl k
          · exact absurd c10 (by omega)
theorem B_OneSided_turn_30 {xs : Nat → Int} {xl e : Nat} {h : LH} {Q : Option LV → LH → Prop} {v1 v2 w0 : Int} (hF : RF h)
    (k : Q (some (.inl w0)) h) :
    Rn xs xl e mm_OneSided_turn 30 [some (.inr (.inr 1)), some (.inl v1), some (.inl v2)] [.inl w0] h Q := by
  exact R_iret dd_OneSided_turn_30 rfl k
theorem B_turn_0 {xs : Nat → Int} {xl e : Nat} {h : LH} {Q : Option LV → LH → Prop} {v1 v2 : Int} (hF : RF h) (he : 2 ≤ e)
    (k : (v1 < 0 →
        Q (some (.inl (-1))) (wr h 182 0 0)) ∧
      (0 ≤ v1 →
        (3 < v1 →
          Q (some (.inl (-1))) (wr h 182 0 0)) ∧
        (v1 ≤ 3 →
          (v2 < 0 →
            Q (some (.inl (-1))) (wr h 182 0 0)) ∧
          (0 ≤ v2 →
            (23 < v2 →
              Q (some (.inl (-1))) (wr h 182 0 0)) ∧
            (v2 ≤ 23 →
              Rn xs xl e mm_turn 21 [some (.inr (.inr 182)), some (.inl v1), some (.inl v2), some (.inl (-1)), some (.inl 0)] [] (wr h 182 0 0) Q))))) :
    Rn xs xl e mm_turn 0 [some (.inr (.inr 182)), some (.inl v1), some (.inl v2), none, none] [] h Q := by
  refine R_ld (v := .inr (.inr 182)) dd_turn_0 rfl rfl rfl rfl ?_
  refine R_ic dd_turn_1 (by decide) rfl ?_
  refine R_pf (z := 0) dd_turn_2 fd_12_1 io_182 fn_12_0 rfl rfl ?_
  refine R_ld (v := .inr (.inr 182)) dd_turn_5 rfl rfl rfl rfl ?_
  refine R_ld (v := .inl v1) dd_turn_6 rfl rfl rfl rfl ?_
  refine R_ld (v := .inl v2) dd_turn_7 rfl rfl rfl rfl ?_
  refine R_call (as := [.inr (.inr 182), .inl v1, .inl v2]) (rest := []) (M' := mm_mayAsk) (ls0 := [some (.inr (.inr 182)), some (.inl v1), some (.inl v2)]) dd_turn_8 rfl rfl (cw_v cw_12_422 io_182 rfl rfl (Nat.le_of_ble_eq_true rfl) (Nat.le_of_ble_eq_true rfl)) mt_mayAsk rfl (c := e - 1) (by omega) rfl ?_
  refine R_ld (v := .inl v1) dd_mayAsk_0 rfl rfl rfl rfl ?_
  refine R_ic dd_mayAsk_1 (by decide) rfl ?_
  refine R_ic dd_mayAsk_2 (by decide) rfl ?_
  refine R_call (as := [.inl v1, .inl 0, .inl 3]) (rest := []) (M' := mm_within) (ls0 := [some (.inl v1), some (.inl 0), some (.inl 3)]) dd_mayAsk_3 rfl rfl (cw_s cw_12_297 rfl rfl (Nat.le_of_ble_eq_true rfl) (Nat.le_of_ble_eq_true rfl)) mt_within rfl (c := e - 2) (by omega) rfl ?_
  refine R_ld (v := .inl v1) dd_within_0 rfl rfl rfl rfl ?_
  refine R_ld (v := .inl 0) dd_within_1 rfl rfl rfl rfl ?_
  refine R_icmp dd_within_2 rfl rfl (fun (c1 : v1 < 0) => ?_) (fun (c1 : 0 ≤ v1) => ?_)
  · replace k := k.1 c1
    refine R_ic dd_within_14 (by decide) rfl ?_
    refine R_zret dd_within_15 rfl (by decide) ?_
    change Rn xs xl (e - 1) mm_mayAsk 6 [some (.inr (.inr 182)), some (.inl v1), some (.inl v2)] [.inl 0] (wr h 182 0 0) _
    refine R_if dd_mayAsk_6 rfl rfl (fun (c2 : 0 = 0) => ?_) (fun (c2 : 0 ≠ 0) => ?_)
    · skip
      refine R_ic dd_mayAsk_23 (by decide) rfl ?_
      refine R_zret dd_mayAsk_24 rfl (by decide) ?_
      change Rn xs xl e mm_turn 11 [some (.inr (.inr 182)), some (.inl v1), some (.inl v2), none, none] [.inl 0] (wr h 182 0 0) _
      refine R_if dd_turn_11 rfl rfl (fun (c3 : 0 ≠ 0) => ?_) (fun (c3 : 0 = 0) => ?_)
      · exact absurd c3 (by omega)
      · skip
        refine R_ic dd_turn_14 (by decide) rfl ?_
        exact R_iret dd_turn_15 rfl k
    · exact absurd c2 (by omega)
  · replace k := k.2 c1
    refine R_ld (v := .inl v1) dd_within_5 rfl rfl rfl rfl ?_
    refine R_ld (v := .inl 3) dd_within_6 rfl rfl rfl rfl ?_
    refine R_icmp dd_within_7 rfl rfl (fun (c4 : 3 < v1) => ?_) (fun (c4 : v1 ≤ 3) => ?_)
    · replace k := k.1 c4
      refine R_ic dd_within_14 (by decide) rfl ?_
      refine R_zret dd_within_15 rfl (by decide) ?_
      change Rn xs xl (e - 1) mm_mayAsk 6 [some (.inr (.inr 182)), some (.inl v1), some (.inl v2)] [.inl 0] (wr h 182 0 0) _
      refine R_if dd_mayAsk_6 rfl rfl (fun (c5 : 0 = 0) => ?_) (fun (c5 : 0 ≠ 0) => ?_)
      · skip
        refine R_ic dd_mayAsk_23 (by decide) rfl ?_
        refine R_zret dd_mayAsk_24 rfl (by decide) ?_
        change Rn xs xl e mm_turn 11 [some (.inr (.inr 182)), some (.inl v1), some (.inl v2), none, none] [.inl 0] (wr h 182 0 0) _
        refine R_if dd_turn_11 rfl rfl (fun (c6 : 0 ≠ 0) => ?_) (fun (c6 : 0 = 0) => ?_)
        · exact absurd c6 (by omega)
        · skip
          refine R_ic dd_turn_14 (by decide) rfl ?_
          exact R_iret dd_turn_15 rfl k
      · exact absurd c5 (by omega)
    · replace k := k.2 c4
      refine R_ic dd_within_10 (by decide) rfl ?_
      refine R_goto dd_within_11 rfl ?_
      refine R_zret dd_within_15 rfl (by decide) ?_
      change Rn xs xl (e - 1) mm_mayAsk 6 [some (.inr (.inr 182)), some (.inl v1), some (.inl v2)] [.inl 1] (wr h 182 0 0) _
      refine R_if dd_mayAsk_6 rfl rfl (fun (c7 : 1 = 0) => ?_) (fun (c7 : 1 ≠ 0) => ?_)
      · exact absurd c7 (by omega)
      · skip
        refine R_ld (v := .inl v2) dd_mayAsk_9 rfl rfl rfl rfl ?_
        refine R_ic dd_mayAsk_10 (by decide) rfl ?_
        refine R_bi dd_mayAsk_11 (by decide) rfl ?_
        refine R_call (as := [.inl v2, .inl 0, .inl 23]) (rest := []) (M' := mm_within) (ls0 := [some (.inl v2), some (.inl 0), some (.inl 23)]) dd_mayAsk_13 rfl rfl (cw_s cw_12_297 rfl rfl (Nat.le_of_ble_eq_true rfl) (Nat.le_of_ble_eq_true rfl)) mt_within rfl (c := e - 2) (by omega) rfl ?_
        refine R_ld (v := .inl v2) dd_within_0 rfl rfl rfl rfl ?_
        refine R_ld (v := .inl 0) dd_within_1 rfl rfl rfl rfl ?_
        refine R_icmp dd_within_2 rfl rfl (fun (c8 : v2 < 0) => ?_) (fun (c8 : 0 ≤ v2) => ?_)
        · replace k := k.1 c8
          refine R_ic dd_within_14 (by decide) rfl ?_
          refine R_zret dd_within_15 rfl (by decide) ?_
          change Rn xs xl (e - 1) mm_mayAsk 16 [some (.inr (.inr 182)), some (.inl v1), some (.inl v2)] [.inl 0] (wr h 182 0 0) _
          refine R_if dd_mayAsk_16 rfl rfl (fun (c9 : 0 = 0) => ?_) (fun (c9 : 0 ≠ 0) => ?_)
          · skip
            refine R_ic dd_mayAsk_23 (by decide) rfl ?_
            refine R_zret dd_mayAsk_24 rfl (by decide) ?_
            change Rn xs xl e mm_turn 11 [some (.inr (.inr 182)), some (.inl v1), some (.inl v2), none, none] [.inl 0] (wr h 182 0 0) _
            refine R_if dd_turn_11 rfl rfl (fun (c10 : 0 ≠ 0) => ?_) (fun (c10 : 0 = 0) => ?_)
            · exact absurd c10 (by omega)
            · skip
              refine R_ic dd_turn_14 (by decide) rfl ?_
              exact R_iret dd_turn_15 rfl k
          · exact absurd c9 (by omega)
        · replace k := k.2 c8
          refine R_ld (v := .inl v2) dd_within_5 rfl rfl rfl rfl ?_
          refine R_ld (v := .inl 23) dd_within_6 rfl rfl rfl rfl ?_
          refine R_icmp dd_within_7 rfl rfl (fun (c11 : 23 < v2) => ?_) (fun (c11 : v2 ≤ 23) => ?_)
          · replace k := k.1 c11
            refine R_ic dd_within_14 (by decide) rfl ?_
            refine R_zret dd_within_15 rfl (by decide) ?_
            change Rn xs xl (e - 1) mm_mayAsk 16 [some (.inr (.inr 182)), some (.inl v1), some (.inl v2)] [.inl 0] (wr h 182 0 0) _
            refine R_if dd_mayAsk_16 rfl rfl (fun (c12 : 0 = 0) => ?_) (fun (c12 : 0 ≠ 0) => ?_)
            · skip
              refine R_ic dd_mayAsk_23 (by decide) rfl ?_
              refine R_zret dd_mayAsk_24 rfl (by decide) ?_
              change Rn xs xl e mm_turn 11 [some (.inr (.inr 182)), some (.inl v1), some (.inl v2), none, none] [.inl 0] (wr h 182 0 0) _
              refine R_if dd_turn_11 rfl rfl (fun (c13 : 0 ≠ 0) => ?_) (fun (c13 : 0 = 0) => ?_)
              · exact absurd c13 (by omega)
              · skip
                refine R_ic dd_turn_14 (by decide) rfl ?_
                exact R_iret dd_turn_15 rfl k
            · exact absurd c12 (by omega)
          · replace k := k.2 c11
            refine R_ic dd_within_10 (by decide) rfl ?_
            refine R_goto dd_within_11 rfl ?_
            refine R_zret dd_within_15 rfl (by decide) ?_
            change Rn xs xl (e - 1) mm_mayAsk 16 [some (.inr (.inr 182)), some (.inl v1), some (.inl v2)] [.inl 1] (wr h 182 0 0) _
            refine R_if dd_mayAsk_16 rfl rfl (fun (c14 : 1 = 0) => ?_) (fun (c14 : 1 ≠ 0) => ?_)
            · exact absurd c14 (by omega)
            · skip
              refine R_ic dd_mayAsk_19 (by decide) rfl ?_
              refine R_goto dd_mayAsk_20 rfl ?_
              refine R_zret dd_mayAsk_24 rfl (by decide) ?_
              change Rn xs xl e mm_turn 11 [some (.inr (.inr 182)), some (.inl v1), some (.inl v2), none, none] [.inl 1] (wr h 182 0 0) _
              refine R_if dd_turn_11 rfl rfl (fun (c15 : 1 ≠ 0) => ?_) (fun (c15 : 1 = 0) => ?_)
              · skip
                refine R_ic dd_turn_16 (by decide) rfl ?_
                refine R_st (ls' := [some (.inr (.inr 182)), some (.inl v1), some (.inl v2), some (.inl (-1)), none]) dd_turn_17 rfl rfl rfl (Nat.le_of_ble_eq_true rfl) rfl rfl ?_
                refine R_ic dd_turn_18 (by decide) rfl ?_
                refine R_st (ls' := [some (.inr (.inr 182)), some (.inl v1), some (.inl v2), some (.inl (-1)), some (.inl 0)]) dd_turn_19 rfl rfl rfl (Nat.le_of_ble_eq_true rfl) rfl rfl ?_
                exact k
              · exact absurd c15 (by omega)
theorem B_turn_21 {xs : Nat → Int} {xl e : Nat} {h : LH} {Q : Option LV → LH → Prop} {v1 v2 v3 v4 : Int} (hF : RF h) (r_v4 : 0 ≤ v4 ∧ v4 ≤ 16384) (he : 1 ≤ e)
    (k : ((zshl 1 (rd h 188 1)) ≤ v4 →
        Q (some (.inl v3)) h) ∧
      (v4 < (zshl 1 (rd h 188 1)) →
        (v3 < 0 →
          Rn xs xl e mm_turn 48 [some (.inr (.inr 182)), some (.inl v1), some (.inl v2), some (.inl v3), some (.inl v4)] [] h Q) ∧
        (0 ≤ v3 →
          (∃ c, c < e ∧ Rn xs xl c mm_bits 0 [some (.inl v4), none, none] [] h (fun r h' => Rn xs xl e mm_turn 41 [some (.inr (.inr 182)), some (.inl v1), some (.inl v2), some (.inl v3), some (.inl v4)] (r.toList ++ []) h' Q))))) :
    Rn xs xl e mm_turn 21 [some (.inr (.inr 182)), some (.inl v1), some (.inl v2), some (.inl v3), some (.inl v4)] [] h Q := by
  refine R_ld (v := .inl v4) dd_turn_21 rfl rfl rfl rfl ?_
  refine R_ic dd_turn_23 (by decide) rfl ?_
  refine R_ld (v := .inr (.inr 182)) dd_turn_24 rfl rfl rfl rfl ?_
  refine R_call (as := [.inr (.inr 182)]) (rest := [.inl 1, .inl v4]) (M' := mm_doors) (ls0 := [some (.inr (.inr 182))]) dd_turn_25 rfl rfl (cw_v cw_12_335 io_182 rfl rfl (Nat.le_of_ble_eq_true rfl) (Nat.le_of_ble_eq_true rfl)) mt_doors rfl (c := e - 1) (by omega) rfl ?_
  refine R_ld (v := .inr (.inr 182)) dd_doors_0 rfl rfl rfl rfl ?_
  refine R_gf (v := .inr (.inr 188)) dd_doors_1 fd_12_95 io_182 (congrArg (fun z : Int => (Sum.inr (Sum.inr z) : LV)) (rf_182_10 hF)) rfl ?_
  refine R_ic dd_doors_4 (by decide) rfl ?_
  refine R_iald (v := (rd h 188 1)) (n := 300) dd_doors_5 ia_188 la_188 (by decide) (rfl) rfl ?_
  refine R_iret dd_doors_6 rfl ?_
  change Rn xs xl e mm_turn 28 [some (.inr (.inr 182)), some (.inl v1), some (.inl v2), some (.inl v3), some (.inl v4)] [.inl (rd h 188 1), .inl 1, .inl v4] h _
  refine R_A dd_turn_28 rfl rfl rfl rfl ?_
  refine R_icmp dd_turn_29 rfl rfl (fun (c2 : (zshl 1 (rd h 188 1)) ≤ v4) => ?_) (fun (c2 : v4 < (zshl 1 (rd h 188 1))) => ?_)
  · replace k := k.1 c2
    refine R_ld (v := .inl v3) dd_turn_95 rfl rfl rfl rfl ?_
    exact R_iret dd_turn_96 rfl k
  · replace k := k.2 c2
    refine R_ld (v := .inl v3) dd_turn_32 rfl rfl rfl rfl ?_
    refine R_if dd_turn_33 rfl rfl (fun (c3 : v3 < 0) => ?_) (fun (c3 : 0 ≤ v3) => ?_)
    · replace k := k.1 c3
      exact k
    · replace k := k.2 c3
      refine R_ld (v := .inl v4) dd_turn_36 rfl rfl rfl rfl ?_
      obtain ⟨c, hc, k⟩ := k
      exact R_call (as := [.inl v4]) (rest := []) (M' := mm_bits) (ls0 := [some (.inl v4), none, none]) dd_turn_38 rfl rfl (cw_s cw_12_435 rfl rfl (Nat.le_of_ble_eq_true rfl) (Nat.le_of_ble_eq_true rfl)) mt_bits rfl hc rfl k
theorem B_turn_41 {xs : Nat → Int} {xl e : Nat} {h : LH} {Q : Option LV → LH → Prop} {v1 v2 v3 v4 w0 : Int} (hF : RF h) (r_v4 : 0 ≤ v4 ∧ v4 ≤ 16383)
    (k : (∃ c, c < e ∧ Rn xs xl c mm_bits 0 [some (.inl v3), none, none] [] h (fun r h' => Rn xs xl e mm_turn 45 [some (.inr (.inr 182)), some (.inl v1), some (.inl v2), some (.inl v3), some (.inl v4)] (r.toList ++ [.inl w0]) h' Q))) :
    Rn xs xl e mm_turn 41 [some (.inr (.inr 182)), some (.inl v1), some (.inl v2), some (.inl v3), some (.inl v4)] [.inl w0] h Q := by
  refine R_ld (v := .inl v3) dd_turn_41 rfl rfl rfl rfl ?_
  obtain ⟨c, hc, k⟩ := k
  exact R_call (as := [.inl v3]) (rest := [.inl w0]) (M' := mm_bits) (ls0 := [some (.inl v3), none, none]) dd_turn_42 rfl rfl (cw_s cw_12_435 rfl rfl (Nat.le_of_ble_eq_true rfl) (Nat.le_of_ble_eq_true rfl)) mt_bits rfl hc rfl k
theorem B_turn_45 {xs : Nat → Int} {xl e : Nat} {h : LH} {Q : Option LV → LH → Prop} {v1 v2 v3 v4 w0 w1 : Int} (hF : RF h) (r_v4 : 0 ≤ v4 ∧ v4 ≤ 16383)
    (k : (w1 ≤ w0 →
        Rn xs xl e mm_turn 89 [some (.inr (.inr 182)), some (.inl v1), some (.inl v2), some (.inl v3), some (.inl v4)] [] h Q) ∧
      (w0 < w1 →
        Rn xs xl e mm_turn 48 [some (.inr (.inr 182)), some (.inl v1), some (.inl v2), some (.inl v3), some (.inl v4)] [] h Q)) :
    Rn xs xl e mm_turn 45 [some (.inr (.inr 182)), some (.inl v1), some (.inl v2), some (.inl v3), some (.inl v4)] [.inl w1, .inl w0] h Q := by
  refine R_icmp dd_turn_45 rfl rfl (fun (c1 : w1 ≤ w0) => ?_) (fun (c1 : w0 < w1) => ?_)
  · replace k := k.1 c1
    exact k
  · replace k := k.2 c1
    exact k
theorem B_turn_48 {xs : Nat → Int} {xl e : Nat} {h : LH} {Q : Option LV → LH → Prop} {v1 v2 v3 v4 : Int} (hF : RF h) (r_v4 : 0 ≤ v4 ∧ v4 ≤ 16383)
    (k : (∃ c, c < e ∧ Rn xs xl c mm_laysInto 0 [some (.inr (.inr 182)), some (.inl v1), some (.inl v2), some (.inl (rd h 198 1)), some (.inl v4), none, none, none] [] h (fun r h' => Rn xs xl e mm_turn 62 [some (.inr (.inr 182)), some (.inl v1), some (.inl v2), some (.inl v3), some (.inl v4)] (r.toList ++ []) h' Q))) :
    Rn xs xl e mm_turn 48 [some (.inr (.inr 182)), some (.inl v1), some (.inl v2), some (.inl v3), some (.inl v4)] [] h Q := by
  refine R_ld (v := .inr (.inr 182)) dd_turn_48 rfl rfl rfl rfl ?_
  refine R_ld (v := .inl v1) dd_turn_49 rfl rfl rfl rfl ?_
  refine R_ld (v := .inl v2) dd_turn_50 rfl rfl rfl rfl ?_
  refine R_ld (v := .inr (.inr 182)) dd_turn_51 rfl rfl rfl rfl ?_
  refine R_gf (v := .inr (.inr 198)) dd_turn_52 fd_12_125 io_182 (congrArg (fun z : Int => (Sum.inr (Sum.inr z) : LV)) (rf_182_24 hF)) rfl ?_
  refine R_ic dd_turn_55 (by decide) rfl ?_
  refine R_iald (v := (rd h 198 1)) (n := 1610) dd_turn_56 ia_198 la_198 (by decide) (rfl) rfl ?_
  refine R_ld (v := .inl v4) dd_turn_57 rfl rfl rfl rfl ?_
  obtain ⟨c, hc, k⟩ := k
  exact R_call (as := [.inr (.inr 182), .inl v1, .inl v2, .inl (rd h 198 1), .inl v4]) (rest := []) (M' := mm_laysInto) (ls0 := [some (.inr (.inr 182)), some (.inl v1), some (.inl v2), some (.inl (rd h 198 1)), some (.inl v4), none, none, none]) dd_turn_59 rfl rfl (cw_v cw_12_425 io_182 rfl rfl (Nat.le_of_ble_eq_true rfl) (Nat.le_of_ble_eq_true rfl)) mt_laysInto rfl hc rfl k
theorem B_turn_62 {xs : Nat → Int} {xl e : Nat} {h : LH} {Q : Option LV → LH → Prop} {v1 v2 v3 v4 : Int} (hF : RF h) (r_v4 : 0 ≤ v4 ∧ v4 ≤ 16383)
    (k : (∃ c, c < e ∧ Rn xs xl c mm_closure 0 [some (.inr (.inr 182)), some (.inl 0), none, none, none] [] h (fun r h' => Rn xs xl e mm_turn 67 [some (.inr (.inr 182)), some (.inl v1), some (.inl v2), some (.inl v3), some (.inl v4)] (r.toList ++ []) h' Q))) :
    Rn xs xl e mm_turn 62 [some (.inr (.inr 182)), some (.inl v1), some (.inl v2), some (.inl v3), some (.inl v4)] [] h Q := by
  refine R_ld (v := .inr (.inr 182)) dd_turn_62 rfl rfl rfl rfl ?_
  refine R_ic dd_turn_63 (by decide) rfl ?_
  obtain ⟨c, hc, k⟩ := k
  exact R_call (as := [.inr (.inr 182), .inl 0]) (rest := []) (M' := mm_closure) (ls0 := [some (.inr (.inr 182)), some (.inl 0), none, none, none]) dd_turn_64 rfl rfl (cw_v cw_12_419 io_182 rfl rfl (Nat.le_of_ble_eq_true rfl) (Nat.le_of_ble_eq_true rfl)) mt_closure rfl hc rfl k
theorem B_turn_67 {xs : Nat → Int} {xl e : Nat} {h : LH} {Q : Option LV → LH → Prop} {v1 v2 v3 v4 w0 : Int} (hF : RF h) (r_v4 : 0 ≤ v4 ∧ v4 ≤ 16383) (he : 2 ≤ e)
    (k : (-2147483648 ≤ (zshl 1 (rd h 188 0)) - 1 ∧ (zshl 1 (rd h 188 0)) - 1 ≤ 2147483647) ∧
      (w0 ≠ ((zshl 1 (rd h 188 0)) - 1) →
        Rn xs xl e mm_turn 89 [some (.inr (.inr 182)), some (.inl v1), some (.inl v2), some (.inl v3), some (.inl v4)] [] h Q) ∧
      (w0 = ((zshl 1 (rd h 188 0)) - 1) →
        (∃ c, c < e ∧ Rn xs xl c mm_homelessOf 0 [some (.inr (.inr 182)), some (.inl 0), none, none] [] h (fun r h' => Rn xs xl e mm_turn 79 [some (.inr (.inr 182)), some (.inl v1), some (.inl v2), some (.inl v3), some (.inl v4)] (r.toList ++ []) h' Q)))) :
    Rn xs xl e mm_turn 67 [some (.inr (.inr 182)), some (.inl v1), some (.inl v2), some (.inl v3), some (.inl v4)] [.inl w0] h Q := by
  refine R_ld (v := .inr (.inr 182)) dd_turn_67 rfl rfl rfl rfl ?_
  refine R_call (as := [.inr (.inr 182)]) (rest := [.inl w0]) (M' := mm_every) (ls0 := [some (.inr (.inr 182))]) dd_turn_68 rfl rfl (cw_v cw_12_432 io_182 rfl rfl (Nat.le_of_ble_eq_true rfl) (Nat.le_of_ble_eq_true rfl)) mt_every rfl (c := e - 1) (by omega) rfl ?_
  refine R_ic dd_every_0 (by decide) rfl ?_
  refine R_ld (v := .inr (.inr 182)) dd_every_1 rfl rfl rfl rfl ?_
  refine R_call (as := [.inr (.inr 182)]) (rest := [.inl 1]) (M' := mm_rooms) (ls0 := [some (.inr (.inr 182))]) dd_every_2 rfl rfl (cw_v cw_12_332 io_182 rfl rfl (Nat.le_of_ble_eq_true rfl) (Nat.le_of_ble_eq_true rfl)) mt_rooms rfl (c := e - 2) (by omega) rfl ?_
  refine R_ld (v := .inr (.inr 182)) dd_rooms_0 rfl rfl rfl rfl ?_
  refine R_gf (v := .inr (.inr 188)) dd_rooms_1 fd_12_95 io_182 (congrArg (fun z : Int => (Sum.inr (Sum.inr z) : LV)) (rf_182_10 hF)) rfl ?_
  refine R_ic dd_rooms_4 (by decide) rfl ?_
  refine R_iald (v := (rd h 188 0)) (n := 300) dd_rooms_5 ia_188 la_188 (by decide) (rfl) rfl ?_
  refine R_iret dd_rooms_6 rfl ?_
  change Rn xs xl (e - 1) mm_every 5 [some (.inr (.inr 182))] [.inl (rd h 188 0), .inl 1] h _
  refine R_A dd_every_5 rfl rfl rfl rfl ?_
  refine R_ic dd_every_6 (by decide) rfl ?_
  obtain ⟨s1, k⟩ := k
  refine R_isub (c := (zshl 1 (rd h 188 0)) - 1) dd_every_7 (by omega) s1 rfl ?_
  refine R_iret dd_every_8 rfl ?_
  change Rn xs xl e mm_turn 71 [some (.inr (.inr 182)), some (.inl v1), some (.inl v2), some (.inl v3), some (.inl v4)] [.inl ((zshl 1 (rd h 188 0)) - 1), .inl w0] h _
  refine R_icmp dd_turn_71 rfl rfl (fun (c3 : w0 ≠ ((zshl 1 (rd h 188 0)) - 1)) => ?_) (fun (c3 : w0 = ((zshl 1 (rd h 188 0)) - 1)) => ?_)
  · replace k := k.1 c3
    refine R_ld (v := .inl v3) dd_turn_87 rfl rfl rfl rfl ?_
    refine R_st (ls' := [some (.inr (.inr 182)), some (.inl v1), some (.inl v2), some (.inl v3), some (.inl v4)]) dd_turn_88 rfl rfl rfl (Nat.le_of_ble_eq_true rfl) rfl rfl ?_
    exact k
  · replace k := k.2 c3
    refine R_ld (v := .inr (.inr 182)) dd_turn_74 rfl rfl rfl rfl ?_
    refine R_ic dd_turn_75 (by decide) rfl ?_
    obtain ⟨c, hc, k⟩ := k
    exact R_call (as := [.inr (.inr 182), .inl 0]) (rest := []) (M' := mm_homelessOf) (ls0 := [some (.inr (.inr 182)), some (.inl 0), none, none]) dd_turn_76 rfl rfl (cw_v cw_12_429 io_182 rfl rfl (Nat.le_of_ble_eq_true rfl) (Nat.le_of_ble_eq_true rfl)) mt_homelessOf rfl hc rfl k
theorem B_turn_79 {xs : Nat → Int} {xl e : Nat} {h : LH} {Q : Option LV → LH → Prop} {v1 v2 v3 v4 w0 : Int} (hF : RF h) (r_v4 : 0 ≤ v4 ∧ v4 ≤ 16383)
    (k : (w0 ≠ 0 →
        Rn xs xl e mm_turn 89 [some (.inr (.inr 182)), some (.inl v1), some (.inl v2), some (.inl v3), some (.inl v4)] [] h Q) ∧
      (w0 = 0 →
        Rn xs xl e mm_turn 89 [some (.inr (.inr 182)), some (.inl v1), some (.inl v2), some (.inl v4), some (.inl v4)] [] h Q)) :
    Rn xs xl e mm_turn 79 [some (.inr (.inr 182)), some (.inl v1), some (.inl v2), some (.inl v3), some (.inl v4)] [.inl w0] h Q := by
  refine R_if dd_turn_79 rfl rfl (fun (c1 : w0 ≠ 0) => ?_) (fun (c1 : w0 = 0) => ?_)
  · replace k := k.1 c1
    refine R_ld (v := .inl v3) dd_turn_87 rfl rfl rfl rfl ?_
    refine R_st (ls' := [some (.inr (.inr 182)), some (.inl v1), some (.inl v2), some (.inl v3), some (.inl v4)]) dd_turn_88 rfl rfl rfl (Nat.le_of_ble_eq_true rfl) rfl rfl ?_
    exact k
  · replace k := k.2 c1
    refine R_ld (v := .inl v4) dd_turn_82 rfl rfl rfl rfl ?_
    refine R_goto dd_turn_84 rfl ?_
    refine R_st (ls' := [some (.inr (.inr 182)), some (.inl v1), some (.inl v2), some (.inl v4), some (.inl v4)]) dd_turn_88 rfl rfl rfl (Nat.le_of_ble_eq_true rfl) rfl rfl ?_
    exact k
theorem B_turn_89 {xs : Nat → Int} {xl e : Nat} {h : LH} {Q : Option LV → LH → Prop} {v1 v2 v3 v4 : Int} (hF : RF h) (r_v4 : 0 ≤ v4 ∧ v4 ≤ 16383)
    (k : Rn xs xl e mm_turn 21 [some (.inr (.inr 182)), some (.inl v1), some (.inl v2), some (.inl v3), some (.inl (v4 + 1))] [] h Q) :
    Rn xs xl e mm_turn 89 [some (.inr (.inr 182)), some (.inl v1), some (.inl v2), some (.inl v3), some (.inl v4)] [] h Q := by
  refine R_inc (y := v4 + 1) (ls' := [some (.inr (.inr 182)), some (.inl v1), some (.inl v2), some (.inl v3), some (.inl (v4 + 1))]) dd_turn_89 rfl (by decide) (by omega) (by omega) rfl rfl ?_
  refine R_goto dd_turn_92 rfl ?_
  exact k
