/-! LM, by program (wip/p2/hand.py): rows of the law -/
def mm_OneSidedLaw_law : LM_M := (⟨"OneSidedLaw", "law", "([I)Z"⟩, code, 4, (some .boolean), 13, 1, 1, 0, 0, 0)
def mm_OneSided_quarter : LM_M := (⟨"OneSided", "quarter", "()I"⟩, prog_1_method_3_code, 3, (some .int), 11, 1, 0, 583, 581, 582)
def mm_OneSided_day : LM_M := (⟨"OneSided", "day", "()I"⟩, prog_1_method_4_code, 2, (some .int), 11, 1, 0, 737, 735, 736)
def mm_OneSided_door : LM_M := (⟨"OneSided", "door", "(II)I"⟩, prog_1_method_5_code, 4, (some .int), 11, 3, 0, 764, 762, 763)
def mm_door : LM_M := (⟨"OneSidedModel", "door", "(II)I"⟩, prog_14_method_58_code, 3, (some .int), 12, 3, 0, 1551, 1549, 1550)
def mm_OneSided_person : LM_M := (⟨"OneSided", "person", "(II)I"⟩, prog_1_method_6_code, 4, (some .int), 11, 3, 0, 772, 770, 771)
def mm_person : LM_M := (⟨"OneSidedModel", "person", "(II)I"⟩, prog_14_method_59_code, 3, (some .int), 12, 3, 0, 1567, 1565, 1566)
def mm_OneSided_leads : LM_M := (⟨"OneSided", "leads", "(IIII)I"⟩, prog_1_method_7_code, 5, (some .int), 11, 5, 0, 780, 778, 779)
def mm_leads : LM_M := (⟨"OneSidedModel", "leads", "(IIII)I"⟩, prog_14_method_60_code, 5, (some .int), 12, 5, 0, 1579, 1577, 1578)
def mm_OneSided_go : LM_M := (⟨"OneSided", "go", "(II)I"⟩, prog_1_method_8_code, 4, (some .int), 11, 3, 0, 804, 802, 803)
def mm_OneSided_hours : LM_M := (⟨"OneSided", "hours", "(I)I"⟩, prog_1_method_9_code, 2, (some .int), 11, 2, 0, 825, 823, 824)
def mm_hours : LM_M := (⟨"OneSidedModel", "hours", "(I)I"⟩, prog_14_method_64_code, 3, (some .int), 12, 2, 0, 1629, 1627, 1628)
def mm_OneSided_shut : LM_M := (⟨"OneSided", "shut", "(IZ)Z"⟩, prog_1_method_10_code, 4, (some .boolean), 11, 3, 0, 836, 834, 835)
def mm_shut : LM_M := (⟨"OneSidedModel", "shut", "(IZ)Z"⟩, prog_14_method_65_code, 3, (some .boolean), 12, 3, 0, 1637, 1635, 1636)
def mm_OneSided_undo : LM_M := (⟨"OneSided", "undo", "()Z"⟩, prog_1_method_11_code, 1, (some .boolean), 11, 1, 0, 840, 838, 839)
def mm_OneSided_judged : LM_M := (⟨"OneSided", "judged", "(I)I"⟩, prog_1_method_12_code, 4, (some .int), 11, 2, 0, 844, 842, 843)
def mm_OneSided_soonest : LM_M := (⟨"OneSided", "soonest", "(II)I"⟩, prog_1_method_13_code, 3, (some .int), 11, 3, 0, 855, 853, 854)
def mm_soonest : LM_M := (⟨"OneSidedModel", "soonest", "(II)I"⟩, prog_14_method_71_code, 3, (some .int), 12, 3, 0, 1649, 1647, 1648)
def mm_OneSided_errand : LM_M := (⟨"OneSided", "errand", "(II)I"⟩, prog_1_method_14_code, 4, (some .int), 11, 3, 0, 876, 874, 875)
def mm_OneSided_reach : LM_M := (⟨"OneSided", "reach", "(I)I"⟩, prog_1_method_15_code, 2, (some .int), 11, 2, 0, 912, 910, 911)
def mm_reach : LM_M := (⟨"OneSidedModel", "reach", "(I)I"⟩, prog_14_method_77_code, 4, (some .int), 12, 2, 0, 1686, 1684, 1685)
def mm_OneSided_stuck : LM_M := (⟨"OneSided", "stuck", "()I"⟩, prog_1_method_16_code, 3, (some .int), 11, 1, 0, 920, 918, 919)
def mm_stuck : LM_M := (⟨"OneSidedModel", "stuck", "()I"⟩, prog_14_method_78_code, 3, (some .int), 12, 1, 0, 1690, 1688, 1689)
def mm_OneSided_ring : LM_M := (⟨"OneSided", "ring", "(III)I"⟩, prog_1_method_17_code, 4, (some .int), 11, 4, 0, 924, 922, 923)
def mm_ring : LM_M := (⟨"OneSidedModel", "ring", "(III)I"⟩, prog_14_method_84_code, 4, (some .int), 12, 4, 0, 1694, 1692, 1693)
def mm_OneSided_homeless : LM_M := (⟨"OneSided", "homeless", "(III)I"⟩, prog_1_method_18_code, 5, (some .int), 11, 4, 0, 945, 943, 944)
def mm_homeless : LM_M := (⟨"OneSidedModel", "homeless", "(III)I"⟩, prog_14_method_85_code, 4, (some .int), 12, 4, 0, 1714, 1712, 1713)
def mm_OneSided_add : LM_M := (⟨"OneSided", "add", "(II)I"⟩, prog_1_method_19_code, 3, (some .int), 11, 3, 0, 950, 948, 949)
def mm_add : LM_M := (⟨"OneSidedModel", "add", "(II)I"⟩, prog_14_method_86_code, 8, (some .int), 12, 3, 0, 1718, 1716, 1717)
def mm_OneSided_turn : LM_M := (⟨"OneSided", "turn", "(II)I"⟩, prog_1_method_20_code, 3, (some .int), 11, 3, 0, 960, 958, 959)
def mm_turn : LM_M := (⟨"OneSidedModel", "turn", "(II)I"⟩, prog_14_method_88_code, 5, (some .int), 12, 3, 0, 1726, 1724, 1725)
def mm_OneSided_cut : LM_M := (⟨"OneSided", "cut", "(IIII)I"⟩, prog_1_method_21_code, 5, (some .int), 11, 5, 0, 979, 977, 978)
def mm_cut : LM_M := (⟨"OneSidedModel", "cut", "(IIII)I"⟩, prog_14_method_89_code, 7, (some .int), 12, 5, 0, 1733, 1731, 1732)
def mm_OneSided_told : LM_M := (⟨"OneSided", "told", "(IIZ)Z"⟩, prog_1_method_23_code, 4, (some .boolean), 11, 4, 0, 1022, 1020, 1021)
def mm_told : LM_M := (⟨"OneSidedModel", "told", "(IIZ)Z"⟩, prog_14_method_96_code, 5, (some .boolean), 12, 4, 0, 1761, 1759, 1760)
def mm_OneSided_found : LM_M := (⟨"OneSided", "found", "(I)I"⟩, prog_1_method_24_code, 2, (some .int), 11, 2, 0, 1030, 1028, 1029)
def mm_found : LM_M := (⟨"OneSidedModel", "found", "(I)I"⟩, prog_14_method_100_code, 3, (some .int), 12, 2, 0, 1765, 1763, 1764)
def mm_OneSided_rests : LM_M := (⟨"OneSided", "rests", "(III)I"⟩, prog_1_method_25_code, 4, (some .int), 11, 4, 0, 1064, 1062, 1063)
def mm_rests : LM_M := (⟨"OneSidedModel", "rests", "(III)I"⟩, prog_14_method_102_code, 8, (some .int), 12, 4, 0, 1781, 1779, 1780)
def mm_OneSided_chase : LM_M := (⟨"OneSided", "chase", "(II)I"⟩, prog_1_method_26_code, 4, (some .int), 11, 3, 0, 1117, 1115, 1116)
def mm_chase : LM_M := (⟨"OneSidedModel", "chase", "(II)I"⟩, prog_14_method_103_code, 5, (some .int), 12, 3, 0, 1789, 1787, 1788)
def mm_OneSided_run : LM_M := (⟨"OneSided", "run", "(I)I"⟩, prog_1_method_27_code, 4, (some .int), 11, 2, 0, 1129, 1127, 1128)
def mm_OneSided_years : LM_M := (⟨"OneSided", "years", "(III)I"⟩, prog_1_method_28_code, 4, (some .int), 11, 4, 0, 1154, 1152, 1153)
def mm_years : LM_M := (⟨"OneSidedModel", "years", "(III)I"⟩, prog_14_method_108_code, 10, (some .int), 12, 4, 0, 1805, 1803, 1804)
def mm_OneSided_mark : LM_M := (⟨"OneSided", "mark", "(IZ)Z"⟩, prog_1_method_29_code, 3, (some .boolean), 11, 3, 0, 1177, 1175, 1176)
def mm_OneSided_count : LM_M := (⟨"OneSided", "count", "(I)I"⟩, prog_1_method_30_code, 2, (some .int), 11, 2, 0, 1187, 1185, 1186)
def mm_count : LM_M := (⟨"OneSidedModel", "count", "(I)I"⟩, prog_14_method_110_code, 4, (some .int), 12, 2, 0, 1821, 1819, 1820)
theorem dd_OneSidedLaw_law_18 : decode mm_OneSidedLaw_law.2.1 18 = .ok (.iload_n 3, 1) := by decide +kernel
theorem dd_OneSidedLaw_law_19 : decode mm_OneSidedLaw_law.2.1 19 = .ok (.aload_n 0, 1) := by decide +kernel
theorem dd_OneSidedLaw_law_20 : decode mm_OneSidedLaw_law.2.1 20 = .ok (.arraylength, 1) := by decide +kernel
theorem dd_OneSidedLaw_law_21 : decode mm_OneSidedLaw_law.2.1 21 = .ok (.bipush 7, 2) := by decide +kernel
theorem dd_OneSidedLaw_law_23 : decode mm_OneSidedLaw_law.2.1 23 = .ok (.isub, 1) := by decide +kernel
theorem dd_OneSidedLaw_law_24 : decode mm_OneSidedLaw_law.2.1 24 = .ok (.if_icmp .gt (1213), 3) := by decide +kernel
theorem dd_OneSidedLaw_law_1237 : decode mm_OneSidedLaw_law.2.1 1237 = .ok (.iconst 1, 1) := by decide +kernel
theorem dd_OneSidedLaw_law_1238 : decode mm_OneSidedLaw_law.2.1 1238 = .ok (.ireturn, 1) := by decide +kernel
theorem dd_OneSidedLaw_law_27 : decode mm_OneSidedLaw_law.2.1 27 = .ok (.aload_n 0, 1) := by decide +kernel
theorem dd_OneSidedLaw_law_28 : decode mm_OneSidedLaw_law.2.1 28 = .ok (.iload_n 3, 1) := by decide +kernel
theorem dd_OneSidedLaw_law_29 : decode mm_OneSidedLaw_law.2.1 29 = .ok (.iaload, 1) := by decide +kernel
theorem dd_OneSidedLaw_law_30 : decode mm_OneSidedLaw_law.2.1 30 = .ok (.bipush 31, 2) := by decide +kernel
theorem dd_OneSidedLaw_law_32 : decode mm_OneSidedLaw_law.2.1 32 = .ok (.iand, 1) := by decide +kernel
theorem dd_OneSidedLaw_law_33 : decode mm_OneSidedLaw_law.2.1 33 = .ok (.tableswitch (1198) (0) (28) #[131, 266, 279, 292, 325, 358, 411, 444, 467, 516, 529, 552, 585, 618, 641, 654, 697, 740, 773, 806, 859, 902, 961, 984, 1027, 1060, 1083, 1126, 1175], 131) := by decide +kernel
theorem dd_OneSidedLaw_law_164 : decode mm_OneSidedLaw_law.2.1 164 = .ok (.aload_n 1, 1) := by decide +kernel
theorem dd_OneSidedLaw_law_165 : decode mm_OneSidedLaw_law.2.1 165 = .ok (.aload_n 0, 1) := by decide +kernel
theorem dd_OneSidedLaw_law_166 : decode mm_OneSidedLaw_law.2.1 166 = .ok (.iload_n 3, 1) := by decide +kernel
theorem dd_OneSidedLaw_law_167 : decode mm_OneSidedLaw_law.2.1 167 = .ok (.iconst 1, 1) := by decide +kernel
theorem dd_OneSidedLaw_law_168 : decode mm_OneSidedLaw_law.2.1 168 = .ok (.iadd, 1) := by decide +kernel
theorem dd_OneSidedLaw_law_169 : decode mm_OneSidedLaw_law.2.1 169 = .ok (.iaload, 1) := by decide +kernel
theorem dd_OneSidedLaw_law_170 : decode mm_OneSidedLaw_law.2.1 170 = .ok (.i2l, 1) := by decide +kernel
theorem dd_OneSidedLaw_law_171 : decode mm_OneSidedLaw_law.2.1 171 = .ok (.bipush 32, 2) := by decide +kernel
theorem dd_OneSidedLaw_law_173 : decode mm_OneSidedLaw_law.2.1 173 = .ok (.lshl, 1) := by decide +kernel
theorem dd_OneSidedLaw_law_174 : decode mm_OneSidedLaw_law.2.1 174 = .ok (.aload_n 0, 1) := by decide +kernel
theorem dd_OneSidedLaw_law_175 : decode mm_OneSidedLaw_law.2.1 175 = .ok (.iload_n 3, 1) := by decide +kernel
theorem dd_OneSidedLaw_law_176 : decode mm_OneSidedLaw_law.2.1 176 = .ok (.iconst 2, 1) := by decide +kernel
theorem dd_OneSidedLaw_law_177 : decode mm_OneSidedLaw_law.2.1 177 = .ok (.iadd, 1) := by decide +kernel
theorem dd_OneSidedLaw_law_178 : decode mm_OneSidedLaw_law.2.1 178 = .ok (.iaload, 1) := by decide +kernel
theorem dd_OneSidedLaw_law_179 : decode mm_OneSidedLaw_law.2.1 179 = .ok (.i2l, 1) := by decide +kernel
theorem dd_OneSidedLaw_law_180 : decode mm_OneSidedLaw_law.2.1 180 = .ok (.ldc2_w 13, 3) := by decide +kernel
theorem dd_OneSidedLaw_law_183 : decode mm_OneSidedLaw_law.2.1 183 = .ok (.land, 1) := by decide +kernel
theorem dd_OneSidedLaw_law_184 : decode mm_OneSidedLaw_law.2.1 184 = .ok (.lor, 1) := by decide +kernel
theorem dd_OneSidedLaw_law_185 : decode mm_OneSidedLaw_law.2.1 185 = .ok (.aload_n 0, 1) := by decide +kernel
theorem dd_OneSidedLaw_law_186 : decode mm_OneSidedLaw_law.2.1 186 = .ok (.iload_n 3, 1) := by decide +kernel
theorem dd_OneSidedLaw_law_187 : decode mm_OneSidedLaw_law.2.1 187 = .ok (.iconst 3, 1) := by decide +kernel
theorem dd_OneSidedLaw_law_188 : decode mm_OneSidedLaw_law.2.1 188 = .ok (.iadd, 1) := by decide +kernel
theorem dd_OneSidedLaw_law_189 : decode mm_OneSidedLaw_law.2.1 189 = .ok (.iaload, 1) := by decide +kernel
theorem dd_OneSidedLaw_law_190 : decode mm_OneSidedLaw_law.2.1 190 = .ok (.i2l, 1) := by decide +kernel
theorem dd_OneSidedLaw_law_191 : decode mm_OneSidedLaw_law.2.1 191 = .ok (.bipush 32, 2) := by decide +kernel
theorem dd_OneSidedLaw_law_193 : decode mm_OneSidedLaw_law.2.1 193 = .ok (.lshl, 1) := by decide +kernel
theorem dd_OneSidedLaw_law_194 : decode mm_OneSidedLaw_law.2.1 194 = .ok (.aload_n 0, 1) := by decide +kernel
theorem dd_OneSidedLaw_law_195 : decode mm_OneSidedLaw_law.2.1 195 = .ok (.iload_n 3, 1) := by decide +kernel
theorem dd_OneSidedLaw_law_196 : decode mm_OneSidedLaw_law.2.1 196 = .ok (.iconst 4, 1) := by decide +kernel
theorem dd_OneSidedLaw_law_197 : decode mm_OneSidedLaw_law.2.1 197 = .ok (.iadd, 1) := by decide +kernel
theorem dd_OneSidedLaw_law_198 : decode mm_OneSidedLaw_law.2.1 198 = .ok (.iaload, 1) := by decide +kernel
theorem dd_OneSidedLaw_law_199 : decode mm_OneSidedLaw_law.2.1 199 = .ok (.i2l, 1) := by decide +kernel
theorem dd_OneSidedLaw_law_200 : decode mm_OneSidedLaw_law.2.1 200 = .ok (.ldc2_w 13, 3) := by decide +kernel
theorem dd_OneSidedLaw_law_203 : decode mm_OneSidedLaw_law.2.1 203 = .ok (.land, 1) := by decide +kernel
theorem dd_OneSidedLaw_law_204 : decode mm_OneSidedLaw_law.2.1 204 = .ok (.lor, 1) := by decide +kernel
theorem dd_OneSidedLaw_law_205 : decode mm_OneSidedLaw_law.2.1 205 = .ok (.aload_n 0, 1) := by decide +kernel
theorem dd_OneSidedLaw_law_206 : decode mm_OneSidedLaw_law.2.1 206 = .ok (.iload_n 3, 1) := by decide +kernel
theorem dd_OneSidedLaw_law_207 : decode mm_OneSidedLaw_law.2.1 207 = .ok (.iconst 5, 1) := by decide +kernel
theorem dd_OneSidedLaw_law_208 : decode mm_OneSidedLaw_law.2.1 208 = .ok (.iadd, 1) := by decide +kernel
theorem dd_OneSidedLaw_law_209 : decode mm_OneSidedLaw_law.2.1 209 = .ok (.iaload, 1) := by decide +kernel
theorem dd_OneSidedLaw_law_210 : decode mm_OneSidedLaw_law.2.1 210 = .ok (.i2l, 1) := by decide +kernel
theorem dd_OneSidedLaw_law_211 : decode mm_OneSidedLaw_law.2.1 211 = .ok (.bipush 32, 2) := by decide +kernel
theorem dd_OneSidedLaw_law_213 : decode mm_OneSidedLaw_law.2.1 213 = .ok (.lshl, 1) := by decide +kernel
theorem dd_OneSidedLaw_law_214 : decode mm_OneSidedLaw_law.2.1 214 = .ok (.aload_n 0, 1) := by decide +kernel
theorem dd_OneSidedLaw_law_215 : decode mm_OneSidedLaw_law.2.1 215 = .ok (.iload_n 3, 1) := by decide +kernel
theorem dd_OneSidedLaw_law_216 : decode mm_OneSidedLaw_law.2.1 216 = .ok (.bipush 6, 2) := by decide +kernel
theorem dd_OneSidedLaw_law_218 : decode mm_OneSidedLaw_law.2.1 218 = .ok (.iadd, 1) := by decide +kernel
theorem dd_OneSidedLaw_law_219 : decode mm_OneSidedLaw_law.2.1 219 = .ok (.iaload, 1) := by decide +kernel
theorem dd_OneSidedLaw_law_220 : decode mm_OneSidedLaw_law.2.1 220 = .ok (.i2l, 1) := by decide +kernel
theorem dd_OneSidedLaw_law_221 : decode mm_OneSidedLaw_law.2.1 221 = .ok (.ldc2_w 13, 3) := by decide +kernel
theorem dd_OneSidedLaw_law_224 : decode mm_OneSidedLaw_law.2.1 224 = .ok (.land, 1) := by decide +kernel
theorem dd_OneSidedLaw_law_225 : decode mm_OneSidedLaw_law.2.1 225 = .ok (.lor, 1) := by decide +kernel
theorem dd_OneSidedLaw_law_226 : decode mm_OneSidedLaw_law.2.1 226 = .ok (.invokevirtual 15, 3) := by decide +kernel
theorem cw_13_15 : cwOk 13 15 0 13 4 7 11 = true := by decide +kernel
theorem mt_OneSided_feed : MTB 13 = some mm_OneSided_feed := rfl
theorem dd_OneSidedLaw_law_229 : decode mm_OneSidedLaw_law.2.1 229 = .ok (.pop, 1) := by decide +kernel
theorem dd_OneSidedLaw_law_230 : decode mm_OneSidedLaw_law.2.1 230 = .ok (.aload_n 2, 1) := by decide +kernel
theorem dd_OneSidedLaw_law_231 : decode mm_OneSidedLaw_law.2.1 231 = .ok (.aload_n 0, 1) := by decide +kernel
theorem dd_OneSidedLaw_law_232 : decode mm_OneSidedLaw_law.2.1 232 = .ok (.iload_n 3, 1) := by decide +kernel
theorem dd_OneSidedLaw_law_233 : decode mm_OneSidedLaw_law.2.1 233 = .ok (.iconst 1, 1) := by decide +kernel
theorem dd_OneSidedLaw_law_234 : decode mm_OneSidedLaw_law.2.1 234 = .ok (.iadd, 1) := by decide +kernel
theorem dd_OneSidedLaw_law_235 : decode mm_OneSidedLaw_law.2.1 235 = .ok (.iaload, 1) := by decide +kernel
theorem dd_OneSidedLaw_law_236 : decode mm_OneSidedLaw_law.2.1 236 = .ok (.i2l, 1) := by decide +kernel
theorem dd_OneSidedLaw_law_237 : decode mm_OneSidedLaw_law.2.1 237 = .ok (.bipush 32, 2) := by decide +kernel
theorem dd_OneSidedLaw_law_239 : decode mm_OneSidedLaw_law.2.1 239 = .ok (.lshl, 1) := by decide +kernel
theorem dd_OneSidedLaw_law_240 : decode mm_OneSidedLaw_law.2.1 240 = .ok (.aload_n 0, 1) := by decide +kernel
theorem dd_OneSidedLaw_law_241 : decode mm_OneSidedLaw_law.2.1 241 = .ok (.iload_n 3, 1) := by decide +kernel
theorem dd_OneSidedLaw_law_242 : decode mm_OneSidedLaw_law.2.1 242 = .ok (.iconst 2, 1) := by decide +kernel
theorem dd_OneSidedLaw_law_243 : decode mm_OneSidedLaw_law.2.1 243 = .ok (.iadd, 1) := by decide +kernel
theorem dd_OneSidedLaw_law_244 : decode mm_OneSidedLaw_law.2.1 244 = .ok (.iaload, 1) := by decide +kernel
theorem dd_OneSidedLaw_law_245 : decode mm_OneSidedLaw_law.2.1 245 = .ok (.i2l, 1) := by decide +kernel
theorem dd_OneSidedLaw_law_246 : decode mm_OneSidedLaw_law.2.1 246 = .ok (.ldc2_w 13, 3) := by decide +kernel
theorem dd_OneSidedLaw_law_249 : decode mm_OneSidedLaw_law.2.1 249 = .ok (.land, 1) := by decide +kernel
theorem dd_OneSidedLaw_law_250 : decode mm_OneSidedLaw_law.2.1 250 = .ok (.lor, 1) := by decide +kernel
theorem dd_OneSidedLaw_law_251 : decode mm_OneSidedLaw_law.2.1 251 = .ok (.aload_n 0, 1) := by decide +kernel
theorem dd_OneSidedLaw_law_252 : decode mm_OneSidedLaw_law.2.1 252 = .ok (.iload_n 3, 1) := by decide +kernel
theorem dd_OneSidedLaw_law_253 : decode mm_OneSidedLaw_law.2.1 253 = .ok (.iconst 3, 1) := by decide +kernel
theorem dd_OneSidedLaw_law_254 : decode mm_OneSidedLaw_law.2.1 254 = .ok (.iadd, 1) := by decide +kernel
theorem dd_OneSidedLaw_law_255 : decode mm_OneSidedLaw_law.2.1 255 = .ok (.iaload, 1) := by decide +kernel
theorem dd_OneSidedLaw_law_256 : decode mm_OneSidedLaw_law.2.1 256 = .ok (.i2l, 1) := by decide +kernel
theorem dd_OneSidedLaw_law_257 : decode mm_OneSidedLaw_law.2.1 257 = .ok (.bipush 32, 2) := by decide +kernel
theorem dd_OneSidedLaw_law_259 : decode mm_OneSidedLaw_law.2.1 259 = .ok (.lshl, 1) := by decide +kernel
theorem dd_OneSidedLaw_law_260 : decode mm_OneSidedLaw_law.2.1 260 = .ok (.aload_n 0, 1) := by decide +kernel
theorem dd_OneSidedLaw_law_261 : decode mm_OneSidedLaw_law.2.1 261 = .ok (.iload_n 3, 1) := by decide +kernel
theorem dd_OneSidedLaw_law_262 : decode mm_OneSidedLaw_law.2.1 262 = .ok (.iconst 4, 1) := by decide +kernel
theorem dd_OneSidedLaw_law_263 : decode mm_OneSidedLaw_law.2.1 263 = .ok (.iadd, 1) := by decide +kernel
theorem dd_OneSidedLaw_law_264 : decode mm_OneSidedLaw_law.2.1 264 = .ok (.iaload, 1) := by decide +kernel
theorem dd_OneSidedLaw_law_265 : decode mm_OneSidedLaw_law.2.1 265 = .ok (.i2l, 1) := by decide +kernel
theorem dd_OneSidedLaw_law_266 : decode mm_OneSidedLaw_law.2.1 266 = .ok (.ldc2_w 13, 3) := by decide +kernel
theorem dd_OneSidedLaw_law_269 : decode mm_OneSidedLaw_law.2.1 269 = .ok (.land, 1) := by decide +kernel
theorem dd_OneSidedLaw_law_270 : decode mm_OneSidedLaw_law.2.1 270 = .ok (.lor, 1) := by decide +kernel
theorem dd_OneSidedLaw_law_271 : decode mm_OneSidedLaw_law.2.1 271 = .ok (.aload_n 0, 1) := by decide +kernel
theorem dd_OneSidedLaw_law_272 : decode mm_OneSidedLaw_law.2.1 272 = .ok (.iload_n 3, 1) := by decide +kernel
theorem dd_OneSidedLaw_law_273 : decode mm_OneSidedLaw_law.2.1 273 = .ok (.iconst 5, 1) := by decide +kernel
theorem dd_OneSidedLaw_law_274 : decode mm_OneSidedLaw_law.2.1 274 = .ok (.iadd, 1) := by decide +kernel
theorem dd_OneSidedLaw_law_275 : decode mm_OneSidedLaw_law.2.1 275 = .ok (.iaload, 1) := by decide +kernel
theorem dd_OneSidedLaw_law_276 : decode mm_OneSidedLaw_law.2.1 276 = .ok (.i2l, 1) := by decide +kernel
theorem dd_OneSidedLaw_law_277 : decode mm_OneSidedLaw_law.2.1 277 = .ok (.bipush 32, 2) := by decide +kernel
theorem dd_OneSidedLaw_law_279 : decode mm_OneSidedLaw_law.2.1 279 = .ok (.lshl, 1) := by decide +kernel
theorem dd_OneSidedLaw_law_280 : decode mm_OneSidedLaw_law.2.1 280 = .ok (.aload_n 0, 1) := by decide +kernel
theorem dd_OneSidedLaw_law_281 : decode mm_OneSidedLaw_law.2.1 281 = .ok (.iload_n 3, 1) := by decide +kernel
theorem dd_OneSidedLaw_law_282 : decode mm_OneSidedLaw_law.2.1 282 = .ok (.bipush 6, 2) := by decide +kernel
theorem dd_OneSidedLaw_law_284 : decode mm_OneSidedLaw_law.2.1 284 = .ok (.iadd, 1) := by decide +kernel
theorem dd_OneSidedLaw_law_285 : decode mm_OneSidedLaw_law.2.1 285 = .ok (.iaload, 1) := by decide +kernel
theorem dd_OneSidedLaw_law_286 : decode mm_OneSidedLaw_law.2.1 286 = .ok (.i2l, 1) := by decide +kernel
theorem dd_OneSidedLaw_law_287 : decode mm_OneSidedLaw_law.2.1 287 = .ok (.ldc2_w 13, 3) := by decide +kernel
theorem dd_OneSidedLaw_law_290 : decode mm_OneSidedLaw_law.2.1 290 = .ok (.land, 1) := by decide +kernel
theorem dd_OneSidedLaw_law_291 : decode mm_OneSidedLaw_law.2.1 291 = .ok (.lor, 1) := by decide +kernel
theorem dd_OneSidedLaw_law_292 : decode mm_OneSidedLaw_law.2.1 292 = .ok (.invokevirtual 19, 3) := by decide +kernel
theorem cw_13_19 : cwOk 13 19 0 155 4 7 12 = true := by decide +kernel
theorem mt_feed : MTB 155 = some mm_feed := rfl
theorem dd_OneSidedLaw_law_295 : decode mm_OneSidedLaw_law.2.1 295 = .ok (.pop, 1) := by decide +kernel
theorem dd_OneSidedLaw_law_296 : decode mm_OneSidedLaw_law.2.1 296 = .ok (.goto 935, 3) := by decide +kernel
theorem dd_OneSidedLaw_law_299 : decode mm_OneSidedLaw_law.2.1 299 = .ok (.aload_n 1, 1) := by decide +kernel
theorem dd_OneSidedLaw_law_300 : decode mm_OneSidedLaw_law.2.1 300 = .ok (.invokevirtual 20, 3) := by decide +kernel
theorem cw_13_20 : cwOk 13 20 0 15 1 3 11 = true := by decide +kernel
theorem mt_OneSided_quarter : MTB 15 = some mm_OneSided_quarter := rfl
theorem dd_OneSidedLaw_law_303 : decode mm_OneSidedLaw_law.2.1 303 = .ok (.pop, 1) := by decide +kernel
theorem dd_OneSidedLaw_law_304 : decode mm_OneSidedLaw_law.2.1 304 = .ok (.aload_n 2, 1) := by decide +kernel
theorem dd_OneSidedLaw_law_305 : decode mm_OneSidedLaw_law.2.1 305 = .ok (.invokevirtual 24, 3) := by decide +kernel
theorem cw_13_24 : cwOk 13 24 0 162 1 2 12 = true := by decide +kernel
theorem mt_quarter : MTB 162 = some mm_quarter := rfl
theorem dd_OneSidedLaw_law_308 : decode mm_OneSidedLaw_law.2.1 308 = .ok (.pop, 1) := by decide +kernel
theorem dd_OneSidedLaw_law_309 : decode mm_OneSidedLaw_law.2.1 309 = .ok (.goto 922, 3) := by decide +kernel
theorem dd_OneSidedLaw_law_312 : decode mm_OneSidedLaw_law.2.1 312 = .ok (.aload_n 1, 1) := by decide +kernel
theorem dd_OneSidedLaw_law_313 : decode mm_OneSidedLaw_law.2.1 313 = .ok (.invokevirtual 25, 3) := by decide +kernel
theorem cw_13_25 : cwOk 13 25 0 54 1 2 11 = true := by decide +kernel
theorem mt_OneSided_day : MTB 54 = some mm_OneSided_day := rfl
theorem dd_OneSidedLaw_law_316 : decode mm_OneSidedLaw_law.2.1 316 = .ok (.pop, 1) := by decide +kernel
theorem dd_OneSidedLaw_law_317 : decode mm_OneSidedLaw_law.2.1 317 = .ok (.aload_n 2, 1) := by decide +kernel
theorem dd_OneSidedLaw_law_318 : decode mm_OneSidedLaw_law.2.1 318 = .ok (.invokevirtual 28, 3) := by decide +kernel
theorem cw_13_28 : cwOk 13 28 0 192 1 2 12 = true := by decide +kernel
theorem mt_day : MTB 192 = some mm_day := rfl
theorem dd_OneSidedLaw_law_321 : decode mm_OneSidedLaw_law.2.1 321 = .ok (.pop, 1) := by decide +kernel
theorem dd_OneSidedLaw_law_322 : decode mm_OneSidedLaw_law.2.1 322 = .ok (.goto 909, 3) := by decide +kernel
theorem dd_OneSidedLaw_law_325 : decode mm_OneSidedLaw_law.2.1 325 = .ok (.aload_n 1, 1) := by decide +kernel
theorem dd_OneSidedLaw_law_326 : decode mm_OneSidedLaw_law.2.1 326 = .ok (.aload_n 0, 1) := by decide +kernel
theorem dd_OneSidedLaw_law_327 : decode mm_OneSidedLaw_law.2.1 327 = .ok (.iload_n 3, 1) := by decide +kernel
theorem dd_OneSidedLaw_law_328 : decode mm_OneSidedLaw_law.2.1 328 = .ok (.iconst 1, 1) := by decide +kernel
theorem dd_OneSidedLaw_law_329 : decode mm_OneSidedLaw_law.2.1 329 = .ok (.iadd, 1) := by decide +kernel
theorem dd_OneSidedLaw_law_330 : decode mm_OneSidedLaw_law.2.1 330 = .ok (.iaload, 1) := by decide +kernel
theorem dd_OneSidedLaw_law_331 : decode mm_OneSidedLaw_law.2.1 331 = .ok (.aload_n 0, 1) := by decide +kernel
theorem dd_OneSidedLaw_law_332 : decode mm_OneSidedLaw_law.2.1 332 = .ok (.iload_n 3, 1) := by decide +kernel
theorem dd_OneSidedLaw_law_333 : decode mm_OneSidedLaw_law.2.1 333 = .ok (.iconst 2, 1) := by decide +kernel
theorem dd_OneSidedLaw_law_334 : decode mm_OneSidedLaw_law.2.1 334 = .ok (.iadd, 1) := by decide +kernel
theorem dd_OneSidedLaw_law_335 : decode mm_OneSidedLaw_law.2.1 335 = .ok (.iaload, 1) := by decide +kernel
theorem dd_OneSidedLaw_law_336 : decode mm_OneSidedLaw_law.2.1 336 = .ok (.invokevirtual 29, 3) := by decide +kernel
theorem cw_13_29 : cwOk 13 29 0 60 3 4 11 = true := by decide +kernel
theorem mt_OneSided_door : MTB 60 = some mm_OneSided_door := rfl
theorem dd_OneSidedLaw_law_339 : decode mm_OneSidedLaw_law.2.1 339 = .ok (.pop, 1) := by decide +kernel
theorem dd_OneSidedLaw_law_340 : decode mm_OneSidedLaw_law.2.1 340 = .ok (.aload_n 2, 1) := by decide +kernel
theorem dd_OneSidedLaw_law_341 : decode mm_OneSidedLaw_law.2.1 341 = .ok (.aload_n 0, 1) := by decide +kernel
theorem dd_OneSidedLaw_law_342 : decode mm_OneSidedLaw_law.2.1 342 = .ok (.iload_n 3, 1) := by decide +kernel
theorem dd_OneSidedLaw_law_343 : decode mm_OneSidedLaw_law.2.1 343 = .ok (.iconst 1, 1) := by decide +kernel
theorem dd_OneSidedLaw_law_344 : decode mm_OneSidedLaw_law.2.1 344 = .ok (.iadd, 1) := by decide +kernel
theorem dd_OneSidedLaw_law_345 : decode mm_OneSidedLaw_law.2.1 345 = .ok (.iaload, 1) := by decide +kernel
theorem dd_OneSidedLaw_law_346 : decode mm_OneSidedLaw_law.2.1 346 = .ok (.aload_n 0, 1) := by decide +kernel
theorem dd_OneSidedLaw_law_347 : decode mm_OneSidedLaw_law.2.1 347 = .ok (.iload_n 3, 1) := by decide +kernel
theorem dd_OneSidedLaw_law_348 : decode mm_OneSidedLaw_law.2.1 348 = .ok (.iconst 2, 1) := by decide +kernel
theorem dd_OneSidedLaw_law_349 : decode mm_OneSidedLaw_law.2.1 349 = .ok (.iadd, 1) := by decide +kernel
theorem dd_OneSidedLaw_law_350 : decode mm_OneSidedLaw_law.2.1 350 = .ok (.iaload, 1) := by decide +kernel
theorem dd_OneSidedLaw_law_351 : decode mm_OneSidedLaw_law.2.1 351 = .ok (.invokevirtual 33, 3) := by decide +kernel
theorem cw_13_33 : cwOk 13 33 0 196 3 3 12 = true := by decide +kernel
theorem mt_door : MTB 196 = some mm_door := rfl
theorem dd_OneSidedLaw_law_354 : decode mm_OneSidedLaw_law.2.1 354 = .ok (.pop, 1) := by decide +kernel
theorem dd_OneSidedLaw_law_355 : decode mm_OneSidedLaw_law.2.1 355 = .ok (.goto 876, 3) := by decide +kernel
theorem dd_OneSidedLaw_law_358 : decode mm_OneSidedLaw_law.2.1 358 = .ok (.aload_n 1, 1) := by decide +kernel
theorem dd_OneSidedLaw_law_359 : decode mm_OneSidedLaw_law.2.1 359 = .ok (.aload_n 0, 1) := by decide +kernel
theorem dd_OneSidedLaw_law_360 : decode mm_OneSidedLaw_law.2.1 360 = .ok (.iload_n 3, 1) := by decide +kernel
theorem dd_OneSidedLaw_law_361 : decode mm_OneSidedLaw_law.2.1 361 = .ok (.iconst 1, 1) := by decide +kernel
theorem dd_OneSidedLaw_law_362 : decode mm_OneSidedLaw_law.2.1 362 = .ok (.iadd, 1) := by decide +kernel
theorem dd_OneSidedLaw_law_363 : decode mm_OneSidedLaw_law.2.1 363 = .ok (.iaload, 1) := by decide +kernel
theorem dd_OneSidedLaw_law_364 : decode mm_OneSidedLaw_law.2.1 364 = .ok (.aload_n 0, 1) := by decide +kernel
theorem dd_OneSidedLaw_law_365 : decode mm_OneSidedLaw_law.2.1 365 = .ok (.iload_n 3, 1) := by decide +kernel
theorem dd_OneSidedLaw_law_366 : decode mm_OneSidedLaw_law.2.1 366 = .ok (.iconst 2, 1) := by decide +kernel
theorem dd_OneSidedLaw_law_367 : decode mm_OneSidedLaw_law.2.1 367 = .ok (.iadd, 1) := by decide +kernel
theorem dd_OneSidedLaw_law_368 : decode mm_OneSidedLaw_law.2.1 368 = .ok (.iaload, 1) := by decide +kernel
theorem dd_OneSidedLaw_law_369 : decode mm_OneSidedLaw_law.2.1 369 = .ok (.invokevirtual 34, 3) := by decide +kernel
theorem cw_13_34 : cwOk 13 34 0 62 3 4 11 = true := by decide +kernel
theorem mt_OneSided_person : MTB 62 = some mm_OneSided_person := rfl
theorem dd_OneSidedLaw_law_372 : decode mm_OneSidedLaw_law.2.1 372 = .ok (.pop, 1) := by decide +kernel
theorem dd_OneSidedLaw_law_373 : decode mm_OneSidedLaw_law.2.1 373 = .ok (.aload_n 2, 1) := by decide +kernel
theorem dd_OneSidedLaw_law_374 : decode mm_OneSidedLaw_law.2.1 374 = .ok (.aload_n 0, 1) := by decide +kernel
theorem dd_OneSidedLaw_law_375 : decode mm_OneSidedLaw_law.2.1 375 = .ok (.iload_n 3, 1) := by decide +kernel
theorem dd_OneSidedLaw_law_376 : decode mm_OneSidedLaw_law.2.1 376 = .ok (.iconst 1, 1) := by decide +kernel
theorem dd_OneSidedLaw_law_377 : decode mm_OneSidedLaw_law.2.1 377 = .ok (.iadd, 1) := by decide +kernel
theorem dd_OneSidedLaw_law_378 : decode mm_OneSidedLaw_law.2.1 378 = .ok (.iaload, 1) := by decide +kernel
theorem dd_OneSidedLaw_law_379 : decode mm_OneSidedLaw_law.2.1 379 = .ok (.aload_n 0, 1) := by decide +kernel
theorem dd_OneSidedLaw_law_380 : decode mm_OneSidedLaw_law.2.1 380 = .ok (.iload_n 3, 1) := by decide +kernel
theorem dd_OneSidedLaw_law_381 : decode mm_OneSidedLaw_law.2.1 381 = .ok (.iconst 2, 1) := by decide +kernel
theorem dd_OneSidedLaw_law_382 : decode mm_OneSidedLaw_law.2.1 382 = .ok (.iadd, 1) := by decide +kernel
theorem dd_OneSidedLaw_law_383 : decode mm_OneSidedLaw_law.2.1 383 = .ok (.iaload, 1) := by decide +kernel
theorem dd_OneSidedLaw_law_384 : decode mm_OneSidedLaw_law.2.1 384 = .ok (.invokevirtual 37, 3) := by decide +kernel
theorem cw_13_37 : cwOk 13 37 0 200 3 3 12 = true := by decide +kernel
theorem mt_person : MTB 200 = some mm_person := rfl
theorem dd_OneSidedLaw_law_387 : decode mm_OneSidedLaw_law.2.1 387 = .ok (.pop, 1) := by decide +kernel
theorem dd_OneSidedLaw_law_388 : decode mm_OneSidedLaw_law.2.1 388 = .ok (.goto 843, 3) := by decide +kernel
theorem dd_OneSidedLaw_law_391 : decode mm_OneSidedLaw_law.2.1 391 = .ok (.aload_n 1, 1) := by decide +kernel
theorem dd_OneSidedLaw_law_392 : decode mm_OneSidedLaw_law.2.1 392 = .ok (.aload_n 0, 1) := by decide +kernel
theorem dd_OneSidedLaw_law_393 : decode mm_OneSidedLaw_law.2.1 393 = .ok (.iload_n 3, 1) := by decide +kernel
theorem dd_OneSidedLaw_law_394 : decode mm_OneSidedLaw_law.2.1 394 = .ok (.iconst 1, 1) := by decide +kernel
theorem dd_OneSidedLaw_law_395 : decode mm_OneSidedLaw_law.2.1 395 = .ok (.iadd, 1) := by decide +kernel
theorem dd_OneSidedLaw_law_396 : decode mm_OneSidedLaw_law.2.1 396 = .ok (.iaload, 1) := by decide +kernel
theorem dd_OneSidedLaw_law_397 : decode mm_OneSidedLaw_law.2.1 397 = .ok (.aload_n 0, 1) := by decide +kernel
theorem dd_OneSidedLaw_law_398 : decode mm_OneSidedLaw_law.2.1 398 = .ok (.iload_n 3, 1) := by decide +kernel
theorem dd_OneSidedLaw_law_399 : decode mm_OneSidedLaw_law.2.1 399 = .ok (.iconst 2, 1) := by decide +kernel
theorem dd_OneSidedLaw_law_400 : decode mm_OneSidedLaw_law.2.1 400 = .ok (.iadd, 1) := by decide +kernel
theorem dd_OneSidedLaw_law_401 : decode mm_OneSidedLaw_law.2.1 401 = .ok (.iaload, 1) := by decide +kernel
theorem dd_OneSidedLaw_law_402 : decode mm_OneSidedLaw_law.2.1 402 = .ok (.aload_n 0, 1) := by decide +kernel
theorem dd_OneSidedLaw_law_403 : decode mm_OneSidedLaw_law.2.1 403 = .ok (.iload_n 3, 1) := by decide +kernel
theorem dd_OneSidedLaw_law_404 : decode mm_OneSidedLaw_law.2.1 404 = .ok (.iconst 3, 1) := by decide +kernel
theorem dd_OneSidedLaw_law_405 : decode mm_OneSidedLaw_law.2.1 405 = .ok (.iadd, 1) := by decide +kernel
theorem dd_OneSidedLaw_law_406 : decode mm_OneSidedLaw_law.2.1 406 = .ok (.iaload, 1) := by decide +kernel
theorem dd_OneSidedLaw_law_407 : decode mm_OneSidedLaw_law.2.1 407 = .ok (.aload_n 0, 1) := by decide +kernel
theorem dd_OneSidedLaw_law_408 : decode mm_OneSidedLaw_law.2.1 408 = .ok (.iload_n 3, 1) := by decide +kernel
theorem dd_OneSidedLaw_law_409 : decode mm_OneSidedLaw_law.2.1 409 = .ok (.iconst 4, 1) := by decide +kernel
theorem dd_OneSidedLaw_law_410 : decode mm_OneSidedLaw_law.2.1 410 = .ok (.iadd, 1) := by decide +kernel
theorem dd_OneSidedLaw_law_411 : decode mm_OneSidedLaw_law.2.1 411 = .ok (.iaload, 1) := by decide +kernel
theorem dd_OneSidedLaw_law_412 : decode mm_OneSidedLaw_law.2.1 412 = .ok (.invokevirtual 38, 3) := by decide +kernel
theorem cw_13_38 : cwOk 13 38 0 64 5 5 11 = true := by decide +kernel
theorem mt_OneSided_leads : MTB 64 = some mm_OneSided_leads := rfl
theorem dd_OneSidedLaw_law_415 : decode mm_OneSidedLaw_law.2.1 415 = .ok (.pop, 1) := by decide +kernel
theorem dd_OneSidedLaw_law_416 : decode mm_OneSidedLaw_law.2.1 416 = .ok (.aload_n 2, 1) := by decide +kernel
theorem dd_OneSidedLaw_law_417 : decode mm_OneSidedLaw_law.2.1 417 = .ok (.aload_n 0, 1) := by decide +kernel
theorem dd_OneSidedLaw_law_418 : decode mm_OneSidedLaw_law.2.1 418 = .ok (.iload_n 3, 1) := by decide +kernel
theorem dd_OneSidedLaw_law_419 : decode mm_OneSidedLaw_law.2.1 419 = .ok (.iconst 1, 1) := by decide +kernel
theorem dd_OneSidedLaw_law_420 : decode mm_OneSidedLaw_law.2.1 420 = .ok (.iadd, 1) := by decide +kernel
theorem dd_OneSidedLaw_law_421 : decode mm_OneSidedLaw_law.2.1 421 = .ok (.iaload, 1) := by decide +kernel
theorem dd_OneSidedLaw_law_422 : decode mm_OneSidedLaw_law.2.1 422 = .ok (.aload_n 0, 1) := by decide +kernel
theorem dd_OneSidedLaw_law_423 : decode mm_OneSidedLaw_law.2.1 423 = .ok (.iload_n 3, 1) := by decide +kernel
theorem dd_OneSidedLaw_law_424 : decode mm_OneSidedLaw_law.2.1 424 = .ok (.iconst 2, 1) := by decide +kernel
theorem dd_OneSidedLaw_law_425 : decode mm_OneSidedLaw_law.2.1 425 = .ok (.iadd, 1) := by decide +kernel
theorem dd_OneSidedLaw_law_426 : decode mm_OneSidedLaw_law.2.1 426 = .ok (.iaload, 1) := by decide +kernel
theorem dd_OneSidedLaw_law_427 : decode mm_OneSidedLaw_law.2.1 427 = .ok (.aload_n 0, 1) := by decide +kernel
theorem dd_OneSidedLaw_law_428 : decode mm_OneSidedLaw_law.2.1 428 = .ok (.iload_n 3, 1) := by decide +kernel
theorem dd_OneSidedLaw_law_429 : decode mm_OneSidedLaw_law.2.1 429 = .ok (.iconst 3, 1) := by decide +kernel
theorem dd_OneSidedLaw_law_430 : decode mm_OneSidedLaw_law.2.1 430 = .ok (.iadd, 1) := by decide +kernel
theorem dd_OneSidedLaw_law_431 : decode mm_OneSidedLaw_law.2.1 431 = .ok (.iaload, 1) := by decide +kernel
theorem dd_OneSidedLaw_law_432 : decode mm_OneSidedLaw_law.2.1 432 = .ok (.aload_n 0, 1) := by decide +kernel
theorem dd_OneSidedLaw_law_433 : decode mm_OneSidedLaw_law.2.1 433 = .ok (.iload_n 3, 1) := by decide +kernel
theorem dd_OneSidedLaw_law_434 : decode mm_OneSidedLaw_law.2.1 434 = .ok (.iconst 4, 1) := by decide +kernel
theorem dd_OneSidedLaw_law_435 : decode mm_OneSidedLaw_law.2.1 435 = .ok (.iadd, 1) := by decide +kernel
theorem dd_OneSidedLaw_law_436 : decode mm_OneSidedLaw_law.2.1 436 = .ok (.iaload, 1) := by decide +kernel
theorem dd_OneSidedLaw_law_437 : decode mm_OneSidedLaw_law.2.1 437 = .ok (.invokevirtual 42, 3) := by decide +kernel
theorem cw_13_42 : cwOk 13 42 0 203 5 5 12 = true := by decide +kernel
theorem mt_leads : MTB 203 = some mm_leads := rfl
theorem dd_OneSidedLaw_law_440 : decode mm_OneSidedLaw_law.2.1 440 = .ok (.pop, 1) := by decide +kernel
theorem dd_OneSidedLaw_law_441 : decode mm_OneSidedLaw_law.2.1 441 = .ok (.goto 790, 3) := by decide +kernel
theorem dd_OneSidedLaw_law_444 : decode mm_OneSidedLaw_law.2.1 444 = .ok (.aload_n 1, 1) := by decide +kernel
theorem dd_OneSidedLaw_law_445 : decode mm_OneSidedLaw_law.2.1 445 = .ok (.aload_n 0, 1) := by decide +kernel
theorem dd_OneSidedLaw_law_446 : decode mm_OneSidedLaw_law.2.1 446 = .ok (.iload_n 3, 1) := by decide +kernel
theorem dd_OneSidedLaw_law_447 : decode mm_OneSidedLaw_law.2.1 447 = .ok (.iconst 1, 1) := by decide +kernel
theorem dd_OneSidedLaw_law_448 : decode mm_OneSidedLaw_law.2.1 448 = .ok (.iadd, 1) := by decide +kernel
theorem dd_OneSidedLaw_law_449 : decode mm_OneSidedLaw_law.2.1 449 = .ok (.iaload, 1) := by decide +kernel
theorem dd_OneSidedLaw_law_450 : decode mm_OneSidedLaw_law.2.1 450 = .ok (.aload_n 0, 1) := by decide +kernel
theorem dd_OneSidedLaw_law_451 : decode mm_OneSidedLaw_law.2.1 451 = .ok (.iload_n 3, 1) := by decide +kernel
theorem dd_OneSidedLaw_law_452 : decode mm_OneSidedLaw_law.2.1 452 = .ok (.iconst 2, 1) := by decide +kernel
theorem dd_OneSidedLaw_law_453 : decode mm_OneSidedLaw_law.2.1 453 = .ok (.iadd, 1) := by decide +kernel
theorem dd_OneSidedLaw_law_454 : decode mm_OneSidedLaw_law.2.1 454 = .ok (.iaload, 1) := by decide +kernel
theorem dd_OneSidedLaw_law_455 : decode mm_OneSidedLaw_law.2.1 455 = .ok (.invokevirtual 43, 3) := by decide +kernel
theorem cw_13_43 : cwOk 13 43 0 70 3 4 11 = true := by decide +kernel
theorem mt_OneSided_go : MTB 70 = some mm_OneSided_go := rfl
theorem dd_OneSidedLaw_law_458 : decode mm_OneSidedLaw_law.2.1 458 = .ok (.pop, 1) := by decide +kernel
theorem dd_OneSidedLaw_law_459 : decode mm_OneSidedLaw_law.2.1 459 = .ok (.aload_n 2, 1) := by decide +kernel
theorem dd_OneSidedLaw_law_460 : decode mm_OneSidedLaw_law.2.1 460 = .ok (.aload_n 0, 1) := by decide +kernel
theorem dd_OneSidedLaw_law_461 : decode mm_OneSidedLaw_law.2.1 461 = .ok (.iload_n 3, 1) := by decide +kernel
theorem dd_OneSidedLaw_law_462 : decode mm_OneSidedLaw_law.2.1 462 = .ok (.iconst 1, 1) := by decide +kernel
theorem dd_OneSidedLaw_law_463 : decode mm_OneSidedLaw_law.2.1 463 = .ok (.iadd, 1) := by decide +kernel
theorem dd_OneSidedLaw_law_464 : decode mm_OneSidedLaw_law.2.1 464 = .ok (.iaload, 1) := by decide +kernel
theorem dd_OneSidedLaw_law_465 : decode mm_OneSidedLaw_law.2.1 465 = .ok (.aload_n 0, 1) := by decide +kernel
theorem dd_OneSidedLaw_law_466 : decode mm_OneSidedLaw_law.2.1 466 = .ok (.iload_n 3, 1) := by decide +kernel
theorem dd_OneSidedLaw_law_467 : decode mm_OneSidedLaw_law.2.1 467 = .ok (.iconst 2, 1) := by decide +kernel
theorem dd_OneSidedLaw_law_468 : decode mm_OneSidedLaw_law.2.1 468 = .ok (.iadd, 1) := by decide +kernel
theorem dd_OneSidedLaw_law_469 : decode mm_OneSidedLaw_law.2.1 469 = .ok (.iaload, 1) := by decide +kernel
theorem dd_OneSidedLaw_law_470 : decode mm_OneSidedLaw_law.2.1 470 = .ok (.invokevirtual 46, 3) := by decide +kernel
theorem cw_13_46 : cwOk 13 46 0 212 3 3 12 = true := by decide +kernel
theorem mt_go : MTB 212 = some mm_go := rfl
theorem dd_OneSidedLaw_law_473 : decode mm_OneSidedLaw_law.2.1 473 = .ok (.pop, 1) := by decide +kernel
theorem dd_OneSidedLaw_law_474 : decode mm_OneSidedLaw_law.2.1 474 = .ok (.goto 757, 3) := by decide +kernel
theorem dd_OneSidedLaw_law_477 : decode mm_OneSidedLaw_law.2.1 477 = .ok (.aload_n 1, 1) := by decide +kernel
theorem dd_OneSidedLaw_law_478 : decode mm_OneSidedLaw_law.2.1 478 = .ok (.aload_n 0, 1) := by decide +kernel
theorem dd_OneSidedLaw_law_479 : decode mm_OneSidedLaw_law.2.1 479 = .ok (.iload_n 3, 1) := by decide +kernel
theorem dd_OneSidedLaw_law_480 : decode mm_OneSidedLaw_law.2.1 480 = .ok (.iconst 1, 1) := by decide +kernel
theorem dd_OneSidedLaw_law_481 : decode mm_OneSidedLaw_law.2.1 481 = .ok (.iadd, 1) := by decide +kernel
theorem dd_OneSidedLaw_law_482 : decode mm_OneSidedLaw_law.2.1 482 = .ok (.iaload, 1) := by decide +kernel
theorem dd_OneSidedLaw_law_483 : decode mm_OneSidedLaw_law.2.1 483 = .ok (.invokevirtual 47, 3) := by decide +kernel
theorem cw_13_47 : cwOk 13 47 0 74 2 2 11 = true := by decide +kernel
theorem mt_OneSided_hours : MTB 74 = some mm_OneSided_hours := rfl
theorem dd_OneSidedLaw_law_486 : decode mm_OneSidedLaw_law.2.1 486 = .ok (.pop, 1) := by decide +kernel
theorem dd_OneSidedLaw_law_487 : decode mm_OneSidedLaw_law.2.1 487 = .ok (.aload_n 2, 1) := by decide +kernel
theorem dd_OneSidedLaw_law_488 : decode mm_OneSidedLaw_law.2.1 488 = .ok (.aload_n 0, 1) := by decide +kernel
theorem dd_OneSidedLaw_law_489 : decode mm_OneSidedLaw_law.2.1 489 = .ok (.iload_n 3, 1) := by decide +kernel
theorem dd_OneSidedLaw_law_490 : decode mm_OneSidedLaw_law.2.1 490 = .ok (.iconst 1, 1) := by decide +kernel
theorem dd_OneSidedLaw_law_491 : decode mm_OneSidedLaw_law.2.1 491 = .ok (.iadd, 1) := by decide +kernel
theorem dd_OneSidedLaw_law_492 : decode mm_OneSidedLaw_law.2.1 492 = .ok (.iaload, 1) := by decide +kernel
theorem dd_OneSidedLaw_law_493 : decode mm_OneSidedLaw_law.2.1 493 = .ok (.invokevirtual 51, 3) := by decide +kernel
theorem cw_13_51 : cwOk 13 51 0 216 2 3 12 = true := by decide +kernel
theorem mt_hours : MTB 216 = some mm_hours := rfl
theorem dd_OneSidedLaw_law_496 : decode mm_OneSidedLaw_law.2.1 496 = .ok (.pop, 1) := by decide +kernel
theorem dd_OneSidedLaw_law_497 : decode mm_OneSidedLaw_law.2.1 497 = .ok (.goto 734, 3) := by decide +kernel
theorem dd_OneSidedLaw_law_500 : decode mm_OneSidedLaw_law.2.1 500 = .ok (.aload_n 1, 1) := by decide +kernel
theorem dd_OneSidedLaw_law_501 : decode mm_OneSidedLaw_law.2.1 501 = .ok (.aload_n 0, 1) := by decide +kernel
theorem dd_OneSidedLaw_law_502 : decode mm_OneSidedLaw_law.2.1 502 = .ok (.iload_n 3, 1) := by decide +kernel
theorem dd_OneSidedLaw_law_503 : decode mm_OneSidedLaw_law.2.1 503 = .ok (.iconst 1, 1) := by decide +kernel
theorem dd_OneSidedLaw_law_504 : decode mm_OneSidedLaw_law.2.1 504 = .ok (.iadd, 1) := by decide +kernel
theorem dd_OneSidedLaw_law_505 : decode mm_OneSidedLaw_law.2.1 505 = .ok (.iaload, 1) := by decide +kernel
theorem dd_OneSidedLaw_law_506 : decode mm_OneSidedLaw_law.2.1 506 = .ok (.aload_n 0, 1) := by decide +kernel
theorem dd_OneSidedLaw_law_507 : decode mm_OneSidedLaw_law.2.1 507 = .ok (.iload_n 3, 1) := by decide +kernel
theorem dd_OneSidedLaw_law_508 : decode mm_OneSidedLaw_law.2.1 508 = .ok (.iconst 2, 1) := by decide +kernel
theorem dd_OneSidedLaw_law_509 : decode mm_OneSidedLaw_law.2.1 509 = .ok (.iadd, 1) := by decide +kernel
theorem dd_OneSidedLaw_law_510 : decode mm_OneSidedLaw_law.2.1 510 = .ok (.iaload, 1) := by decide +kernel
theorem dd_OneSidedLaw_law_511 : decode mm_OneSidedLaw_law.2.1 511 = .ok (.ifCond .eq (7), 3) := by decide +kernel
theorem dd_OneSidedLaw_law_518 : decode mm_OneSidedLaw_law.2.1 518 = .ok (.iconst 0, 1) := by decide +kernel
theorem dd_OneSidedLaw_law_519 : decode mm_OneSidedLaw_law.2.1 519 = .ok (.invokevirtual 52, 3) := by decide +kernel
theorem cw_13_52 : cwOk 13 52 0 76 3 4 11 = true := by decide +kernel
theorem mt_OneSided_shut : MTB 76 = some mm_OneSided_shut := rfl
theorem dd_OneSidedLaw_law_514 : decode mm_OneSidedLaw_law.2.1 514 = .ok (.iconst 1, 1) := by decide +kernel
theorem dd_OneSidedLaw_law_515 : decode mm_OneSidedLaw_law.2.1 515 = .ok (.goto 4, 3) := by decide +kernel
theorem dd_OneSidedLaw_law_522 : decode mm_OneSidedLaw_law.2.1 522 = .ok (.pop, 1) := by decide +kernel
theorem dd_OneSidedLaw_law_523 : decode mm_OneSidedLaw_law.2.1 523 = .ok (.aload_n 2, 1) := by decide +kernel
theorem dd_OneSidedLaw_law_524 : decode mm_OneSidedLaw_law.2.1 524 = .ok (.aload_n 0, 1) := by decide +kernel
theorem dd_OneSidedLaw_law_525 : decode mm_OneSidedLaw_law.2.1 525 = .ok (.iload_n 3, 1) := by decide +kernel
theorem dd_OneSidedLaw_law_526 : decode mm_OneSidedLaw_law.2.1 526 = .ok (.iconst 1, 1) := by decide +kernel
theorem dd_OneSidedLaw_law_527 : decode mm_OneSidedLaw_law.2.1 527 = .ok (.iadd, 1) := by decide +kernel
theorem dd_OneSidedLaw_law_528 : decode mm_OneSidedLaw_law.2.1 528 = .ok (.iaload, 1) := by decide +kernel
theorem dd_OneSidedLaw_law_529 : decode mm_OneSidedLaw_law.2.1 529 = .ok (.aload_n 0, 1) := by decide +kernel
theorem dd_OneSidedLaw_law_530 : decode mm_OneSidedLaw_law.2.1 530 = .ok (.iload_n 3, 1) := by decide +kernel
theorem dd_OneSidedLaw_law_531 : decode mm_OneSidedLaw_law.2.1 531 = .ok (.iconst 2, 1) := by decide +kernel
theorem dd_OneSidedLaw_law_532 : decode mm_OneSidedLaw_law.2.1 532 = .ok (.iadd, 1) := by decide +kernel
theorem dd_OneSidedLaw_law_533 : decode mm_OneSidedLaw_law.2.1 533 = .ok (.iaload, 1) := by decide +kernel
theorem dd_OneSidedLaw_law_534 : decode mm_OneSidedLaw_law.2.1 534 = .ok (.ifCond .eq (7), 3) := by decide +kernel
theorem dd_OneSidedLaw_law_541 : decode mm_OneSidedLaw_law.2.1 541 = .ok (.iconst 0, 1) := by decide +kernel
theorem dd_OneSidedLaw_law_542 : decode mm_OneSidedLaw_law.2.1 542 = .ok (.invokevirtual 56, 3) := by decide +kernel
theorem cw_13_56 : cwOk 13 56 0 218 3 3 12 = true := by decide +kernel
theorem mt_shut : MTB 218 = some mm_shut := rfl
theorem dd_OneSidedLaw_law_537 : decode mm_OneSidedLaw_law.2.1 537 = .ok (.iconst 1, 1) := by decide +kernel
theorem dd_OneSidedLaw_law_538 : decode mm_OneSidedLaw_law.2.1 538 = .ok (.goto 4, 3) := by decide +kernel
theorem dd_OneSidedLaw_law_545 : decode mm_OneSidedLaw_law.2.1 545 = .ok (.pop, 1) := by decide +kernel
theorem dd_OneSidedLaw_law_546 : decode mm_OneSidedLaw_law.2.1 546 = .ok (.goto 685, 3) := by decide +kernel
theorem dd_OneSidedLaw_law_549 : decode mm_OneSidedLaw_law.2.1 549 = .ok (.aload_n 1, 1) := by decide +kernel
theorem dd_OneSidedLaw_law_550 : decode mm_OneSidedLaw_law.2.1 550 = .ok (.invokevirtual 57, 3) := by decide +kernel
theorem cw_13_57 : cwOk 13 57 0 77 1 1 11 = true := by decide +kernel
theorem mt_OneSided_undo : MTB 77 = some mm_OneSided_undo := rfl
theorem dd_OneSidedLaw_law_553 : decode mm_OneSidedLaw_law.2.1 553 = .ok (.pop, 1) := by decide +kernel
theorem dd_OneSidedLaw_law_554 : decode mm_OneSidedLaw_law.2.1 554 = .ok (.aload_n 2, 1) := by decide +kernel
theorem dd_OneSidedLaw_law_555 : decode mm_OneSidedLaw_law.2.1 555 = .ok (.invokevirtual 61, 3) := by decide +kernel
theorem cw_13_61 : cwOk 13 61 0 219 1 1 12 = true := by decide +kernel
theorem mt_undo : MTB 219 = some mm_undo := rfl
theorem dd_OneSidedLaw_law_558 : decode mm_OneSidedLaw_law.2.1 558 = .ok (.pop, 1) := by decide +kernel
theorem dd_OneSidedLaw_law_559 : decode mm_OneSidedLaw_law.2.1 559 = .ok (.goto 672, 3) := by decide +kernel
theorem dd_OneSidedLaw_law_562 : decode mm_OneSidedLaw_law.2.1 562 = .ok (.aload_n 1, 1) := by decide +kernel
theorem dd_OneSidedLaw_law_563 : decode mm_OneSidedLaw_law.2.1 563 = .ok (.aload_n 0, 1) := by decide +kernel
theorem dd_OneSidedLaw_law_564 : decode mm_OneSidedLaw_law.2.1 564 = .ok (.iload_n 3, 1) := by decide +kernel
theorem dd_OneSidedLaw_law_565 : decode mm_OneSidedLaw_law.2.1 565 = .ok (.iconst 1, 1) := by decide +kernel
theorem dd_OneSidedLaw_law_566 : decode mm_OneSidedLaw_law.2.1 566 = .ok (.iadd, 1) := by decide +kernel
theorem dd_OneSidedLaw_law_567 : decode mm_OneSidedLaw_law.2.1 567 = .ok (.iaload, 1) := by decide +kernel
theorem dd_OneSidedLaw_law_568 : decode mm_OneSidedLaw_law.2.1 568 = .ok (.invokevirtual 62, 3) := by decide +kernel
theorem cw_13_62 : cwOk 13 62 0 78 2 4 11 = true := by decide +kernel
theorem mt_OneSided_judged : MTB 78 = some mm_OneSided_judged := rfl
theorem dd_OneSidedLaw_law_571 : decode mm_OneSidedLaw_law.2.1 571 = .ok (.pop, 1) := by decide +kernel
theorem dd_OneSidedLaw_law_572 : decode mm_OneSidedLaw_law.2.1 572 = .ok (.aload_n 2, 1) := by decide +kernel
theorem dd_OneSidedLaw_law_573 : decode mm_OneSidedLaw_law.2.1 573 = .ok (.aload_n 0, 1) := by decide +kernel
theorem dd_OneSidedLaw_law_574 : decode mm_OneSidedLaw_law.2.1 574 = .ok (.iload_n 3, 1) := by decide +kernel
theorem dd_OneSidedLaw_law_575 : decode mm_OneSidedLaw_law.2.1 575 = .ok (.iconst 1, 1) := by decide +kernel
theorem dd_OneSidedLaw_law_576 : decode mm_OneSidedLaw_law.2.1 576 = .ok (.iadd, 1) := by decide +kernel
theorem dd_OneSidedLaw_law_577 : decode mm_OneSidedLaw_law.2.1 577 = .ok (.iaload, 1) := by decide +kernel
theorem dd_OneSidedLaw_law_578 : decode mm_OneSidedLaw_law.2.1 578 = .ok (.invokevirtual 65, 3) := by decide +kernel
theorem cw_13_65 : cwOk 13 65 0 220 2 6 12 = true := by decide +kernel
theorem mt_judged : MTB 220 = some mm_judged := rfl
theorem dd_OneSidedLaw_law_581 : decode mm_OneSidedLaw_law.2.1 581 = .ok (.pop, 1) := by decide +kernel
theorem dd_OneSidedLaw_law_582 : decode mm_OneSidedLaw_law.2.1 582 = .ok (.goto 649, 3) := by decide +kernel
theorem dd_OneSidedLaw_law_585 : decode mm_OneSidedLaw_law.2.1 585 = .ok (.aload_n 1, 1) := by decide +kernel
theorem dd_OneSidedLaw_law_586 : decode mm_OneSidedLaw_law.2.1 586 = .ok (.aload_n 0, 1) := by decide +kernel
theorem dd_OneSidedLaw_law_587 : decode mm_OneSidedLaw_law.2.1 587 = .ok (.iload_n 3, 1) := by decide +kernel
theorem dd_OneSidedLaw_law_588 : decode mm_OneSidedLaw_law.2.1 588 = .ok (.iconst 1, 1) := by decide +kernel
theorem dd_OneSidedLaw_law_589 : decode mm_OneSidedLaw_law.2.1 589 = .ok (.iadd, 1) := by decide +kernel
theorem dd_OneSidedLaw_law_590 : decode mm_OneSidedLaw_law.2.1 590 = .ok (.iaload, 1) := by decide +kernel
theorem dd_OneSidedLaw_law_591 : decode mm_OneSidedLaw_law.2.1 591 = .ok (.aload_n 0, 1) := by decide +kernel
theorem dd_OneSidedLaw_law_592 : decode mm_OneSidedLaw_law.2.1 592 = .ok (.iload_n 3, 1) := by decide +kernel
theorem dd_OneSidedLaw_law_593 : decode mm_OneSidedLaw_law.2.1 593 = .ok (.iconst 2, 1) := by decide +kernel
theorem dd_OneSidedLaw_law_594 : decode mm_OneSidedLaw_law.2.1 594 = .ok (.iadd, 1) := by decide +kernel
theorem dd_OneSidedLaw_law_595 : decode mm_OneSidedLaw_law.2.1 595 = .ok (.iaload, 1) := by decide +kernel
theorem dd_OneSidedLaw_law_596 : decode mm_OneSidedLaw_law.2.1 596 = .ok (.invokevirtual 66, 3) := by decide +kernel
theorem cw_13_66 : cwOk 13 66 0 80 3 3 11 = true := by decide +kernel
theorem mt_OneSided_soonest : MTB 80 = some mm_OneSided_soonest := rfl
theorem dd_OneSidedLaw_law_599 : decode mm_OneSidedLaw_law.2.1 599 = .ok (.pop, 1) := by decide +kernel
theorem dd_OneSidedLaw_law_600 : decode mm_OneSidedLaw_law.2.1 600 = .ok (.aload_n 2, 1) := by decide +kernel
theorem dd_OneSidedLaw_law_601 : decode mm_OneSidedLaw_law.2.1 601 = .ok (.aload_n 0, 1) := by decide +kernel
theorem dd_OneSidedLaw_law_602 : decode mm_OneSidedLaw_law.2.1 602 = .ok (.iload_n 3, 1) := by decide +kernel
theorem dd_OneSidedLaw_law_603 : decode mm_OneSidedLaw_law.2.1 603 = .ok (.iconst 1, 1) := by decide +kernel
theorem dd_OneSidedLaw_law_604 : decode mm_OneSidedLaw_law.2.1 604 = .ok (.iadd, 1) := by decide +kernel
theorem dd_OneSidedLaw_law_605 : decode mm_OneSidedLaw_law.2.1 605 = .ok (.iaload, 1) := by decide +kernel
theorem dd_OneSidedLaw_law_606 : decode mm_OneSidedLaw_law.2.1 606 = .ok (.aload_n 0, 1) := by decide +kernel
theorem dd_OneSidedLaw_law_607 : decode mm_OneSidedLaw_law.2.1 607 = .ok (.iload_n 3, 1) := by decide +kernel
theorem dd_OneSidedLaw_law_608 : decode mm_OneSidedLaw_law.2.1 608 = .ok (.iconst 2, 1) := by decide +kernel
theorem dd_OneSidedLaw_law_609 : decode mm_OneSidedLaw_law.2.1 609 = .ok (.iadd, 1) := by decide +kernel
theorem dd_OneSidedLaw_law_610 : decode mm_OneSidedLaw_law.2.1 610 = .ok (.iaload, 1) := by decide +kernel
theorem dd_OneSidedLaw_law_611 : decode mm_OneSidedLaw_law.2.1 611 = .ok (.invokevirtual 69, 3) := by decide +kernel
theorem cw_13_69 : cwOk 13 69 0 221 3 3 12 = true := by decide +kernel
theorem mt_soonest : MTB 221 = some mm_soonest := rfl
theorem dd_OneSidedLaw_law_614 : decode mm_OneSidedLaw_law.2.1 614 = .ok (.pop, 1) := by decide +kernel
theorem dd_OneSidedLaw_law_615 : decode mm_OneSidedLaw_law.2.1 615 = .ok (.goto 616, 3) := by decide +kernel
theorem dd_OneSidedLaw_law_618 : decode mm_OneSidedLaw_law.2.1 618 = .ok (.aload_n 1, 1) := by decide +kernel
theorem dd_OneSidedLaw_law_619 : decode mm_OneSidedLaw_law.2.1 619 = .ok (.aload_n 0, 1) := by decide +kernel
theorem dd_OneSidedLaw_law_620 : decode mm_OneSidedLaw_law.2.1 620 = .ok (.iload_n 3, 1) := by decide +kernel
theorem dd_OneSidedLaw_law_621 : decode mm_OneSidedLaw_law.2.1 621 = .ok (.iconst 1, 1) := by decide +kernel
theorem dd_OneSidedLaw_law_622 : decode mm_OneSidedLaw_law.2.1 622 = .ok (.iadd, 1) := by decide +kernel
theorem dd_OneSidedLaw_law_623 : decode mm_OneSidedLaw_law.2.1 623 = .ok (.iaload, 1) := by decide +kernel
theorem dd_OneSidedLaw_law_624 : decode mm_OneSidedLaw_law.2.1 624 = .ok (.aload_n 0, 1) := by decide +kernel
theorem dd_OneSidedLaw_law_625 : decode mm_OneSidedLaw_law.2.1 625 = .ok (.iload_n 3, 1) := by decide +kernel
theorem dd_OneSidedLaw_law_626 : decode mm_OneSidedLaw_law.2.1 626 = .ok (.iconst 2, 1) := by decide +kernel
theorem dd_OneSidedLaw_law_627 : decode mm_OneSidedLaw_law.2.1 627 = .ok (.iadd, 1) := by decide +kernel
theorem dd_OneSidedLaw_law_628 : decode mm_OneSidedLaw_law.2.1 628 = .ok (.iaload, 1) := by decide +kernel
theorem dd_OneSidedLaw_law_629 : decode mm_OneSidedLaw_law.2.1 629 = .ok (.invokevirtual 70, 3) := by decide +kernel
theorem cw_13_70 : cwOk 13 70 0 85 3 4 11 = true := by decide +kernel
theorem mt_OneSided_errand : MTB 85 = some mm_OneSided_errand := rfl
theorem dd_OneSidedLaw_law_632 : decode mm_OneSidedLaw_law.2.1 632 = .ok (.aload_n 2, 1) := by decide +kernel
theorem dd_OneSidedLaw_law_633 : decode mm_OneSidedLaw_law.2.1 633 = .ok (.aload_n 0, 1) := by decide +kernel
theorem dd_OneSidedLaw_law_634 : decode mm_OneSidedLaw_law.2.1 634 = .ok (.iload_n 3, 1) := by decide +kernel
theorem dd_OneSidedLaw_law_635 : decode mm_OneSidedLaw_law.2.1 635 = .ok (.iconst 1, 1) := by decide +kernel
theorem dd_OneSidedLaw_law_636 : decode mm_OneSidedLaw_law.2.1 636 = .ok (.iadd, 1) := by decide +kernel
theorem dd_OneSidedLaw_law_637 : decode mm_OneSidedLaw_law.2.1 637 = .ok (.iaload, 1) := by decide +kernel
theorem dd_OneSidedLaw_law_638 : decode mm_OneSidedLaw_law.2.1 638 = .ok (.aload_n 0, 1) := by decide +kernel
theorem dd_OneSidedLaw_law_639 : decode mm_OneSidedLaw_law.2.1 639 = .ok (.iload_n 3, 1) := by decide +kernel
theorem dd_OneSidedLaw_law_640 : decode mm_OneSidedLaw_law.2.1 640 = .ok (.iconst 2, 1) := by decide +kernel
theorem dd_OneSidedLaw_law_641 : decode mm_OneSidedLaw_law.2.1 641 = .ok (.iadd, 1) := by decide +kernel
theorem dd_OneSidedLaw_law_642 : decode mm_OneSidedLaw_law.2.1 642 = .ok (.iaload, 1) := by decide +kernel
theorem dd_OneSidedLaw_law_643 : decode mm_OneSidedLaw_law.2.1 643 = .ok (.invokevirtual 73, 3) := by decide +kernel
theorem cw_13_73 : cwOk 13 73 0 225 3 4 12 = true := by decide +kernel
theorem mt_errand : MTB 225 = some mm_errand := rfl
theorem dd_OneSidedLaw_law_646 : decode mm_OneSidedLaw_law.2.1 646 = .ok (.if_icmp .eq (585), 3) := by decide +kernel
theorem dd_OneSidedLaw_law_649 : decode mm_OneSidedLaw_law.2.1 649 = .ok (.iconst 0, 1) := by decide +kernel
theorem dd_OneSidedLaw_law_650 : decode mm_OneSidedLaw_law.2.1 650 = .ok (.ireturn, 1) := by decide +kernel
theorem dd_OneSidedLaw_law_651 : decode mm_OneSidedLaw_law.2.1 651 = .ok (.aload_n 1, 1) := by decide +kernel
theorem dd_OneSidedLaw_law_652 : decode mm_OneSidedLaw_law.2.1 652 = .ok (.aload_n 0, 1) := by decide +kernel
theorem dd_OneSidedLaw_law_653 : decode mm_OneSidedLaw_law.2.1 653 = .ok (.iload_n 3, 1) := by decide +kernel
theorem dd_OneSidedLaw_law_654 : decode mm_OneSidedLaw_law.2.1 654 = .ok (.iconst 1, 1) := by decide +kernel
theorem dd_OneSidedLaw_law_655 : decode mm_OneSidedLaw_law.2.1 655 = .ok (.iadd, 1) := by decide +kernel
theorem dd_OneSidedLaw_law_656 : decode mm_OneSidedLaw_law.2.1 656 = .ok (.iaload, 1) := by decide +kernel
theorem dd_OneSidedLaw_law_657 : decode mm_OneSidedLaw_law.2.1 657 = .ok (.invokevirtual 74, 3) := by decide +kernel
theorem cw_13_74 : cwOk 13 74 0 93 2 2 11 = true := by decide +kernel
theorem mt_OneSided_reach : MTB 93 = some mm_OneSided_reach := rfl
theorem dd_OneSidedLaw_law_660 : decode mm_OneSidedLaw_law.2.1 660 = .ok (.pop, 1) := by decide +kernel
theorem dd_OneSidedLaw_law_661 : decode mm_OneSidedLaw_law.2.1 661 = .ok (.aload_n 2, 1) := by decide +kernel
theorem dd_OneSidedLaw_law_662 : decode mm_OneSidedLaw_law.2.1 662 = .ok (.aload_n 0, 1) := by decide +kernel
theorem dd_OneSidedLaw_law_663 : decode mm_OneSidedLaw_law.2.1 663 = .ok (.iload_n 3, 1) := by decide +kernel
theorem dd_OneSidedLaw_law_664 : decode mm_OneSidedLaw_law.2.1 664 = .ok (.iconst 1, 1) := by decide +kernel
theorem dd_OneSidedLaw_law_665 : decode mm_OneSidedLaw_law.2.1 665 = .ok (.iadd, 1) := by decide +kernel
theorem dd_OneSidedLaw_law_666 : decode mm_OneSidedLaw_law.2.1 666 = .ok (.iaload, 1) := by decide +kernel
theorem dd_OneSidedLaw_law_667 : decode mm_OneSidedLaw_law.2.1 667 = .ok (.invokevirtual 77, 3) := by decide +kernel
theorem cw_13_77 : cwOk 13 77 0 230 2 4 12 = true := by decide +kernel
theorem mt_reach : MTB 230 = some mm_reach := rfl
theorem dd_OneSidedLaw_law_670 : decode mm_OneSidedLaw_law.2.1 670 = .ok (.pop, 1) := by decide +kernel
theorem dd_OneSidedLaw_law_671 : decode mm_OneSidedLaw_law.2.1 671 = .ok (.goto 560, 3) := by decide +kernel
theorem dd_OneSidedLaw_law_674 : decode mm_OneSidedLaw_law.2.1 674 = .ok (.aload_n 1, 1) := by decide +kernel
theorem dd_OneSidedLaw_law_675 : decode mm_OneSidedLaw_law.2.1 675 = .ok (.invokevirtual 78, 3) := by decide +kernel
theorem cw_13_78 : cwOk 13 78 0 95 1 3 11 = true := by decide +kernel
theorem mt_OneSided_stuck : MTB 95 = some mm_OneSided_stuck := rfl
theorem dd_OneSidedLaw_law_678 : decode mm_OneSidedLaw_law.2.1 678 = .ok (.pop, 1) := by decide +kernel
theorem dd_OneSidedLaw_law_679 : decode mm_OneSidedLaw_law.2.1 679 = .ok (.aload_n 2, 1) := by decide +kernel
theorem dd_OneSidedLaw_law_680 : decode mm_OneSidedLaw_law.2.1 680 = .ok (.invokevirtual 81, 3) := by decide +kernel
theorem cw_13_81 : cwOk 13 81 0 231 1 3 12 = true := by decide +kernel
theorem mt_stuck : MTB 231 = some mm_stuck := rfl
theorem dd_OneSidedLaw_law_683 : decode mm_OneSidedLaw_law.2.1 683 = .ok (.pop, 1) := by decide +kernel
theorem dd_OneSidedLaw_law_684 : decode mm_OneSidedLaw_law.2.1 684 = .ok (.goto 547, 3) := by decide +kernel
theorem dd_OneSidedLaw_law_687 : decode mm_OneSidedLaw_law.2.1 687 = .ok (.aload_n 1, 1) := by decide +kernel
theorem dd_OneSidedLaw_law_688 : decode mm_OneSidedLaw_law.2.1 688 = .ok (.aload_n 0, 1) := by decide +kernel
theorem dd_OneSidedLaw_law_689 : decode mm_OneSidedLaw_law.2.1 689 = .ok (.iload_n 3, 1) := by decide +kernel
theorem dd_OneSidedLaw_law_690 : decode mm_OneSidedLaw_law.2.1 690 = .ok (.iconst 1, 1) := by decide +kernel
theorem dd_OneSidedLaw_law_691 : decode mm_OneSidedLaw_law.2.1 691 = .ok (.iadd, 1) := by decide +kernel
theorem dd_OneSidedLaw_law_692 : decode mm_OneSidedLaw_law.2.1 692 = .ok (.iaload, 1) := by decide +kernel
theorem dd_OneSidedLaw_law_693 : decode mm_OneSidedLaw_law.2.1 693 = .ok (.aload_n 0, 1) := by decide +kernel
theorem dd_OneSidedLaw_law_694 : decode mm_OneSidedLaw_law.2.1 694 = .ok (.iload_n 3, 1) := by decide +kernel
theorem dd_OneSidedLaw_law_695 : decode mm_OneSidedLaw_law.2.1 695 = .ok (.iconst 2, 1) := by decide +kernel
theorem dd_OneSidedLaw_law_696 : decode mm_OneSidedLaw_law.2.1 696 = .ok (.iadd, 1) := by decide +kernel
theorem dd_OneSidedLaw_law_697 : decode mm_OneSidedLaw_law.2.1 697 = .ok (.iaload, 1) := by decide +kernel
theorem dd_OneSidedLaw_law_698 : decode mm_OneSidedLaw_law.2.1 698 = .ok (.aload_n 0, 1) := by decide +kernel
theorem dd_OneSidedLaw_law_699 : decode mm_OneSidedLaw_law.2.1 699 = .ok (.iload_n 3, 1) := by decide +kernel
theorem dd_OneSidedLaw_law_700 : decode mm_OneSidedLaw_law.2.1 700 = .ok (.iconst 3, 1) := by decide +kernel
theorem dd_OneSidedLaw_law_701 : decode mm_OneSidedLaw_law.2.1 701 = .ok (.iadd, 1) := by decide +kernel
theorem dd_OneSidedLaw_law_702 : decode mm_OneSidedLaw_law.2.1 702 = .ok (.iaload, 1) := by decide +kernel
theorem dd_OneSidedLaw_law_703 : decode mm_OneSidedLaw_law.2.1 703 = .ok (.invokevirtual 82, 3) := by decide +kernel
theorem cw_13_82 : cwOk 13 82 0 96 4 4 11 = true := by decide +kernel
theorem mt_OneSided_ring : MTB 96 = some mm_OneSided_ring := rfl
theorem dd_OneSidedLaw_law_706 : decode mm_OneSidedLaw_law.2.1 706 = .ok (.pop, 1) := by decide +kernel
theorem dd_OneSidedLaw_law_707 : decode mm_OneSidedLaw_law.2.1 707 = .ok (.aload_n 2, 1) := by decide +kernel
theorem dd_OneSidedLaw_law_708 : decode mm_OneSidedLaw_law.2.1 708 = .ok (.aload_n 0, 1) := by decide +kernel
theorem dd_OneSidedLaw_law_709 : decode mm_OneSidedLaw_law.2.1 709 = .ok (.iload_n 3, 1) := by decide +kernel
theorem dd_OneSidedLaw_law_710 : decode mm_OneSidedLaw_law.2.1 710 = .ok (.iconst 1, 1) := by decide +kernel
theorem dd_OneSidedLaw_law_711 : decode mm_OneSidedLaw_law.2.1 711 = .ok (.iadd, 1) := by decide +kernel
theorem dd_OneSidedLaw_law_712 : decode mm_OneSidedLaw_law.2.1 712 = .ok (.iaload, 1) := by decide +kernel
theorem dd_OneSidedLaw_law_713 : decode mm_OneSidedLaw_law.2.1 713 = .ok (.aload_n 0, 1) := by decide +kernel
theorem dd_OneSidedLaw_law_714 : decode mm_OneSidedLaw_law.2.1 714 = .ok (.iload_n 3, 1) := by decide +kernel
theorem dd_OneSidedLaw_law_715 : decode mm_OneSidedLaw_law.2.1 715 = .ok (.iconst 2, 1) := by decide +kernel
theorem dd_OneSidedLaw_law_716 : decode mm_OneSidedLaw_law.2.1 716 = .ok (.iadd, 1) := by decide +kernel
theorem dd_OneSidedLaw_law_717 : decode mm_OneSidedLaw_law.2.1 717 = .ok (.iaload, 1) := by decide +kernel
theorem dd_OneSidedLaw_law_718 : decode mm_OneSidedLaw_law.2.1 718 = .ok (.aload_n 0, 1) := by decide +kernel
theorem dd_OneSidedLaw_law_719 : decode mm_OneSidedLaw_law.2.1 719 = .ok (.iload_n 3, 1) := by decide +kernel
theorem dd_OneSidedLaw_law_720 : decode mm_OneSidedLaw_law.2.1 720 = .ok (.iconst 3, 1) := by decide +kernel
theorem dd_OneSidedLaw_law_721 : decode mm_OneSidedLaw_law.2.1 721 = .ok (.iadd, 1) := by decide +kernel
theorem dd_OneSidedLaw_law_722 : decode mm_OneSidedLaw_law.2.1 722 = .ok (.iaload, 1) := by decide +kernel
theorem dd_OneSidedLaw_law_723 : decode mm_OneSidedLaw_law.2.1 723 = .ok (.invokevirtual 86, 3) := by decide +kernel
theorem cw_13_86 : cwOk 13 86 0 232 4 4 12 = true := by decide +kernel
theorem mt_ring : MTB 232 = some mm_ring := rfl
theorem dd_OneSidedLaw_law_726 : decode mm_OneSidedLaw_law.2.1 726 = .ok (.pop, 1) := by decide +kernel
theorem dd_OneSidedLaw_law_727 : decode mm_OneSidedLaw_law.2.1 727 = .ok (.goto 504, 3) := by decide +kernel
theorem dd_OneSidedLaw_law_730 : decode mm_OneSidedLaw_law.2.1 730 = .ok (.aload_n 1, 1) := by decide +kernel
theorem dd_OneSidedLaw_law_731 : decode mm_OneSidedLaw_law.2.1 731 = .ok (.aload_n 0, 1) := by decide +kernel
theorem dd_OneSidedLaw_law_732 : decode mm_OneSidedLaw_law.2.1 732 = .ok (.iload_n 3, 1) := by decide +kernel
theorem dd_OneSidedLaw_law_733 : decode mm_OneSidedLaw_law.2.1 733 = .ok (.iconst 1, 1) := by decide +kernel
theorem dd_OneSidedLaw_law_734 : decode mm_OneSidedLaw_law.2.1 734 = .ok (.iadd, 1) := by decide +kernel
theorem dd_OneSidedLaw_law_735 : decode mm_OneSidedLaw_law.2.1 735 = .ok (.iaload, 1) := by decide +kernel
theorem dd_OneSidedLaw_law_736 : decode mm_OneSidedLaw_law.2.1 736 = .ok (.aload_n 0, 1) := by decide +kernel
theorem dd_OneSidedLaw_law_737 : decode mm_OneSidedLaw_law.2.1 737 = .ok (.iload_n 3, 1) := by decide +kernel
theorem dd_OneSidedLaw_law_738 : decode mm_OneSidedLaw_law.2.1 738 = .ok (.iconst 2, 1) := by decide +kernel
theorem dd_OneSidedLaw_law_739 : decode mm_OneSidedLaw_law.2.1 739 = .ok (.iadd, 1) := by decide +kernel
theorem dd_OneSidedLaw_law_740 : decode mm_OneSidedLaw_law.2.1 740 = .ok (.iaload, 1) := by decide +kernel
theorem dd_OneSidedLaw_law_741 : decode mm_OneSidedLaw_law.2.1 741 = .ok (.aload_n 0, 1) := by decide +kernel
theorem dd_OneSidedLaw_law_742 : decode mm_OneSidedLaw_law.2.1 742 = .ok (.iload_n 3, 1) := by decide +kernel
theorem dd_OneSidedLaw_law_743 : decode mm_OneSidedLaw_law.2.1 743 = .ok (.iconst 3, 1) := by decide +kernel
theorem dd_OneSidedLaw_law_744 : decode mm_OneSidedLaw_law.2.1 744 = .ok (.iadd, 1) := by decide +kernel
theorem dd_OneSidedLaw_law_745 : decode mm_OneSidedLaw_law.2.1 745 = .ok (.iaload, 1) := by decide +kernel
theorem dd_OneSidedLaw_law_746 : decode mm_OneSidedLaw_law.2.1 746 = .ok (.invokevirtual 87, 3) := by decide +kernel
theorem cw_13_87 : cwOk 13 87 0 101 4 5 11 = true := by decide +kernel
theorem mt_OneSided_homeless : MTB 101 = some mm_OneSided_homeless := rfl
theorem dd_OneSidedLaw_law_749 : decode mm_OneSidedLaw_law.2.1 749 = .ok (.pop, 1) := by decide +kernel
theorem dd_OneSidedLaw_law_750 : decode mm_OneSidedLaw_law.2.1 750 = .ok (.aload_n 2, 1) := by decide +kernel
theorem dd_OneSidedLaw_law_751 : decode mm_OneSidedLaw_law.2.1 751 = .ok (.aload_n 0, 1) := by decide +kernel
theorem dd_OneSidedLaw_law_752 : decode mm_OneSidedLaw_law.2.1 752 = .ok (.iload_n 3, 1) := by decide +kernel
theorem dd_OneSidedLaw_law_753 : decode mm_OneSidedLaw_law.2.1 753 = .ok (.iconst 1, 1) := by decide +kernel
theorem dd_OneSidedLaw_law_754 : decode mm_OneSidedLaw_law.2.1 754 = .ok (.iadd, 1) := by decide +kernel
theorem dd_OneSidedLaw_law_755 : decode mm_OneSidedLaw_law.2.1 755 = .ok (.iaload, 1) := by decide +kernel
theorem dd_OneSidedLaw_law_756 : decode mm_OneSidedLaw_law.2.1 756 = .ok (.aload_n 0, 1) := by decide +kernel
theorem dd_OneSidedLaw_law_757 : decode mm_OneSidedLaw_law.2.1 757 = .ok (.iload_n 3, 1) := by decide +kernel
theorem dd_OneSidedLaw_law_758 : decode mm_OneSidedLaw_law.2.1 758 = .ok (.iconst 2, 1) := by decide +kernel
theorem dd_OneSidedLaw_law_759 : decode mm_OneSidedLaw_law.2.1 759 = .ok (.iadd, 1) := by decide +kernel
theorem dd_OneSidedLaw_law_760 : decode mm_OneSidedLaw_law.2.1 760 = .ok (.iaload, 1) := by decide +kernel
theorem dd_OneSidedLaw_law_761 : decode mm_OneSidedLaw_law.2.1 761 = .ok (.aload_n 0, 1) := by decide +kernel
theorem dd_OneSidedLaw_law_762 : decode mm_OneSidedLaw_law.2.1 762 = .ok (.iload_n 3, 1) := by decide +kernel
theorem dd_OneSidedLaw_law_763 : decode mm_OneSidedLaw_law.2.1 763 = .ok (.iconst 3, 1) := by decide +kernel
theorem dd_OneSidedLaw_law_764 : decode mm_OneSidedLaw_law.2.1 764 = .ok (.iadd, 1) := by decide +kernel
theorem dd_OneSidedLaw_law_765 : decode mm_OneSidedLaw_law.2.1 765 = .ok (.iaload, 1) := by decide +kernel
theorem dd_OneSidedLaw_law_766 : decode mm_OneSidedLaw_law.2.1 766 = .ok (.invokevirtual 90, 3) := by decide +kernel
theorem cw_13_90 : cwOk 13 90 0 237 4 4 12 = true := by decide +kernel
theorem mt_homeless : MTB 237 = some mm_homeless := rfl
theorem dd_OneSidedLaw_law_769 : decode mm_OneSidedLaw_law.2.1 769 = .ok (.pop, 1) := by decide +kernel
theorem dd_OneSidedLaw_law_770 : decode mm_OneSidedLaw_law.2.1 770 = .ok (.goto 461, 3) := by decide +kernel
theorem dd_OneSidedLaw_law_773 : decode mm_OneSidedLaw_law.2.1 773 = .ok (.aload_n 1, 1) := by decide +kernel
theorem dd_OneSidedLaw_law_774 : decode mm_OneSidedLaw_law.2.1 774 = .ok (.aload_n 0, 1) := by decide +kernel
theorem dd_OneSidedLaw_law_775 : decode mm_OneSidedLaw_law.2.1 775 = .ok (.iload_n 3, 1) := by decide +kernel
theorem dd_OneSidedLaw_law_776 : decode mm_OneSidedLaw_law.2.1 776 = .ok (.iconst 1, 1) := by decide +kernel
theorem dd_OneSidedLaw_law_777 : decode mm_OneSidedLaw_law.2.1 777 = .ok (.iadd, 1) := by decide +kernel
theorem dd_OneSidedLaw_law_778 : decode mm_OneSidedLaw_law.2.1 778 = .ok (.iaload, 1) := by decide +kernel
theorem dd_OneSidedLaw_law_779 : decode mm_OneSidedLaw_law.2.1 779 = .ok (.aload_n 0, 1) := by decide +kernel
theorem dd_OneSidedLaw_law_780 : decode mm_OneSidedLaw_law.2.1 780 = .ok (.iload_n 3, 1) := by decide +kernel
theorem dd_OneSidedLaw_law_781 : decode mm_OneSidedLaw_law.2.1 781 = .ok (.iconst 2, 1) := by decide +kernel
theorem dd_OneSidedLaw_law_782 : decode mm_OneSidedLaw_law.2.1 782 = .ok (.iadd, 1) := by decide +kernel
theorem dd_OneSidedLaw_law_783 : decode mm_OneSidedLaw_law.2.1 783 = .ok (.iaload, 1) := by decide +kernel
theorem dd_OneSidedLaw_law_784 : decode mm_OneSidedLaw_law.2.1 784 = .ok (.invokevirtual 91, 3) := by decide +kernel
theorem cw_13_91 : cwOk 13 91 0 102 3 3 11 = true := by decide +kernel
theorem mt_OneSided_add : MTB 102 = some mm_OneSided_add := rfl
theorem dd_OneSidedLaw_law_787 : decode mm_OneSidedLaw_law.2.1 787 = .ok (.pop, 1) := by decide +kernel
theorem dd_OneSidedLaw_law_788 : decode mm_OneSidedLaw_law.2.1 788 = .ok (.aload_n 2, 1) := by decide +kernel
theorem dd_OneSidedLaw_law_789 : decode mm_OneSidedLaw_law.2.1 789 = .ok (.aload_n 0, 1) := by decide +kernel
theorem dd_OneSidedLaw_law_790 : decode mm_OneSidedLaw_law.2.1 790 = .ok (.iload_n 3, 1) := by decide +kernel
theorem dd_OneSidedLaw_law_791 : decode mm_OneSidedLaw_law.2.1 791 = .ok (.iconst 1, 1) := by decide +kernel
theorem dd_OneSidedLaw_law_792 : decode mm_OneSidedLaw_law.2.1 792 = .ok (.iadd, 1) := by decide +kernel
theorem dd_OneSidedLaw_law_793 : decode mm_OneSidedLaw_law.2.1 793 = .ok (.iaload, 1) := by decide +kernel
theorem dd_OneSidedLaw_law_794 : decode mm_OneSidedLaw_law.2.1 794 = .ok (.aload_n 0, 1) := by decide +kernel
theorem dd_OneSidedLaw_law_795 : decode mm_OneSidedLaw_law.2.1 795 = .ok (.iload_n 3, 1) := by decide +kernel
theorem dd_OneSidedLaw_law_796 : decode mm_OneSidedLaw_law.2.1 796 = .ok (.iconst 2, 1) := by decide +kernel
theorem dd_OneSidedLaw_law_797 : decode mm_OneSidedLaw_law.2.1 797 = .ok (.iadd, 1) := by decide +kernel
theorem dd_OneSidedLaw_law_798 : decode mm_OneSidedLaw_law.2.1 798 = .ok (.iaload, 1) := by decide +kernel
theorem dd_OneSidedLaw_law_799 : decode mm_OneSidedLaw_law.2.1 799 = .ok (.invokevirtual 94, 3) := by decide +kernel
theorem cw_13_94 : cwOk 13 94 0 238 3 8 12 = true := by decide +kernel
theorem mt_add : MTB 238 = some mm_add := rfl
theorem dd_OneSidedLaw_law_802 : decode mm_OneSidedLaw_law.2.1 802 = .ok (.pop, 1) := by decide +kernel
theorem dd_OneSidedLaw_law_803 : decode mm_OneSidedLaw_law.2.1 803 = .ok (.goto 428, 3) := by decide +kernel
theorem dd_OneSidedLaw_law_806 : decode mm_OneSidedLaw_law.2.1 806 = .ok (.aload_n 1, 1) := by decide +kernel
theorem dd_OneSidedLaw_law_807 : decode mm_OneSidedLaw_law.2.1 807 = .ok (.aload_n 0, 1) := by decide +kernel
theorem dd_OneSidedLaw_law_808 : decode mm_OneSidedLaw_law.2.1 808 = .ok (.iload_n 3, 1) := by decide +kernel
theorem dd_OneSidedLaw_law_809 : decode mm_OneSidedLaw_law.2.1 809 = .ok (.iconst 1, 1) := by decide +kernel
theorem dd_OneSidedLaw_law_810 : decode mm_OneSidedLaw_law.2.1 810 = .ok (.iadd, 1) := by decide +kernel
theorem dd_OneSidedLaw_law_811 : decode mm_OneSidedLaw_law.2.1 811 = .ok (.iaload, 1) := by decide +kernel
theorem dd_OneSidedLaw_law_812 : decode mm_OneSidedLaw_law.2.1 812 = .ok (.aload_n 0, 1) := by decide +kernel
theorem dd_OneSidedLaw_law_813 : decode mm_OneSidedLaw_law.2.1 813 = .ok (.iload_n 3, 1) := by decide +kernel
theorem dd_OneSidedLaw_law_814 : decode mm_OneSidedLaw_law.2.1 814 = .ok (.iconst 2, 1) := by decide +kernel
theorem dd_OneSidedLaw_law_815 : decode mm_OneSidedLaw_law.2.1 815 = .ok (.iadd, 1) := by decide +kernel
theorem dd_OneSidedLaw_law_816 : decode mm_OneSidedLaw_law.2.1 816 = .ok (.iaload, 1) := by decide +kernel
theorem dd_OneSidedLaw_law_817 : decode mm_OneSidedLaw_law.2.1 817 = .ok (.invokevirtual 95, 3) := by decide +kernel
theorem cw_13_95 : cwOk 13 95 0 104 3 3 11 = true := by decide +kernel
theorem mt_OneSided_turn : MTB 104 = some mm_OneSided_turn := rfl
theorem dd_OneSidedLaw_law_820 : decode mm_OneSidedLaw_law.2.1 820 = .ok (.pop, 1) := by decide +kernel
theorem dd_OneSidedLaw_law_821 : decode mm_OneSidedLaw_law.2.1 821 = .ok (.aload_n 2, 1) := by decide +kernel
theorem dd_OneSidedLaw_law_822 : decode mm_OneSidedLaw_law.2.1 822 = .ok (.aload_n 0, 1) := by decide +kernel
theorem dd_OneSidedLaw_law_823 : decode mm_OneSidedLaw_law.2.1 823 = .ok (.iload_n 3, 1) := by decide +kernel
theorem dd_OneSidedLaw_law_824 : decode mm_OneSidedLaw_law.2.1 824 = .ok (.iconst 1, 1) := by decide +kernel
theorem dd_OneSidedLaw_law_825 : decode mm_OneSidedLaw_law.2.1 825 = .ok (.iadd, 1) := by decide +kernel
theorem dd_OneSidedLaw_law_826 : decode mm_OneSidedLaw_law.2.1 826 = .ok (.iaload, 1) := by decide +kernel
theorem dd_OneSidedLaw_law_827 : decode mm_OneSidedLaw_law.2.1 827 = .ok (.aload_n 0, 1) := by decide +kernel
theorem dd_OneSidedLaw_law_828 : decode mm_OneSidedLaw_law.2.1 828 = .ok (.iload_n 3, 1) := by decide +kernel
theorem dd_OneSidedLaw_law_829 : decode mm_OneSidedLaw_law.2.1 829 = .ok (.iconst 2, 1) := by decide +kernel
theorem dd_OneSidedLaw_law_830 : decode mm_OneSidedLaw_law.2.1 830 = .ok (.iadd, 1) := by decide +kernel
theorem dd_OneSidedLaw_law_831 : decode mm_OneSidedLaw_law.2.1 831 = .ok (.iaload, 1) := by decide +kernel
theorem dd_OneSidedLaw_law_832 : decode mm_OneSidedLaw_law.2.1 832 = .ok (.invokevirtual 98, 3) := by decide +kernel
theorem cw_13_98 : cwOk 13 98 0 240 3 5 12 = true := by decide +kernel
theorem mt_turn : MTB 240 = some mm_turn := rfl
theorem dd_OneSidedLaw_law_835 : decode mm_OneSidedLaw_law.2.1 835 = .ok (.pop, 1) := by decide +kernel
theorem dd_OneSidedLaw_law_836 : decode mm_OneSidedLaw_law.2.1 836 = .ok (.goto 395, 3) := by decide +kernel
theorem dd_OneSidedLaw_law_839 : decode mm_OneSidedLaw_law.2.1 839 = .ok (.aload_n 1, 1) := by decide +kernel
theorem dd_OneSidedLaw_law_840 : decode mm_OneSidedLaw_law.2.1 840 = .ok (.aload_n 0, 1) := by decide +kernel
theorem dd_OneSidedLaw_law_841 : decode mm_OneSidedLaw_law.2.1 841 = .ok (.iload_n 3, 1) := by decide +kernel
theorem dd_OneSidedLaw_law_842 : decode mm_OneSidedLaw_law.2.1 842 = .ok (.iconst 1, 1) := by decide +kernel
theorem dd_OneSidedLaw_law_843 : decode mm_OneSidedLaw_law.2.1 843 = .ok (.iadd, 1) := by decide +kernel
theorem dd_OneSidedLaw_law_844 : decode mm_OneSidedLaw_law.2.1 844 = .ok (.iaload, 1) := by decide +kernel
theorem dd_OneSidedLaw_law_845 : decode mm_OneSidedLaw_law.2.1 845 = .ok (.aload_n 0, 1) := by decide +kernel
theorem dd_OneSidedLaw_law_846 : decode mm_OneSidedLaw_law.2.1 846 = .ok (.iload_n 3, 1) := by decide +kernel
theorem dd_OneSidedLaw_law_847 : decode mm_OneSidedLaw_law.2.1 847 = .ok (.iconst 2, 1) := by decide +kernel
theorem dd_OneSidedLaw_law_848 : decode mm_OneSidedLaw_law.2.1 848 = .ok (.iadd, 1) := by decide +kernel
theorem dd_OneSidedLaw_law_849 : decode mm_OneSidedLaw_law.2.1 849 = .ok (.iaload, 1) := by decide +kernel
theorem dd_OneSidedLaw_law_850 : decode mm_OneSidedLaw_law.2.1 850 = .ok (.aload_n 0, 1) := by decide +kernel
theorem dd_OneSidedLaw_law_851 : decode mm_OneSidedLaw_law.2.1 851 = .ok (.iload_n 3, 1) := by decide +kernel
theorem dd_OneSidedLaw_law_852 : decode mm_OneSidedLaw_law.2.1 852 = .ok (.iconst 3, 1) := by decide +kernel
theorem dd_OneSidedLaw_law_853 : decode mm_OneSidedLaw_law.2.1 853 = .ok (.iadd, 1) := by decide +kernel
theorem dd_OneSidedLaw_law_854 : decode mm_OneSidedLaw_law.2.1 854 = .ok (.iaload, 1) := by decide +kernel
theorem dd_OneSidedLaw_law_855 : decode mm_OneSidedLaw_law.2.1 855 = .ok (.aload_n 0, 1) := by decide +kernel
theorem dd_OneSidedLaw_law_856 : decode mm_OneSidedLaw_law.2.1 856 = .ok (.iload_n 3, 1) := by decide +kernel
theorem dd_OneSidedLaw_law_857 : decode mm_OneSidedLaw_law.2.1 857 = .ok (.iconst 4, 1) := by decide +kernel
theorem dd_OneSidedLaw_law_858 : decode mm_OneSidedLaw_law.2.1 858 = .ok (.iadd, 1) := by decide +kernel
theorem dd_OneSidedLaw_law_859 : decode mm_OneSidedLaw_law.2.1 859 = .ok (.iaload, 1) := by decide +kernel
theorem dd_OneSidedLaw_law_860 : decode mm_OneSidedLaw_law.2.1 860 = .ok (.invokevirtual 99, 3) := by decide +kernel
theorem cw_13_99 : cwOk 13 99 0 108 5 5 11 = true := by decide +kernel
theorem mt_OneSided_cut : MTB 108 = some mm_OneSided_cut := rfl
theorem dd_OneSidedLaw_law_863 : decode mm_OneSidedLaw_law.2.1 863 = .ok (.pop, 1) := by decide +kernel
theorem dd_OneSidedLaw_law_864 : decode mm_OneSidedLaw_law.2.1 864 = .ok (.aload_n 2, 1) := by decide +kernel
theorem dd_OneSidedLaw_law_865 : decode mm_OneSidedLaw_law.2.1 865 = .ok (.aload_n 0, 1) := by decide +kernel
theorem dd_OneSidedLaw_law_866 : decode mm_OneSidedLaw_law.2.1 866 = .ok (.iload_n 3, 1) := by decide +kernel
theorem dd_OneSidedLaw_law_867 : decode mm_OneSidedLaw_law.2.1 867 = .ok (.iconst 1, 1) := by decide +kernel
theorem dd_OneSidedLaw_law_868 : decode mm_OneSidedLaw_law.2.1 868 = .ok (.iadd, 1) := by decide +kernel
theorem dd_OneSidedLaw_law_869 : decode mm_OneSidedLaw_law.2.1 869 = .ok (.iaload, 1) := by decide +kernel
theorem dd_OneSidedLaw_law_870 : decode mm_OneSidedLaw_law.2.1 870 = .ok (.aload_n 0, 1) := by decide +kernel
theorem dd_OneSidedLaw_law_871 : decode mm_OneSidedLaw_law.2.1 871 = .ok (.iload_n 3, 1) := by decide +kernel
theorem dd_OneSidedLaw_law_872 : decode mm_OneSidedLaw_law.2.1 872 = .ok (.iconst 2, 1) := by decide +kernel
theorem dd_OneSidedLaw_law_873 : decode mm_OneSidedLaw_law.2.1 873 = .ok (.iadd, 1) := by decide +kernel
theorem dd_OneSidedLaw_law_874 : decode mm_OneSidedLaw_law.2.1 874 = .ok (.iaload, 1) := by decide +kernel
theorem dd_OneSidedLaw_law_875 : decode mm_OneSidedLaw_law.2.1 875 = .ok (.aload_n 0, 1) := by decide +kernel
theorem dd_OneSidedLaw_law_876 : decode mm_OneSidedLaw_law.2.1 876 = .ok (.iload_n 3, 1) := by decide +kernel
theorem dd_OneSidedLaw_law_877 : decode mm_OneSidedLaw_law.2.1 877 = .ok (.iconst 3, 1) := by decide +kernel
theorem dd_OneSidedLaw_law_878 : decode mm_OneSidedLaw_law.2.1 878 = .ok (.iadd, 1) := by decide +kernel
theorem dd_OneSidedLaw_law_879 : decode mm_OneSidedLaw_law.2.1 879 = .ok (.iaload, 1) := by decide +kernel
theorem dd_OneSidedLaw_law_880 : decode mm_OneSidedLaw_law.2.1 880 = .ok (.aload_n 0, 1) := by decide +kernel
theorem dd_OneSidedLaw_law_881 : decode mm_OneSidedLaw_law.2.1 881 = .ok (.iload_n 3, 1) := by decide +kernel
theorem dd_OneSidedLaw_law_882 : decode mm_OneSidedLaw_law.2.1 882 = .ok (.iconst 4, 1) := by decide +kernel
theorem dd_OneSidedLaw_law_883 : decode mm_OneSidedLaw_law.2.1 883 = .ok (.iadd, 1) := by decide +kernel
theorem dd_OneSidedLaw_law_884 : decode mm_OneSidedLaw_law.2.1 884 = .ok (.iaload, 1) := by decide +kernel
theorem dd_OneSidedLaw_law_885 : decode mm_OneSidedLaw_law.2.1 885 = .ok (.invokevirtual 102, 3) := by decide +kernel
theorem cw_13_102 : cwOk 13 102 0 242 5 7 12 = true := by decide +kernel
theorem mt_cut : MTB 242 = some mm_cut := rfl
theorem dd_OneSidedLaw_law_888 : decode mm_OneSidedLaw_law.2.1 888 = .ok (.pop, 1) := by decide +kernel
theorem dd_OneSidedLaw_law_889 : decode mm_OneSidedLaw_law.2.1 889 = .ok (.goto 342, 3) := by decide +kernel
theorem dd_OneSidedLaw_law_892 : decode mm_OneSidedLaw_law.2.1 892 = .ok (.aload_n 1, 1) := by decide +kernel
theorem dd_OneSidedLaw_law_893 : decode mm_OneSidedLaw_law.2.1 893 = .ok (.aload_n 0, 1) := by decide +kernel
theorem dd_OneSidedLaw_law_894 : decode mm_OneSidedLaw_law.2.1 894 = .ok (.iload_n 3, 1) := by decide +kernel
theorem dd_OneSidedLaw_law_895 : decode mm_OneSidedLaw_law.2.1 895 = .ok (.iconst 1, 1) := by decide +kernel
theorem dd_OneSidedLaw_law_896 : decode mm_OneSidedLaw_law.2.1 896 = .ok (.iadd, 1) := by decide +kernel
theorem dd_OneSidedLaw_law_897 : decode mm_OneSidedLaw_law.2.1 897 = .ok (.iaload, 1) := by decide +kernel
theorem dd_OneSidedLaw_law_898 : decode mm_OneSidedLaw_law.2.1 898 = .ok (.aload_n 0, 1) := by decide +kernel
theorem dd_OneSidedLaw_law_899 : decode mm_OneSidedLaw_law.2.1 899 = .ok (.iload_n 3, 1) := by decide +kernel
theorem dd_OneSidedLaw_law_900 : decode mm_OneSidedLaw_law.2.1 900 = .ok (.iconst 2, 1) := by decide +kernel
theorem dd_OneSidedLaw_law_901 : decode mm_OneSidedLaw_law.2.1 901 = .ok (.iadd, 1) := by decide +kernel
theorem dd_OneSidedLaw_law_902 : decode mm_OneSidedLaw_law.2.1 902 = .ok (.iaload, 1) := by decide +kernel
theorem dd_OneSidedLaw_law_903 : decode mm_OneSidedLaw_law.2.1 903 = .ok (.aload_n 0, 1) := by decide +kernel
theorem dd_OneSidedLaw_law_904 : decode mm_OneSidedLaw_law.2.1 904 = .ok (.iload_n 3, 1) := by decide +kernel
theorem dd_OneSidedLaw_law_905 : decode mm_OneSidedLaw_law.2.1 905 = .ok (.iconst 3, 1) := by decide +kernel
theorem dd_OneSidedLaw_law_906 : decode mm_OneSidedLaw_law.2.1 906 = .ok (.iadd, 1) := by decide +kernel
theorem dd_OneSidedLaw_law_907 : decode mm_OneSidedLaw_law.2.1 907 = .ok (.iaload, 1) := by decide +kernel
theorem dd_OneSidedLaw_law_908 : decode mm_OneSidedLaw_law.2.1 908 = .ok (.invokevirtual 103, 3) := by decide +kernel
theorem cw_13_103 : cwOk 13 103 0 110 4 4 11 = true := by decide +kernel
theorem mt_OneSided_crowd : MTB 110 = some mm_OneSided_crowd := rfl
theorem dd_OneSidedLaw_law_911 : decode mm_OneSidedLaw_law.2.1 911 = .ok (.pop, 1) := by decide +kernel
theorem dd_OneSidedLaw_law_912 : decode mm_OneSidedLaw_law.2.1 912 = .ok (.aload_n 2, 1) := by decide +kernel
theorem dd_OneSidedLaw_law_913 : decode mm_OneSidedLaw_law.2.1 913 = .ok (.aload_n 0, 1) := by decide +kernel
theorem dd_OneSidedLaw_law_914 : decode mm_OneSidedLaw_law.2.1 914 = .ok (.iload_n 3, 1) := by decide +kernel
theorem dd_OneSidedLaw_law_915 : decode mm_OneSidedLaw_law.2.1 915 = .ok (.iconst 1, 1) := by decide +kernel
theorem dd_OneSidedLaw_law_916 : decode mm_OneSidedLaw_law.2.1 916 = .ok (.iadd, 1) := by decide +kernel
theorem dd_OneSidedLaw_law_917 : decode mm_OneSidedLaw_law.2.1 917 = .ok (.iaload, 1) := by decide +kernel
theorem dd_OneSidedLaw_law_918 : decode mm_OneSidedLaw_law.2.1 918 = .ok (.aload_n 0, 1) := by decide +kernel
theorem dd_OneSidedLaw_law_919 : decode mm_OneSidedLaw_law.2.1 919 = .ok (.iload_n 3, 1) := by decide +kernel
theorem dd_OneSidedLaw_law_920 : decode mm_OneSidedLaw_law.2.1 920 = .ok (.iconst 2, 1) := by decide +kernel
theorem dd_OneSidedLaw_law_921 : decode mm_OneSidedLaw_law.2.1 921 = .ok (.iadd, 1) := by decide +kernel
theorem dd_OneSidedLaw_law_922 : decode mm_OneSidedLaw_law.2.1 922 = .ok (.iaload, 1) := by decide +kernel
theorem dd_OneSidedLaw_law_923 : decode mm_OneSidedLaw_law.2.1 923 = .ok (.aload_n 0, 1) := by decide +kernel
theorem dd_OneSidedLaw_law_924 : decode mm_OneSidedLaw_law.2.1 924 = .ok (.iload_n 3, 1) := by decide +kernel
theorem dd_OneSidedLaw_law_925 : decode mm_OneSidedLaw_law.2.1 925 = .ok (.iconst 3, 1) := by decide +kernel
theorem dd_OneSidedLaw_law_926 : decode mm_OneSidedLaw_law.2.1 926 = .ok (.iadd, 1) := by decide +kernel
theorem dd_OneSidedLaw_law_927 : decode mm_OneSidedLaw_law.2.1 927 = .ok (.iaload, 1) := by decide +kernel
theorem dd_OneSidedLaw_law_928 : decode mm_OneSidedLaw_law.2.1 928 = .ok (.invokevirtual 106, 3) := by decide +kernel
theorem cw_13_106 : cwOk 13 106 0 243 4 5 12 = true := by decide +kernel
theorem mt_crowd : MTB 243 = some mm_crowd := rfl
theorem dd_OneSidedLaw_law_931 : decode mm_OneSidedLaw_law.2.1 931 = .ok (.pop, 1) := by decide +kernel
theorem dd_OneSidedLaw_law_932 : decode mm_OneSidedLaw_law.2.1 932 = .ok (.goto 299, 3) := by decide +kernel
theorem dd_OneSidedLaw_law_935 : decode mm_OneSidedLaw_law.2.1 935 = .ok (.aload_n 1, 1) := by decide +kernel
theorem dd_OneSidedLaw_law_936 : decode mm_OneSidedLaw_law.2.1 936 = .ok (.aload_n 0, 1) := by decide +kernel
theorem dd_OneSidedLaw_law_937 : decode mm_OneSidedLaw_law.2.1 937 = .ok (.iload_n 3, 1) := by decide +kernel
theorem dd_OneSidedLaw_law_938 : decode mm_OneSidedLaw_law.2.1 938 = .ok (.iconst 1, 1) := by decide +kernel
theorem dd_OneSidedLaw_law_939 : decode mm_OneSidedLaw_law.2.1 939 = .ok (.iadd, 1) := by decide +kernel
theorem dd_OneSidedLaw_law_940 : decode mm_OneSidedLaw_law.2.1 940 = .ok (.iaload, 1) := by decide +kernel
theorem dd_OneSidedLaw_law_941 : decode mm_OneSidedLaw_law.2.1 941 = .ok (.aload_n 0, 1) := by decide +kernel
theorem dd_OneSidedLaw_law_942 : decode mm_OneSidedLaw_law.2.1 942 = .ok (.iload_n 3, 1) := by decide +kernel
theorem dd_OneSidedLaw_law_943 : decode mm_OneSidedLaw_law.2.1 943 = .ok (.iconst 2, 1) := by decide +kernel
theorem dd_OneSidedLaw_law_944 : decode mm_OneSidedLaw_law.2.1 944 = .ok (.iadd, 1) := by decide +kernel
theorem dd_OneSidedLaw_law_945 : decode mm_OneSidedLaw_law.2.1 945 = .ok (.iaload, 1) := by decide +kernel
theorem dd_OneSidedLaw_law_946 : decode mm_OneSidedLaw_law.2.1 946 = .ok (.aload_n 0, 1) := by decide +kernel
theorem dd_OneSidedLaw_law_947 : decode mm_OneSidedLaw_law.2.1 947 = .ok (.iload_n 3, 1) := by decide +kernel
theorem dd_OneSidedLaw_law_948 : decode mm_OneSidedLaw_law.2.1 948 = .ok (.iconst 3, 1) := by decide +kernel
theorem dd_OneSidedLaw_law_949 : decode mm_OneSidedLaw_law.2.1 949 = .ok (.iadd, 1) := by decide +kernel
theorem dd_OneSidedLaw_law_950 : decode mm_OneSidedLaw_law.2.1 950 = .ok (.iaload, 1) := by decide +kernel
theorem dd_OneSidedLaw_law_951 : decode mm_OneSidedLaw_law.2.1 951 = .ok (.ifCond .eq (7), 3) := by decide +kernel
theorem dd_OneSidedLaw_law_958 : decode mm_OneSidedLaw_law.2.1 958 = .ok (.iconst 0, 1) := by decide +kernel
theorem dd_OneSidedLaw_law_959 : decode mm_OneSidedLaw_law.2.1 959 = .ok (.invokevirtual 107, 3) := by decide +kernel
theorem cw_13_107 : cwOk 13 107 0 118 4 4 11 = true := by decide +kernel
theorem mt_OneSided_told : MTB 118 = some mm_OneSided_told := rfl
theorem dd_OneSidedLaw_law_954 : decode mm_OneSidedLaw_law.2.1 954 = .ok (.iconst 1, 1) := by decide +kernel
theorem dd_OneSidedLaw_law_955 : decode mm_OneSidedLaw_law.2.1 955 = .ok (.goto 4, 3) := by decide +kernel
theorem dd_OneSidedLaw_law_962 : decode mm_OneSidedLaw_law.2.1 962 = .ok (.pop, 1) := by decide +kernel
theorem dd_OneSidedLaw_law_963 : decode mm_OneSidedLaw_law.2.1 963 = .ok (.aload_n 2, 1) := by decide +kernel
theorem dd_OneSidedLaw_law_964 : decode mm_OneSidedLaw_law.2.1 964 = .ok (.aload_n 0, 1) := by decide +kernel
theorem dd_OneSidedLaw_law_965 : decode mm_OneSidedLaw_law.2.1 965 = .ok (.iload_n 3, 1) := by decide +kernel
theorem dd_OneSidedLaw_law_966 : decode mm_OneSidedLaw_law.2.1 966 = .ok (.iconst 1, 1) := by decide +kernel
theorem dd_OneSidedLaw_law_967 : decode mm_OneSidedLaw_law.2.1 967 = .ok (.iadd, 1) := by decide +kernel
theorem dd_OneSidedLaw_law_968 : decode mm_OneSidedLaw_law.2.1 968 = .ok (.iaload, 1) := by decide +kernel
theorem dd_OneSidedLaw_law_969 : decode mm_OneSidedLaw_law.2.1 969 = .ok (.aload_n 0, 1) := by decide +kernel
theorem dd_OneSidedLaw_law_970 : decode mm_OneSidedLaw_law.2.1 970 = .ok (.iload_n 3, 1) := by decide +kernel
theorem dd_OneSidedLaw_law_971 : decode mm_OneSidedLaw_law.2.1 971 = .ok (.iconst 2, 1) := by decide +kernel
theorem dd_OneSidedLaw_law_972 : decode mm_OneSidedLaw_law.2.1 972 = .ok (.iadd, 1) := by decide +kernel
theorem dd_OneSidedLaw_law_973 : decode mm_OneSidedLaw_law.2.1 973 = .ok (.iaload, 1) := by decide +kernel
theorem dd_OneSidedLaw_law_974 : decode mm_OneSidedLaw_law.2.1 974 = .ok (.aload_n 0, 1) := by decide +kernel
theorem dd_OneSidedLaw_law_975 : decode mm_OneSidedLaw_law.2.1 975 = .ok (.iload_n 3, 1) := by decide +kernel
theorem dd_OneSidedLaw_law_976 : decode mm_OneSidedLaw_law.2.1 976 = .ok (.iconst 3, 1) := by decide +kernel
theorem dd_OneSidedLaw_law_977 : decode mm_OneSidedLaw_law.2.1 977 = .ok (.iadd, 1) := by decide +kernel
theorem dd_OneSidedLaw_law_978 : decode mm_OneSidedLaw_law.2.1 978 = .ok (.iaload, 1) := by decide +kernel
theorem dd_OneSidedLaw_law_979 : decode mm_OneSidedLaw_law.2.1 979 = .ok (.ifCond .eq (7), 3) := by decide +kernel
theorem dd_OneSidedLaw_law_986 : decode mm_OneSidedLaw_law.2.1 986 = .ok (.iconst 0, 1) := by decide +kernel
theorem dd_OneSidedLaw_law_987 : decode mm_OneSidedLaw_law.2.1 987 = .ok (.invokevirtual 111, 3) := by decide +kernel
theorem cw_13_111 : cwOk 13 111 0 249 4 5 12 = true := by decide +kernel
theorem mt_told : MTB 249 = some mm_told := rfl
theorem dd_OneSidedLaw_law_982 : decode mm_OneSidedLaw_law.2.1 982 = .ok (.iconst 1, 1) := by decide +kernel
theorem dd_OneSidedLaw_law_983 : decode mm_OneSidedLaw_law.2.1 983 = .ok (.goto 4, 3) := by decide +kernel
theorem dd_OneSidedLaw_law_990 : decode mm_OneSidedLaw_law.2.1 990 = .ok (.pop, 1) := by decide +kernel
theorem dd_OneSidedLaw_law_991 : decode mm_OneSidedLaw_law.2.1 991 = .ok (.goto 240, 3) := by decide +kernel
theorem dd_OneSidedLaw_law_994 : decode mm_OneSidedLaw_law.2.1 994 = .ok (.aload_n 1, 1) := by decide +kernel
theorem dd_OneSidedLaw_law_995 : decode mm_OneSidedLaw_law.2.1 995 = .ok (.aload_n 0, 1) := by decide +kernel
theorem dd_OneSidedLaw_law_996 : decode mm_OneSidedLaw_law.2.1 996 = .ok (.iload_n 3, 1) := by decide +kernel
theorem dd_OneSidedLaw_law_997 : decode mm_OneSidedLaw_law.2.1 997 = .ok (.iconst 1, 1) := by decide +kernel
theorem dd_OneSidedLaw_law_998 : decode mm_OneSidedLaw_law.2.1 998 = .ok (.iadd, 1) := by decide +kernel
theorem dd_OneSidedLaw_law_999 : decode mm_OneSidedLaw_law.2.1 999 = .ok (.iaload, 1) := by decide +kernel
theorem dd_OneSidedLaw_law_1000 : decode mm_OneSidedLaw_law.2.1 1000 = .ok (.invokevirtual 112, 3) := by decide +kernel
theorem cw_13_112 : cwOk 13 112 0 120 2 2 11 = true := by decide +kernel
theorem mt_OneSided_found : MTB 120 = some mm_OneSided_found := rfl
theorem dd_OneSidedLaw_law_1003 : decode mm_OneSidedLaw_law.2.1 1003 = .ok (.pop, 1) := by decide +kernel
theorem dd_OneSidedLaw_law_1004 : decode mm_OneSidedLaw_law.2.1 1004 = .ok (.aload_n 2, 1) := by decide +kernel
theorem dd_OneSidedLaw_law_1005 : decode mm_OneSidedLaw_law.2.1 1005 = .ok (.aload_n 0, 1) := by decide +kernel
theorem dd_OneSidedLaw_law_1006 : decode mm_OneSidedLaw_law.2.1 1006 = .ok (.iload_n 3, 1) := by decide +kernel
theorem dd_OneSidedLaw_law_1007 : decode mm_OneSidedLaw_law.2.1 1007 = .ok (.iconst 1, 1) := by decide +kernel
theorem dd_OneSidedLaw_law_1008 : decode mm_OneSidedLaw_law.2.1 1008 = .ok (.iadd, 1) := by decide +kernel
theorem dd_OneSidedLaw_law_1009 : decode mm_OneSidedLaw_law.2.1 1009 = .ok (.iaload, 1) := by decide +kernel
theorem dd_OneSidedLaw_law_1010 : decode mm_OneSidedLaw_law.2.1 1010 = .ok (.invokevirtual 115, 3) := by decide +kernel
theorem cw_13_115 : cwOk 13 115 0 250 2 3 12 = true := by decide +kernel
theorem mt_found : MTB 250 = some mm_found := rfl
theorem dd_OneSidedLaw_law_1013 : decode mm_OneSidedLaw_law.2.1 1013 = .ok (.pop, 1) := by decide +kernel
theorem dd_OneSidedLaw_law_1014 : decode mm_OneSidedLaw_law.2.1 1014 = .ok (.goto 217, 3) := by decide +kernel
theorem dd_OneSidedLaw_law_1017 : decode mm_OneSidedLaw_law.2.1 1017 = .ok (.aload_n 1, 1) := by decide +kernel
theorem dd_OneSidedLaw_law_1018 : decode mm_OneSidedLaw_law.2.1 1018 = .ok (.aload_n 0, 1) := by decide +kernel
theorem dd_OneSidedLaw_law_1019 : decode mm_OneSidedLaw_law.2.1 1019 = .ok (.iload_n 3, 1) := by decide +kernel
theorem dd_OneSidedLaw_law_1020 : decode mm_OneSidedLaw_law.2.1 1020 = .ok (.iconst 1, 1) := by decide +kernel
theorem dd_OneSidedLaw_law_1021 : decode mm_OneSidedLaw_law.2.1 1021 = .ok (.iadd, 1) := by decide +kernel
theorem dd_OneSidedLaw_law_1022 : decode mm_OneSidedLaw_law.2.1 1022 = .ok (.iaload, 1) := by decide +kernel
theorem dd_OneSidedLaw_law_1023 : decode mm_OneSidedLaw_law.2.1 1023 = .ok (.aload_n 0, 1) := by decide +kernel
theorem dd_OneSidedLaw_law_1024 : decode mm_OneSidedLaw_law.2.1 1024 = .ok (.iload_n 3, 1) := by decide +kernel
theorem dd_OneSidedLaw_law_1025 : decode mm_OneSidedLaw_law.2.1 1025 = .ok (.iconst 2, 1) := by decide +kernel
theorem dd_OneSidedLaw_law_1026 : decode mm_OneSidedLaw_law.2.1 1026 = .ok (.iadd, 1) := by decide +kernel
theorem dd_OneSidedLaw_law_1027 : decode mm_OneSidedLaw_law.2.1 1027 = .ok (.iaload, 1) := by decide +kernel
theorem dd_OneSidedLaw_law_1028 : decode mm_OneSidedLaw_law.2.1 1028 = .ok (.aload_n 0, 1) := by decide +kernel
theorem dd_OneSidedLaw_law_1029 : decode mm_OneSidedLaw_law.2.1 1029 = .ok (.iload_n 3, 1) := by decide +kernel
theorem dd_OneSidedLaw_law_1030 : decode mm_OneSidedLaw_law.2.1 1030 = .ok (.iconst 3, 1) := by decide +kernel
theorem dd_OneSidedLaw_law_1031 : decode mm_OneSidedLaw_law.2.1 1031 = .ok (.iadd, 1) := by decide +kernel
theorem dd_OneSidedLaw_law_1032 : decode mm_OneSidedLaw_law.2.1 1032 = .ok (.iaload, 1) := by decide +kernel
theorem dd_OneSidedLaw_law_1033 : decode mm_OneSidedLaw_law.2.1 1033 = .ok (.invokevirtual 116, 3) := by decide +kernel
theorem cw_13_116 : cwOk 13 116 0 127 4 4 11 = true := by decide +kernel
theorem mt_OneSided_rests : MTB 127 = some mm_OneSided_rests := rfl
theorem dd_OneSidedLaw_law_1036 : decode mm_OneSidedLaw_law.2.1 1036 = .ok (.pop, 1) := by decide +kernel
theorem dd_OneSidedLaw_law_1037 : decode mm_OneSidedLaw_law.2.1 1037 = .ok (.aload_n 2, 1) := by decide +kernel
theorem dd_OneSidedLaw_law_1038 : decode mm_OneSidedLaw_law.2.1 1038 = .ok (.aload_n 0, 1) := by decide +kernel
theorem dd_OneSidedLaw_law_1039 : decode mm_OneSidedLaw_law.2.1 1039 = .ok (.iload_n 3, 1) := by decide +kernel
theorem dd_OneSidedLaw_law_1040 : decode mm_OneSidedLaw_law.2.1 1040 = .ok (.iconst 1, 1) := by decide +kernel
theorem dd_OneSidedLaw_law_1041 : decode mm_OneSidedLaw_law.2.1 1041 = .ok (.iadd, 1) := by decide +kernel
theorem dd_OneSidedLaw_law_1042 : decode mm_OneSidedLaw_law.2.1 1042 = .ok (.iaload, 1) := by decide +kernel
theorem dd_OneSidedLaw_law_1043 : decode mm_OneSidedLaw_law.2.1 1043 = .ok (.aload_n 0, 1) := by decide +kernel
theorem dd_OneSidedLaw_law_1044 : decode mm_OneSidedLaw_law.2.1 1044 = .ok (.iload_n 3, 1) := by decide +kernel
theorem dd_OneSidedLaw_law_1045 : decode mm_OneSidedLaw_law.2.1 1045 = .ok (.iconst 2, 1) := by decide +kernel
theorem dd_OneSidedLaw_law_1046 : decode mm_OneSidedLaw_law.2.1 1046 = .ok (.iadd, 1) := by decide +kernel
theorem dd_OneSidedLaw_law_1047 : decode mm_OneSidedLaw_law.2.1 1047 = .ok (.iaload, 1) := by decide +kernel
theorem dd_OneSidedLaw_law_1048 : decode mm_OneSidedLaw_law.2.1 1048 = .ok (.aload_n 0, 1) := by decide +kernel
theorem dd_OneSidedLaw_law_1049 : decode mm_OneSidedLaw_law.2.1 1049 = .ok (.iload_n 3, 1) := by decide +kernel
theorem dd_OneSidedLaw_law_1050 : decode mm_OneSidedLaw_law.2.1 1050 = .ok (.iconst 3, 1) := by decide +kernel
theorem dd_OneSidedLaw_law_1051 : decode mm_OneSidedLaw_law.2.1 1051 = .ok (.iadd, 1) := by decide +kernel
theorem dd_OneSidedLaw_law_1052 : decode mm_OneSidedLaw_law.2.1 1052 = .ok (.iaload, 1) := by decide +kernel
theorem dd_OneSidedLaw_law_1053 : decode mm_OneSidedLaw_law.2.1 1053 = .ok (.invokevirtual 119, 3) := by decide +kernel
theorem cw_13_119 : cwOk 13 119 0 254 4 8 12 = true := by decide +kernel
theorem mt_rests : MTB 254 = some mm_rests := rfl
theorem dd_OneSidedLaw_law_1056 : decode mm_OneSidedLaw_law.2.1 1056 = .ok (.pop, 1) := by decide +kernel
theorem dd_OneSidedLaw_law_1057 : decode mm_OneSidedLaw_law.2.1 1057 = .ok (.goto 174, 3) := by decide +kernel
theorem dd_OneSidedLaw_law_1060 : decode mm_OneSidedLaw_law.2.1 1060 = .ok (.aload_n 1, 1) := by decide +kernel
theorem dd_OneSidedLaw_law_1061 : decode mm_OneSidedLaw_law.2.1 1061 = .ok (.aload_n 0, 1) := by decide +kernel
theorem dd_OneSidedLaw_law_1062 : decode mm_OneSidedLaw_law.2.1 1062 = .ok (.iload_n 3, 1) := by decide +kernel
theorem dd_OneSidedLaw_law_1063 : decode mm_OneSidedLaw_law.2.1 1063 = .ok (.iconst 1, 1) := by decide +kernel
theorem dd_OneSidedLaw_law_1064 : decode mm_OneSidedLaw_law.2.1 1064 = .ok (.iadd, 1) := by decide +kernel
theorem dd_OneSidedLaw_law_1065 : decode mm_OneSidedLaw_law.2.1 1065 = .ok (.iaload, 1) := by decide +kernel
theorem dd_OneSidedLaw_law_1066 : decode mm_OneSidedLaw_law.2.1 1066 = .ok (.aload_n 0, 1) := by decide +kernel
theorem dd_OneSidedLaw_law_1067 : decode mm_OneSidedLaw_law.2.1 1067 = .ok (.iload_n 3, 1) := by decide +kernel
theorem dd_OneSidedLaw_law_1068 : decode mm_OneSidedLaw_law.2.1 1068 = .ok (.iconst 2, 1) := by decide +kernel
theorem dd_OneSidedLaw_law_1069 : decode mm_OneSidedLaw_law.2.1 1069 = .ok (.iadd, 1) := by decide +kernel
theorem dd_OneSidedLaw_law_1070 : decode mm_OneSidedLaw_law.2.1 1070 = .ok (.iaload, 1) := by decide +kernel
theorem dd_OneSidedLaw_law_1071 : decode mm_OneSidedLaw_law.2.1 1071 = .ok (.invokevirtual 120, 3) := by decide +kernel
theorem cw_13_120 : cwOk 13 120 0 139 3 4 11 = true := by decide +kernel
theorem mt_OneSided_chase : MTB 139 = some mm_OneSided_chase := rfl
theorem dd_OneSidedLaw_law_1074 : decode mm_OneSidedLaw_law.2.1 1074 = .ok (.pop, 1) := by decide +kernel
theorem dd_OneSidedLaw_law_1075 : decode mm_OneSidedLaw_law.2.1 1075 = .ok (.aload_n 2, 1) := by decide +kernel
theorem dd_OneSidedLaw_law_1076 : decode mm_OneSidedLaw_law.2.1 1076 = .ok (.aload_n 0, 1) := by decide +kernel
theorem dd_OneSidedLaw_law_1077 : decode mm_OneSidedLaw_law.2.1 1077 = .ok (.iload_n 3, 1) := by decide +kernel
theorem dd_OneSidedLaw_law_1078 : decode mm_OneSidedLaw_law.2.1 1078 = .ok (.iconst 1, 1) := by decide +kernel
theorem dd_OneSidedLaw_law_1079 : decode mm_OneSidedLaw_law.2.1 1079 = .ok (.iadd, 1) := by decide +kernel
theorem dd_OneSidedLaw_law_1080 : decode mm_OneSidedLaw_law.2.1 1080 = .ok (.iaload, 1) := by decide +kernel
theorem dd_OneSidedLaw_law_1081 : decode mm_OneSidedLaw_law.2.1 1081 = .ok (.aload_n 0, 1) := by decide +kernel
theorem dd_OneSidedLaw_law_1082 : decode mm_OneSidedLaw_law.2.1 1082 = .ok (.iload_n 3, 1) := by decide +kernel
theorem dd_OneSidedLaw_law_1083 : decode mm_OneSidedLaw_law.2.1 1083 = .ok (.iconst 2, 1) := by decide +kernel
theorem dd_OneSidedLaw_law_1084 : decode mm_OneSidedLaw_law.2.1 1084 = .ok (.iadd, 1) := by decide +kernel
theorem dd_OneSidedLaw_law_1085 : decode mm_OneSidedLaw_law.2.1 1085 = .ok (.iaload, 1) := by decide +kernel
theorem dd_OneSidedLaw_law_1086 : decode mm_OneSidedLaw_law.2.1 1086 = .ok (.invokevirtual 123, 3) := by decide +kernel
theorem cw_13_123 : cwOk 13 123 0 256 3 5 12 = true := by decide +kernel
theorem mt_chase : MTB 256 = some mm_chase := rfl
theorem dd_OneSidedLaw_law_1089 : decode mm_OneSidedLaw_law.2.1 1089 = .ok (.pop, 1) := by decide +kernel
theorem dd_OneSidedLaw_law_1090 : decode mm_OneSidedLaw_law.2.1 1090 = .ok (.goto 141, 3) := by decide +kernel
theorem dd_OneSidedLaw_law_1093 : decode mm_OneSidedLaw_law.2.1 1093 = .ok (.aload_n 1, 1) := by decide +kernel
theorem dd_OneSidedLaw_law_1094 : decode mm_OneSidedLaw_law.2.1 1094 = .ok (.aload_n 0, 1) := by decide +kernel
theorem dd_OneSidedLaw_law_1095 : decode mm_OneSidedLaw_law.2.1 1095 = .ok (.iload_n 3, 1) := by decide +kernel
theorem dd_OneSidedLaw_law_1096 : decode mm_OneSidedLaw_law.2.1 1096 = .ok (.iconst 1, 1) := by decide +kernel
theorem dd_OneSidedLaw_law_1097 : decode mm_OneSidedLaw_law.2.1 1097 = .ok (.iadd, 1) := by decide +kernel
theorem dd_OneSidedLaw_law_1098 : decode mm_OneSidedLaw_law.2.1 1098 = .ok (.iaload, 1) := by decide +kernel
theorem dd_OneSidedLaw_law_1099 : decode mm_OneSidedLaw_law.2.1 1099 = .ok (.invokevirtual 124, 3) := by decide +kernel
theorem cw_13_124 : cwOk 13 124 0 142 2 4 11 = true := by decide +kernel
theorem mt_OneSided_run : MTB 142 = some mm_OneSided_run := rfl
theorem dd_OneSidedLaw_law_1102 : decode mm_OneSidedLaw_law.2.1 1102 = .ok (.pop, 1) := by decide +kernel
theorem dd_OneSidedLaw_law_1103 : decode mm_OneSidedLaw_law.2.1 1103 = .ok (.aload_n 2, 1) := by decide +kernel
theorem dd_OneSidedLaw_law_1104 : decode mm_OneSidedLaw_law.2.1 1104 = .ok (.aload_n 0, 1) := by decide +kernel
theorem dd_OneSidedLaw_law_1105 : decode mm_OneSidedLaw_law.2.1 1105 = .ok (.iload_n 3, 1) := by decide +kernel
theorem dd_OneSidedLaw_law_1106 : decode mm_OneSidedLaw_law.2.1 1106 = .ok (.iconst 1, 1) := by decide +kernel
theorem dd_OneSidedLaw_law_1107 : decode mm_OneSidedLaw_law.2.1 1107 = .ok (.iadd, 1) := by decide +kernel
theorem dd_OneSidedLaw_law_1108 : decode mm_OneSidedLaw_law.2.1 1108 = .ok (.iaload, 1) := by decide +kernel
theorem dd_OneSidedLaw_law_1109 : decode mm_OneSidedLaw_law.2.1 1109 = .ok (.invokevirtual 127, 3) := by decide +kernel
theorem cw_13_127 : cwOk 13 127 0 258 2 2 12 = true := by decide +kernel
theorem mt_run : MTB 258 = some mm_run := rfl
theorem dd_OneSidedLaw_law_1112 : decode mm_OneSidedLaw_law.2.1 1112 = .ok (.pop, 1) := by decide +kernel
theorem dd_OneSidedLaw_law_1113 : decode mm_OneSidedLaw_law.2.1 1113 = .ok (.goto 118, 3) := by decide +kernel
theorem dd_OneSidedLaw_law_1116 : decode mm_OneSidedLaw_law.2.1 1116 = .ok (.aload_n 1, 1) := by decide +kernel
theorem dd_OneSidedLaw_law_1117 : decode mm_OneSidedLaw_law.2.1 1117 = .ok (.aload_n 0, 1) := by decide +kernel
theorem dd_OneSidedLaw_law_1118 : decode mm_OneSidedLaw_law.2.1 1118 = .ok (.iload_n 3, 1) := by decide +kernel
theorem dd_OneSidedLaw_law_1119 : decode mm_OneSidedLaw_law.2.1 1119 = .ok (.iconst 1, 1) := by decide +kernel
theorem dd_OneSidedLaw_law_1120 : decode mm_OneSidedLaw_law.2.1 1120 = .ok (.iadd, 1) := by decide +kernel
theorem dd_OneSidedLaw_law_1121 : decode mm_OneSidedLaw_law.2.1 1121 = .ok (.iaload, 1) := by decide +kernel
theorem dd_OneSidedLaw_law_1122 : decode mm_OneSidedLaw_law.2.1 1122 = .ok (.aload_n 0, 1) := by decide +kernel
theorem dd_OneSidedLaw_law_1123 : decode mm_OneSidedLaw_law.2.1 1123 = .ok (.iload_n 3, 1) := by decide +kernel
theorem dd_OneSidedLaw_law_1124 : decode mm_OneSidedLaw_law.2.1 1124 = .ok (.iconst 2, 1) := by decide +kernel
theorem dd_OneSidedLaw_law_1125 : decode mm_OneSidedLaw_law.2.1 1125 = .ok (.iadd, 1) := by decide +kernel
theorem dd_OneSidedLaw_law_1126 : decode mm_OneSidedLaw_law.2.1 1126 = .ok (.iaload, 1) := by decide +kernel
theorem dd_OneSidedLaw_law_1127 : decode mm_OneSidedLaw_law.2.1 1127 = .ok (.aload_n 0, 1) := by decide +kernel
theorem dd_OneSidedLaw_law_1128 : decode mm_OneSidedLaw_law.2.1 1128 = .ok (.iload_n 3, 1) := by decide +kernel
theorem dd_OneSidedLaw_law_1129 : decode mm_OneSidedLaw_law.2.1 1129 = .ok (.iconst 3, 1) := by decide +kernel
theorem dd_OneSidedLaw_law_1130 : decode mm_OneSidedLaw_law.2.1 1130 = .ok (.iadd, 1) := by decide +kernel
theorem dd_OneSidedLaw_law_1131 : decode mm_OneSidedLaw_law.2.1 1131 = .ok (.iaload, 1) := by decide +kernel
theorem dd_OneSidedLaw_law_1132 : decode mm_OneSidedLaw_law.2.1 1132 = .ok (.invokevirtual 128, 3) := by decide +kernel
theorem cw_13_128 : cwOk 13 128 0 147 4 4 11 = true := by decide +kernel
theorem mt_OneSided_years : MTB 147 = some mm_OneSided_years := rfl
theorem dd_OneSidedLaw_law_1135 : decode mm_OneSidedLaw_law.2.1 1135 = .ok (.pop, 1) := by decide +kernel
theorem dd_OneSidedLaw_law_1136 : decode mm_OneSidedLaw_law.2.1 1136 = .ok (.aload_n 2, 1) := by decide +kernel
theorem dd_OneSidedLaw_law_1137 : decode mm_OneSidedLaw_law.2.1 1137 = .ok (.aload_n 0, 1) := by decide +kernel
theorem dd_OneSidedLaw_law_1138 : decode mm_OneSidedLaw_law.2.1 1138 = .ok (.iload_n 3, 1) := by decide +kernel
theorem dd_OneSidedLaw_law_1139 : decode mm_OneSidedLaw_law.2.1 1139 = .ok (.iconst 1, 1) := by decide +kernel
theorem dd_OneSidedLaw_law_1140 : decode mm_OneSidedLaw_law.2.1 1140 = .ok (.iadd, 1) := by decide +kernel
theorem dd_OneSidedLaw_law_1141 : decode mm_OneSidedLaw_law.2.1 1141 = .ok (.iaload, 1) := by decide +kernel
theorem dd_OneSidedLaw_law_1142 : decode mm_OneSidedLaw_law.2.1 1142 = .ok (.aload_n 0, 1) := by decide +kernel
theorem dd_OneSidedLaw_law_1143 : decode mm_OneSidedLaw_law.2.1 1143 = .ok (.iload_n 3, 1) := by decide +kernel
theorem dd_OneSidedLaw_law_1144 : decode mm_OneSidedLaw_law.2.1 1144 = .ok (.iconst 2, 1) := by decide +kernel
theorem dd_OneSidedLaw_law_1145 : decode mm_OneSidedLaw_law.2.1 1145 = .ok (.iadd, 1) := by decide +kernel
theorem dd_OneSidedLaw_law_1146 : decode mm_OneSidedLaw_law.2.1 1146 = .ok (.iaload, 1) := by decide +kernel
theorem dd_OneSidedLaw_law_1147 : decode mm_OneSidedLaw_law.2.1 1147 = .ok (.aload_n 0, 1) := by decide +kernel
theorem dd_OneSidedLaw_law_1148 : decode mm_OneSidedLaw_law.2.1 1148 = .ok (.iload_n 3, 1) := by decide +kernel
theorem dd_OneSidedLaw_law_1149 : decode mm_OneSidedLaw_law.2.1 1149 = .ok (.iconst 3, 1) := by decide +kernel
theorem dd_OneSidedLaw_law_1150 : decode mm_OneSidedLaw_law.2.1 1150 = .ok (.iadd, 1) := by decide +kernel
theorem dd_OneSidedLaw_law_1151 : decode mm_OneSidedLaw_law.2.1 1151 = .ok (.iaload, 1) := by decide +kernel
theorem dd_OneSidedLaw_law_1152 : decode mm_OneSidedLaw_law.2.1 1152 = .ok (.invokevirtual 131, 3) := by decide +kernel
theorem cw_13_131 : cwOk 13 131 0 260 4 10 12 = true := by decide +kernel
theorem mt_years : MTB 260 = some mm_years := rfl
theorem dd_OneSidedLaw_law_1155 : decode mm_OneSidedLaw_law.2.1 1155 = .ok (.pop, 1) := by decide +kernel
theorem dd_OneSidedLaw_law_1156 : decode mm_OneSidedLaw_law.2.1 1156 = .ok (.goto 75, 3) := by decide +kernel
theorem dd_OneSidedLaw_law_1159 : decode mm_OneSidedLaw_law.2.1 1159 = .ok (.aload_n 1, 1) := by decide +kernel
theorem dd_OneSidedLaw_law_1160 : decode mm_OneSidedLaw_law.2.1 1160 = .ok (.aload_n 0, 1) := by decide +kernel
theorem dd_OneSidedLaw_law_1161 : decode mm_OneSidedLaw_law.2.1 1161 = .ok (.iload_n 3, 1) := by decide +kernel
theorem dd_OneSidedLaw_law_1162 : decode mm_OneSidedLaw_law.2.1 1162 = .ok (.iconst 1, 1) := by decide +kernel
theorem dd_OneSidedLaw_law_1163 : decode mm_OneSidedLaw_law.2.1 1163 = .ok (.iadd, 1) := by decide +kernel
theorem dd_OneSidedLaw_law_1164 : decode mm_OneSidedLaw_law.2.1 1164 = .ok (.iaload, 1) := by decide +kernel
theorem dd_OneSidedLaw_law_1165 : decode mm_OneSidedLaw_law.2.1 1165 = .ok (.aload_n 0, 1) := by decide +kernel
theorem dd_OneSidedLaw_law_1166 : decode mm_OneSidedLaw_law.2.1 1166 = .ok (.iload_n 3, 1) := by decide +kernel
theorem dd_OneSidedLaw_law_1167 : decode mm_OneSidedLaw_law.2.1 1167 = .ok (.iconst 2, 1) := by decide +kernel
theorem dd_OneSidedLaw_law_1168 : decode mm_OneSidedLaw_law.2.1 1168 = .ok (.iadd, 1) := by decide +kernel
theorem dd_OneSidedLaw_law_1169 : decode mm_OneSidedLaw_law.2.1 1169 = .ok (.iaload, 1) := by decide +kernel
theorem dd_OneSidedLaw_law_1170 : decode mm_OneSidedLaw_law.2.1 1170 = .ok (.ifCond .eq (7), 3) := by decide +kernel
theorem dd_OneSidedLaw_law_1177 : decode mm_OneSidedLaw_law.2.1 1177 = .ok (.iconst 0, 1) := by decide +kernel
theorem dd_OneSidedLaw_law_1178 : decode mm_OneSidedLaw_law.2.1 1178 = .ok (.invokevirtual 132, 3) := by decide +kernel
theorem cw_13_132 : cwOk 13 132 0 152 3 3 11 = true := by decide +kernel
theorem mt_OneSided_mark : MTB 152 = some mm_OneSided_mark := rfl
theorem dd_OneSidedLaw_law_1173 : decode mm_OneSidedLaw_law.2.1 1173 = .ok (.iconst 1, 1) := by decide +kernel
theorem dd_OneSidedLaw_law_1174 : decode mm_OneSidedLaw_law.2.1 1174 = .ok (.goto 4, 3) := by decide +kernel
theorem dd_OneSidedLaw_law_1181 : decode mm_OneSidedLaw_law.2.1 1181 = .ok (.pop, 1) := by decide +kernel
theorem dd_OneSidedLaw_law_1182 : decode mm_OneSidedLaw_law.2.1 1182 = .ok (.aload_n 2, 1) := by decide +kernel
theorem dd_OneSidedLaw_law_1183 : decode mm_OneSidedLaw_law.2.1 1183 = .ok (.aload_n 0, 1) := by decide +kernel
theorem dd_OneSidedLaw_law_1184 : decode mm_OneSidedLaw_law.2.1 1184 = .ok (.iload_n 3, 1) := by decide +kernel
theorem dd_OneSidedLaw_law_1185 : decode mm_OneSidedLaw_law.2.1 1185 = .ok (.iconst 1, 1) := by decide +kernel
theorem dd_OneSidedLaw_law_1186 : decode mm_OneSidedLaw_law.2.1 1186 = .ok (.iadd, 1) := by decide +kernel
theorem dd_OneSidedLaw_law_1187 : decode mm_OneSidedLaw_law.2.1 1187 = .ok (.iaload, 1) := by decide +kernel
theorem dd_OneSidedLaw_law_1188 : decode mm_OneSidedLaw_law.2.1 1188 = .ok (.aload_n 0, 1) := by decide +kernel
theorem dd_OneSidedLaw_law_1189 : decode mm_OneSidedLaw_law.2.1 1189 = .ok (.iload_n 3, 1) := by decide +kernel
theorem dd_OneSidedLaw_law_1190 : decode mm_OneSidedLaw_law.2.1 1190 = .ok (.iconst 2, 1) := by decide +kernel
theorem dd_OneSidedLaw_law_1191 : decode mm_OneSidedLaw_law.2.1 1191 = .ok (.iadd, 1) := by decide +kernel
theorem dd_OneSidedLaw_law_1192 : decode mm_OneSidedLaw_law.2.1 1192 = .ok (.iaload, 1) := by decide +kernel
theorem dd_OneSidedLaw_law_1193 : decode mm_OneSidedLaw_law.2.1 1193 = .ok (.ifCond .eq (7), 3) := by decide +kernel
theorem dd_OneSidedLaw_law_1200 : decode mm_OneSidedLaw_law.2.1 1200 = .ok (.iconst 0, 1) := by decide +kernel
theorem dd_OneSidedLaw_law_1201 : decode mm_OneSidedLaw_law.2.1 1201 = .ok (.invokevirtual 135, 3) := by decide +kernel
theorem cw_13_135 : cwOk 13 135 0 262 3 4 12 = true := by decide +kernel
theorem mt_mark : MTB 262 = some mm_mark := rfl
theorem dd_OneSidedLaw_law_1196 : decode mm_OneSidedLaw_law.2.1 1196 = .ok (.iconst 1, 1) := by decide +kernel
theorem dd_OneSidedLaw_law_1197 : decode mm_OneSidedLaw_law.2.1 1197 = .ok (.goto 4, 3) := by decide +kernel
theorem dd_OneSidedLaw_law_1204 : decode mm_OneSidedLaw_law.2.1 1204 = .ok (.pop, 1) := by decide +kernel
theorem dd_OneSidedLaw_law_1205 : decode mm_OneSidedLaw_law.2.1 1205 = .ok (.goto 26, 3) := by decide +kernel
theorem dd_OneSidedLaw_law_1208 : decode mm_OneSidedLaw_law.2.1 1208 = .ok (.aload_n 1, 1) := by decide +kernel
theorem dd_OneSidedLaw_law_1209 : decode mm_OneSidedLaw_law.2.1 1209 = .ok (.aload_n 0, 1) := by decide +kernel
theorem dd_OneSidedLaw_law_1210 : decode mm_OneSidedLaw_law.2.1 1210 = .ok (.iload_n 3, 1) := by decide +kernel
theorem dd_OneSidedLaw_law_1211 : decode mm_OneSidedLaw_law.2.1 1211 = .ok (.iconst 1, 1) := by decide +kernel
theorem dd_OneSidedLaw_law_1212 : decode mm_OneSidedLaw_law.2.1 1212 = .ok (.iadd, 1) := by decide +kernel
theorem dd_OneSidedLaw_law_1213 : decode mm_OneSidedLaw_law.2.1 1213 = .ok (.iaload, 1) := by decide +kernel
theorem dd_OneSidedLaw_law_1214 : decode mm_OneSidedLaw_law.2.1 1214 = .ok (.invokevirtual 136, 3) := by decide +kernel
theorem cw_13_136 : cwOk 13 136 0 154 2 2 11 = true := by decide +kernel
theorem mt_OneSided_count : MTB 154 = some mm_OneSided_count := rfl
theorem dd_OneSidedLaw_law_1217 : decode mm_OneSidedLaw_law.2.1 1217 = .ok (.pop, 1) := by decide +kernel
theorem dd_OneSidedLaw_law_1218 : decode mm_OneSidedLaw_law.2.1 1218 = .ok (.aload_n 2, 1) := by decide +kernel
theorem dd_OneSidedLaw_law_1219 : decode mm_OneSidedLaw_law.2.1 1219 = .ok (.aload_n 0, 1) := by decide +kernel
theorem dd_OneSidedLaw_law_1220 : decode mm_OneSidedLaw_law.2.1 1220 = .ok (.iload_n 3, 1) := by decide +kernel
theorem dd_OneSidedLaw_law_1221 : decode mm_OneSidedLaw_law.2.1 1221 = .ok (.iconst 1, 1) := by decide +kernel
theorem dd_OneSidedLaw_law_1222 : decode mm_OneSidedLaw_law.2.1 1222 = .ok (.iadd, 1) := by decide +kernel
theorem dd_OneSidedLaw_law_1223 : decode mm_OneSidedLaw_law.2.1 1223 = .ok (.iaload, 1) := by decide +kernel
theorem dd_OneSidedLaw_law_1224 : decode mm_OneSidedLaw_law.2.1 1224 = .ok (.invokevirtual 139, 3) := by decide +kernel
theorem cw_13_139 : cwOk 13 139 0 263 2 4 12 = true := by decide +kernel
theorem mt_count : MTB 263 = some mm_count := rfl
theorem dd_OneSidedLaw_law_1227 : decode mm_OneSidedLaw_law.2.1 1227 = .ok (.pop, 1) := by decide +kernel
theorem dd_OneSidedLaw_law_1228 : decode mm_OneSidedLaw_law.2.1 1228 = .ok (.goto 3, 3) := by decide +kernel
theorem dd_OneSidedLaw_law_1231 : decode mm_OneSidedLaw_law.2.1 1231 = .ok (.iinc 3 7, 3) := by decide +kernel
theorem dd_OneSidedLaw_law_1234 : decode mm_OneSidedLaw_law.2.1 1234 = .ok (.goto (-1216), 3) := by decide +kernel
theorem B_law_18 {xs : Nat → Int} {xl e : Nat} {h : LH} {Q : Option LV → LH → Prop} {v3 : Int} (hF : RF h) (r_v3 : 0 ≤ v3 ∧ v3 ≤ 3584)
    (k : (-2147483648 ≤ (xl : Int) - 7 ∧ (xl : Int) - 7 ≤ 2147483647) ∧
      (((xl : Int) - 7) < v3 →
        Q (some (.inl 1)) h) ∧
      (v3 ≤ ((xl : Int) - 7) →
        (0 ≤ v3 ∧ v3 < (xl : Int)) ∧
        ((zand (xs (v3).toNat) 31) = 0 →
          Rn xs xl e mm_OneSidedLaw_law 164 [some (.inr (.inr (-2))), some (.inr (.inr 1)), some (.inr (.inr 182)), some (.inl v3)] [] h Q) ∧
        ((zand (xs (v3).toNat) 31) = 1 →
          Rn xs xl e mm_OneSidedLaw_law 299 [some (.inr (.inr (-2))), some (.inr (.inr 1)), some (.inr (.inr 182)), some (.inl v3)] [] h Q) ∧
        ((zand (xs (v3).toNat) 31) = 2 →
          Rn xs xl e mm_OneSidedLaw_law 312 [some (.inr (.inr (-2))), some (.inr (.inr 1)), some (.inr (.inr 182)), some (.inl v3)] [] h Q) ∧
        ((zand (xs (v3).toNat) 31) = 3 →
          Rn xs xl e mm_OneSidedLaw_law 325 [some (.inr (.inr (-2))), some (.inr (.inr 1)), some (.inr (.inr 182)), some (.inl v3)] [] h Q) ∧
        ((zand (xs (v3).toNat) 31) = 4 →
          Rn xs xl e mm_OneSidedLaw_law 358 [some (.inr (.inr (-2))), some (.inr (.inr 1)), some (.inr (.inr 182)), some (.inl v3)] [] h Q) ∧
        ((zand (xs (v3).toNat) 31) = 5 →
          Rn xs xl e mm_OneSidedLaw_law 391 [some (.inr (.inr (-2))), some (.inr (.inr 1)), some (.inr (.inr 182)), some (.inl v3)] [] h Q) ∧
        ((zand (xs (v3).toNat) 31) = 6 →
          Rn xs xl e mm_OneSidedLaw_law 444 [some (.inr (.inr (-2))), some (.inr (.inr 1)), some (.inr (.inr 182)), some (.inl v3)] [] h Q) ∧
        ((zand (xs (v3).toNat) 31) = 7 →
          Rn xs xl e mm_OneSidedLaw_law 477 [some (.inr (.inr (-2))), some (.inr (.inr 1)), some (.inr (.inr 182)), some (.inl v3)] [] h Q) ∧
        ((zand (xs (v3).toNat) 31) = 8 →
          Rn xs xl e mm_OneSidedLaw_law 500 [some (.inr (.inr (-2))), some (.inr (.inr 1)), some (.inr (.inr 182)), some (.inl v3)] [] h Q) ∧
        ((zand (xs (v3).toNat) 31) = 9 →
          Rn xs xl e mm_OneSidedLaw_law 549 [some (.inr (.inr (-2))), some (.inr (.inr 1)), some (.inr (.inr 182)), some (.inl v3)] [] h Q) ∧
        ((zand (xs (v3).toNat) 31) = 10 →
          Rn xs xl e mm_OneSidedLaw_law 562 [some (.inr (.inr (-2))), some (.inr (.inr 1)), some (.inr (.inr 182)), some (.inl v3)] [] h Q) ∧
        ((zand (xs (v3).toNat) 31) = 11 →
          Rn xs xl e mm_OneSidedLaw_law 585 [some (.inr (.inr (-2))), some (.inr (.inr 1)), some (.inr (.inr 182)), some (.inl v3)] [] h Q) ∧
        ((zand (xs (v3).toNat) 31) = 12 →
          Rn xs xl e mm_OneSidedLaw_law 618 [some (.inr (.inr (-2))), some (.inr (.inr 1)), some (.inr (.inr 182)), some (.inl v3)] [] h Q) ∧
        ((zand (xs (v3).toNat) 31) = 13 →
          Rn xs xl e mm_OneSidedLaw_law 651 [some (.inr (.inr (-2))), some (.inr (.inr 1)), some (.inr (.inr 182)), some (.inl v3)] [] h Q) ∧
        ((zand (xs (v3).toNat) 31) = 14 →
          Rn xs xl e mm_OneSidedLaw_law 674 [some (.inr (.inr (-2))), some (.inr (.inr 1)), some (.inr (.inr 182)), some (.inl v3)] [] h Q) ∧
        ((zand (xs (v3).toNat) 31) = 15 →
          Rn xs xl e mm_OneSidedLaw_law 687 [some (.inr (.inr (-2))), some (.inr (.inr 1)), some (.inr (.inr 182)), some (.inl v3)] [] h Q) ∧
        ((zand (xs (v3).toNat) 31) = 16 →
          Rn xs xl e mm_OneSidedLaw_law 730 [some (.inr (.inr (-2))), some (.inr (.inr 1)), some (.inr (.inr 182)), some (.inl v3)] [] h Q) ∧
        ((zand (xs (v3).toNat) 31) = 17 →
          Rn xs xl e mm_OneSidedLaw_law 773 [some (.inr (.inr (-2))), some (.inr (.inr 1)), some (.inr (.inr 182)), some (.inl v3)] [] h Q) ∧
        ((zand (xs (v3).toNat) 31) = 18 →
          Rn xs xl e mm_OneSidedLaw_law 806 [some (.inr (.inr (-2))), some (.inr (.inr 1)), some (.inr (.inr 182)), some (.inl v3)] [] h Q) ∧
        ((zand (xs (v3).toNat) 31) = 19 →
          Rn xs xl e mm_OneSidedLaw_law 839 [some (.inr (.inr (-2))), some (.inr (.inr 1)), some (.inr (.inr 182)), some (.inl v3)] [] h Q) ∧
        ((zand (xs (v3).toNat) 31) = 20 →
          Rn xs xl e mm_OneSidedLaw_law 892 [some (.inr (.inr (-2))), some (.inr (.inr 1)), some (.inr (.inr 182)), some (.inl v3)] [] h Q) ∧
        ((zand (xs (v3).toNat) 31) = 21 →
          Rn xs xl e mm_OneSidedLaw_law 935 [some (.inr (.inr (-2))), some (.inr (.inr 1)), some (.inr (.inr 182)), some (.inl v3)] [] h Q) ∧
        ((zand (xs (v3).toNat) 31) = 22 →
          Rn xs xl e mm_OneSidedLaw_law 994 [some (.inr (.inr (-2))), some (.inr (.inr 1)), some (.inr (.inr 182)), some (.inl v3)] [] h Q) ∧
        ((zand (xs (v3).toNat) 31) = 23 →
          Rn xs xl e mm_OneSidedLaw_law 1017 [some (.inr (.inr (-2))), some (.inr (.inr 1)), some (.inr (.inr 182)), some (.inl v3)] [] h Q) ∧
        ((zand (xs (v3).toNat) 31) = 24 →
          Rn xs xl e mm_OneSidedLaw_law 1060 [some (.inr (.inr (-2))), some (.inr (.inr 1)), some (.inr (.inr 182)), some (.inl v3)] [] h Q) ∧
        ((zand (xs (v3).toNat) 31) = 25 →
          Rn xs xl e mm_OneSidedLaw_law 1093 [some (.inr (.inr (-2))), some (.inr (.inr 1)), some (.inr (.inr 182)), some (.inl v3)] [] h Q) ∧
        ((zand (xs (v3).toNat) 31) = 26 →
          Rn xs xl e mm_OneSidedLaw_law 1116 [some (.inr (.inr (-2))), some (.inr (.inr 1)), some (.inr (.inr 182)), some (.inl v3)] [] h Q) ∧
        ((zand (xs (v3).toNat) 31) = 27 →
          Rn xs xl e mm_OneSidedLaw_law 1159 [some (.inr (.inr (-2))), some (.inr (.inr 1)), some (.inr (.inr 182)), some (.inl v3)] [] h Q) ∧
        ((zand (xs (v3).toNat) 31) = 28 →
          Rn xs xl e mm_OneSidedLaw_law 1208 [some (.inr (.inr (-2))), some (.inr (.inr 1)), some (.inr (.inr 182)), some (.inl v3)] [] h Q) ∧
        ((zand (xs (v3).toNat) 31) < 0 ∨ 28 < (zand (xs (v3).toNat) 31) →
          Rn xs xl e mm_OneSidedLaw_law 1231 [some (.inr (.inr (-2))), some (.inr (.inr 1)), some (.inr (.inr 182)), some (.inl v3)] [] h Q))) :
    Rn xs xl e mm_OneSidedLaw_law 18 [some (.inr (.inr (-2))), some (.inr (.inr 1)), some (.inr (.inr 182)), some (.inl v3)] [] h Q := by
  refine R_ld (v := .inl v3) dd_OneSidedLaw_law_18 rfl rfl rfl rfl ?_
  refine R_ld (v := .inr (.inr (-2))) dd_OneSidedLaw_law_19 rfl rfl rfl rfl ?_
  refine R_slen dd_OneSidedLaw_law_20 rfl ?_
  refine R_bi dd_OneSidedLaw_law_21 (by decide) rfl ?_
  obtain ⟨s1, k⟩ := k
  refine R_isub (c := (xl : Int) - 7) dd_OneSidedLaw_law_23 (by omega) s1 rfl ?_
  refine R_icmp dd_OneSidedLaw_law_24 rfl rfl (fun (c3 : ((xl : Int) - 7) < v3) => ?_) (fun (c3 : v3 ≤ ((xl : Int) - 7)) => ?_)
  · replace k := k.1 c3
    refine R_ic dd_OneSidedLaw_law_1237 (by decide) rfl ?_
    exact R_zret dd_OneSidedLaw_law_1238 rfl (by decide) k
  · replace k := k.2 c3
    refine R_ld (v := .inr (.inr (-2))) dd_OneSidedLaw_law_27 rfl rfl rfl rfl ?_
    refine R_ld (v := .inl v3) dd_OneSidedLaw_law_28 rfl rfl rfl rfl ?_
    obtain ⟨s2, k⟩ := k
    refine R_sld dd_OneSidedLaw_law_29 s2 rfl ?_
    refine R_bi dd_OneSidedLaw_law_30 (by decide) rfl ?_
    refine R_A dd_OneSidedLaw_law_32 rfl rfl rfl rfl ?_
    rcases (show ((zand (xs (v3).toNat) 31) = 0) ∨ ((zand (xs (v3).toNat) 31) = 1) ∨ ((zand (xs (v3).toNat) 31) = 2) ∨ ((zand (xs (v3).toNat) 31) = 3) ∨ ((zand (xs (v3).toNat) 31) = 4) ∨ ((zand (xs (v3).toNat) 31) = 5) ∨ ((zand (xs (v3).toNat) 31) = 6) ∨ ((zand (xs (v3).toNat) 31) = 7) ∨ ((zand (xs (v3).toNat) 31) = 8) ∨ ((zand (xs (v3).toNat) 31) = 9) ∨ ((zand (xs (v3).toNat) 31) = 10) ∨ ((zand (xs (v3).toNat) 31) = 11) ∨ ((zand (xs (v3).toNat) 31) = 12) ∨ ((zand (xs (v3).toNat) 31) = 13) ∨ ((zand (xs (v3).toNat) 31) = 14) ∨ ((zand (xs (v3).toNat) 31) = 15) ∨ ((zand (xs (v3).toNat) 31) = 16) ∨ ((zand (xs (v3).toNat) 31) = 17) ∨ ((zand (xs (v3).toNat) 31) = 18) ∨ ((zand (xs (v3).toNat) 31) = 19) ∨ ((zand (xs (v3).toNat) 31) = 20) ∨ ((zand (xs (v3).toNat) 31) = 21) ∨ ((zand (xs (v3).toNat) 31) = 22) ∨ ((zand (xs (v3).toNat) 31) = 23) ∨ ((zand (xs (v3).toNat) 31) = 24) ∨ ((zand (xs (v3).toNat) 31) = 25) ∨ ((zand (xs (v3).toNat) 31) = 26) ∨ ((zand (xs (v3).toNat) 31) = 27) ∨ ((zand (xs (v3).toNat) 31) = 28) ∨ ((zand (xs (v3).toNat) 31) < 0 ∨ 28 < (zand (xs (v3).toNat) 31)) by omega) with c4 | c4 | c4 | c4 | c4 | c4 | c4 | c4 | c4 | c4 | c4 | c4 | c4 | c4 | c4 | c4 | c4 | c4 | c4 | c4 | c4 | c4 | c4 | c4 | c4 | c4 | c4 | c4 | c4 | c4
    · replace k := k.1 c4
      refine R_swj (v := 0) dd_OneSidedLaw_law_33 c4 (by decide) rfl rfl ?_
      exact k
    · replace k := k.2.1 c4
      refine R_swj (v := 1) dd_OneSidedLaw_law_33 c4 (by decide) rfl rfl ?_
      exact k
    · replace k := k.2.2.1 c4
      refine R_swj (v := 2) dd_OneSidedLaw_law_33 c4 (by decide) rfl rfl ?_
      exact k
    · replace k := k.2.2.2.1 c4
      refine R_swj (v := 3) dd_OneSidedLaw_law_33 c4 (by decide) rfl rfl ?_
      exact k
    · replace k := k.2.2.2.2.1 c4
      refine R_swj (v := 4) dd_OneSidedLaw_law_33 c4 (by decide) rfl rfl ?_
      exact k
    · replace k := k.2.2.2.2.2.1 c4
      refine R_swj (v := 5) dd_OneSidedLaw_law_33 c4 (by decide) rfl rfl ?_
      exact k
    · replace k := k.2.2.2.2.2.2.1 c4
      refine R_swj (v := 6) dd_OneSidedLaw_law_33 c4 (by decide) rfl rfl ?_
      exact k
    · replace k := k.2.2.2.2.2.2.2.1 c4
      refine R_swj (v := 7) dd_OneSidedLaw_law_33 c4 (by decide) rfl rfl ?_
      exact k
    · replace k := k.2.2.2.2.2.2.2.2.1 c4
      refine R_swj (v := 8) dd_OneSidedLaw_law_33 c4 (by decide) rfl rfl ?_
      exact k
    · replace k := k.2.2.2.2.2.2.2.2.2.1 c4
      refine R_swj (v := 9) dd_OneSidedLaw_law_33 c4 (by decide) rfl rfl ?_
      exact k
    · replace k := k.2.2.2.2.2.2.2.2.2.2.1 c4
      refine R_swj (v := 10) dd_OneSidedLaw_law_33 c4 (by decide) rfl rfl ?_
      exact k
    · replace k := k.2.2.2.2.2.2.2.2.2.2.2.1 c4
      refine R_swj (v := 11) dd_OneSidedLaw_law_33 c4 (by decide) rfl rfl ?_
      exact k
    · replace k := k.2.2.2.2.2.2.2.2.2.2.2.2.1 c4
      refine R_swj (v := 12) dd_OneSidedLaw_law_33 c4 (by decide) rfl rfl ?_
      exact k
    · replace k := k.2.2.2.2.2.2.2.2.2.2.2.2.2.1 c4
      refine R_swj (v := 13) dd_OneSidedLaw_law_33 c4 (by decide) rfl rfl ?_
      exact k
    · replace k := k.2.2.2.2.2.2.2.2.2.2.2.2.2.2.1 c4
      refine R_swj (v := 14) dd_OneSidedLaw_law_33 c4 (by decide) rfl rfl ?_
      exact k
    · replace k := k.2.2.2.2.2.2.2.2.2.2.2.2.2.2.2.1 c4
      refine R_swj (v := 15) dd_OneSidedLaw_law_33 c4 (by decide) rfl rfl ?_
      exact k
    · replace k := k.2.2.2.2.2.2.2.2.2.2.2.2.2.2.2.2.1 c4
      refine R_swj (v := 16) dd_OneSidedLaw_law_33 c4 (by decide) rfl rfl ?_
      exact k
    · replace k := k.2.2.2.2.2.2.2.2.2.2.2.2.2.2.2.2.2.1 c4
      refine R_swj (v := 17) dd_OneSidedLaw_law_33 c4 (by decide) rfl rfl ?_
      exact k
    · replace k := k.2.2.2.2.2.2.2.2.2.2.2.2.2.2.2.2.2.2.1 c4
      refine R_swj (v := 18) dd_OneSidedLaw_law_33 c4 (by decide) rfl rfl ?_
      exact k
    · replace k := k.2.2.2.2.2.2.2.2.2.2.2.2.2.2.2.2.2.2.2.1 c4
      refine R_swj (v := 19) dd_OneSidedLaw_law_33 c4 (by decide) rfl rfl ?_
      exact k
    · replace k := k.2.2.2.2.2.2.2.2.2.2.2.2.2.2.2.2.2.2.2.2.1 c4
      refine R_swj (v := 20) dd_OneSidedLaw_law_33 c4 (by decide) rfl rfl ?_
      exact k
    · replace k := k.2.2.2.2.2.2.2.2.2.2.2.2.2.2.2.2.2.2.2.2.2.1 c4
      refine R_swj (v := 21) dd_OneSidedLaw_law_33 c4 (by decide) rfl rfl ?_
      exact k
    · replace k := k.2.2.2.2.2.2.2.2.2.2.2.2.2.2.2.2.2.2.2.2.2.2.1 c4
      refine R_swj (v := 22) dd_OneSidedLaw_law_33 c4 (by decide) rfl rfl ?_
      exact k
    · replace k := k.2.2.2.2.2.2.2.2.2.2.2.2.2.2.2.2.2.2.2.2.2.2.2.1 c4
      refine R_swj (v := 23) dd_OneSidedLaw_law_33 c4 (by decide) rfl rfl ?_
      exact k
    · replace k := k.2.2.2.2.2.2.2.2.2.2.2.2.2.2.2.2.2.2.2.2.2.2.2.2.1 c4
      refine R_swj (v := 24) dd_OneSidedLaw_law_33 c4 (by decide) rfl rfl ?_
      exact k
    · replace k := k.2.2.2.2.2.2.2.2.2.2.2.2.2.2.2.2.2.2.2.2.2.2.2.2.2.1 c4
      refine R_swj (v := 25) dd_OneSidedLaw_law_33 c4 (by decide) rfl rfl ?_
      exact k
    · replace k := k.2.2.2.2.2.2.2.2.2.2.2.2.2.2.2.2.2.2.2.2.2.2.2.2.2.2.1 c4
      refine R_swj (v := 26) dd_OneSidedLaw_law_33 c4 (by decide) rfl rfl ?_
      exact k
    · replace k := k.2.2.2.2.2.2.2.2.2.2.2.2.2.2.2.2.2.2.2.2.2.2.2.2.2.2.2.1 c4
      refine R_swj (v := 27) dd_OneSidedLaw_law_33 c4 (by decide) rfl rfl ?_
      exact k
    · replace k := k.2.2.2.2.2.2.2.2.2.2.2.2.2.2.2.2.2.2.2.2.2.2.2.2.2.2.2.2.1 c4
      refine R_swj (v := 28) dd_OneSidedLaw_law_33 c4 (by decide) rfl rfl ?_
      exact k
    · replace k := k.2.2.2.2.2.2.2.2.2.2.2.2.2.2.2.2.2.2.2.2.2.2.2.2.2.2.2.2.2 c4
      refine R_swd dd_OneSidedLaw_law_33 c4 rfl ?_
      exact k
theorem B_law_164 {xs : Nat → Int} {xl e : Nat} {h : LH} {Q : Option LV → LH → Prop} {v3 : Int} (hF : RF h) (r_v3 : 0 ≤ v3 ∧ v3 ≤ 3577)
    (k : (0 ≤ v3 + 1 ∧ v3 + 1 < (xl : Int)) ∧
      (0 ≤ v3 + 2 ∧ v3 + 2 < (xl : Int)) ∧
      (0 ≤ v3 + 3 ∧ v3 + 3 < (xl : Int)) ∧
      (0 ≤ v3 + 4 ∧ v3 + 4 < (xl : Int)) ∧
      (0 ≤ v3 + 5 ∧ v3 + 5 < (xl : Int)) ∧
      (0 ≤ v3 + 6 ∧ v3 + 6 < (xl : Int)) ∧
      (∃ c, c < e ∧ Rn xs xl c mm_OneSided_feed 0 [some (.inr (.inr 1)), some (.inr (.inl (lor_ (lshl_ (xs (v3 + 1).toNat) 32) (land_ (xs (v3 + 2).toNat) (4294967295))))), none, some (.inr (.inl (lor_ (lshl_ (xs (v3 + 3).toNat) 32) (land_ (xs (v3 + 4).toNat) (4294967295))))), none, some (.inr (.inl (lor_ (lshl_ (xs (v3 + 5).toNat) 32) (land_ (xs (v3 + 6).toNat) (4294967295))))), none] [] h (fun r h' => Rn xs xl e mm_OneSidedLaw_law 229 [some (.inr (.inr (-2))), some (.inr (.inr 1)), some (.inr (.inr 182)), some (.inl v3)] (r.toList ++ []) h' Q))) :
    Rn xs xl e mm_OneSidedLaw_law 164 [some (.inr (.inr (-2))), some (.inr (.inr 1)), some (.inr (.inr 182)), some (.inl v3)] [] h Q := by
  refine R_ld (v := .inr (.inr 1)) dd_OneSidedLaw_law_164 rfl rfl rfl rfl ?_
  refine R_ld (v := .inr (.inr (-2))) dd_OneSidedLaw_law_165 rfl rfl rfl rfl ?_
  refine R_ld (v := .inl v3) dd_OneSidedLaw_law_166 rfl rfl rfl rfl ?_
  refine R_ic dd_OneSidedLaw_law_167 (by decide) rfl ?_
  refine R_iadd (c := v3 + 1) dd_OneSidedLaw_law_168 (by omega) (by omega) rfl ?_
  obtain ⟨s1, k⟩ := k
  refine R_sld dd_OneSidedLaw_law_169 s1 rfl ?_
  refine R_A dd_OneSidedLaw_law_170 rfl rfl rfl rfl ?_
  refine R_bi dd_OneSidedLaw_law_171 (by decide) rfl ?_
  refine R_A dd_OneSidedLaw_law_173 rfl rfl rfl rfl ?_
  refine R_ld (v := .inr (.inr (-2))) dd_OneSidedLaw_law_174 rfl rfl rfl rfl ?_
  refine R_ld (v := .inl v3) dd_OneSidedLaw_law_175 rfl rfl rfl rfl ?_
  refine R_ic dd_OneSidedLaw_law_176 (by decide) rfl ?_
  refine R_iadd (c := v3 + 2) dd_OneSidedLaw_law_177 (by omega) (by omega) rfl ?_
  obtain ⟨s2, k⟩ := k
  refine R_sld dd_OneSidedLaw_law_178 s2 rfl ?_
  refine R_A dd_OneSidedLaw_law_179 rfl rfl rfl rfl ?_
  refine R_C (v := .inr (.inl (4294967295))) dd_OneSidedLaw_law_180 rfl rfl (by decide +kernel) rfl ?_
  refine R_A dd_OneSidedLaw_law_183 rfl rfl rfl rfl ?_
  refine R_A dd_OneSidedLaw_law_184 rfl rfl rfl rfl ?_
  refine R_ld (v := .inr (.inr (-2))) dd_OneSidedLaw_law_185 rfl rfl rfl rfl ?_
  refine R_ld (v := .inl v3) dd_OneSidedLaw_law_186 rfl rfl rfl rfl ?_
  refine R_ic dd_OneSidedLaw_law_187 (by decide) rfl ?_
  refine R_iadd (c := v3 + 3) dd_OneSidedLaw_law_188 (by omega) (by omega) rfl ?_
  obtain ⟨s3, k⟩ := k
  refine R_sld dd_OneSidedLaw_law_189 s3 rfl ?_
  refine R_A dd_OneSidedLaw_law_190 rfl rfl rfl rfl ?_
  refine R_bi dd_OneSidedLaw_law_191 (by decide) rfl ?_
  refine R_A dd_OneSidedLaw_law_193 rfl rfl rfl rfl ?_
  refine R_ld (v := .inr (.inr (-2))) dd_OneSidedLaw_law_194 rfl rfl rfl rfl ?_
  refine R_ld (v := .inl v3) dd_OneSidedLaw_law_195 rfl rfl rfl rfl ?_
  refine R_ic dd_OneSidedLaw_law_196 (by decide) rfl ?_
  refine R_iadd (c := v3 + 4) dd_OneSidedLaw_law_197 (by omega) (by omega) rfl ?_
  obtain ⟨s4, k⟩ := k
  refine R_sld dd_OneSidedLaw_law_198 s4 rfl ?_
  refine R_A dd_OneSidedLaw_law_199 rfl rfl rfl rfl ?_
  refine R_C (v := .inr (.inl (4294967295))) dd_OneSidedLaw_law_200 rfl rfl (by decide +kernel) rfl ?_
  refine R_A dd_OneSidedLaw_law_203 rfl rfl rfl rfl ?_
  refine R_A dd_OneSidedLaw_law_204 rfl rfl rfl rfl ?_
  refine R_ld (v := .inr (.inr (-2))) dd_OneSidedLaw_law_205 rfl rfl rfl rfl ?_
  refine R_ld (v := .inl v3) dd_OneSidedLaw_law_206 rfl rfl rfl rfl ?_
  refine R_ic dd_OneSidedLaw_law_207 (by decide) rfl ?_
  refine R_iadd (c := v3 + 5) dd_OneSidedLaw_law_208 (by omega) (by omega) rfl ?_
  obtain ⟨s5, k⟩ := k
  refine R_sld dd_OneSidedLaw_law_209 s5 rfl ?_
  refine R_A dd_OneSidedLaw_law_210 rfl rfl rfl rfl ?_
  refine R_bi dd_OneSidedLaw_law_211 (by decide) rfl ?_
  refine R_A dd_OneSidedLaw_law_213 rfl rfl rfl rfl ?_
  refine R_ld (v := .inr (.inr (-2))) dd_OneSidedLaw_law_214 rfl rfl rfl rfl ?_
  refine R_ld (v := .inl v3) dd_OneSidedLaw_law_215 rfl rfl rfl rfl ?_
  refine R_bi dd_OneSidedLaw_law_216 (by decide) rfl ?_
  refine R_iadd (c := v3 + 6) dd_OneSidedLaw_law_218 (by omega) (by omega) rfl ?_
  obtain ⟨s6, k⟩ := k
  refine R_sld dd_OneSidedLaw_law_219 s6 rfl ?_
  refine R_A dd_OneSidedLaw_law_220 rfl rfl rfl rfl ?_
  refine R_C (v := .inr (.inl (4294967295))) dd_OneSidedLaw_law_221 rfl rfl (by decide +kernel) rfl ?_
  refine R_A dd_OneSidedLaw_law_224 rfl rfl rfl rfl ?_
  refine R_A dd_OneSidedLaw_law_225 rfl rfl rfl rfl ?_
  obtain ⟨c, hc, k⟩ := k
  exact R_call (as := [.inr (.inr 1), .inr (.inl (lor_ (lshl_ (xs (v3 + 1).toNat) 32) (land_ (xs (v3 + 2).toNat) (4294967295)))), .inr (.inl (lor_ (lshl_ (xs (v3 + 3).toNat) 32) (land_ (xs (v3 + 4).toNat) (4294967295)))), .inr (.inl (lor_ (lshl_ (xs (v3 + 5).toNat) 32) (land_ (xs (v3 + 6).toNat) (4294967295))))]) (rest := []) (M' := mm_OneSided_feed) (ls0 := [some (.inr (.inr 1)), some (.inr (.inl (lor_ (lshl_ (xs (v3 + 1).toNat) 32) (land_ (xs (v3 + 2).toNat) (4294967295))))), none, some (.inr (.inl (lor_ (lshl_ (xs (v3 + 3).toNat) 32) (land_ (xs (v3 + 4).toNat) (4294967295))))), none, some (.inr (.inl (lor_ (lshl_ (xs (v3 + 5).toNat) 32) (land_ (xs (v3 + 6).toNat) (4294967295))))), none]) dd_OneSidedLaw_law_226 rfl rfl (cw_v cw_13_15 io_1 rfl rfl (Nat.le_of_ble_eq_true rfl) (Nat.le_of_ble_eq_true rfl)) mt_OneSided_feed rfl hc rfl k
theorem B_law_229 {xs : Nat → Int} {xl e : Nat} {h : LH} {Q : Option LV → LH → Prop} {v3 w0 : Int} (hF : RF h) (r_v3 : 0 ≤ v3 ∧ v3 ≤ 3577)
    (k : (0 ≤ v3 + 1 ∧ v3 + 1 < (xl : Int)) ∧
      (0 ≤ v3 + 2 ∧ v3 + 2 < (xl : Int)) ∧
      (0 ≤ v3 + 3 ∧ v3 + 3 < (xl : Int)) ∧
      (0 ≤ v3 + 4 ∧ v3 + 4 < (xl : Int)) ∧
      (0 ≤ v3 + 5 ∧ v3 + 5 < (xl : Int)) ∧
      (0 ≤ v3 + 6 ∧ v3 + 6 < (xl : Int)) ∧
      (∃ c, c < e ∧ Rn xs xl c mm_feed 0 [some (.inr (.inr 182)), some (.inr (.inl (lor_ (lshl_ (xs (v3 + 1).toNat) 32) (land_ (xs (v3 + 2).toNat) (4294967295))))), none, some (.inr (.inl (lor_ (lshl_ (xs (v3 + 3).toNat) 32) (land_ (xs (v3 + 4).toNat) (4294967295))))), none, some (.inr (.inl (lor_ (lshl_ (xs (v3 + 5).toNat) 32) (land_ (xs (v3 + 6).toNat) (4294967295))))), none] [] h (fun r h' => Rn xs xl e mm_OneSidedLaw_law 295 [some (.inr (.inr (-2))), some (.inr (.inr 1)), some (.inr (.inr 182)), some (.inl v3)] (r.toList ++ []) h' Q))) :
    Rn xs xl e mm_OneSidedLaw_law 229 [some (.inr (.inr (-2))), some (.inr (.inr 1)), some (.inr (.inr 182)), some (.inl v3)] [.inl w0] h Q := by
  refine R_A dd_OneSidedLaw_law_229 rfl rfl rfl rfl ?_
  refine R_ld (v := .inr (.inr 182)) dd_OneSidedLaw_law_230 rfl rfl rfl rfl ?_
  refine R_ld (v := .inr (.inr (-2))) dd_OneSidedLaw_law_231 rfl rfl rfl rfl ?_
  refine R_ld (v := .inl v3) dd_OneSidedLaw_law_232 rfl rfl rfl rfl ?_
  refine R_ic dd_OneSidedLaw_law_233 (by decide) rfl ?_
  refine R_iadd (c := v3 + 1) dd_OneSidedLaw_law_234 (by omega) (by omega) rfl ?_
  obtain ⟨s1, k⟩ := k
  refine R_sld dd_OneSidedLaw_law_235 s1 rfl ?_
  refine R_A dd_OneSidedLaw_law_236 rfl rfl rfl rfl ?_
  refine R_bi dd_OneSidedLaw_law_237 (by decide) rfl ?_
  refine R_A dd_OneSidedLaw_law_239 rfl rfl rfl rfl ?_
  refine R_ld (v := .inr (.inr (-2))) dd_OneSidedLaw_law_240 rfl rfl rfl rfl ?_
  refine R_ld (v := .inl v3) dd_OneSidedLaw_law_241 rfl rfl rfl rfl ?_
  refine R_ic dd_OneSidedLaw_law_242 (by decide) rfl ?_
  refine R_iadd (c := v3 + 2) dd_OneSidedLaw_law_243 (by omega) (by omega) rfl ?_
  obtain ⟨s2, k⟩ := k
  refine R_sld dd_OneSidedLaw_law_244 s2 rfl ?_
  refine R_A dd_OneSidedLaw_law_245 rfl rfl rfl rfl ?_
  refine R_C (v := .inr (.inl (4294967295))) dd_OneSidedLaw_law_246 rfl rfl (by decide +kernel) rfl ?_
  refine R_A dd_OneSidedLaw_law_249 rfl rfl rfl rfl ?_
  refine R_A dd_OneSidedLaw_law_250 rfl rfl rfl rfl ?_
  refine R_ld (v := .inr (.inr (-2))) dd_OneSidedLaw_law_251 rfl rfl rfl rfl ?_
  refine R_ld (v := .inl v3) dd_OneSidedLaw_law_252 rfl rfl rfl rfl ?_
  refine R_ic dd_OneSidedLaw_law_253 (by decide) rfl ?_
  refine R_iadd (c := v3 + 3) dd_OneSidedLaw_law_254 (by omega) (by omega) rfl ?_
  obtain ⟨s3, k⟩ := k
  refine R_sld dd_OneSidedLaw_law_255 s3 rfl ?_
  refine R_A dd_OneSidedLaw_law_256 rfl rfl rfl rfl ?_
  refine R_bi dd_OneSidedLaw_law_257 (by decide) rfl ?_
  refine R_A dd_OneSidedLaw_law_259 rfl rfl rfl rfl ?_
  refine R_ld (v := .inr (.inr (-2))) dd_OneSidedLaw_law_260 rfl rfl rfl rfl ?_
  refine R_ld (v := .inl v3) dd_OneSidedLaw_law_261 rfl rfl rfl rfl ?_
  refine R_ic dd_OneSidedLaw_law_262 (by decide) rfl ?_
  refine R_iadd (c := v3 + 4) dd_OneSidedLaw_law_263 (by omega) (by omega) rfl ?_
  obtain ⟨s4, k⟩ := k
  refine R_sld dd_OneSidedLaw_law_264 s4 rfl ?_
  refine R_A dd_OneSidedLaw_law_265 rfl rfl rfl rfl ?_
  refine R_C (v := .inr (.inl (4294967295))) dd_OneSidedLaw_law_266 rfl rfl (by decide +kernel) rfl ?_
  refine R_A dd_OneSidedLaw_law_269 rfl rfl rfl rfl ?_
  refine R_A dd_OneSidedLaw_law_270 rfl rfl rfl rfl ?_
  refine R_ld (v := .inr (.inr (-2))) dd_OneSidedLaw_law_271 rfl rfl rfl rfl ?_
  refine R_ld (v := .inl v3) dd_OneSidedLaw_law_272 rfl rfl rfl rfl ?_
  refine R_ic dd_OneSidedLaw_law_273 (by decide) rfl ?_
  refine R_iadd (c := v3 + 5) dd_OneSidedLaw_law_274 (by omega) (by omega) rfl ?_
  obtain ⟨s5, k⟩ := k
  refine R_sld dd_OneSidedLaw_law_275 s5 rfl ?_
  refine R_A dd_OneSidedLaw_law_276 rfl rfl rfl rfl ?_
  refine R_bi dd_OneSidedLaw_law_277 (by decide) rfl ?_
  refine R_A dd_OneSidedLaw_law_279 rfl rfl rfl rfl ?_
  refine R_ld (v := .inr (.inr (-2))) dd_OneSidedLaw_law_280 rfl rfl rfl rfl ?_
  refine R_ld (v := .inl v3) dd_OneSidedLaw_law_281 rfl rfl rfl rfl ?_
  refine R_bi dd_OneSidedLaw_law_282 (by decide) rfl ?_
  refine R_iadd (c := v3 + 6) dd_OneSidedLaw_law_284 (by omega) (by omega) rfl ?_
  obtain ⟨s6, k⟩ := k
  refine R_sld dd_OneSidedLaw_law_285 s6 rfl ?_
  refine R_A dd_OneSidedLaw_law_286 rfl rfl rfl rfl ?_
  refine R_C (v := .inr (.inl (4294967295))) dd_OneSidedLaw_law_287 rfl rfl (by decide +kernel) rfl ?_
  refine R_A dd_OneSidedLaw_law_290 rfl rfl rfl rfl ?_
  refine R_A dd_OneSidedLaw_law_291 rfl rfl rfl rfl ?_
  obtain ⟨c, hc, k⟩ := k
  exact R_call (as := [.inr (.inr 182), .inr (.inl (lor_ (lshl_ (xs (v3 + 1).toNat) 32) (land_ (xs (v3 + 2).toNat) (4294967295)))), .inr (.inl (lor_ (lshl_ (xs (v3 + 3).toNat) 32) (land_ (xs (v3 + 4).toNat) (4294967295)))), .inr (.inl (lor_ (lshl_ (xs (v3 + 5).toNat) 32) (land_ (xs (v3 + 6).toNat) (4294967295))))]) (rest := []) (M' := mm_feed) (ls0 := [some (.inr (.inr 182)), some (.inr (.inl (lor_ (lshl_ (xs (v3 + 1).toNat) 32) (land_ (xs (v3 + 2).toNat) (4294967295))))), none, some (.inr (.inl (lor_ (lshl_ (xs (v3 + 3).toNat) 32) (land_ (xs (v3 + 4).toNat) (4294967295))))), none, some (.inr (.inl (lor_ (lshl_ (xs (v3 + 5).toNat) 32) (land_ (xs (v3 + 6).toNat) (4294967295))))), none]) dd_OneSidedLaw_law_292 rfl rfl (cw_v cw_13_19 io_182 rfl rfl (Nat.le_of_ble_eq_true rfl) (Nat.le_of_ble_eq_true rfl)) mt_feed rfl hc rfl k
theorem B_law_295 {xs : Nat → Int} {xl e : Nat} {h : LH} {Q : Option LV → LH → Prop} {v3 w0 : Int} (hF : RF h) (r_v3 : 0 ≤ v3 ∧ v3 ≤ 3577)
    (k : Rn xs xl e mm_OneSidedLaw_law 1231 [some (.inr (.inr (-2))), some (.inr (.inr 1)), some (.inr (.inr 182)), some (.inl v3)] [] h Q) :
    Rn xs xl e mm_OneSidedLaw_law 295 [some (.inr (.inr (-2))), some (.inr (.inr 1)), some (.inr (.inr 182)), some (.inl v3)] [.inl w0] h Q := by
  refine R_A dd_OneSidedLaw_law_295 rfl rfl rfl rfl ?_
  refine R_goto dd_OneSidedLaw_law_296 rfl ?_
  exact k
theorem B_law_299 {xs : Nat → Int} {xl e : Nat} {h : LH} {Q : Option LV → LH → Prop} {v3 : Int} (hF : RF h) (r_v3 : 0 ≤ v3 ∧ v3 ≤ 3577)
    (k : (∃ c, c < e ∧ Rn xs xl c mm_OneSided_quarter 0 [some (.inr (.inr 1)), none, none] [] h (fun r h' => Rn xs xl e mm_OneSidedLaw_law 303 [some (.inr (.inr (-2))), some (.inr (.inr 1)), some (.inr (.inr 182)), some (.inl v3)] (r.toList ++ []) h' Q))) :
    Rn xs xl e mm_OneSidedLaw_law 299 [some (.inr (.inr (-2))), some (.inr (.inr 1)), some (.inr (.inr 182)), some (.inl v3)] [] h Q := by
  refine R_ld (v := .inr (.inr 1)) dd_OneSidedLaw_law_299 rfl rfl rfl rfl ?_
  obtain ⟨c, hc, k⟩ := k
  exact R_call (as := [.inr (.inr 1)]) (rest := []) (M' := mm_OneSided_quarter) (ls0 := [some (.inr (.inr 1)), none, none]) dd_OneSidedLaw_law_300 rfl rfl (cw_v cw_13_20 io_1 rfl rfl (Nat.le_of_ble_eq_true rfl) (Nat.le_of_ble_eq_true rfl)) mt_OneSided_quarter rfl hc rfl k
theorem B_law_303 {xs : Nat → Int} {xl e : Nat} {h : LH} {Q : Option LV → LH → Prop} {v3 w0 : Int} (hF : RF h) (r_v3 : 0 ≤ v3 ∧ v3 ≤ 3577)
    (k : (∃ c, c < e ∧ Rn xs xl c mm_quarter 0 [some (.inr (.inr 182)), none] [] h (fun r h' => Rn xs xl e mm_OneSidedLaw_law 308 [some (.inr (.inr (-2))), some (.inr (.inr 1)), some (.inr (.inr 182)), some (.inl v3)] (r.toList ++ []) h' Q))) :
    Rn xs xl e mm_OneSidedLaw_law 303 [some (.inr (.inr (-2))), some (.inr (.inr 1)), some (.inr (.inr 182)), some (.inl v3)] [.inl w0] h Q := by
  refine R_A dd_OneSidedLaw_law_303 rfl rfl rfl rfl ?_
  refine R_ld (v := .inr (.inr 182)) dd_OneSidedLaw_law_304 rfl rfl rfl rfl ?_
  obtain ⟨c, hc, k⟩ := k
  exact R_call (as := [.inr (.inr 182)]) (rest := []) (M' := mm_quarter) (ls0 := [some (.inr (.inr 182)), none]) dd_OneSidedLaw_law_305 rfl rfl (cw_v cw_13_24 io_182 rfl rfl (Nat.le_of_ble_eq_true rfl) (Nat.le_of_ble_eq_true rfl)) mt_quarter rfl hc rfl k
theorem B_law_308 {xs : Nat → Int} {xl e : Nat} {h : LH} {Q : Option LV → LH → Prop} {v3 w0 : Int} (hF : RF h) (r_v3 : 0 ≤ v3 ∧ v3 ≤ 3577)
    (k : Rn xs xl e mm_OneSidedLaw_law 1231 [some (.inr (.inr (-2))), some (.inr (.inr 1)), some (.inr (.inr 182)), some (.inl v3)] [] h Q) :
    Rn xs xl e mm_OneSidedLaw_law 308 [some (.inr (.inr (-2))), some (.inr (.inr 1)), some (.inr (.inr 182)), some (.inl v3)] [.inl w0] h Q := by
  refine R_A dd_OneSidedLaw_law_308 rfl rfl rfl rfl ?_
  refine R_goto dd_OneSidedLaw_law_309 rfl ?_
  exact k
theorem B_law_312 {xs : Nat → Int} {xl e : Nat} {h : LH} {Q : Option LV → LH → Prop} {v3 : Int} (hF : RF h) (r_v3 : 0 ≤ v3 ∧ v3 ≤ 3577)
    (k : (∃ c, c < e ∧ Rn xs xl c mm_OneSided_day 0 [some (.inr (.inr 1)), none] [] h (fun r h' => Rn xs xl e mm_OneSidedLaw_law 316 [some (.inr (.inr (-2))), some (.inr (.inr 1)), some (.inr (.inr 182)), some (.inl v3)] (r.toList ++ []) h' Q))) :
    Rn xs xl e mm_OneSidedLaw_law 312 [some (.inr (.inr (-2))), some (.inr (.inr 1)), some (.inr (.inr 182)), some (.inl v3)] [] h Q := by
  refine R_ld (v := .inr (.inr 1)) dd_OneSidedLaw_law_312 rfl rfl rfl rfl ?_
  obtain ⟨c, hc, k⟩ := k
  exact R_call (as := [.inr (.inr 1)]) (rest := []) (M' := mm_OneSided_day) (ls0 := [some (.inr (.inr 1)), none]) dd_OneSidedLaw_law_313 rfl rfl (cw_v cw_13_25 io_1 rfl rfl (Nat.le_of_ble_eq_true rfl) (Nat.le_of_ble_eq_true rfl)) mt_OneSided_day rfl hc rfl k
theorem B_law_316 {xs : Nat → Int} {xl e : Nat} {h : LH} {Q : Option LV → LH → Prop} {v3 w0 : Int} (hF : RF h) (r_v3 : 0 ≤ v3 ∧ v3 ≤ 3577)
    (k : (∃ c, c < e ∧ Rn xs xl c mm_day 0 [some (.inr (.inr 182)), none] [] h (fun r h' => Rn xs xl e mm_OneSidedLaw_law 321 [some (.inr (.inr (-2))), some (.inr (.inr 1)), some (.inr (.inr 182)), some (.inl v3)] (r.toList ++ []) h' Q))) :
    Rn xs xl e mm_OneSidedLaw_law 316 [some (.inr (.inr (-2))), some (.inr (.inr 1)), some (.inr (.inr 182)), some (.inl v3)] [.inl w0] h Q := by
  refine R_A dd_OneSidedLaw_law_316 rfl rfl rfl rfl ?_
  refine R_ld (v := .inr (.inr 182)) dd_OneSidedLaw_law_317 rfl rfl rfl rfl ?_
  obtain ⟨c, hc, k⟩ := k
  exact R_call (as := [.inr (.inr 182)]) (rest := []) (M' := mm_day) (ls0 := [some (.inr (.inr 182)), none]) dd_OneSidedLaw_law_318 rfl rfl (cw_v cw_13_28 io_182 rfl rfl (Nat.le_of_ble_eq_true rfl) (Nat.le_of_ble_eq_true rfl)) mt_day rfl hc rfl k
theorem B_law_321 {xs : Nat → Int} {xl e : Nat} {h : LH} {Q : Option LV → LH → Prop} {v3 w0 : Int} (hF : RF h) (r_v3 : 0 ≤ v3 ∧ v3 ≤ 3577)
    (k : Rn xs xl e mm_OneSidedLaw_law 1231 [some (.inr (.inr (-2))), some (.inr (.inr 1)), some (.inr (.inr 182)), some (.inl v3)] [] h Q) :
    Rn xs xl e mm_OneSidedLaw_law 321 [some (.inr (.inr (-2))), some (.inr (.inr 1)), some (.inr (.inr 182)), some (.inl v3)] [.inl w0] h Q := by
  refine R_A dd_OneSidedLaw_law_321 rfl rfl rfl rfl ?_
  refine R_goto dd_OneSidedLaw_law_322 rfl ?_
  exact k
theorem B_law_325 {xs : Nat → Int} {xl e : Nat} {h : LH} {Q : Option LV → LH → Prop} {v3 : Int} (hF : RF h) (r_v3 : 0 ≤ v3 ∧ v3 ≤ 3577)
    (k : (0 ≤ v3 + 1 ∧ v3 + 1 < (xl : Int)) ∧
      (0 ≤ v3 + 2 ∧ v3 + 2 < (xl : Int)) ∧
      (∃ c, c < e ∧ Rn xs xl c mm_OneSided_door 0 [some (.inr (.inr 1)), some (.inl (xs (v3 + 1).toNat)), some (.inl (xs (v3 + 2).toNat)), none] [] h (fun r h' => Rn xs xl e mm_OneSidedLaw_law 339 [some (.inr (.inr (-2))), some (.inr (.inr 1)), some (.inr (.inr 182)), some (.inl v3)] (r.toList ++ []) h' Q))) :
    Rn xs xl e mm_OneSidedLaw_law 325 [some (.inr (.inr (-2))), some (.inr (.inr 1)), some (.inr (.inr 182)), some (.inl v3)] [] h Q := by
  refine R_ld (v := .inr (.inr 1)) dd_OneSidedLaw_law_325 rfl rfl rfl rfl ?_
  refine R_ld (v := .inr (.inr (-2))) dd_OneSidedLaw_law_326 rfl rfl rfl rfl ?_
  refine R_ld (v := .inl v3) dd_OneSidedLaw_law_327 rfl rfl rfl rfl ?_
  refine R_ic dd_OneSidedLaw_law_328 (by decide) rfl ?_
  refine R_iadd (c := v3 + 1) dd_OneSidedLaw_law_329 (by omega) (by omega) rfl ?_
  obtain ⟨s1, k⟩ := k
  refine R_sld dd_OneSidedLaw_law_330 s1 rfl ?_
  refine R_ld (v := .inr (.inr (-2))) dd_OneSidedLaw_law_331 rfl rfl rfl rfl ?_
  refine R_ld (v := .inl v3) dd_OneSidedLaw_law_332 rfl rfl rfl rfl ?_
  refine R_ic dd_OneSidedLaw_law_333 (by decide) rfl ?_
  refine R_iadd (c := v3 + 2) dd_OneSidedLaw_law_334 (by omega) (by omega) rfl ?_
  obtain ⟨s2, k⟩ := k
  refine R_sld dd_OneSidedLaw_law_335 s2 rfl ?_
  obtain ⟨c, hc, k⟩ := k
  exact R_call (as := [.inr (.inr 1), .inl (xs (v3 + 1).toNat), .inl (xs (v3 + 2).toNat)]) (rest := []) (M' := mm_OneSided_door) (ls0 := [some (.inr (.inr 1)), some (.inl (xs (v3 + 1).toNat)), some (.inl (xs (v3 + 2).toNat)), none]) dd_OneSidedLaw_law_336 rfl rfl (cw_v cw_13_29 io_1 rfl rfl (Nat.le_of_ble_eq_true rfl) (Nat.le_of_ble_eq_true rfl)) mt_OneSided_door rfl hc rfl k
theorem B_law_339 {xs : Nat → Int} {xl e : Nat} {h : LH} {Q : Option LV → LH → Prop} {v3 w0 : Int} (hF : RF h) (r_v3 : 0 ≤ v3 ∧ v3 ≤ 3577)
    (k : (0 ≤ v3 + 1 ∧ v3 + 1 < (xl : Int)) ∧
      (0 ≤ v3 + 2 ∧ v3 + 2 < (xl : Int)) ∧
      (∃ c, c < e ∧ Rn xs xl c mm_door 0 [some (.inr (.inr 182)), some (.inl (xs (v3 + 1).toNat)), some (.inl (xs (v3 + 2).toNat))] [] h (fun r h' => Rn xs xl e mm_OneSidedLaw_law 354 [some (.inr (.inr (-2))), some (.inr (.inr 1)), some (.inr (.inr 182)), some (.inl v3)] (r.toList ++ []) h' Q))) :
    Rn xs xl e mm_OneSidedLaw_law 339 [some (.inr (.inr (-2))), some (.inr (.inr 1)), some (.inr (.inr 182)), some (.inl v3)] [.inl w0] h Q := by
  refine R_A dd_OneSidedLaw_law_339 rfl rfl rfl rfl ?_
  refine R_ld (v := .inr (.inr 182)) dd_OneSidedLaw_law_340 rfl rfl rfl rfl ?_
  refine R_ld (v := .inr (.inr (-2))) dd_OneSidedLaw_law_341 rfl rfl rfl rfl ?_
  refine R_ld (v := .inl v3) dd_OneSidedLaw_law_342 rfl rfl rfl rfl ?_
  refine R_ic dd_OneSidedLaw_law_343 (by decide) rfl ?_
  refine R_iadd (c := v3 + 1) dd_OneSidedLaw_law_344 (by omega) (by omega) rfl ?_
  obtain ⟨s1, k⟩ := k
  refine R_sld dd_OneSidedLaw_law_345 s1 rfl ?_
  refine R_ld (v := .inr (.inr (-2))) dd_OneSidedLaw_law_346 rfl rfl rfl rfl ?_
  refine R_ld (v := .inl v3) dd_OneSidedLaw_law_347 rfl rfl rfl rfl ?_
  refine R_ic dd_OneSidedLaw_law_348 (by decide) rfl ?_
  refine R_iadd (c := v3 + 2) dd_OneSidedLaw_law_349 (by omega) (by omega) rfl ?_
  obtain ⟨s2, k⟩ := k
  refine R_sld dd_OneSidedLaw_law_350 s2 rfl ?_
  obtain ⟨c, hc, k⟩ := k
  exact R_call (as := [.inr (.inr 182), .inl (xs (v3 + 1).toNat), .inl (xs (v3 + 2).toNat)]) (rest := []) (M' := mm_door) (ls0 := [some (.inr (.inr 182)), some (.inl (xs (v3 + 1).toNat)), some (.inl (xs (v3 + 2).toNat))]) dd_OneSidedLaw_law_351 rfl rfl (cw_v cw_13_33 io_182 rfl rfl (Nat.le_of_ble_eq_true rfl) (Nat.le_of_ble_eq_true rfl)) mt_door rfl hc rfl k
theorem B_law_354 {xs : Nat → Int} {xl e : Nat} {h : LH} {Q : Option LV → LH → Prop} {v3 w0 : Int} (hF : RF h) (r_v3 : 0 ≤ v3 ∧ v3 ≤ 3577)
    (k : Rn xs xl e mm_OneSidedLaw_law 1231 [some (.inr (.inr (-2))), some (.inr (.inr 1)), some (.inr (.inr 182)), some (.inl v3)] [] h Q) :
    Rn xs xl e mm_OneSidedLaw_law 354 [some (.inr (.inr (-2))), some (.inr (.inr 1)), some (.inr (.inr 182)), some (.inl v3)] [.inl w0] h Q := by
  refine R_A dd_OneSidedLaw_law_354 rfl rfl rfl rfl ?_
  refine R_goto dd_OneSidedLaw_law_355 rfl ?_
  exact k
theorem B_law_358 {xs : Nat → Int} {xl e : Nat} {h : LH} {Q : Option LV → LH → Prop} {v3 : Int} (hF : RF h) (r_v3 : 0 ≤ v3 ∧ v3 ≤ 3577)
    (k : (0 ≤ v3 + 1 ∧ v3 + 1 < (xl : Int)) ∧
      (0 ≤ v3 + 2 ∧ v3 + 2 < (xl : Int)) ∧
      (∃ c, c < e ∧ Rn xs xl c mm_OneSided_person 0 [some (.inr (.inr 1)), some (.inl (xs (v3 + 1).toNat)), some (.inl (xs (v3 + 2).toNat)), none] [] h (fun r h' => Rn xs xl e mm_OneSidedLaw_law 372 [some (.inr (.inr (-2))), some (.inr (.inr 1)), some (.inr (.inr 182)), some (.inl v3)] (r.toList ++ []) h' Q))) :
    Rn xs xl e mm_OneSidedLaw_law 358 [some (.inr (.inr (-2))), some (.inr (.inr 1)), some (.inr (.inr 182)), some (.inl v3)] [] h Q := by
  refine R_ld (v := .inr (.inr 1)) dd_OneSidedLaw_law_358 rfl rfl rfl rfl ?_
  refine R_ld (v := .inr (.inr (-2))) dd_OneSidedLaw_law_359 rfl rfl rfl rfl ?_
  refine R_ld (v := .inl v3) dd_OneSidedLaw_law_360 rfl rfl rfl rfl ?_
  refine R_ic dd_OneSidedLaw_law_361 (by decide) rfl ?_
  refine R_iadd (c := v3 + 1) dd_OneSidedLaw_law_362 (by omega) (by omega) rfl ?_
  obtain ⟨s1, k⟩ := k
  refine R_sld dd_OneSidedLaw_law_363 s1 rfl ?_
  refine R_ld (v := .inr (.inr (-2))) dd_OneSidedLaw_law_364 rfl rfl rfl rfl ?_
  refine R_ld (v := .inl v3) dd_OneSidedLaw_law_365 rfl rfl rfl rfl ?_
  refine R_ic dd_OneSidedLaw_law_366 (by decide) rfl ?_
  refine R_iadd (c := v3 + 2) dd_OneSidedLaw_law_367 (by omega) (by omega) rfl ?_
  obtain ⟨s2, k⟩ := k
  refine R_sld dd_OneSidedLaw_law_368 s2 rfl ?_
  obtain ⟨c, hc, k⟩ := k
  exact R_call (as := [.inr (.inr 1), .inl (xs (v3 + 1).toNat), .inl (xs (v3 + 2).toNat)]) (rest := []) (M' := mm_OneSided_person) (ls0 := [some (.inr (.inr 1)), some (.inl (xs (v3 + 1).toNat)), some (.inl (xs (v3 + 2).toNat)), none]) dd_OneSidedLaw_law_369 rfl rfl (cw_v cw_13_34 io_1 rfl rfl (Nat.le_of_ble_eq_true rfl) (Nat.le_of_ble_eq_true rfl)) mt_OneSided_person rfl hc rfl k
theorem B_law_372 {xs : Nat → Int} {xl e : Nat} {h : LH} {Q : Option LV → LH → Prop} {v3 w0 : Int} (hF : RF h) (r_v3 : 0 ≤ v3 ∧ v3 ≤ 3577)
    (k : (0 ≤ v3 + 1 ∧ v3 + 1 < (xl : Int)) ∧
      (0 ≤ v3 + 2 ∧ v3 + 2 < (xl : Int)) ∧
      (∃ c, c < e ∧ Rn xs xl c mm_person 0 [some (.inr (.inr 182)), some (.inl (xs (v3 + 1).toNat)), some (.inl (xs (v3 + 2).toNat))] [] h (fun r h' => Rn xs xl e mm_OneSidedLaw_law 387 [some (.inr (.inr (-2))), some (.inr (.inr 1)), some (.inr (.inr 182)), some (.inl v3)] (r.toList ++ []) h' Q))) :
    Rn xs xl e mm_OneSidedLaw_law 372 [some (.inr (.inr (-2))), some (.inr (.inr 1)), some (.inr (.inr 182)), some (.inl v3)] [.inl w0] h Q := by
  refine R_A dd_OneSidedLaw_law_372 rfl rfl rfl rfl ?_
  refine R_ld (v := .inr (.inr 182)) dd_OneSidedLaw_law_373 rfl rfl rfl rfl ?_
  refine R_ld (v := .inr (.inr (-2))) dd_OneSidedLaw_law_374 rfl rfl rfl rfl ?_
  refine R_ld (v := .inl v3) dd_OneSidedLaw_law_375 rfl rfl rfl rfl ?_
  refine R_ic dd_OneSidedLaw_law_376 (by decide) rfl ?_
  refine R_iadd (c := v3 + 1) dd_OneSidedLaw_law_377 (by omega) (by omega) rfl ?_
  obtain ⟨s1, k⟩ := k
  refine R_sld dd_OneSidedLaw_law_378 s1 rfl ?_
  refine R_ld (v := .inr (.inr (-2))) dd_OneSidedLaw_law_379 rfl rfl rfl rfl ?_
  refine R_ld (v := .inl v3) dd_OneSidedLaw_law_380 rfl rfl rfl rfl ?_
  refine R_ic dd_OneSidedLaw_law_381 (by decide) rfl ?_
  refine R_iadd (c := v3 + 2) dd_OneSidedLaw_law_382 (by omega) (by omega) rfl ?_
  obtain ⟨s2, k⟩ := k
  refine R_sld dd_OneSidedLaw_law_383 s2 rfl ?_
  obtain ⟨c, hc, k⟩ := k
  exact R_call (as := [.inr (.inr 182), .inl (xs (v3 + 1).toNat), .inl (xs (v3 + 2).toNat)]) (rest := []) (M' := mm_person) (ls0 := [some (.inr (.inr 182)), some (.inl (xs (v3 + 1).toNat)), some (.inl (xs (v3 + 2).toNat))]) dd_OneSidedLaw_law_384 rfl rfl (cw_v cw_13_37 io_182 rfl rfl (Nat.le_of_ble_eq_true rfl) (Nat.le_of_ble_eq_true rfl)) mt_person rfl hc rfl k
theorem B_law_387 {xs : Nat → Int} {xl e : Nat} {h : LH} {Q : Option LV → LH → Prop} {v3 w0 : Int} (hF : RF h) (r_v3 : 0 ≤ v3 ∧ v3 ≤ 3577)
    (k : Rn xs xl e mm_OneSidedLaw_law 1231 [some (.inr (.inr (-2))), some (.inr (.inr 1)), some (.inr (.inr 182)), some (.inl v3)] [] h Q) :
    Rn xs xl e mm_OneSidedLaw_law 387 [some (.inr (.inr (-2))), some (.inr (.inr 1)), some (.inr (.inr 182)), some (.inl v3)] [.inl w0] h Q := by
  refine R_A dd_OneSidedLaw_law_387 rfl rfl rfl rfl ?_
  refine R_goto dd_OneSidedLaw_law_388 rfl ?_
  exact k
theorem B_law_391 {xs : Nat → Int} {xl e : Nat} {h : LH} {Q : Option LV → LH → Prop} {v3 : Int} (hF : RF h) (r_v3 : 0 ≤ v3 ∧ v3 ≤ 3577)
    (k : (0 ≤ v3 + 1 ∧ v3 + 1 < (xl : Int)) ∧
      (0 ≤ v3 + 2 ∧ v3 + 2 < (xl : Int)) ∧
      (0 ≤ v3 + 3 ∧ v3 + 3 < (xl : Int)) ∧
      (0 ≤ v3 + 4 ∧ v3 + 4 < (xl : Int)) ∧
      (∃ c, c < e ∧ Rn xs xl c mm_OneSided_leads 0 [some (.inr (.inr 1)), some (.inl (xs (v3 + 1).toNat)), some (.inl (xs (v3 + 2).toNat)), some (.inl (xs (v3 + 3).toNat)), some (.inl (xs (v3 + 4).toNat))] [] h (fun r h' => Rn xs xl e mm_OneSidedLaw_law 415 [some (.inr (.inr (-2))), some (.inr (.inr 1)), some (.inr (.inr 182)), some (.inl v3)] (r.toList ++ []) h' Q))) :
    Rn xs xl e mm_OneSidedLaw_law 391 [some (.inr (.inr (-2))), some (.inr (.inr 1)), some (.inr (.inr 182)), some (.inl v3)] [] h Q := by
  refine R_ld (v := .inr (.inr 1)) dd_OneSidedLaw_law_391 rfl rfl rfl rfl ?_
  refine R_ld (v := .inr (.inr (-2))) dd_OneSidedLaw_law_392 rfl rfl rfl rfl ?_
  refine R_ld (v := .inl v3) dd_OneSidedLaw_law_393 rfl rfl rfl rfl ?_
  refine R_ic dd_OneSidedLaw_law_394 (by decide) rfl ?_
  refine R_iadd (c := v3 + 1) dd_OneSidedLaw_law_395 (by omega) (by omega) rfl ?_
  obtain ⟨s1, k⟩ := k
  refine R_sld dd_OneSidedLaw_law_396 s1 rfl ?_
  refine R_ld (v := .inr (.inr (-2))) dd_OneSidedLaw_law_397 rfl rfl rfl rfl ?_
  refine R_ld (v := .inl v3) dd_OneSidedLaw_law_398 rfl rfl rfl rfl ?_
  refine R_ic dd_OneSidedLaw_law_399 (by decide) rfl ?_
  refine R_iadd (c := v3 + 2) dd_OneSidedLaw_law_400 (by omega) (by omega) rfl ?_
  obtain ⟨s2, k⟩ := k
  refine R_sld dd_OneSidedLaw_law_401 s2 rfl ?_
  refine R_ld (v := .inr (.inr (-2))) dd_OneSidedLaw_law_402 rfl rfl rfl rfl ?_
  refine R_ld (v := .inl v3) dd_OneSidedLaw_law_403 rfl rfl rfl rfl ?_
  refine R_ic dd_OneSidedLaw_law_404 (by decide) rfl ?_
  refine R_iadd (c := v3 + 3) dd_OneSidedLaw_law_405 (by omega) (by omega) rfl ?_
  obtain ⟨s3, k⟩ := k
  refine R_sld dd_OneSidedLaw_law_406 s3 rfl ?_
  refine R_ld (v := .inr (.inr (-2))) dd_OneSidedLaw_law_407 rfl rfl rfl rfl ?_
  refine R_ld (v := .inl v3) dd_OneSidedLaw_law_408 rfl rfl rfl rfl ?_
  refine R_ic dd_OneSidedLaw_law_409 (by decide) rfl ?_
  refine R_iadd (c := v3 + 4) dd_OneSidedLaw_law_410 (by omega) (by omega) rfl ?_
  obtain ⟨s4, k⟩ := k
  refine R_sld dd_OneSidedLaw_law_411 s4 rfl ?_
  obtain ⟨c, hc, k⟩ := k
  exact R_call (as := [.inr (.inr 1), .inl (xs (v3 + 1).toNat), .inl (xs (v3 + 2).toNat), .inl (xs (v3 + 3).toNat), .inl (xs (v3 + 4).toNat)]) (rest := []) (M' := mm_OneSided_leads) (ls0 := [some (.inr (.inr 1)), some (.inl (xs (v3 + 1).toNat)), some (.inl (xs (v3 + 2).toNat)), some (.inl (xs (v3 + 3).toNat)), some (.inl (xs (v3 + 4).toNat))]) dd_OneSidedLaw_law_412 rfl rfl (cw_v cw_13_38 io_1 rfl rfl (Nat.le_of_ble_eq_true rfl) (Nat.le_of_ble_eq_true rfl)) mt_OneSided_leads rfl hc rfl k
theorem B_law_415 {xs : Nat → Int} {xl e : Nat} {h : LH} {Q : Option LV → LH → Prop} {v3 w0 : Int} (hF : RF h) (r_v3 : 0 ≤ v3 ∧ v3 ≤ 3577)
    (k : (0 ≤ v3 + 1 ∧ v3 + 1 < (xl : Int)) ∧
      (0 ≤ v3 + 2 ∧ v3 + 2 < (xl : Int)) ∧
      (0 ≤ v3 + 3 ∧ v3 + 3 < (xl : Int)) ∧
      (0 ≤ v3 + 4 ∧ v3 + 4 < (xl : Int)) ∧
      (∃ c, c < e ∧ Rn xs xl c mm_leads 0 [some (.inr (.inr 182)), some (.inl (xs (v3 + 1).toNat)), some (.inl (xs (v3 + 2).toNat)), some (.inl (xs (v3 + 3).toNat)), some (.inl (xs (v3 + 4).toNat))] [] h (fun r h' => Rn xs xl e mm_OneSidedLaw_law 440 [some (.inr (.inr (-2))), some (.inr (.inr 1)), some (.inr (.inr 182)), some (.inl v3)] (r.toList ++ []) h' Q))) :
    Rn xs xl e mm_OneSidedLaw_law 415 [some (.inr (.inr (-2))), some (.inr (.inr 1)), some (.inr (.inr 182)), some (.inl v3)] [.inl w0] h Q := by
  refine R_A dd_OneSidedLaw_law_415 rfl rfl rfl rfl ?_
  refine R_ld (v := .inr (.inr 182)) dd_OneSidedLaw_law_416 rfl rfl rfl rfl ?_
  refine R_ld (v := .inr (.inr (-2))) dd_OneSidedLaw_law_417 rfl rfl rfl rfl ?_
  refine R_ld (v := .inl v3) dd_OneSidedLaw_law_418 rfl rfl rfl rfl ?_
  refine R_ic dd_OneSidedLaw_law_419 (by decide) rfl ?_
  refine R_iadd (c := v3 + 1) dd_OneSidedLaw_law_420 (by omega) (by omega) rfl ?_
  obtain ⟨s1, k⟩ := k
  refine R_sld dd_OneSidedLaw_law_421 s1 rfl ?_
  refine R_ld (v := .inr (.inr (-2))) dd_OneSidedLaw_law_422 rfl rfl rfl rfl ?_
  refine R_ld (v := .inl v3) dd_OneSidedLaw_law_423 rfl rfl rfl rfl ?_
  refine R_ic dd_OneSidedLaw_law_424 (by decide) rfl ?_
  refine R_iadd (c := v3 + 2) dd_OneSidedLaw_law_425 (by omega) (by omega) rfl ?_
  obtain ⟨s2, k⟩ := k
  refine R_sld dd_OneSidedLaw_law_426 s2 rfl ?_
  refine R_ld (v := .inr (.inr (-2))) dd_OneSidedLaw_law_427 rfl rfl rfl rfl ?_
  refine R_ld (v := .inl v3) dd_OneSidedLaw_law_428 rfl rfl rfl rfl ?_
  refine R_ic dd_OneSidedLaw_law_429 (by decide) rfl ?_
  refine R_iadd (c := v3 + 3) dd_OneSidedLaw_law_430 (by omega) (by omega) rfl ?_
  obtain ⟨s3, k⟩ := k
  refine R_sld dd_OneSidedLaw_law_431 s3 rfl ?_
  refine R_ld (v := .inr (.inr (-2))) dd_OneSidedLaw_law_432 rfl rfl rfl rfl ?_
  refine R_ld (v := .inl v3) dd_OneSidedLaw_law_433 rfl rfl rfl rfl ?_
  refine R_ic dd_OneSidedLaw_law_434 (by decide) rfl ?_
  refine R_iadd (c := v3 + 4) dd_OneSidedLaw_law_435 (by omega) (by omega) rfl ?_
  obtain ⟨s4, k⟩ := k
  refine R_sld dd_OneSidedLaw_law_436 s4 rfl ?_
  obtain ⟨c, hc, k⟩ := k
  exact R_call (as := [.inr (.inr 182), .inl (xs (v3 + 1).toNat), .inl (xs (v3 + 2).toNat), .inl (xs (v3 + 3).toNat), .inl (xs (v3 + 4).toNat)]) (rest := []) (M' := mm_leads) (ls0 := [some (.inr (.inr 182)), some (.inl (xs (v3 + 1).toNat)), some (.inl (xs (v3 + 2).toNat)), some (.inl (xs (v3 + 3).toNat)), some (.inl (xs (v3 + 4).toNat))]) dd_OneSidedLaw_law_437 rfl rfl (cw_v cw_13_42 io_182 rfl rfl (Nat.le_of_ble_eq_true rfl) (Nat.le_of_ble_eq_true rfl)) mt_leads rfl hc rfl k
theorem B_law_440 {xs : Nat → Int} {xl e : Nat} {h : LH} {Q : Option LV → LH → Prop} {v3 w0 : Int} (hF : RF h) (r_v3 : 0 ≤ v3 ∧ v3 ≤ 3577)
    (k : Rn xs xl e mm_OneSidedLaw_law 1231 [some (.inr (.inr (-2))), some (.inr (.inr 1)), some (.inr (.inr 182)), some (.inl v3)] [] h Q) :
    Rn xs xl e mm_OneSidedLaw_law 440 [some (.inr (.inr (-2))), some (.inr (.inr 1)), some (.inr (.inr 182)), some (.inl v3)] [.inl w0] h Q := by
  refine R_A dd_OneSidedLaw_law_440 rfl rfl rfl rfl ?_
  refine R_goto dd_OneSidedLaw_law_441 rfl ?_
  exact k
theorem B_law_444 {xs : Nat → Int} {xl e : Nat} {h : LH} {Q : Option LV → LH → Prop} {v3 : Int} (hF : RF h) (r_v3 : 0 ≤ v3 ∧ v3 ≤ 3577)
    (k : (0 ≤ v3 + 1 ∧ v3 + 1 < (xl : Int)) ∧
      (0 ≤ v3 + 2 ∧ v3 + 2 < (xl : Int)) ∧
      (∃ c, c < e ∧ Rn xs xl c mm_OneSided_go 0 [some (.inr (.inr 1)), some (.inl (xs (v3 + 1).toNat)), some (.inl (xs (v3 + 2).toNat)), none] [] h (fun r h' => Rn xs xl e mm_OneSidedLaw_law 458 [some (.inr (.inr (-2))), some (.inr (.inr 1)), some (.inr (.inr 182)), some (.inl v3)] (r.toList ++ []) h' Q))) :
    Rn xs xl e mm_OneSidedLaw_law 444 [some (.inr (.inr (-2))), some (.inr (.inr 1)), some (.inr (.inr 182)), some (.inl v3)] [] h Q := by
  refine R_ld (v := .inr (.inr 1)) dd_OneSidedLaw_law_444 rfl rfl rfl rfl ?_
  refine R_ld (v := .inr (.inr (-2))) dd_OneSidedLaw_law_445 rfl rfl rfl rfl ?_
  refine R_ld (v := .inl v3) dd_OneSidedLaw_law_446 rfl rfl rfl rfl ?_
  refine R_ic dd_OneSidedLaw_law_447 (by decide) rfl ?_
  refine R_iadd (c := v3 + 1) dd_OneSidedLaw_law_448 (by omega) (by omega) rfl ?_
  obtain ⟨s1, k⟩ := k
  refine R_sld dd_OneSidedLaw_law_449 s1 rfl ?_
  refine R_ld (v := .inr (.inr (-2))) dd_OneSidedLaw_law_450 rfl rfl rfl rfl ?_
  refine R_ld (v := .inl v3) dd_OneSidedLaw_law_451 rfl rfl rfl rfl ?_
  refine R_ic dd_OneSidedLaw_law_452 (by decide) rfl ?_
  refine R_iadd (c := v3 + 2) dd_OneSidedLaw_law_453 (by omega) (by omega) rfl ?_
  obtain ⟨s2, k⟩ := k
  refine R_sld dd_OneSidedLaw_law_454 s2 rfl ?_
  obtain ⟨c, hc, k⟩ := k
  exact R_call (as := [.inr (.inr 1), .inl (xs (v3 + 1).toNat), .inl (xs (v3 + 2).toNat)]) (rest := []) (M' := mm_OneSided_go) (ls0 := [some (.inr (.inr 1)), some (.inl (xs (v3 + 1).toNat)), some (.inl (xs (v3 + 2).toNat)), none]) dd_OneSidedLaw_law_455 rfl rfl (cw_v cw_13_43 io_1 rfl rfl (Nat.le_of_ble_eq_true rfl) (Nat.le_of_ble_eq_true rfl)) mt_OneSided_go rfl hc rfl k
theorem B_law_458 {xs : Nat → Int} {xl e : Nat} {h : LH} {Q : Option LV → LH → Prop} {v3 w0 : Int} (hF : RF h) (r_v3 : 0 ≤ v3 ∧ v3 ≤ 3577)
    (k : (0 ≤ v3 + 1 ∧ v3 + 1 < (xl : Int)) ∧
      (0 ≤ v3 + 2 ∧ v3 + 2 < (xl : Int)) ∧
      (∃ c, c < e ∧ Rn xs xl c mm_go 0 [some (.inr (.inr 182)), some (.inl (xs (v3 + 1).toNat)), some (.inl (xs (v3 + 2).toNat))] [] h (fun r h' => Rn xs xl e mm_OneSidedLaw_law 473 [some (.inr (.inr (-2))), some (.inr (.inr 1)), some (.inr (.inr 182)), some (.inl v3)] (r.toList ++ []) h' Q))) :
    Rn xs xl e mm_OneSidedLaw_law 458 [some (.inr (.inr (-2))), some (.inr (.inr 1)), some (.inr (.inr 182)), some (.inl v3)] [.inl w0] h Q := by
  refine R_A dd_OneSidedLaw_law_458 rfl rfl rfl rfl ?_
  refine R_ld (v := .inr (.inr 182)) dd_OneSidedLaw_law_459 rfl rfl rfl rfl ?_
  refine R_ld (v := .inr (.inr (-2))) dd_OneSidedLaw_law_460 rfl rfl rfl rfl ?_
  refine R_ld (v := .inl v3) dd_OneSidedLaw_law_461 rfl rfl rfl rfl ?_
  refine R_ic dd_OneSidedLaw_law_462 (by decide) rfl ?_
  refine R_iadd (c := v3 + 1) dd_OneSidedLaw_law_463 (by omega) (by omega) rfl ?_
  obtain ⟨s1, k⟩ := k
  refine R_sld dd_OneSidedLaw_law_464 s1 rfl ?_
  refine R_ld (v := .inr (.inr (-2))) dd_OneSidedLaw_law_465 rfl rfl rfl rfl ?_
  refine R_ld (v := .inl v3) dd_OneSidedLaw_law_466 rfl rfl rfl rfl ?_
  refine R_ic dd_OneSidedLaw_law_467 (by decide) rfl ?_
  refine R_iadd (c := v3 + 2) dd_OneSidedLaw_law_468 (by omega) (by omega) rfl ?_
  obtain ⟨s2, k⟩ := k
  refine R_sld dd_OneSidedLaw_law_469 s2 rfl ?_
  obtain ⟨c, hc, k⟩ := k
  exact R_call (as := [.inr (.inr 182), .inl (xs (v3 + 1).toNat), .inl (xs (v3 + 2).toNat)]) (rest := []) (M' := mm_go) (ls0 := [some (.inr (.inr 182)), some (.inl (xs (v3 + 1).toNat)), some (.inl (xs (v3 + 2).toNat))]) dd_OneSidedLaw_law_470 rfl rfl (cw_v cw_13_46 io_182 rfl rfl (Nat.le_of_ble_eq_true rfl) (Nat.le_of_ble_eq_true rfl)) mt_go rfl hc rfl k
theorem B_law_473 {xs : Nat → Int} {xl e : Nat} {h : LH} {Q : Option LV → LH → Prop} {v3 w0 : Int} (hF : RF h) (r_v3 : 0 ≤ v3 ∧ v3 ≤ 3577)
    (k : Rn xs xl e mm_OneSidedLaw_law 1231 [some (.inr (.inr (-2))), some (.inr (.inr 1)), some (.inr (.inr 182)), some (.inl v3)] [] h Q) :
    Rn xs xl e mm_OneSidedLaw_law 473 [some (.inr (.inr (-2))), some (.inr (.inr 1)), some (.inr (.inr 182)), some (.inl v3)] [.inl w0] h Q := by
  refine R_A dd_OneSidedLaw_law_473 rfl rfl rfl rfl ?_
  refine R_goto dd_OneSidedLaw_law_474 rfl ?_
  exact k
theorem B_law_477 {xs : Nat → Int} {xl e : Nat} {h : LH} {Q : Option LV → LH → Prop} {v3 : Int} (hF : RF h) (r_v3 : 0 ≤ v3 ∧ v3 ≤ 3577)
    (k : (0 ≤ v3 + 1 ∧ v3 + 1 < (xl : Int)) ∧
      (∃ c, c < e ∧ Rn xs xl c mm_OneSided_hours 0 [some (.inr (.inr 1)), some (.inl (xs (v3 + 1).toNat))] [] h (fun r h' => Rn xs xl e mm_OneSidedLaw_law 486 [some (.inr (.inr (-2))), some (.inr (.inr 1)), some (.inr (.inr 182)), some (.inl v3)] (r.toList ++ []) h' Q))) :
    Rn xs xl e mm_OneSidedLaw_law 477 [some (.inr (.inr (-2))), some (.inr (.inr 1)), some (.inr (.inr 182)), some (.inl v3)] [] h Q := by
  refine R_ld (v := .inr (.inr 1)) dd_OneSidedLaw_law_477 rfl rfl rfl rfl ?_
  refine R_ld (v := .inr (.inr (-2))) dd_OneSidedLaw_law_478 rfl rfl rfl rfl ?_
  refine R_ld (v := .inl v3) dd_OneSidedLaw_law_479 rfl rfl rfl rfl ?_
  refine R_ic dd_OneSidedLaw_law_480 (by decide) rfl ?_
  refine R_iadd (c := v3 + 1) dd_OneSidedLaw_law_481 (by omega) (by omega) rfl ?_
  obtain ⟨s1, k⟩ := k
  refine R_sld dd_OneSidedLaw_law_482 s1 rfl ?_
  obtain ⟨c, hc, k⟩ := k
  exact R_call (as := [.inr (.inr 1), .inl (xs (v3 + 1).toNat)]) (rest := []) (M' := mm_OneSided_hours) (ls0 := [some (.inr (.inr 1)), some (.inl (xs (v3 + 1).toNat))]) dd_OneSidedLaw_law_483 rfl rfl (cw_v cw_13_47 io_1 rfl rfl (Nat.le_of_ble_eq_true rfl) (Nat.le_of_ble_eq_true rfl)) mt_OneSided_hours rfl hc rfl k
theorem B_law_486 {xs : Nat → Int} {xl e : Nat} {h : LH} {Q : Option LV → LH → Prop} {v3 w0 : Int} (hF : RF h) (r_v3 : 0 ≤ v3 ∧ v3 ≤ 3577)
    (k : (0 ≤ v3 + 1 ∧ v3 + 1 < (xl : Int)) ∧
      (∃ c, c < e ∧ Rn xs xl c mm_hours 0 [some (.inr (.inr 182)), some (.inl (xs (v3 + 1).toNat)), none] [] h (fun r h' => Rn xs xl e mm_OneSidedLaw_law 496 [some (.inr (.inr (-2))), some (.inr (.inr 1)), some (.inr (.inr 182)), some (.inl v3)] (r.toList ++ []) h' Q))) :
    Rn xs xl e mm_OneSidedLaw_law 486 [some (.inr (.inr (-2))), some (.inr (.inr 1)), some (.inr (.inr 182)), some (.inl v3)] [.inl w0] h Q := by
  refine R_A dd_OneSidedLaw_law_486 rfl rfl rfl rfl ?_
  refine R_ld (v := .inr (.inr 182)) dd_OneSidedLaw_law_487 rfl rfl rfl rfl ?_
  refine R_ld (v := .inr (.inr (-2))) dd_OneSidedLaw_law_488 rfl rfl rfl rfl ?_
  refine R_ld (v := .inl v3) dd_OneSidedLaw_law_489 rfl rfl rfl rfl ?_
  refine R_ic dd_OneSidedLaw_law_490 (by decide) rfl ?_
  refine R_iadd (c := v3 + 1) dd_OneSidedLaw_law_491 (by omega) (by omega) rfl ?_
  obtain ⟨s1, k⟩ := k
  refine R_sld dd_OneSidedLaw_law_492 s1 rfl ?_
  obtain ⟨c, hc, k⟩ := k
  exact R_call (as := [.inr (.inr 182), .inl (xs (v3 + 1).toNat)]) (rest := []) (M' := mm_hours) (ls0 := [some (.inr (.inr 182)), some (.inl (xs (v3 + 1).toNat)), none]) dd_OneSidedLaw_law_493 rfl rfl (cw_v cw_13_51 io_182 rfl rfl (Nat.le_of_ble_eq_true rfl) (Nat.le_of_ble_eq_true rfl)) mt_hours rfl hc rfl k
theorem B_law_496 {xs : Nat → Int} {xl e : Nat} {h : LH} {Q : Option LV → LH → Prop} {v3 w0 : Int} (hF : RF h) (r_v3 : 0 ≤ v3 ∧ v3 ≤ 3577)
    (k : Rn xs xl e mm_OneSidedLaw_law 1231 [some (.inr (.inr (-2))), some (.inr (.inr 1)), some (.inr (.inr 182)), some (.inl v3)] [] h Q) :
    Rn xs xl e mm_OneSidedLaw_law 496 [some (.inr (.inr (-2))), some (.inr (.inr 1)), some (.inr (.inr 182)), some (.inl v3)] [.inl w0] h Q := by
  refine R_A dd_OneSidedLaw_law_496 rfl rfl rfl rfl ?_
  refine R_goto dd_OneSidedLaw_law_497 rfl ?_
  exact k
theorem B_law_500 {xs : Nat → Int} {xl e : Nat} {h : LH} {Q : Option LV → LH → Prop} {v3 : Int} (hF : RF h) (r_v3 : 0 ≤ v3 ∧ v3 ≤ 3577)
    (k : (0 ≤ v3 + 1 ∧ v3 + 1 < (xl : Int)) ∧
      (0 ≤ v3 + 2 ∧ v3 + 2 < (xl : Int)) ∧
      ((xs (v3 + 2).toNat) = 0 →
        (∃ c, c < e ∧ Rn xs xl c mm_OneSided_shut 0 [some (.inr (.inr 1)), some (.inl (xs (v3 + 1).toNat)), some (.inl 0), none] [] h (fun r h' => Rn xs xl e mm_OneSidedLaw_law 522 [some (.inr (.inr (-2))), some (.inr (.inr 1)), some (.inr (.inr 182)), some (.inl v3)] (r.toList ++ []) h' Q))) ∧
      ((xs (v3 + 2).toNat) ≠ 0 →
        (∃ c, c < e ∧ Rn xs xl c mm_OneSided_shut 0 [some (.inr (.inr 1)), some (.inl (xs (v3 + 1).toNat)), some (.inl 1), none] [] h (fun r h' => Rn xs xl e mm_OneSidedLaw_law 522 [some (.inr (.inr (-2))), some (.inr (.inr 1)), some (.inr (.inr 182)), some (.inl v3)] (r.toList ++ []) h' Q)))) :
    Rn xs xl e mm_OneSidedLaw_law 500 [some (.inr (.inr (-2))), some (.inr (.inr 1)), some (.inr (.inr 182)), some (.inl v3)] [] h Q := by
  refine R_ld (v := .inr (.inr 1)) dd_OneSidedLaw_law_500 rfl rfl rfl rfl ?_
  refine R_ld (v := .inr (.inr (-2))) dd_OneSidedLaw_law_501 rfl rfl rfl rfl ?_
  refine R_ld (v := .inl v3) dd_OneSidedLaw_law_502 rfl rfl rfl rfl ?_
  refine R_ic dd_OneSidedLaw_law_503 (by decide) rfl ?_
  refine R_iadd (c := v3 + 1) dd_OneSidedLaw_law_504 (by omega) (by omega) rfl ?_
  obtain ⟨s1, k⟩ := k
  refine R_sld dd_OneSidedLaw_law_505 s1 rfl ?_
  refine R_ld (v := .inr (.inr (-2))) dd_OneSidedLaw_law_506 rfl rfl rfl rfl ?_
  refine R_ld (v := .inl v3) dd_OneSidedLaw_law_507 rfl rfl rfl rfl ?_
  refine R_ic dd_OneSidedLaw_law_508 (by decide) rfl ?_
  refine R_iadd (c := v3 + 2) dd_OneSidedLaw_law_509 (by omega) (by omega) rfl ?_
  obtain ⟨s2, k⟩ := k
  refine R_sld dd_OneSidedLaw_law_510 s2 rfl ?_
  refine R_if dd_OneSidedLaw_law_511 rfl rfl (fun (c5 : (xs (v3 + 2).toNat) = 0) => ?_) (fun (c5 : (xs (v3 + 2).toNat) ≠ 0) => ?_)
  · replace k := k.1 c5
    refine R_ic dd_OneSidedLaw_law_518 (by decide) rfl ?_
    obtain ⟨c, hc, k⟩ := k
    exact R_call (as := [.inr (.inr 1), .inl (xs (v3 + 1).toNat), .inl 0]) (rest := []) (M' := mm_OneSided_shut) (ls0 := [some (.inr (.inr 1)), some (.inl (xs (v3 + 1).toNat)), some (.inl 0), none]) dd_OneSidedLaw_law_519 rfl rfl (cw_v cw_13_52 io_1 rfl rfl (Nat.le_of_ble_eq_true rfl) (Nat.le_of_ble_eq_true rfl)) mt_OneSided_shut rfl hc rfl k
  · replace k := k.2 c5
    refine R_ic dd_OneSidedLaw_law_514 (by decide) rfl ?_
    refine R_goto dd_OneSidedLaw_law_515 rfl ?_
    obtain ⟨c, hc, k⟩ := k
    exact R_call (as := [.inr (.inr 1), .inl (xs (v3 + 1).toNat), .inl 1]) (rest := []) (M' := mm_OneSided_shut) (ls0 := [some (.inr (.inr 1)), some (.inl (xs (v3 + 1).toNat)), some (.inl 1), none]) dd_OneSidedLaw_law_519 rfl rfl (cw_v cw_13_52 io_1 rfl rfl (Nat.le_of_ble_eq_true rfl) (Nat.le_of_ble_eq_true rfl)) mt_OneSided_shut rfl hc rfl k
theorem B_law_522 {xs : Nat → Int} {xl e : Nat} {h : LH} {Q : Option LV → LH → Prop} {v3 w0 : Int} (hF : RF h) (r_v3 : 0 ≤ v3 ∧ v3 ≤ 3577)
    (k : (0 ≤ v3 + 1 ∧ v3 + 1 < (xl : Int)) ∧
      (0 ≤ v3 + 2 ∧ v3 + 2 < (xl : Int)) ∧
      ((xs (v3 + 2).toNat) = 0 →
        (∃ c, c < e ∧ Rn xs xl c mm_shut 0 [some (.inr (.inr 182)), some (.inl (xs (v3 + 1).toNat)), some (.inl 0)] [] h (fun r h' => Rn xs xl e mm_OneSidedLaw_law 545 [some (.inr (.inr (-2))), some (.inr (.inr 1)), some (.inr (.inr 182)), some (.inl v3)] (r.toList ++ []) h' Q))) ∧
      ((xs (v3 + 2).toNat) ≠ 0 →
        (∃ c, c < e ∧ Rn xs xl c mm_shut 0 [some (.inr (.inr 182)), some (.inl (xs (v3 + 1).toNat)), some (.inl 1)] [] h (fun r h' => Rn xs xl e mm_OneSidedLaw_law 545 [some (.inr (.inr (-2))), some (.inr (.inr 1)), some (.inr (.inr 182)), some (.inl v3)] (r.toList ++ []) h' Q)))) :
    Rn xs xl e mm_OneSidedLaw_law 522 [some (.inr (.inr (-2))), some (.inr (.inr 1)), some (.inr (.inr 182)), some (.inl v3)] [.inl w0] h Q := by
  refine R_A dd_OneSidedLaw_law_522 rfl rfl rfl rfl ?_
  refine R_ld (v := .inr (.inr 182)) dd_OneSidedLaw_law_523 rfl rfl rfl rfl ?_
  refine R_ld (v := .inr (.inr (-2))) dd_OneSidedLaw_law_524 rfl rfl rfl rfl ?_
  refine R_ld (v := .inl v3) dd_OneSidedLaw_law_525 rfl rfl rfl rfl ?_
  refine R_ic dd_OneSidedLaw_law_526 (by decide) rfl ?_
  refine R_iadd (c := v3 + 1) dd_OneSidedLaw_law_527 (by omega) (by omega) rfl ?_
  obtain ⟨s1, k⟩ := k
  refine R_sld dd_OneSidedLaw_law_528 s1 rfl ?_
  refine R_ld (v := .inr (.inr (-2))) dd_OneSidedLaw_law_529 rfl rfl rfl rfl ?_
  refine R_ld (v := .inl v3) dd_OneSidedLaw_law_530 rfl rfl rfl rfl ?_
  refine R_ic dd_OneSidedLaw_law_531 (by decide) rfl ?_
  refine R_iadd (c := v3 + 2) dd_OneSidedLaw_law_532 (by omega) (by omega) rfl ?_
  obtain ⟨s2, k⟩ := k
  refine R_sld dd_OneSidedLaw_law_533 s2 rfl ?_
  refine R_if dd_OneSidedLaw_law_534 rfl rfl (fun (c5 : (xs (v3 + 2).toNat) = 0) => ?_) (fun (c5 : (xs (v3 + 2).toNat) ≠ 0) => ?_)
  · replace k := k.1 c5
    refine R_ic dd_OneSidedLaw_law_541 (by decide) rfl ?_
    obtain ⟨c, hc, k⟩ := k
    exact R_call (as := [.inr (.inr 182), .inl (xs (v3 + 1).toNat), .inl 0]) (rest := []) (M' := mm_shut) (ls0 := [some (.inr (.inr 182)), some (.inl (xs (v3 + 1).toNat)), some (.inl 0)]) dd_OneSidedLaw_law_542 rfl rfl (cw_v cw_13_56 io_182 rfl rfl (Nat.le_of_ble_eq_true rfl) (Nat.le_of_ble_eq_true rfl)) mt_shut rfl hc rfl k
  · replace k := k.2 c5
    refine R_ic dd_OneSidedLaw_law_537 (by decide) rfl ?_
    refine R_goto dd_OneSidedLaw_law_538 rfl ?_
    obtain ⟨c, hc, k⟩ := k
    exact R_call (as := [.inr (.inr 182), .inl (xs (v3 + 1).toNat), .inl 1]) (rest := []) (M' := mm_shut) (ls0 := [some (.inr (.inr 182)), some (.inl (xs (v3 + 1).toNat)), some (.inl 1)]) dd_OneSidedLaw_law_542 rfl rfl (cw_v cw_13_56 io_182 rfl rfl (Nat.le_of_ble_eq_true rfl) (Nat.le_of_ble_eq_true rfl)) mt_shut rfl hc rfl k
theorem B_law_545 {xs : Nat → Int} {xl e : Nat} {h : LH} {Q : Option LV → LH → Prop} {v3 w0 : Int} (hF : RF h) (r_v3 : 0 ≤ v3 ∧ v3 ≤ 3577)
    (k : Rn xs xl e mm_OneSidedLaw_law 1231 [some (.inr (.inr (-2))), some (.inr (.inr 1)), some (.inr (.inr 182)), some (.inl v3)] [] h Q) :
    Rn xs xl e mm_OneSidedLaw_law 545 [some (.inr (.inr (-2))), some (.inr (.inr 1)), some (.inr (.inr 182)), some (.inl v3)] [.inl w0] h Q := by
  refine R_A dd_OneSidedLaw_law_545 rfl rfl rfl rfl ?_
  refine R_goto dd_OneSidedLaw_law_546 rfl ?_
  exact k
theorem B_law_549 {xs : Nat → Int} {xl e : Nat} {h : LH} {Q : Option LV → LH → Prop} {v3 : Int} (hF : RF h) (r_v3 : 0 ≤ v3 ∧ v3 ≤ 3577)
    (k : (∃ c, c < e ∧ Rn xs xl c mm_OneSided_undo 0 [some (.inr (.inr 1))] [] h (fun r h' => Rn xs xl e mm_OneSidedLaw_law 553 [some (.inr (.inr (-2))), some (.inr (.inr 1)), some (.inr (.inr 182)), some (.inl v3)] (r.toList ++ []) h' Q))) :
    Rn xs xl e mm_OneSidedLaw_law 549 [some (.inr (.inr (-2))), some (.inr (.inr 1)), some (.inr (.inr 182)), some (.inl v3)] [] h Q := by
  refine R_ld (v := .inr (.inr 1)) dd_OneSidedLaw_law_549 rfl rfl rfl rfl ?_
  obtain ⟨c, hc, k⟩ := k
  exact R_call (as := [.inr (.inr 1)]) (rest := []) (M' := mm_OneSided_undo) (ls0 := [some (.inr (.inr 1))]) dd_OneSidedLaw_law_550 rfl rfl (cw_v cw_13_57 io_1 rfl rfl (Nat.le_of_ble_eq_true rfl) (Nat.le_of_ble_eq_true rfl)) mt_OneSided_undo rfl hc rfl k
theorem B_law_553 {xs : Nat → Int} {xl e : Nat} {h : LH} {Q : Option LV → LH → Prop} {v3 w0 : Int} (hF : RF h) (r_v3 : 0 ≤ v3 ∧ v3 ≤ 3577)
    (k : (∃ c, c < e ∧ Rn xs xl c mm_undo 0 [some (.inr (.inr 182))] [] h (fun r h' => Rn xs xl e mm_OneSidedLaw_law 558 [some (.inr (.inr (-2))), some (.inr (.inr 1)), some (.inr (.inr 182)), some (.inl v3)] (r.toList ++ []) h' Q))) :
    Rn xs xl e mm_OneSidedLaw_law 553 [some (.inr (.inr (-2))), some (.inr (.inr 1)), some (.inr (.inr 182)), some (.inl v3)] [.inl w0] h Q := by
  refine R_A dd_OneSidedLaw_law_553 rfl rfl rfl rfl ?_
  refine R_ld (v := .inr (.inr 182)) dd_OneSidedLaw_law_554 rfl rfl rfl rfl ?_
  obtain ⟨c, hc, k⟩ := k
  exact R_call (as := [.inr (.inr 182)]) (rest := []) (M' := mm_undo) (ls0 := [some (.inr (.inr 182))]) dd_OneSidedLaw_law_555 rfl rfl (cw_v cw_13_61 io_182 rfl rfl (Nat.le_of_ble_eq_true rfl) (Nat.le_of_ble_eq_true rfl)) mt_undo rfl hc rfl k
theorem B_law_558 {xs : Nat → Int} {xl e : Nat} {h : LH} {Q : Option LV → LH → Prop} {v3 w0 : Int} (hF : RF h) (r_v3 : 0 ≤ v3 ∧ v3 ≤ 3577)
    (k : Rn xs xl e mm_OneSidedLaw_law 1231 [some (.inr (.inr (-2))), some (.inr (.inr 1)), some (.inr (.inr 182)), some (.inl v3)] [] h Q) :
    Rn xs xl e mm_OneSidedLaw_law 558 [some (.inr (.inr (-2))), some (.inr (.inr 1)), some (.inr (.inr 182)), some (.inl v3)] [.inl w0] h Q := by
  refine R_A dd_OneSidedLaw_law_558 rfl rfl rfl rfl ?_
  refine R_goto dd_OneSidedLaw_law_559 rfl ?_
  exact k
theorem B_law_562 {xs : Nat → Int} {xl e : Nat} {h : LH} {Q : Option LV → LH → Prop} {v3 : Int} (hF : RF h) (r_v3 : 0 ≤ v3 ∧ v3 ≤ 3577)
    (k : (0 ≤ v3 + 1 ∧ v3 + 1 < (xl : Int)) ∧
      (∃ c, c < e ∧ Rn xs xl c mm_OneSided_judged 0 [some (.inr (.inr 1)), some (.inl (xs (v3 + 1).toNat)), none, none] [] h (fun r h' => Rn xs xl e mm_OneSidedLaw_law 571 [some (.inr (.inr (-2))), some (.inr (.inr 1)), some (.inr (.inr 182)), some (.inl v3)] (r.toList ++ []) h' Q))) :
    Rn xs xl e mm_OneSidedLaw_law 562 [some (.inr (.inr (-2))), some (.inr (.inr 1)), some (.inr (.inr 182)), some (.inl v3)] [] h Q := by
  refine R_ld (v := .inr (.inr 1)) dd_OneSidedLaw_law_562 rfl rfl rfl rfl ?_
  refine R_ld (v := .inr (.inr (-2))) dd_OneSidedLaw_law_563 rfl rfl rfl rfl ?_
  refine R_ld (v := .inl v3) dd_OneSidedLaw_law_564 rfl rfl rfl rfl ?_
  refine R_ic dd_OneSidedLaw_law_565 (by decide) rfl ?_
  refine R_iadd (c := v3 + 1) dd_OneSidedLaw_law_566 (by omega) (by omega) rfl ?_
  obtain ⟨s1, k⟩ := k
  refine R_sld dd_OneSidedLaw_law_567 s1 rfl ?_
  obtain ⟨c, hc, k⟩ := k
  exact R_call (as := [.inr (.inr 1), .inl (xs (v3 + 1).toNat)]) (rest := []) (M' := mm_OneSided_judged) (ls0 := [some (.inr (.inr 1)), some (.inl (xs (v3 + 1).toNat)), none, none]) dd_OneSidedLaw_law_568 rfl rfl (cw_v cw_13_62 io_1 rfl rfl (Nat.le_of_ble_eq_true rfl) (Nat.le_of_ble_eq_true rfl)) mt_OneSided_judged rfl hc rfl k
theorem B_law_571 {xs : Nat → Int} {xl e : Nat} {h : LH} {Q : Option LV → LH → Prop} {v3 w0 : Int} (hF : RF h) (r_v3 : 0 ≤ v3 ∧ v3 ≤ 3577)
    (k : (0 ≤ v3 + 1 ∧ v3 + 1 < (xl : Int)) ∧
      (∃ c, c < e ∧ Rn xs xl c mm_judged 0 [some (.inr (.inr 182)), some (.inl (xs (v3 + 1).toNat)), none, none, none, none] [] h (fun r h' => Rn xs xl e mm_OneSidedLaw_law 581 [some (.inr (.inr (-2))), some (.inr (.inr 1)), some (.inr (.inr 182)), some (.inl v3)] (r.toList ++ []) h' Q))) :
    Rn xs xl e mm_OneSidedLaw_law 571 [some (.inr (.inr (-2))), some (.inr (.inr 1)), some (.inr (.inr 182)), some (.inl v3)] [.inl w0] h Q := by
  refine R_A dd_OneSidedLaw_law_571 rfl rfl rfl rfl ?_
  refine R_ld (v := .inr (.inr 182)) dd_OneSidedLaw_law_572 rfl rfl rfl rfl ?_
  refine R_ld (v := .inr (.inr (-2))) dd_OneSidedLaw_law_573 rfl rfl rfl rfl ?_
  refine R_ld (v := .inl v3) dd_OneSidedLaw_law_574 rfl rfl rfl rfl ?_
  refine R_ic dd_OneSidedLaw_law_575 (by decide) rfl ?_
  refine R_iadd (c := v3 + 1) dd_OneSidedLaw_law_576 (by omega) (by omega) rfl ?_
  obtain ⟨s1, k⟩ := k
  refine R_sld dd_OneSidedLaw_law_577 s1 rfl ?_
  obtain ⟨c, hc, k⟩ := k
  exact R_call (as := [.inr (.inr 182), .inl (xs (v3 + 1).toNat)]) (rest := []) (M' := mm_judged) (ls0 := [some (.inr (.inr 182)), some (.inl (xs (v3 + 1).toNat)), none, none, none, none]) dd_OneSidedLaw_law_578 rfl rfl (cw_v cw_13_65 io_182 rfl rfl (Nat.le_of_ble_eq_true rfl) (Nat.le_of_ble_eq_true rfl)) mt_judged rfl hc rfl k
theorem B_law_581 {xs : Nat → Int} {xl e : Nat} {h : LH} {Q : Option LV → LH → Prop} {v3 w0 : Int} (hF : RF h) (r_v3 : 0 ≤ v3 ∧ v3 ≤ 3577)
    (k : Rn xs xl e mm_OneSidedLaw_law 1231 [some (.inr (.inr (-2))), some (.inr (.inr 1)), some (.inr (.inr 182)), some (.inl v3)] [] h Q) :
    Rn xs xl e mm_OneSidedLaw_law 581 [some (.inr (.inr (-2))), some (.inr (.inr 1)), some (.inr (.inr 182)), some (.inl v3)] [.inl w0] h Q := by
  refine R_A dd_OneSidedLaw_law_581 rfl rfl rfl rfl ?_
  refine R_goto dd_OneSidedLaw_law_582 rfl ?_
  exact k
theorem B_law_585 {xs : Nat → Int} {xl e : Nat} {h : LH} {Q : Option LV → LH → Prop} {v3 : Int} (hF : RF h) (r_v3 : 0 ≤ v3 ∧ v3 ≤ 3577)
    (k : (0 ≤ v3 + 1 ∧ v3 + 1 < (xl : Int)) ∧
      (0 ≤ v3 + 2 ∧ v3 + 2 < (xl : Int)) ∧
      (∃ c, c < e ∧ Rn xs xl c mm_OneSided_soonest 0 [some (.inr (.inr 1)), some (.inl (xs (v3 + 1).toNat)), some (.inl (xs (v3 + 2).toNat))] [] h (fun r h' => Rn xs xl e mm_OneSidedLaw_law 599 [some (.inr (.inr (-2))), some (.inr (.inr 1)), some (.inr (.inr 182)), some (.inl v3)] (r.toList ++ []) h' Q))) :
    Rn xs xl e mm_OneSidedLaw_law 585 [some (.inr (.inr (-2))), some (.inr (.inr 1)), some (.inr (.inr 182)), some (.inl v3)] [] h Q := by
  refine R_ld (v := .inr (.inr 1)) dd_OneSidedLaw_law_585 rfl rfl rfl rfl ?_
  refine R_ld (v := .inr (.inr (-2))) dd_OneSidedLaw_law_586 rfl rfl rfl rfl ?_
  refine R_ld (v := .inl v3) dd_OneSidedLaw_law_587 rfl rfl rfl rfl ?_
  refine R_ic dd_OneSidedLaw_law_588 (by decide) rfl ?_
  refine R_iadd (c := v3 + 1) dd_OneSidedLaw_law_589 (by omega) (by omega) rfl ?_
  obtain ⟨s1, k⟩ := k
  refine R_sld dd_OneSidedLaw_law_590 s1 rfl ?_
  refine R_ld (v := .inr (.inr (-2))) dd_OneSidedLaw_law_591 rfl rfl rfl rfl ?_
  refine R_ld (v := .inl v3) dd_OneSidedLaw_law_592 rfl rfl rfl rfl ?_
  refine R_ic dd_OneSidedLaw_law_593 (by decide) rfl ?_
  refine R_iadd (c := v3 + 2) dd_OneSidedLaw_law_594 (by omega) (by omega) rfl ?_
  obtain ⟨s2, k⟩ := k
  refine R_sld dd_OneSidedLaw_law_595 s2 rfl ?_
  obtain ⟨c, hc, k⟩ := k
  exact R_call (as := [.inr (.inr 1), .inl (xs (v3 + 1).toNat), .inl (xs (v3 + 2).toNat)]) (rest := []) (M' := mm_OneSided_soonest) (ls0 := [some (.inr (.inr 1)), some (.inl (xs (v3 + 1).toNat)), some (.inl (xs (v3 + 2).toNat))]) dd_OneSidedLaw_law_596 rfl rfl (cw_v cw_13_66 io_1 rfl rfl (Nat.le_of_ble_eq_true rfl) (Nat.le_of_ble_eq_true rfl)) mt_OneSided_soonest rfl hc rfl k
theorem B_law_599 {xs : Nat → Int} {xl e : Nat} {h : LH} {Q : Option LV → LH → Prop} {v3 w0 : Int} (hF : RF h) (r_v3 : 0 ≤ v3 ∧ v3 ≤ 3577)
    (k : (0 ≤ v3 + 1 ∧ v3 + 1 < (xl : Int)) ∧
      (0 ≤ v3 + 2 ∧ v3 + 2 < (xl : Int)) ∧
      (∃ c, c < e ∧ Rn xs xl c mm_soonest 0 [some (.inr (.inr 182)), some (.inl (xs (v3 + 1).toNat)), some (.inl (xs (v3 + 2).toNat))] [] h (fun r h' => Rn xs xl e mm_OneSidedLaw_law 614 [some (.inr (.inr (-2))), some (.inr (.inr 1)), some (.inr (.inr 182)), some (.inl v3)] (r.toList ++ []) h' Q))) :
    Rn xs xl e mm_OneSidedLaw_law 599 [some (.inr (.inr (-2))), some (.inr (.inr 1)), some (.inr (.inr 182)), some (.inl v3)] [.inl w0] h Q := by
  refine R_A dd_OneSidedLaw_law_599 rfl rfl rfl rfl ?_
  refine R_ld (v := .inr (.inr 182)) dd_OneSidedLaw_law_600 rfl rfl rfl rfl ?_
  refine R_ld (v := .inr (.inr (-2))) dd_OneSidedLaw_law_601 rfl rfl rfl rfl ?_
  refine R_ld (v := .inl v3) dd_OneSidedLaw_law_602 rfl rfl rfl rfl ?_
  refine R_ic dd_OneSidedLaw_law_603 (by decide) rfl ?_
  refine R_iadd (c := v3 + 1) dd_OneSidedLaw_law_604 (by omega) (by omega) rfl ?_
  obtain ⟨s1, k⟩ := k
  refine R_sld dd_OneSidedLaw_law_605 s1 rfl ?_
  refine R_ld (v := .inr (.inr (-2))) dd_OneSidedLaw_law_606 rfl rfl rfl rfl ?_
  refine R_ld (v := .inl v3) dd_OneSidedLaw_law_607 rfl rfl rfl rfl ?_
  refine R_ic dd_OneSidedLaw_law_608 (by decide) rfl ?_
  refine R_iadd (c := v3 + 2) dd_OneSidedLaw_law_609 (by omega) (by omega) rfl ?_
  obtain ⟨s2, k⟩ := k
  refine R_sld dd_OneSidedLaw_law_610 s2 rfl ?_
  obtain ⟨c, hc, k⟩ := k
  exact R_call (as := [.inr (.inr 182), .inl (xs (v3 + 1).toNat), .inl (xs (v3 + 2).toNat)]) (rest := []) (M' := mm_soonest) (ls0 := [some (.inr (.inr 182)), some (.inl (xs (v3 + 1).toNat)), some (.inl (xs (v3 + 2).toNat))]) dd_OneSidedLaw_law_611 rfl rfl (cw_v cw_13_69 io_182 rfl rfl (Nat.le_of_ble_eq_true rfl) (Nat.le_of_ble_eq_true rfl)) mt_soonest rfl hc rfl k
theorem B_law_614 {xs : Nat → Int} {xl e : Nat} {h : LH} {Q : Option LV → LH → Prop} {v3 w0 : Int} (hF : RF h) (r_v3 : 0 ≤ v3 ∧ v3 ≤ 3577)
    (k : Rn xs xl e mm_OneSidedLaw_law 1231 [some (.inr (.inr (-2))), some (.inr (.inr 1)), some (.inr (.inr 182)), some (.inl v3)] [] h Q) :
    Rn xs xl e mm_OneSidedLaw_law 614 [some (.inr (.inr (-2))), some (.inr (.inr 1)), some (.inr (.inr 182)), some (.inl v3)] [.inl w0] h Q := by
  refine R_A dd_OneSidedLaw_law_614 rfl rfl rfl rfl ?_
  refine R_goto dd_OneSidedLaw_law_615 rfl ?_
  exact k
theorem B_law_618 {xs : Nat → Int} {xl e : Nat} {h : LH} {Q : Option LV → LH → Prop} {v3 : Int} (hF : RF h) (r_v3 : 0 ≤ v3 ∧ v3 ≤ 3577)
    (k : (0 ≤ v3 + 1 ∧ v3 + 1 < (xl : Int)) ∧
      (0 ≤ v3 + 2 ∧ v3 + 2 < (xl : Int)) ∧
      (∃ c, c < e ∧ Rn xs xl c mm_OneSided_errand 0 [some (.inr (.inr 1)), some (.inl (xs (v3 + 1).toNat)), some (.inl (xs (v3 + 2).toNat)), none] [] h (fun r h' => Rn xs xl e mm_OneSidedLaw_law 632 [some (.inr (.inr (-2))), some (.inr (.inr 1)), some (.inr (.inr 182)), some (.inl v3)] (r.toList ++ []) h' Q))) :
    Rn xs xl e mm_OneSidedLaw_law 618 [some (.inr (.inr (-2))), some (.inr (.inr 1)), some (.inr (.inr 182)), some (.inl v3)] [] h Q := by
  refine R_ld (v := .inr (.inr 1)) dd_OneSidedLaw_law_618 rfl rfl rfl rfl ?_
  refine R_ld (v := .inr (.inr (-2))) dd_OneSidedLaw_law_619 rfl rfl rfl rfl ?_
  refine R_ld (v := .inl v3) dd_OneSidedLaw_law_620 rfl rfl rfl rfl ?_
  refine R_ic dd_OneSidedLaw_law_621 (by decide) rfl ?_
  refine R_iadd (c := v3 + 1) dd_OneSidedLaw_law_622 (by omega) (by omega) rfl ?_
  obtain ⟨s1, k⟩ := k
  refine R_sld dd_OneSidedLaw_law_623 s1 rfl ?_
  refine R_ld (v := .inr (.inr (-2))) dd_OneSidedLaw_law_624 rfl rfl rfl rfl ?_
  refine R_ld (v := .inl v3) dd_OneSidedLaw_law_625 rfl rfl rfl rfl ?_
  refine R_ic dd_OneSidedLaw_law_626 (by decide) rfl ?_
  refine R_iadd (c := v3 + 2) dd_OneSidedLaw_law_627 (by omega) (by omega) rfl ?_
  obtain ⟨s2, k⟩ := k
  refine R_sld dd_OneSidedLaw_law_628 s2 rfl ?_
  obtain ⟨c, hc, k⟩ := k
  exact R_call (as := [.inr (.inr 1), .inl (xs (v3 + 1).toNat), .inl (xs (v3 + 2).toNat)]) (rest := []) (M' := mm_OneSided_errand) (ls0 := [some (.inr (.inr 1)), some (.inl (xs (v3 + 1).toNat)), some (.inl (xs (v3 + 2).toNat)), none]) dd_OneSidedLaw_law_629 rfl rfl (cw_v cw_13_70 io_1 rfl rfl (Nat.le_of_ble_eq_true rfl) (Nat.le_of_ble_eq_true rfl)) mt_OneSided_errand rfl hc rfl k
theorem B_law_632 {xs : Nat → Int} {xl e : Nat} {h : LH} {Q : Option LV → LH → Prop} {v3 w0 : Int} (hF : RF h) (r_v3 : 0 ≤ v3 ∧ v3 ≤ 3577)
    (k : (0 ≤ v3 + 1 ∧ v3 + 1 < (xl : Int)) ∧
      (0 ≤ v3 + 2 ∧ v3 + 2 < (xl : Int)) ∧
      (∃ c, c < e ∧ Rn xs xl c mm_errand 0 [some (.inr (.inr 182)), some (.inl (xs (v3 + 1).toNat)), some (.inl (xs (v3 + 2).toNat)), none] [] h (fun r h' => Rn xs xl e mm_OneSidedLaw_law 646 [some (.inr (.inr (-2))), some (.inr (.inr 1)), some (.inr (.inr 182)), some (.inl v3)] (r.toList ++ [.inl w0]) h' Q))) :
    Rn xs xl e mm_OneSidedLaw_law 632 [some (.inr (.inr (-2))), some (.inr (.inr 1)), some (.inr (.inr 182)), some (.inl v3)] [.inl w0] h Q := by
  refine R_ld (v := .inr (.inr 182)) dd_OneSidedLaw_law_632 rfl rfl rfl rfl ?_
  refine R_ld (v := .inr (.inr (-2))) dd_OneSidedLaw_law_633 rfl rfl rfl rfl ?_
  refine R_ld (v := .inl v3) dd_OneSidedLaw_law_634 rfl rfl rfl rfl ?_
  refine R_ic dd_OneSidedLaw_law_635 (by decide) rfl ?_
  refine R_iadd (c := v3 + 1) dd_OneSidedLaw_law_636 (by omega) (by omega) rfl ?_
  obtain ⟨s1, k⟩ := k
  refine R_sld dd_OneSidedLaw_law_637 s1 rfl ?_
  refine R_ld (v := .inr (.inr (-2))) dd_OneSidedLaw_law_638 rfl rfl rfl rfl ?_
  refine R_ld (v := .inl v3) dd_OneSidedLaw_law_639 rfl rfl rfl rfl ?_
  refine R_ic dd_OneSidedLaw_law_640 (by decide) rfl ?_
  refine R_iadd (c := v3 + 2) dd_OneSidedLaw_law_641 (by omega) (by omega) rfl ?_
  obtain ⟨s2, k⟩ := k
  refine R_sld dd_OneSidedLaw_law_642 s2 rfl ?_
  obtain ⟨c, hc, k⟩ := k
  exact R_call (as := [.inr (.inr 182), .inl (xs (v3 + 1).toNat), .inl (xs (v3 + 2).toNat)]) (rest := [.inl w0]) (M' := mm_errand) (ls0 := [some (.inr (.inr 182)), some (.inl (xs (v3 + 1).toNat)), some (.inl (xs (v3 + 2).toNat)), none]) dd_OneSidedLaw_law_643 rfl rfl (cw_v cw_13_73 io_182 rfl rfl (Nat.le_of_ble_eq_true rfl) (Nat.le_of_ble_eq_true rfl)) mt_errand rfl hc rfl k
theorem B_law_646 {xs : Nat → Int} {xl e : Nat} {h : LH} {Q : Option LV → LH → Prop} {v3 w0 w1 : Int} (hF : RF h) (r_v3 : 0 ≤ v3 ∧ v3 ≤ 3577)
    (k : (w0 = w1 →
        Rn xs xl e mm_OneSidedLaw_law 1231 [some (.inr (.inr (-2))), some (.inr (.inr 1)), some (.inr (.inr 182)), some (.inl v3)] [] h Q) ∧
      (w0 ≠ w1 →
        Q (some (.inl 0)) h)) :
    Rn xs xl e mm_OneSidedLaw_law 646 [some (.inr (.inr (-2))), some (.inr (.inr 1)), some (.inr (.inr 182)), some (.inl v3)] [.inl w1, .inl w0] h Q := by
  refine R_icmp dd_OneSidedLaw_law_646 rfl rfl (fun (c1 : w0 = w1) => ?_) (fun (c1 : w0 ≠ w1) => ?_)
  · replace k := k.1 c1
    exact k
  · replace k := k.2 c1
    refine R_ic dd_OneSidedLaw_law_649 (by decide) rfl ?_
    exact R_zret dd_OneSidedLaw_law_650 rfl (by decide) k
theorem B_law_651 {xs : Nat → Int} {xl e : Nat} {h : LH} {Q : Option LV → LH → Prop} {v3 : Int} (hF : RF h) (r_v3 : 0 ≤ v3 ∧ v3 ≤ 3577)
    (k : (0 ≤ v3 + 1 ∧ v3 + 1 < (xl : Int)) ∧
      (∃ c, c < e ∧ Rn xs xl c mm_OneSided_reach 0 [some (.inr (.inr 1)), some (.inl (xs (v3 + 1).toNat))] [] h (fun r h' => Rn xs xl e mm_OneSidedLaw_law 660 [some (.inr (.inr (-2))), some (.inr (.inr 1)), some (.inr (.inr 182)), some (.inl v3)] (r.toList ++ []) h' Q))) :
    Rn xs xl e mm_OneSidedLaw_law 651 [some (.inr (.inr (-2))), some (.inr (.inr 1)), some (.inr (.inr 182)), some (.inl v3)] [] h Q := by
  refine R_ld (v := .inr (.inr 1)) dd_OneSidedLaw_law_651 rfl rfl rfl rfl ?_
  refine R_ld (v := .inr (.inr (-2))) dd_OneSidedLaw_law_652 rfl rfl rfl rfl ?_
  refine R_ld (v := .inl v3) dd_OneSidedLaw_law_653 rfl rfl rfl rfl ?_
  refine R_ic dd_OneSidedLaw_law_654 (by decide) rfl ?_
  refine R_iadd (c := v3 + 1) dd_OneSidedLaw_law_655 (by omega) (by omega) rfl ?_
  obtain ⟨s1, k⟩ := k
  refine R_sld dd_OneSidedLaw_law_656 s1 rfl ?_
  obtain ⟨c, hc, k⟩ := k
  exact R_call (as := [.inr (.inr 1), .inl (xs (v3 + 1).toNat)]) (rest := []) (M' := mm_OneSided_reach) (ls0 := [some (.inr (.inr 1)), some (.inl (xs (v3 + 1).toNat))]) dd_OneSidedLaw_law_657 rfl rfl (cw_v cw_13_74 io_1 rfl rfl (Nat.le_of_ble_eq_true rfl) (Nat.le_of_ble_eq_true rfl)) mt_OneSided_reach rfl hc rfl k
theorem B_law_660 {xs : Nat → Int} {xl e : Nat} {h : LH} {Q : Option LV → LH → Prop} {v3 w0 : Int} (hF : RF h) (r_v3 : 0 ≤ v3 ∧ v3 ≤ 3577)
    (k : (0 ≤ v3 + 1 ∧ v3 + 1 < (xl : Int)) ∧
      (∃ c, c < e ∧ Rn xs xl c mm_reach 0 [some (.inr (.inr 182)), some (.inl (xs (v3 + 1).toNat)), none, none] [] h (fun r h' => Rn xs xl e mm_OneSidedLaw_law 670 [some (.inr (.inr (-2))), some (.inr (.inr 1)), some (.inr (.inr 182)), some (.inl v3)] (r.toList ++ []) h' Q))) :
    Rn xs xl e mm_OneSidedLaw_law 660 [some (.inr (.inr (-2))), some (.inr (.inr 1)), some (.inr (.inr 182)), some (.inl v3)] [.inl w0] h Q := by
  refine R_A dd_OneSidedLaw_law_660 rfl rfl rfl rfl ?_
  refine R_ld (v := .inr (.inr 182)) dd_OneSidedLaw_law_661 rfl rfl rfl rfl ?_
  refine R_ld (v := .inr (.inr (-2))) dd_OneSidedLaw_law_662 rfl rfl rfl rfl ?_
  refine R_ld (v := .inl v3) dd_OneSidedLaw_law_663 rfl rfl rfl rfl ?_
  refine R_ic dd_OneSidedLaw_law_664 (by decide) rfl ?_
  refine R_iadd (c := v3 + 1) dd_OneSidedLaw_law_665 (by omega) (by omega) rfl ?_
  obtain ⟨s1, k⟩ := k
  refine R_sld dd_OneSidedLaw_law_666 s1 rfl ?_
  obtain ⟨c, hc, k⟩ := k
  exact R_call (as := [.inr (.inr 182), .inl (xs (v3 + 1).toNat)]) (rest := []) (M' := mm_reach) (ls0 := [some (.inr (.inr 182)), some (.inl (xs (v3 + 1).toNat)), none, none]) dd_OneSidedLaw_law_667 rfl rfl (cw_v cw_13_77 io_182 rfl rfl (Nat.le_of_ble_eq_true rfl) (Nat.le_of_ble_eq_true rfl)) mt_reach rfl hc rfl k
theorem B_law_670 {xs : Nat → Int} {xl e : Nat} {h : LH} {Q : Option LV → LH → Prop} {v3 w0 : Int} (hF : RF h) (r_v3 : 0 ≤ v3 ∧ v3 ≤ 3577)
    (k : Rn xs xl e mm_OneSidedLaw_law 1231 [some (.inr (.inr (-2))), some (.inr (.inr 1)), some (.inr (.inr 182)), some (.inl v3)] [] h Q) :
    Rn xs xl e mm_OneSidedLaw_law 670 [some (.inr (.inr (-2))), some (.inr (.inr 1)), some (.inr (.inr 182)), some (.inl v3)] [.inl w0] h Q := by
  refine R_A dd_OneSidedLaw_law_670 rfl rfl rfl rfl ?_
  refine R_goto dd_OneSidedLaw_law_671 rfl ?_
  exact k
theorem B_law_674 {xs : Nat → Int} {xl e : Nat} {h : LH} {Q : Option LV → LH → Prop} {v3 : Int} (hF : RF h) (r_v3 : 0 ≤ v3 ∧ v3 ≤ 3577)
    (k : (∃ c, c < e ∧ Rn xs xl c mm_OneSided_stuck 0 [some (.inr (.inr 1)), none, none] [] h (fun r h' => Rn xs xl e mm_OneSidedLaw_law 678 [some (.inr (.inr (-2))), some (.inr (.inr 1)), some (.inr (.inr 182)), some (.inl v3)] (r.toList ++ []) h' Q))) :
    Rn xs xl e mm_OneSidedLaw_law 674 [some (.inr (.inr (-2))), some (.inr (.inr 1)), some (.inr (.inr 182)), some (.inl v3)] [] h Q := by
  refine R_ld (v := .inr (.inr 1)) dd_OneSidedLaw_law_674 rfl rfl rfl rfl ?_
  obtain ⟨c, hc, k⟩ := k
  exact R_call (as := [.inr (.inr 1)]) (rest := []) (M' := mm_OneSided_stuck) (ls0 := [some (.inr (.inr 1)), none, none]) dd_OneSidedLaw_law_675 rfl rfl (cw_v cw_13_78 io_1 rfl rfl (Nat.le_of_ble_eq_true rfl) (Nat.le_of_ble_eq_true rfl)) mt_OneSided_stuck rfl hc rfl k
theorem B_law_678 {xs : Nat → Int} {xl e : Nat} {h : LH} {Q : Option LV → LH → Prop} {v3 w0 : Int} (hF : RF h) (r_v3 : 0 ≤ v3 ∧ v3 ≤ 3577)
    (k : (∃ c, c < e ∧ Rn xs xl c mm_stuck 0 [some (.inr (.inr 182)), none, none] [] h (fun r h' => Rn xs xl e mm_OneSidedLaw_law 683 [some (.inr (.inr (-2))), some (.inr (.inr 1)), some (.inr (.inr 182)), some (.inl v3)] (r.toList ++ []) h' Q))) :
    Rn xs xl e mm_OneSidedLaw_law 678 [some (.inr (.inr (-2))), some (.inr (.inr 1)), some (.inr (.inr 182)), some (.inl v3)] [.inl w0] h Q := by
  refine R_A dd_OneSidedLaw_law_678 rfl rfl rfl rfl ?_
  refine R_ld (v := .inr (.inr 182)) dd_OneSidedLaw_law_679 rfl rfl rfl rfl ?_
  obtain ⟨c, hc, k⟩ := k
  exact R_call (as := [.inr (.inr 182)]) (rest := []) (M' := mm_stuck) (ls0 := [some (.inr (.inr 182)), none, none]) dd_OneSidedLaw_law_680 rfl rfl (cw_v cw_13_81 io_182 rfl rfl (Nat.le_of_ble_eq_true rfl) (Nat.le_of_ble_eq_true rfl)) mt_stuck rfl hc rfl k
theorem B_law_683 {xs : Nat → Int} {xl e : Nat} {h : LH} {Q : Option LV → LH → Prop} {v3 w0 : Int} (hF : RF h) (r_v3 : 0 ≤ v3 ∧ v3 ≤ 3577)
    (k : Rn xs xl e mm_OneSidedLaw_law 1231 [some (.inr (.inr (-2))), some (.inr (.inr 1)), some (.inr (.inr 182)), some (.inl v3)] [] h Q) :
    Rn xs xl e mm_OneSidedLaw_law 683 [some (.inr (.inr (-2))), some (.inr (.inr 1)), some (.inr (.inr 182)), some (.inl v3)] [.inl w0] h Q := by
  refine R_A dd_OneSidedLaw_law_683 rfl rfl rfl rfl ?_
  refine R_goto dd_OneSidedLaw_law_684 rfl ?_
  exact k
theorem B_law_687 {xs : Nat → Int} {xl e : Nat} {h : LH} {Q : Option LV → LH → Prop} {v3 : Int} (hF : RF h) (r_v3 : 0 ≤ v3 ∧ v3 ≤ 3577)
    (k : (0 ≤ v3 + 1 ∧ v3 + 1 < (xl : Int)) ∧
      (0 ≤ v3 + 2 ∧ v3 + 2 < (xl : Int)) ∧
      (0 ≤ v3 + 3 ∧ v3 + 3 < (xl : Int)) ∧
      (∃ c, c < e ∧ Rn xs xl c mm_OneSided_ring 0 [some (.inr (.inr 1)), some (.inl (xs (v3 + 1).toNat)), some (.inl (xs (v3 + 2).toNat)), some (.inl (xs (v3 + 3).toNat))] [] h (fun r h' => Rn xs xl e mm_OneSidedLaw_law 706 [some (.inr (.inr (-2))), some (.inr (.inr 1)), some (.inr (.inr 182)), some (.inl v3)] (r.toList ++ []) h' Q))) :
    Rn xs xl e mm_OneSidedLaw_law 687 [some (.inr (.inr (-2))), some (.inr (.inr 1)), some (.inr (.inr 182)), some (.inl v3)] [] h Q := by
  refine R_ld (v := .inr (.inr 1)) dd_OneSidedLaw_law_687 rfl rfl rfl rfl ?_
  refine R_ld (v := .inr (.inr (-2))) dd_OneSidedLaw_law_688 rfl rfl rfl rfl ?_
  refine R_ld (v := .inl v3) dd_OneSidedLaw_law_689 rfl rfl rfl rfl ?_
  refine R_ic dd_OneSidedLaw_law_690 (by decide) rfl ?_
  refine R_iadd (c := v3 + 1) dd_OneSidedLaw_law_691 (by omega) (by omega) rfl ?_
  obtain ⟨s1, k⟩ := k
  refine R_sld dd_OneSidedLaw_law_692 s1 rfl ?_
  refine R_ld (v := .inr (.inr (-2))) dd_OneSidedLaw_law_693 rfl rfl rfl rfl ?_
  refine R_ld (v := .inl v3) dd_OneSidedLaw_law_694 rfl rfl rfl rfl ?_
  refine R_ic dd_OneSidedLaw_law_695 (by decide) rfl ?_
  refine R_iadd (c := v3 + 2) dd_OneSidedLaw_law_696 (by omega) (by omega) rfl ?_
  obtain ⟨s2, k⟩ := k
  refine R_sld dd_OneSidedLaw_law_697 s2 rfl ?_
  refine R_ld (v := .inr (.inr (-2))) dd_OneSidedLaw_law_698 rfl rfl rfl rfl ?_
  refine R_ld (v := .inl v3) dd_OneSidedLaw_law_699 rfl rfl rfl rfl ?_
  refine R_ic dd_OneSidedLaw_law_700 (by decide) rfl ?_
  refine R_iadd (c := v3 + 3) dd_OneSidedLaw_law_701 (by omega) (by omega) rfl ?_
  obtain ⟨s3, k⟩ := k
  refine R_sld dd_OneSidedLaw_law_702 s3 rfl ?_
  obtain ⟨c, hc, k⟩ := k
  exact R_call (as := [.inr (.inr 1), .inl (xs (v3 + 1).toNat), .inl (xs (v3 + 2).toNat), .inl (xs (v3 + 3).toNat)]) (rest := []) (M' := mm_OneSided_ring) (ls0 := [some (.inr (.inr 1)), some (.inl (xs (v3 + 1).toNat)), some (.inl (xs (v3 + 2).toNat)), some (.inl (xs (v3 + 3).toNat))]) dd_OneSidedLaw_law_703 rfl rfl (cw_v cw_13_82 io_1 rfl rfl (Nat.le_of_ble_eq_true rfl) (Nat.le_of_ble_eq_true rfl)) mt_OneSided_ring rfl hc rfl k
theorem B_law_706 {xs : Nat → Int} {xl e : Nat} {h : LH} {Q : Option LV → LH → Prop} {v3 w0 : Int} (hF : RF h) (r_v3 : 0 ≤ v3 ∧ v3 ≤ 3577)
    (k : (0 ≤ v3 + 1 ∧ v3 + 1 < (xl : Int)) ∧
      (0 ≤ v3 + 2 ∧ v3 + 2 < (xl : Int)) ∧
      (0 ≤ v3 + 3 ∧ v3 + 3 < (xl : Int)) ∧
      (∃ c, c < e ∧ Rn xs xl c mm_ring 0 [some (.inr (.inr 182)), some (.inl (xs (v3 + 1).toNat)), some (.inl (xs (v3 + 2).toNat)), some (.inl (xs (v3 + 3).toNat))] [] h (fun r h' => Rn xs xl e mm_OneSidedLaw_law 726 [some (.inr (.inr (-2))), some (.inr (.inr 1)), some (.inr (.inr 182)), some (.inl v3)] (r.toList ++ []) h' Q))) :
    Rn xs xl e mm_OneSidedLaw_law 706 [some (.inr (.inr (-2))), some (.inr (.inr 1)), some (.inr (.inr 182)), some (.inl v3)] [.inl w0] h Q := by
  refine R_A dd_OneSidedLaw_law_706 rfl rfl rfl rfl ?_
  refine R_ld (v := .inr (.inr 182)) dd_OneSidedLaw_law_707 rfl rfl rfl rfl ?_
  refine R_ld (v := .inr (.inr (-2))) dd_OneSidedLaw_law_708 rfl rfl rfl rfl ?_
  refine R_ld (v := .inl v3) dd_OneSidedLaw_law_709 rfl rfl rfl rfl ?_
  refine R_ic dd_OneSidedLaw_law_710 (by decide) rfl ?_
  refine R_iadd (c := v3 + 1) dd_OneSidedLaw_law_711 (by omega) (by omega) rfl ?_
  obtain ⟨s1, k⟩ := k
  refine R_sld dd_OneSidedLaw_law_712 s1 rfl ?_
  refine R_ld (v := .inr (.inr (-2))) dd_OneSidedLaw_law_713 rfl rfl rfl rfl ?_
  refine R_ld (v := .inl v3) dd_OneSidedLaw_law_714 rfl rfl rfl rfl ?_
  refine R_ic dd_OneSidedLaw_law_715 (by decide) rfl ?_
  refine R_iadd (c := v3 + 2) dd_OneSidedLaw_law_716 (by omega) (by omega) rfl ?_
  obtain ⟨s2, k⟩ := k
  refine R_sld dd_OneSidedLaw_law_717 s2 rfl ?_
  refine R_ld (v := .inr (.inr (-2))) dd_OneSidedLaw_law_718 rfl rfl rfl rfl ?_
  refine R_ld (v := .inl v3) dd_OneSidedLaw_law_719 rfl rfl rfl rfl ?_
  refine R_ic dd_OneSidedLaw_law_720 (by decide) rfl ?_
  refine R_iadd (c := v3 + 3) dd_OneSidedLaw_law_721 (by omega) (by omega) rfl ?_
  obtain ⟨s3, k⟩ := k
  refine R_sld dd_OneSidedLaw_law_722 s3 rfl ?_
  obtain ⟨c, hc, k⟩ := k
  exact R_call (as := [.inr (.inr 182), .inl (xs (v3 + 1).toNat), .inl (xs (v3 + 2).toNat), .inl (xs (v3 + 3).toNat)]) (rest := []) (M' := mm_ring) (ls0 := [some (.inr (.inr 182)), some (.inl (xs (v3 + 1).toNat)), some (.inl (xs (v3 + 2).toNat)), some (.inl (xs (v3 + 3).toNat))]) dd_OneSidedLaw_law_723 rfl rfl (cw_v cw_13_86 io_182 rfl rfl (Nat.le_of_ble_eq_true rfl) (Nat.le_of_ble_eq_true rfl)) mt_ring rfl hc rfl k
theorem B_law_726 {xs : Nat → Int} {xl e : Nat} {h : LH} {Q : Option LV → LH → Prop} {v3 w0 : Int} (hF : RF h) (r_v3 : 0 ≤ v3 ∧ v3 ≤ 3577)
    (k : Rn xs xl e mm_OneSidedLaw_law 1231 [some (.inr (.inr (-2))), some (.inr (.inr 1)), some (.inr (.inr 182)), some (.inl v3)] [] h Q) :
    Rn xs xl e mm_OneSidedLaw_law 726 [some (.inr (.inr (-2))), some (.inr (.inr 1)), some (.inr (.inr 182)), some (.inl v3)] [.inl w0] h Q := by
  refine R_A dd_OneSidedLaw_law_726 rfl rfl rfl rfl ?_
  refine R_goto dd_OneSidedLaw_law_727 rfl ?_
  exact k
theorem B_law_730 {xs : Nat → Int} {xl e : Nat} {h : LH} {Q : Option LV → LH → Prop} {v3 : Int} (hF : RF h) (r_v3 : 0 ≤ v3 ∧ v3 ≤ 3577)
    (k : (0 ≤ v3 + 1 ∧ v3 + 1 < (xl : Int)) ∧
      (0 ≤ v3 + 2 ∧ v3 + 2 < (xl : Int)) ∧
      (0 ≤ v3 + 3 ∧ v3 + 3 < (xl : Int)) ∧
      (∃ c, c < e ∧ Rn xs xl c mm_OneSided_homeless 0 [some (.inr (.inr 1)), some (.inl (xs (v3 + 1).toNat)), some (.inl (xs (v3 + 2).toNat)), some (.inl (xs (v3 + 3).toNat)), none] [] h (fun r h' => Rn xs xl e mm_OneSidedLaw_law 749 [some (.inr (.inr (-2))), some (.inr (.inr 1)), some (.inr (.inr 182)), some (.inl v3)] (r.toList ++ []) h' Q))) :
    Rn xs xl e mm_OneSidedLaw_law 730 [some (.inr (.inr (-2))), some (.inr (.inr 1)), some (.inr (.inr 182)), some (.inl v3)] [] h Q := by
  refine R_ld (v := .inr (.inr 1)) dd_OneSidedLaw_law_730 rfl rfl rfl rfl ?_
  refine R_ld (v := .inr (.inr (-2))) dd_OneSidedLaw_law_731 rfl rfl rfl rfl ?_
  refine R_ld (v := .inl v3) dd_OneSidedLaw_law_732 rfl rfl rfl rfl ?_
  refine R_ic dd_OneSidedLaw_law_733 (by decide) rfl ?_
  refine R_iadd (c := v3 + 1) dd_OneSidedLaw_law_734 (by omega) (by omega) rfl ?_
  obtain ⟨s1, k⟩ := k
  refine R_sld dd_OneSidedLaw_law_735 s1 rfl ?_
  refine R_ld (v := .inr (.inr (-2))) dd_OneSidedLaw_law_736 rfl rfl rfl rfl ?_
  refine R_ld (v := .inl v3) dd_OneSidedLaw_law_737 rfl rfl rfl rfl ?_
  refine R_ic dd_OneSidedLaw_law_738 (by decide) rfl ?_
  refine R_iadd (c := v3 + 2) dd_OneSidedLaw_law_739 (by omega) (by omega) rfl ?_
  obtain ⟨s2, k⟩ := k
  refine R_sld dd_OneSidedLaw_law_740 s2 rfl ?_
  refine R_ld (v := .inr (.inr (-2))) dd_OneSidedLaw_law_741 rfl rfl rfl rfl ?_
  refine R_ld (v := .inl v3) dd_OneSidedLaw_law_742 rfl rfl rfl rfl ?_
  refine R_ic dd_OneSidedLaw_law_743 (by decide) rfl ?_
  refine R_iadd (c := v3 + 3) dd_OneSidedLaw_law_744 (by omega) (by omega) rfl ?_
  obtain ⟨s3, k⟩ := k
  refine R_sld dd_OneSidedLaw_law_745 s3 rfl ?_
  obtain ⟨c, hc, k⟩ := k
  exact R_call (as := [.inr (.inr 1), .inl (xs (v3 + 1).toNat), .inl (xs (v3 + 2).toNat), .inl (xs (v3 + 3).toNat)]) (rest := []) (M' := mm_OneSided_homeless) (ls0 := [some (.inr (.inr 1)), some (.inl (xs (v3 + 1).toNat)), some (.inl (xs (v3 + 2).toNat)), some (.inl (xs (v3 + 3).toNat)), none]) dd_OneSidedLaw_law_746 rfl rfl (cw_v cw_13_87 io_1 rfl rfl (Nat.le_of_ble_eq_true rfl) (Nat.le_of_ble_eq_true rfl)) mt_OneSided_homeless rfl hc rfl k
theorem B_law_749 {xs : Nat → Int} {xl e : Nat} {h : LH} {Q : Option LV → LH → Prop} {v3 w0 : Int} (hF : RF h) (r_v3 : 0 ≤ v3 ∧ v3 ≤ 3577)
    (k : (0 ≤ v3 + 1 ∧ v3 + 1 < (xl : Int)) ∧
      (0 ≤ v3 + 2 ∧ v3 + 2 < (xl : Int)) ∧
      (0 ≤ v3 + 3 ∧ v3 + 3 < (xl : Int)) ∧
      (∃ c, c < e ∧ Rn xs xl c mm_homeless 0 [some (.inr (.inr 182)), some (.inl (xs (v3 + 1).toNat)), some (.inl (xs (v3 + 2).toNat)), some (.inl (xs (v3 + 3).toNat))] [] h (fun r h' => Rn xs xl e mm_OneSidedLaw_law 769 [some (.inr (.inr (-2))), some (.inr (.inr 1)), some (.inr (.inr 182)), some (.inl v3)] (r.toList ++ []) h' Q))) :
    Rn xs xl e mm_OneSidedLaw_law 749 [some (.inr (.inr (-2))), some (.inr (.inr 1)), some (.inr (.inr 182)), some (.inl v3)] [.inl w0] h Q := by
  refine R_A dd_OneSidedLaw_law_749 rfl rfl rfl rfl ?_
  refine R_ld (v := .inr (.inr 182)) dd_OneSidedLaw_law_750 rfl rfl rfl rfl ?_
  refine R_ld (v := .inr (.inr (-2))) dd_OneSidedLaw_law_751 rfl rfl rfl rfl ?_
  refine R_ld (v := .inl v3) dd_OneSidedLaw_law_752 rfl rfl rfl rfl ?_
  refine R_ic dd_OneSidedLaw_law_753 (by decide) rfl ?_
  refine R_iadd (c := v3 + 1) dd_OneSidedLaw_law_754 (by omega) (by omega) rfl ?_
  obtain ⟨s1, k⟩ := k
  refine R_sld dd_OneSidedLaw_law_755 s1 rfl ?_
  refine R_ld (v := .inr (.inr (-2))) dd_OneSidedLaw_law_756 rfl rfl rfl rfl ?_
  refine R_ld (v := .inl v3) dd_OneSidedLaw_law_757 rfl rfl rfl rfl ?_
  refine R_ic dd_OneSidedLaw_law_758 (by decide) rfl ?_
  refine R_iadd (c := v3 + 2) dd_OneSidedLaw_law_759 (by omega) (by omega) rfl ?_
  obtain ⟨s2, k⟩ := k
  refine R_sld dd_OneSidedLaw_law_760 s2 rfl ?_
  refine R_ld (v := .inr (.inr (-2))) dd_OneSidedLaw_law_761 rfl rfl rfl rfl ?_
  refine R_ld (v := .inl v3) dd_OneSidedLaw_law_762 rfl rfl rfl rfl ?_
  refine R_ic dd_OneSidedLaw_law_763 (by decide) rfl ?_
  refine R_iadd (c := v3 + 3) dd_OneSidedLaw_law_764 (by omega) (by omega) rfl ?_
  obtain ⟨s3, k⟩ := k
  refine R_sld dd_OneSidedLaw_law_765 s3 rfl ?_
  obtain ⟨c, hc, k⟩ := k
  exact R_call (as := [.inr (.inr 182), .inl (xs (v3 + 1).toNat), .inl (xs (v3 + 2).toNat), .inl (xs (v3 + 3).toNat)]) (rest := []) (M' := mm_homeless) (ls0 := [some (.inr (.inr 182)), some (.inl (xs (v3 + 1).toNat)), some (.inl (xs (v3 + 2).toNat)), some (.inl (xs (v3 + 3).toNat))]) dd_OneSidedLaw_law_766 rfl rfl (cw_v cw_13_90 io_182 rfl rfl (Nat.le_of_ble_eq_true rfl) (Nat.le_of_ble_eq_true rfl)) mt_homeless rfl hc rfl k
theorem B_law_769 {xs : Nat → Int} {xl e : Nat} {h : LH} {Q : Option LV → LH → Prop} {v3 w0 : Int} (hF : RF h) (r_v3 : 0 ≤ v3 ∧ v3 ≤ 3577)
    (k : Rn xs xl e mm_OneSidedLaw_law 1231 [some (.inr (.inr (-2))), some (.inr (.inr 1)), some (.inr (.inr 182)), some (.inl v3)] [] h Q) :
    Rn xs xl e mm_OneSidedLaw_law 769 [some (.inr (.inr (-2))), some (.inr (.inr 1)), some (.inr (.inr 182)), some (.inl v3)] [.inl w0] h Q := by
  refine R_A dd_OneSidedLaw_law_769 rfl rfl rfl rfl ?_
  refine R_goto dd_OneSidedLaw_law_770 rfl ?_
  exact k
theorem B_law_773 {xs : Nat → Int} {xl e : Nat} {h : LH} {Q : Option LV → LH → Prop} {v3 : Int} (hF : RF h) (r_v3 : 0 ≤ v3 ∧ v3 ≤ 3577)
    (k : (0 ≤ v3 + 1 ∧ v3 + 1 < (xl : Int)) ∧
      (0 ≤ v3 + 2 ∧ v3 + 2 < (xl : Int)) ∧
      (∃ c, c < e ∧ Rn xs xl c mm_OneSided_add 0 [some (.inr (.inr 1)), some (.inl (xs (v3 + 1).toNat)), some (.inl (xs (v3 + 2).toNat))] [] h (fun r h' => Rn xs xl e mm_OneSidedLaw_law 787 [some (.inr (.inr (-2))), some (.inr (.inr 1)), some (.inr (.inr 182)), some (.inl v3)] (r.toList ++ []) h' Q))) :
    Rn xs xl e mm_OneSidedLaw_law 773 [some (.inr (.inr (-2))), some (.inr (.inr 1)), some (.inr (.inr 182)), some (.inl v3)] [] h Q := by
  refine R_ld (v := .inr (.inr 1)) dd_OneSidedLaw_law_773 rfl rfl rfl rfl ?_
  refine R_ld (v := .inr (.inr (-2))) dd_OneSidedLaw_law_774 rfl rfl rfl rfl ?_
  refine R_ld (v := .inl v3) dd_OneSidedLaw_law_775 rfl rfl rfl rfl ?_
  refine R_ic dd_OneSidedLaw_law_776 (by decide) rfl ?_
  refine R_iadd (c := v3 + 1) dd_OneSidedLaw_law_777 (by omega) (by omega) rfl ?_
  obtain ⟨s1, k⟩ := k
  refine R_sld dd_OneSidedLaw_law_778 s1 rfl ?_
  refine R_ld (v := .inr (.inr (-2))) dd_OneSidedLaw_law_779 rfl rfl rfl rfl ?_
  refine R_ld (v := .inl v3) dd_OneSidedLaw_law_780 rfl rfl rfl rfl ?_
  refine R_ic dd_OneSidedLaw_law_781 (by decide) rfl ?_
  refine R_iadd (c := v3 + 2) dd_OneSidedLaw_law_782 (by omega) (by omega) rfl ?_
  obtain ⟨s2, k⟩ := k
  refine R_sld dd_OneSidedLaw_law_783 s2 rfl ?_
  obtain ⟨c, hc, k⟩ := k
  exact R_call (as := [.inr (.inr 1), .inl (xs (v3 + 1).toNat), .inl (xs (v3 + 2).toNat)]) (rest := []) (M' := mm_OneSided_add) (ls0 := [some (.inr (.inr 1)), some (.inl (xs (v3 + 1).toNat)), some (.inl (xs (v3 + 2).toNat))]) dd_OneSidedLaw_law_784 rfl rfl (cw_v cw_13_91 io_1 rfl rfl (Nat.le_of_ble_eq_true rfl) (Nat.le_of_ble_eq_true rfl)) mt_OneSided_add rfl hc rfl k
theorem B_law_787 {xs : Nat → Int} {xl e : Nat} {h : LH} {Q : Option LV → LH → Prop} {v3 w0 : Int} (hF : RF h) (r_v3 : 0 ≤ v3 ∧ v3 ≤ 3577)
    (k : (0 ≤ v3 + 1 ∧ v3 + 1 < (xl : Int)) ∧
      (0 ≤ v3 + 2 ∧ v3 + 2 < (xl : Int)) ∧
      (∃ c, c < e ∧ Rn xs xl c mm_add 0 [some (.inr (.inr 182)), some (.inl (xs (v3 + 1).toNat)), some (.inl (xs (v3 + 2).toNat)), none, none, none, none, none] [] h (fun r h' => Rn xs xl e mm_OneSidedLaw_law 802 [some (.inr (.inr (-2))), some (.inr (.inr 1)), some (.inr (.inr 182)), some (.inl v3)] (r.toList ++ []) h' Q))) :
    Rn xs xl e mm_OneSidedLaw_law 787 [some (.inr (.inr (-2))), some (.inr (.inr 1)), some (.inr (.inr 182)), some (.inl v3)] [.inl w0] h Q := by
  refine R_A dd_OneSidedLaw_law_787 rfl rfl rfl rfl ?_
  refine R_ld (v := .inr (.inr 182)) dd_OneSidedLaw_law_788 rfl rfl rfl rfl ?_
  refine R_ld (v := .inr (.inr (-2))) dd_OneSidedLaw_law_789 rfl rfl rfl rfl ?_
  refine R_ld (v := .inl v3) dd_OneSidedLaw_law_790 rfl rfl rfl rfl ?_
  refine R_ic dd_OneSidedLaw_law_791 (by decide) rfl ?_
  refine R_iadd (c := v3 + 1) dd_OneSidedLaw_law_792 (by omega) (by omega) rfl ?_
  obtain ⟨s1, k⟩ := k
  refine R_sld dd_OneSidedLaw_law_793 s1 rfl ?_
  refine R_ld (v := .inr (.inr (-2))) dd_OneSidedLaw_law_794 rfl rfl rfl rfl ?_
  refine R_ld (v := .inl v3) dd_OneSidedLaw_law_795 rfl rfl rfl rfl ?_
  refine R_ic dd_OneSidedLaw_law_796 (by decide) rfl ?_
  refine R_iadd (c := v3 + 2) dd_OneSidedLaw_law_797 (by omega) (by omega) rfl ?_
  obtain ⟨s2, k⟩ := k
  refine R_sld dd_OneSidedLaw_law_798 s2 rfl ?_
  obtain ⟨c, hc, k⟩ := k
  exact R_call (as := [.inr (.inr 182), .inl (xs (v3 + 1).toNat), .inl (xs (v3 + 2).toNat)]) (rest := []) (M' := mm_add) (ls0 := [some (.inr (.inr 182)), some (.inl (xs (v3 + 1).toNat)), some (.inl (xs (v3 + 2).toNat)), none, none, none, none, none]) dd_OneSidedLaw_law_799 rfl rfl (cw_v cw_13_94 io_182 rfl rfl (Nat.le_of_ble_eq_true rfl) (Nat.le_of_ble_eq_true rfl)) mt_add rfl hc rfl k
theorem B_law_802 {xs : Nat → Int} {xl e : Nat} {h : LH} {Q : Option LV → LH → Prop} {v3 w0 : Int} (hF : RF h) (r_v3 : 0 ≤ v3 ∧ v3 ≤ 3577)
    (k : Rn xs xl e mm_OneSidedLaw_law 1231 [some (.inr (.inr (-2))), some (.inr (.inr 1)), some (.inr (.inr 182)), some (.inl v3)] [] h Q) :
    Rn xs xl e mm_OneSidedLaw_law 802 [some (.inr (.inr (-2))), some (.inr (.inr 1)), some (.inr (.inr 182)), some (.inl v3)] [.inl w0] h Q := by
  refine R_A dd_OneSidedLaw_law_802 rfl rfl rfl rfl ?_
  refine R_goto dd_OneSidedLaw_law_803 rfl ?_
  exact k
theorem B_law_806 {xs : Nat → Int} {xl e : Nat} {h : LH} {Q : Option LV → LH → Prop} {v3 : Int} (hF : RF h) (r_v3 : 0 ≤ v3 ∧ v3 ≤ 3577)
    (k : (0 ≤ v3 + 1 ∧ v3 + 1 < (xl : Int)) ∧
      (0 ≤ v3 + 2 ∧ v3 + 2 < (xl : Int)) ∧
      (∃ c, c < e ∧ Rn xs xl c mm_OneSided_turn 0 [some (.inr (.inr 1)), some (.inl (xs (v3 + 1).toNat)), some (.inl (xs (v3 + 2).toNat))] [] h (fun r h' => Rn xs xl e mm_OneSidedLaw_law 820 [some (.inr (.inr (-2))), some (.inr (.inr 1)), some (.inr (.inr 182)), some (.inl v3)] (r.toList ++ []) h' Q))) :
    Rn xs xl e mm_OneSidedLaw_law 806 [some (.inr (.inr (-2))), some (.inr (.inr 1)), some (.inr (.inr 182)), some (.inl v3)] [] h Q := by
  refine R_ld (v := .inr (.inr 1)) dd_OneSidedLaw_law_806 rfl rfl rfl rfl ?_
  refine R_ld (v := .inr (.inr (-2))) dd_OneSidedLaw_law_807 rfl rfl rfl rfl ?_
  refine R_ld (v := .inl v3) dd_OneSidedLaw_law_808 rfl rfl rfl rfl ?_
  refine R_ic dd_OneSidedLaw_law_809 (by decide) rfl ?_
  refine R_iadd (c := v3 + 1) dd_OneSidedLaw_law_810 (by omega) (by omega) rfl ?_
  obtain ⟨s1, k⟩ := k
  refine R_sld dd_OneSidedLaw_law_811 s1 rfl ?_
  refine R_ld (v := .inr (.inr (-2))) dd_OneSidedLaw_law_812 rfl rfl rfl rfl ?_
  refine R_ld (v := .inl v3) dd_OneSidedLaw_law_813 rfl rfl rfl rfl ?_
  refine R_ic dd_OneSidedLaw_law_814 (by decide) rfl ?_
  refine R_iadd (c := v3 + 2) dd_OneSidedLaw_law_815 (by omega) (by omega) rfl ?_
  obtain ⟨s2, k⟩ := k
  refine R_sld dd_OneSidedLaw_law_816 s2 rfl ?_
  obtain ⟨c, hc, k⟩ := k
  exact R_call (as := [.inr (.inr 1), .inl (xs (v3 + 1).toNat), .inl (xs (v3 + 2).toNat)]) (rest := []) (M' := mm_OneSided_turn) (ls0 := [some (.inr (.inr 1)), some (.inl (xs (v3 + 1).toNat)), some (.inl (xs (v3 + 2).toNat))]) dd_OneSidedLaw_law_817 rfl rfl (cw_v cw_13_95 io_1 rfl rfl (Nat.le_of_ble_eq_true rfl) (Nat.le_of_ble_eq_true rfl)) mt_OneSided_turn rfl hc rfl k
theorem B_law_820 {xs : Nat → Int} {xl e : Nat} {h : LH} {Q : Option LV → LH → Prop} {v3 w0 : Int} (hF : RF h) (r_v3 : 0 ≤ v3 ∧ v3 ≤ 3577)
    (k : (0 ≤ v3 + 1 ∧ v3 + 1 < (xl : Int)) ∧
      (0 ≤ v3 + 2 ∧ v3 + 2 < (xl : Int)) ∧
      (∃ c, c < e ∧ Rn xs xl c mm_turn 0 [some (.inr (.inr 182)), some (.inl (xs (v3 + 1).toNat)), some (.inl (xs (v3 + 2).toNat)), none, none] [] h (fun r h' => Rn xs xl e mm_OneSidedLaw_law 835 [some (.inr (.inr (-2))), some (.inr (.inr 1)), some (.inr (.inr 182)), some (.inl v3)] (r.toList ++ []) h' Q))) :
    Rn xs xl e mm_OneSidedLaw_law 820 [some (.inr (.inr (-2))), some (.inr (.inr 1)), some (.inr (.inr 182)), some (.inl v3)] [.inl w0] h Q := by
  refine R_A dd_OneSidedLaw_law_820 rfl rfl rfl rfl ?_
  refine R_ld (v := .inr (.inr 182)) dd_OneSidedLaw_law_821 rfl rfl rfl rfl ?_
  refine R_ld (v := .inr (.inr (-2))) dd_OneSidedLaw_law_822 rfl rfl rfl rfl ?_
  refine R_ld (v := .inl v3) dd_OneSidedLaw_law_823 rfl rfl rfl rfl ?_
  refine R_ic dd_OneSidedLaw_law_824 (by decide) rfl ?_
  refine R_iadd (c := v3 + 1) dd_OneSidedLaw_law_825 (by omega) (by omega) rfl ?_
  obtain ⟨s1, k⟩ := k
  refine R_sld dd_OneSidedLaw_law_826 s1 rfl ?_
  refine R_ld (v := .inr (.inr (-2))) dd_OneSidedLaw_law_827 rfl rfl rfl rfl ?_
  refine R_ld (v := .inl v3) dd_OneSidedLaw_law_828 rfl rfl rfl rfl ?_
  refine R_ic dd_OneSidedLaw_law_829 (by decide) rfl ?_
  refine R_iadd (c := v3 + 2) dd_OneSidedLaw_law_830 (by omega) (by omega) rfl ?_
  obtain ⟨s2, k⟩ := k
  refine R_sld dd_OneSidedLaw_law_831 s2 rfl ?_
  obtain ⟨c, hc, k⟩ := k
  exact R_call (as := [.inr (.inr 182), .inl (xs (v3 + 1).toNat), .inl (xs (v3 + 2).toNat)]) (rest := []) (M' := mm_turn) (ls0 := [some (.inr (.inr 182)), some (.inl (xs (v3 + 1).toNat)), some (.inl (xs (v3 + 2).toNat)), none, none]) dd_OneSidedLaw_law_832 rfl rfl (cw_v cw_13_98 io_182 rfl rfl (Nat.le_of_ble_eq_true rfl) (Nat.le_of_ble_eq_true rfl)) mt_turn rfl hc rfl k
theorem B_law_835 {xs : Nat → Int} {xl e : Nat} {h : LH} {Q : Option LV → LH → Prop} {v3 w0 : Int} (hF : RF h) (r_v3 : 0 ≤ v3 ∧ v3 ≤ 3577)
    (k : Rn xs xl e mm_OneSidedLaw_law 1231 [some (.inr (.inr (-2))), some (.inr (.inr 1)), some (.inr (.inr 182)), some (.inl v3)] [] h Q) :
    Rn xs xl e mm_OneSidedLaw_law 835 [some (.inr (.inr (-2))), some (.inr (.inr 1)), some (.inr (.inr 182)), some (.inl v3)] [.inl w0] h Q := by
  refine R_A dd_OneSidedLaw_law_835 rfl rfl rfl rfl ?_
  refine R_goto dd_OneSidedLaw_law_836 rfl ?_
  exact k
theorem B_law_839 {xs : Nat → Int} {xl e : Nat} {h : LH} {Q : Option LV → LH → Prop} {v3 : Int} (hF : RF h) (r_v3 : 0 ≤ v3 ∧ v3 ≤ 3577)
    (k : (0 ≤ v3 + 1 ∧ v3 + 1 < (xl : Int)) ∧
      (0 ≤ v3 + 2 ∧ v3 + 2 < (xl : Int)) ∧
      (0 ≤ v3 + 3 ∧ v3 + 3 < (xl : Int)) ∧
      (0 ≤ v3 + 4 ∧ v3 + 4 < (xl : Int)) ∧
      (∃ c, c < e ∧ Rn xs xl c mm_OneSided_cut 0 [some (.inr (.inr 1)), some (.inl (xs (v3 + 1).toNat)), some (.inl (xs (v3 + 2).toNat)), some (.inl (xs (v3 + 3).toNat)), some (.inl (xs (v3 + 4).toNat))] [] h (fun r h' => Rn xs xl e mm_OneSidedLaw_law 863 [some (.inr (.inr (-2))), some (.inr (.inr 1)), some (.inr (.inr 182)), some (.inl v3)] (r.toList ++ []) h' Q))) :
    Rn xs xl e mm_OneSidedLaw_law 839 [some (.inr (.inr (-2))), some (.inr (.inr 1)), some (.inr (.inr 182)), some (.inl v3)] [] h Q := by
  refine R_ld (v := .inr (.inr 1)) dd_OneSidedLaw_law_839 rfl rfl rfl rfl ?_
  refine R_ld (v := .inr (.inr (-2))) dd_OneSidedLaw_law_840 rfl rfl rfl rfl ?_
  refine R_ld (v := .inl v3) dd_OneSidedLaw_law_841 rfl rfl rfl rfl ?_
  refine R_ic dd_OneSidedLaw_law_842 (by decide) rfl ?_
  refine R_iadd (c := v3 + 1) dd_OneSidedLaw_law_843 (by omega) (by omega) rfl ?_
  obtain ⟨s1, k⟩ := k
  refine R_sld dd_OneSidedLaw_law_844 s1 rfl ?_
  refine R_ld (v := .inr (.inr (-2))) dd_OneSidedLaw_law_845 rfl rfl rfl rfl ?_
  refine R_ld (v := .inl v3) dd_OneSidedLaw_law_846 rfl rfl rfl rfl ?_
  refine R_ic dd_OneSidedLaw_law_847 (by decide) rfl ?_
  refine R_iadd (c := v3 + 2) dd_OneSidedLaw_law_848 (by omega) (by omega) rfl ?_
  obtain ⟨s2, k⟩ := k
  refine R_sld dd_OneSidedLaw_law_849 s2 rfl ?_
  refine R_ld (v := .inr (.inr (-2))) dd_OneSidedLaw_law_850 rfl rfl rfl rfl ?_
  refine R_ld (v := .inl v3) dd_OneSidedLaw_law_851 rfl rfl rfl rfl ?_
  refine R_ic dd_OneSidedLaw_law_852 (by decide) rfl ?_
  refine R_iadd (c := v3 + 3) dd_OneSidedLaw_law_853 (by omega) (by omega) rfl ?_
  obtain ⟨s3, k⟩ := k
  refine R_sld dd_OneSidedLaw_law_854 s3 rfl ?_
  refine R_ld (v := .inr (.inr (-2))) dd_OneSidedLaw_law_855 rfl rfl rfl rfl ?_
  refine R_ld (v := .inl v3) dd_OneSidedLaw_law_856 rfl rfl rfl rfl ?_
  refine R_ic dd_OneSidedLaw_law_857 (by decide) rfl ?_
  refine R_iadd (c := v3 + 4) dd_OneSidedLaw_law_858 (by omega) (by omega) rfl ?_
  obtain ⟨s4, k⟩ := k
  refine R_sld dd_OneSidedLaw_law_859 s4 rfl ?_
  obtain ⟨c, hc, k⟩ := k
  exact R_call (as := [.inr (.inr 1), .inl (xs (v3 + 1).toNat), .inl (xs (v3 + 2).toNat), .inl (xs (v3 + 3).toNat), .inl (xs (v3 + 4).toNat)]) (rest := []) (M' := mm_OneSided_cut) (ls0 := [some (.inr (.inr 1)), some (.inl (xs (v3 + 1).toNat)), some (.inl (xs (v3 + 2).toNat)), some (.inl (xs (v3 + 3).toNat)), some (.inl (xs (v3 + 4).toNat))]) dd_OneSidedLaw_law_860 rfl rfl (cw_v cw_13_99 io_1 rfl rfl (Nat.le_of_ble_eq_true rfl) (Nat.le_of_ble_eq_true rfl)) mt_OneSided_cut rfl hc rfl k
theorem B_law_863 {xs : Nat → Int} {xl e : Nat} {h : LH} {Q : Option LV → LH → Prop} {v3 w0 : Int} (hF : RF h) (r_v3 : 0 ≤ v3 ∧ v3 ≤ 3577)
    (k : (0 ≤ v3 + 1 ∧ v3 + 1 < (xl : Int)) ∧
      (0 ≤ v3 + 2 ∧ v3 + 2 < (xl : Int)) ∧
      (0 ≤ v3 + 3 ∧ v3 + 3 < (xl : Int)) ∧
      (0 ≤ v3 + 4 ∧ v3 + 4 < (xl : Int)) ∧
      (∃ c, c < e ∧ Rn xs xl c mm_cut 0 [some (.inr (.inr 182)), some (.inl (xs (v3 + 1).toNat)), some (.inl (xs (v3 + 2).toNat)), some (.inl (xs (v3 + 3).toNat)), some (.inl (xs (v3 + 4).toNat)), none, none] [] h (fun r h' => Rn xs xl e mm_OneSidedLaw_law 888 [some (.inr (.inr (-2))), some (.inr (.inr 1)), some (.inr (.inr 182)), some (.inl v3)] (r.toList ++ []) h' Q))) :
    Rn xs xl e mm_OneSidedLaw_law 863 [some (.inr (.inr (-2))), some (.inr (.inr 1)), some (.inr (.inr 182)), some (.inl v3)] [.inl w0] h Q := by
  refine R_A dd_OneSidedLaw_law_863 rfl rfl rfl rfl ?_
  refine R_ld (v := .inr (.inr 182)) dd_OneSidedLaw_law_864 rfl rfl rfl rfl ?_
  refine R_ld (v := .inr (.inr (-2))) dd_OneSidedLaw_law_865 rfl rfl rfl rfl ?_
  refine R_ld (v := .inl v3) dd_OneSidedLaw_law_866 rfl rfl rfl rfl ?_
  refine R_ic dd_OneSidedLaw_law_867 (by decide) rfl ?_
  refine R_iadd (c := v3 + 1) dd_OneSidedLaw_law_868 (by omega) (by omega) rfl ?_
  obtain ⟨s1, k⟩ := k
  refine R_sld dd_OneSidedLaw_law_869 s1 rfl ?_
  refine R_ld (v := .inr (.inr (-2))) dd_OneSidedLaw_law_870 rfl rfl rfl rfl ?_
  refine R_ld (v := .inl v3) dd_OneSidedLaw_law_871 rfl rfl rfl rfl ?_
  refine R_ic dd_OneSidedLaw_law_872 (by decide) rfl ?_
  refine R_iadd (c := v3 + 2) dd_OneSidedLaw_law_873 (by omega) (by omega) rfl ?_
  obtain ⟨s2, k⟩ := k
  refine R_sld dd_OneSidedLaw_law_874 s2 rfl ?_
  refine R_ld (v := .inr (.inr (-2))) dd_OneSidedLaw_law_875 rfl rfl rfl rfl ?_
  refine R_ld (v := .inl v3) dd_OneSidedLaw_law_876 rfl rfl rfl rfl ?_
  refine R_ic dd_OneSidedLaw_law_877 (by decide) rfl ?_
  refine R_iadd (c := v3 + 3) dd_OneSidedLaw_law_878 (by omega) (by omega) rfl ?_
  obtain ⟨s3, k⟩ := k
  refine R_sld dd_OneSidedLaw_law_879 s3 rfl ?_
  refine R_ld (v := .inr (.inr (-2))) dd_OneSidedLaw_law_880 rfl rfl rfl rfl ?_
  refine R_ld (v := .inl v3) dd_OneSidedLaw_law_881 rfl rfl rfl rfl ?_
  refine R_ic dd_OneSidedLaw_law_882 (by decide) rfl ?_
  refine R_iadd (c := v3 + 4) dd_OneSidedLaw_law_883 (by omega) (by omega) rfl ?_
  obtain ⟨s4, k⟩ := k
  refine R_sld dd_OneSidedLaw_law_884 s4 rfl ?_
  obtain ⟨c, hc, k⟩ := k
  exact R_call (as := [.inr (.inr 182), .inl (xs (v3 + 1).toNat), .inl (xs (v3 + 2).toNat), .inl (xs (v3 + 3).toNat), .inl (xs (v3 + 4).toNat)]) (rest := []) (M' := mm_cut) (ls0 := [some (.inr (.inr 182)), some (.inl (xs (v3 + 1).toNat)), some (.inl (xs (v3 + 2).toNat)), some (.inl (xs (v3 + 3).toNat)), some (.inl (xs (v3 + 4).toNat)), none, none]) dd_OneSidedLaw_law_885 rfl rfl (cw_v cw_13_102 io_182 rfl rfl (Nat.le_of_ble_eq_true rfl) (Nat.le_of_ble_eq_true rfl)) mt_cut rfl hc rfl k
theorem B_law_888 {xs : Nat → Int} {xl e : Nat} {h : LH} {Q : Option LV → LH → Prop} {v3 w0 : Int} (hF : RF h) (r_v3 : 0 ≤ v3 ∧ v3 ≤ 3577)
    (k : Rn xs xl e mm_OneSidedLaw_law 1231 [some (.inr (.inr (-2))), some (.inr (.inr 1)), some (.inr (.inr 182)), some (.inl v3)] [] h Q) :
    Rn xs xl e mm_OneSidedLaw_law 888 [some (.inr (.inr (-2))), some (.inr (.inr 1)), some (.inr (.inr 182)), some (.inl v3)] [.inl w0] h Q := by
  refine R_A dd_OneSidedLaw_law_888 rfl rfl rfl rfl ?_
  refine R_goto dd_OneSidedLaw_law_889 rfl ?_
  exact k
theorem B_law_892 {xs : Nat → Int} {xl e : Nat} {h : LH} {Q : Option LV → LH → Prop} {v3 : Int} (hF : RF h) (r_v3 : 0 ≤ v3 ∧ v3 ≤ 3577)
    (k : (0 ≤ v3 + 1 ∧ v3 + 1 < (xl : Int)) ∧
      (0 ≤ v3 + 2 ∧ v3 + 2 < (xl : Int)) ∧
      (0 ≤ v3 + 3 ∧ v3 + 3 < (xl : Int)) ∧
      (∃ c, c < e ∧ Rn xs xl c mm_OneSided_crowd 0 [some (.inr (.inr 1)), some (.inl (xs (v3 + 1).toNat)), some (.inl (xs (v3 + 2).toNat)), some (.inl (xs (v3 + 3).toNat))] [] h (fun r h' => Rn xs xl e mm_OneSidedLaw_law 911 [some (.inr (.inr (-2))), some (.inr (.inr 1)), some (.inr (.inr 182)), some (.inl v3)] (r.toList ++ []) h' Q))) :
    Rn xs xl e mm_OneSidedLaw_law 892 [some (.inr (.inr (-2))), some (.inr (.inr 1)), some (.inr (.inr 182)), some (.inl v3)] [] h Q := by
  refine R_ld (v := .inr (.inr 1)) dd_OneSidedLaw_law_892 rfl rfl rfl rfl ?_
  refine R_ld (v := .inr (.inr (-2))) dd_OneSidedLaw_law_893 rfl rfl rfl rfl ?_
  refine R_ld (v := .inl v3) dd_OneSidedLaw_law_894 rfl rfl rfl rfl ?_
  refine R_ic dd_OneSidedLaw_law_895 (by decide) rfl ?_
  refine R_iadd (c := v3 + 1) dd_OneSidedLaw_law_896 (by omega) (by omega) rfl ?_
  obtain ⟨s1, k⟩ := k
  refine R_sld dd_OneSidedLaw_law_897 s1 rfl ?_
  refine R_ld (v := .inr (.inr (-2))) dd_OneSidedLaw_law_898 rfl rfl rfl rfl ?_
  refine R_ld (v := .inl v3) dd_OneSidedLaw_law_899 rfl rfl rfl rfl ?_
  refine R_ic dd_OneSidedLaw_law_900 (by decide) rfl ?_
  refine R_iadd (c := v3 + 2) dd_OneSidedLaw_law_901 (by omega) (by omega) rfl ?_
  obtain ⟨s2, k⟩ := k
  refine R_sld dd_OneSidedLaw_law_902 s2 rfl ?_
  refine R_ld (v := .inr (.inr (-2))) dd_OneSidedLaw_law_903 rfl rfl rfl rfl ?_
  refine R_ld (v := .inl v3) dd_OneSidedLaw_law_904 rfl rfl rfl rfl ?_
  refine R_ic dd_OneSidedLaw_law_905 (by decide) rfl ?_
  refine R_iadd (c := v3 + 3) dd_OneSidedLaw_law_906 (by omega) (by omega) rfl ?_
  obtain ⟨s3, k⟩ := k
  refine R_sld dd_OneSidedLaw_law_907 s3 rfl ?_
  obtain ⟨c, hc, k⟩ := k
  exact R_call (as := [.inr (.inr 1), .inl (xs (v3 + 1).toNat), .inl (xs (v3 + 2).toNat), .inl (xs (v3 + 3).toNat)]) (rest := []) (M' := mm_OneSided_crowd) (ls0 := [some (.inr (.inr 1)), some (.inl (xs (v3 + 1).toNat)), some (.inl (xs (v3 + 2).toNat)), some (.inl (xs (v3 + 3).toNat))]) dd_OneSidedLaw_law_908 rfl rfl (cw_v cw_13_103 io_1 rfl rfl (Nat.le_of_ble_eq_true rfl) (Nat.le_of_ble_eq_true rfl)) mt_OneSided_crowd rfl hc rfl k
theorem B_law_911 {xs : Nat → Int} {xl e : Nat} {h : LH} {Q : Option LV → LH → Prop} {v3 w0 : Int} (hF : RF h) (r_v3 : 0 ≤ v3 ∧ v3 ≤ 3577)
    (k : (0 ≤ v3 + 1 ∧ v3 + 1 < (xl : Int)) ∧
      (0 ≤ v3 + 2 ∧ v3 + 2 < (xl : Int)) ∧
      (0 ≤ v3 + 3 ∧ v3 + 3 < (xl : Int)) ∧
      (∃ c, c < e ∧ Rn xs xl c mm_crowd 0 [some (.inr (.inr 182)), some (.inl (xs (v3 + 1).toNat)), some (.inl (xs (v3 + 2).toNat)), some (.inl (xs (v3 + 3).toNat)), none] [] h (fun r h' => Rn xs xl e mm_OneSidedLaw_law 931 [some (.inr (.inr (-2))), some (.inr (.inr 1)), some (.inr (.inr 182)), some (.inl v3)] (r.toList ++ []) h' Q))) :
    Rn xs xl e mm_OneSidedLaw_law 911 [some (.inr (.inr (-2))), some (.inr (.inr 1)), some (.inr (.inr 182)), some (.inl v3)] [.inl w0] h Q := by
  refine R_A dd_OneSidedLaw_law_911 rfl rfl rfl rfl ?_
  refine R_ld (v := .inr (.inr 182)) dd_OneSidedLaw_law_912 rfl rfl rfl rfl ?_
  refine R_ld (v := .inr (.inr (-2))) dd_OneSidedLaw_law_913 rfl rfl rfl rfl ?_
  refine R_ld (v := .inl v3) dd_OneSidedLaw_law_914 rfl rfl rfl rfl ?_
  refine R_ic dd_OneSidedLaw_law_915 (by decide) rfl ?_
  refine R_iadd (c := v3 + 1) dd_OneSidedLaw_law_916 (by omega) (by omega) rfl ?_
  obtain ⟨s1, k⟩ := k
  refine R_sld dd_OneSidedLaw_law_917 s1 rfl ?_
  refine R_ld (v := .inr (.inr (-2))) dd_OneSidedLaw_law_918 rfl rfl rfl rfl ?_
  refine R_ld (v := .inl v3) dd_OneSidedLaw_law_919 rfl rfl rfl rfl ?_
  refine R_ic dd_OneSidedLaw_law_920 (by decide) rfl ?_
  refine R_iadd (c := v3 + 2) dd_OneSidedLaw_law_921 (by omega) (by omega) rfl ?_
  obtain ⟨s2, k⟩ := k
  refine R_sld dd_OneSidedLaw_law_922 s2 rfl ?_
  refine R_ld (v := .inr (.inr (-2))) dd_OneSidedLaw_law_923 rfl rfl rfl rfl ?_
  refine R_ld (v := .inl v3) dd_OneSidedLaw_law_924 rfl rfl rfl rfl ?_
  refine R_ic dd_OneSidedLaw_law_925 (by decide) rfl ?_
  refine R_iadd (c := v3 + 3) dd_OneSidedLaw_law_926 (by omega) (by omega) rfl ?_
  obtain ⟨s3, k⟩ := k
  refine R_sld dd_OneSidedLaw_law_927 s3 rfl ?_
  obtain ⟨c, hc, k⟩ := k
  exact R_call (as := [.inr (.inr 182), .inl (xs (v3 + 1).toNat), .inl (xs (v3 + 2).toNat), .inl (xs (v3 + 3).toNat)]) (rest := []) (M' := mm_crowd) (ls0 := [some (.inr (.inr 182)), some (.inl (xs (v3 + 1).toNat)), some (.inl (xs (v3 + 2).toNat)), some (.inl (xs (v3 + 3).toNat)), none]) dd_OneSidedLaw_law_928 rfl rfl (cw_v cw_13_106 io_182 rfl rfl (Nat.le_of_ble_eq_true rfl) (Nat.le_of_ble_eq_true rfl)) mt_crowd rfl hc rfl k
theorem B_law_931 {xs : Nat → Int} {xl e : Nat} {h : LH} {Q : Option LV → LH → Prop} {v3 w0 : Int} (hF : RF h) (r_v3 : 0 ≤ v3 ∧ v3 ≤ 3577)
    (k : Rn xs xl e mm_OneSidedLaw_law 1231 [some (.inr (.inr (-2))), some (.inr (.inr 1)), some (.inr (.inr 182)), some (.inl v3)] [] h Q) :
    Rn xs xl e mm_OneSidedLaw_law 931 [some (.inr (.inr (-2))), some (.inr (.inr 1)), some (.inr (.inr 182)), some (.inl v3)] [.inl w0] h Q := by
  refine R_A dd_OneSidedLaw_law_931 rfl rfl rfl rfl ?_
  refine R_goto dd_OneSidedLaw_law_932 rfl ?_
  exact k
theorem B_law_935 {xs : Nat → Int} {xl e : Nat} {h : LH} {Q : Option LV → LH → Prop} {v3 : Int} (hF : RF h) (r_v3 : 0 ≤ v3 ∧ v3 ≤ 3577)
    (k : (0 ≤ v3 + 1 ∧ v3 + 1 < (xl : Int)) ∧
      (0 ≤ v3 + 2 ∧ v3 + 2 < (xl : Int)) ∧
      (0 ≤ v3 + 3 ∧ v3 + 3 < (xl : Int)) ∧
      ((xs (v3 + 3).toNat) = 0 →
        (∃ c, c < e ∧ Rn xs xl c mm_OneSided_told 0 [some (.inr (.inr 1)), some (.inl (xs (v3 + 1).toNat)), some (.inl (xs (v3 + 2).toNat)), some (.inl 0)] [] h (fun r h' => Rn xs xl e mm_OneSidedLaw_law 962 [some (.inr (.inr (-2))), some (.inr (.inr 1)), some (.inr (.inr 182)), some (.inl v3)] (r.toList ++ []) h' Q))) ∧
      ((xs (v3 + 3).toNat) ≠ 0 →
        (∃ c, c < e ∧ Rn xs xl c mm_OneSided_told 0 [some (.inr (.inr 1)), some (.inl (xs (v3 + 1).toNat)), some (.inl (xs (v3 + 2).toNat)), some (.inl 1)] [] h (fun r h' => Rn xs xl e mm_OneSidedLaw_law 962 [some (.inr (.inr (-2))), some (.inr (.inr 1)), some (.inr (.inr 182)), some (.inl v3)] (r.toList ++ []) h' Q)))) :
    Rn xs xl e mm_OneSidedLaw_law 935 [some (.inr (.inr (-2))), some (.inr (.inr 1)), some (.inr (.inr 182)), some (.inl v3)] [] h Q := by
  refine R_ld (v := .inr (.inr 1)) dd_OneSidedLaw_law_935 rfl rfl rfl rfl ?_
  refine R_ld (v := .inr (.inr (-2))) dd_OneSidedLaw_law_936 rfl rfl rfl rfl ?_
  refine R_ld (v := .inl v3) dd_OneSidedLaw_law_937 rfl rfl rfl rfl ?_
  refine R_ic dd_OneSidedLaw_law_938 (by decide) rfl ?_
  refine R_iadd (c := v3 + 1) dd_OneSidedLaw_law_939 (by omega) (by omega) rfl ?_
  obtain ⟨s1, k⟩ := k
  refine R_sld dd_OneSidedLaw_law_940 s1 rfl ?_
  refine R_ld (v := .inr (.inr (-2))) dd_OneSidedLaw_law_941 rfl rfl rfl rfl ?_
  refine R_ld (v := .inl v3) dd_OneSidedLaw_law_942 rfl rfl rfl rfl ?_
  refine R_ic dd_OneSidedLaw_law_943 (by decide) rfl ?_
  refine R_iadd (c := v3 + 2) dd_OneSidedLaw_law_944 (by omega) (by omega) rfl ?_
  obtain ⟨s2, k⟩ := k
  refine R_sld dd_OneSidedLaw_law_945 s2 rfl ?_
  refine R_ld (v := .inr (.inr (-2))) dd_OneSidedLaw_law_946 rfl rfl rfl rfl ?_
  refine R_ld (v := .inl v3) dd_OneSidedLaw_law_947 rfl rfl rfl rfl ?_
  refine R_ic dd_OneSidedLaw_law_948 (by decide) rfl ?_
  refine R_iadd (c := v3 + 3) dd_OneSidedLaw_law_949 (by omega) (by omega) rfl ?_
  obtain ⟨s3, k⟩ := k
  refine R_sld dd_OneSidedLaw_law_950 s3 rfl ?_
  refine R_if dd_OneSidedLaw_law_951 rfl rfl (fun (c6 : (xs (v3 + 3).toNat) = 0) => ?_) (fun (c6 : (xs (v3 + 3).toNat) ≠ 0) => ?_)
  · replace k := k.1 c6
    refine R_ic dd_OneSidedLaw_law_958 (by decide) rfl ?_
    obtain ⟨c, hc, k⟩ := k
    exact R_call (as := [.inr (.inr 1), .inl (xs (v3 + 1).toNat), .inl (xs (v3 + 2).toNat), .inl 0]) (rest := []) (M' := mm_OneSided_told) (ls0 := [some (.inr (.inr 1)), some (.inl (xs (v3 + 1).toNat)), some (.inl (xs (v3 + 2).toNat)), some (.inl 0)]) dd_OneSidedLaw_law_959 rfl rfl (cw_v cw_13_107 io_1 rfl rfl (Nat.le_of_ble_eq_true rfl) (Nat.le_of_ble_eq_true rfl)) mt_OneSided_told rfl hc rfl k
  · replace k := k.2 c6
    refine R_ic dd_OneSidedLaw_law_954 (by decide) rfl ?_
    refine R_goto dd_OneSidedLaw_law_955 rfl ?_
    obtain ⟨c, hc, k⟩ := k
    exact R_call (as := [.inr (.inr 1), .inl (xs (v3 + 1).toNat), .inl (xs (v3 + 2).toNat), .inl 1]) (rest := []) (M' := mm_OneSided_told) (ls0 := [some (.inr (.inr 1)), some (.inl (xs (v3 + 1).toNat)), some (.inl (xs (v3 + 2).toNat)), some (.inl 1)]) dd_OneSidedLaw_law_959 rfl rfl (cw_v cw_13_107 io_1 rfl rfl (Nat.le_of_ble_eq_true rfl) (Nat.le_of_ble_eq_true rfl)) mt_OneSided_told rfl hc rfl k
theorem B_law_962 {xs : Nat → Int} {xl e : Nat} {h : LH} {Q : Option LV → LH → Prop} {v3 w0 : Int} (hF : RF h) (r_v3 : 0 ≤ v3 ∧ v3 ≤ 3577)
    (k : (0 ≤ v3 + 1 ∧ v3 + 1 < (xl : Int)) ∧
      (0 ≤ v3 + 2 ∧ v3 + 2 < (xl : Int)) ∧
      (0 ≤ v3 + 3 ∧ v3 + 3 < (xl : Int)) ∧
      ((xs (v3 + 3).toNat) = 0 →
        (∃ c, c < e ∧ Rn xs xl c mm_told 0 [some (.inr (.inr 182)), some (.inl (xs (v3 + 1).toNat)), some (.inl (xs (v3 + 2).toNat)), some (.inl 0), none] [] h (fun r h' => Rn xs xl e mm_OneSidedLaw_law 990 [some (.inr (.inr (-2))), some (.inr (.inr 1)), some (.inr (.inr 182)), some (.inl v3)] (r.toList ++ []) h' Q))) ∧
      ((xs (v3 + 3).toNat) ≠ 0 →
        (∃ c, c < e ∧ Rn xs xl c mm_told 0 [some (.inr (.inr 182)), some (.inl (xs (v3 + 1).toNat)), some (.inl (xs (v3 + 2).toNat)), some (.inl 1), none] [] h (fun r h' => Rn xs xl e mm_OneSidedLaw_law 990 [some (.inr (.inr (-2))), some (.inr (.inr 1)), some (.inr (.inr 182)), some (.inl v3)] (r.toList ++ []) h' Q)))) :
    Rn xs xl e mm_OneSidedLaw_law 962 [some (.inr (.inr (-2))), some (.inr (.inr 1)), some (.inr (.inr 182)), some (.inl v3)] [.inl w0] h Q := by
  refine R_A dd_OneSidedLaw_law_962 rfl rfl rfl rfl ?_
  refine R_ld (v := .inr (.inr 182)) dd_OneSidedLaw_law_963 rfl rfl rfl rfl ?_
  refine R_ld (v := .inr (.inr (-2))) dd_OneSidedLaw_law_964 rfl rfl rfl rfl ?_
  refine R_ld (v := .inl v3) dd_OneSidedLaw_law_965 rfl rfl rfl rfl ?_
  refine R_ic dd_OneSidedLaw_law_966 (by decide) rfl ?_
  refine R_iadd (c := v3 + 1) dd_OneSidedLaw_law_967 (by omega) (by omega) rfl ?_
  obtain ⟨s1, k⟩ := k
  refine R_sld dd_OneSidedLaw_law_968 s1 rfl ?_
  refine R_ld (v := .inr (.inr (-2))) dd_OneSidedLaw_law_969 rfl rfl rfl rfl ?_
  refine R_ld (v := .inl v3) dd_OneSidedLaw_law_970 rfl rfl rfl rfl ?_
  refine R_ic dd_OneSidedLaw_law_971 (by decide) rfl ?_
  refine R_iadd (c := v3 + 2) dd_OneSidedLaw_law_972 (by omega) (by omega) rfl ?_
  obtain ⟨s2, k⟩ := k
  refine R_sld dd_OneSidedLaw_law_973 s2 rfl ?_
  refine R_ld (v := .inr (.inr (-2))) dd_OneSidedLaw_law_974 rfl rfl rfl rfl ?_
  refine R_ld (v := .inl v3) dd_OneSidedLaw_law_975 rfl rfl rfl rfl ?_
  refine R_ic dd_OneSidedLaw_law_976 (by decide) rfl ?_
  refine R_iadd (c := v3 + 3) dd_OneSidedLaw_law_977 (by omega) (by omega) rfl ?_
  obtain ⟨s3, k⟩ := k
  refine R_sld dd_OneSidedLaw_law_978 s3 rfl ?_
  refine R_if dd_OneSidedLaw_law_979 rfl rfl (fun (c6 : (xs (v3 + 3).toNat) = 0) => ?_) (fun (c6 : (xs (v3 + 3).toNat) ≠ 0) => ?_)
  · replace k := k.1 c6
    refine R_ic dd_OneSidedLaw_law_986 (by decide) rfl ?_
    obtain ⟨c, hc, k⟩ := k
    exact R_call (as := [.inr (.inr 182), .inl (xs (v3 + 1).toNat), .inl (xs (v3 + 2).toNat), .inl 0]) (rest := []) (M' := mm_told) (ls0 := [some (.inr (.inr 182)), some (.inl (xs (v3 + 1).toNat)), some (.inl (xs (v3 + 2).toNat)), some (.inl 0), none]) dd_OneSidedLaw_law_987 rfl rfl (cw_v cw_13_111 io_182 rfl rfl (Nat.le_of_ble_eq_true rfl) (Nat.le_of_ble_eq_true rfl)) mt_told rfl hc rfl k
  · replace k := k.2 c6
    refine R_ic dd_OneSidedLaw_law_982 (by decide) rfl ?_
    refine R_goto dd_OneSidedLaw_law_983 rfl ?_
    obtain ⟨c, hc, k⟩ := k
    exact R_call (as := [.inr (.inr 182), .inl (xs (v3 + 1).toNat), .inl (xs (v3 + 2).toNat), .inl 1]) (rest := []) (M' := mm_told) (ls0 := [some (.inr (.inr 182)), some (.inl (xs (v3 + 1).toNat)), some (.inl (xs (v3 + 2).toNat)), some (.inl 1), none]) dd_OneSidedLaw_law_987 rfl rfl (cw_v cw_13_111 io_182 rfl rfl (Nat.le_of_ble_eq_true rfl) (Nat.le_of_ble_eq_true rfl)) mt_told rfl hc rfl k
theorem B_law_990 {xs : Nat → Int} {xl e : Nat} {h : LH} {Q : Option LV → LH → Prop} {v3 w0 : Int} (hF : RF h) (r_v3 : 0 ≤ v3 ∧ v3 ≤ 3577)
    (k : Rn xs xl e mm_OneSidedLaw_law 1231 [some (.inr (.inr (-2))), some (.inr (.inr 1)), some (.inr (.inr 182)), some (.inl v3)] [] h Q) :
    Rn xs xl e mm_OneSidedLaw_law 990 [some (.inr (.inr (-2))), some (.inr (.inr 1)), some (.inr (.inr 182)), some (.inl v3)] [.inl w0] h Q := by
  refine R_A dd_OneSidedLaw_law_990 rfl rfl rfl rfl ?_
  refine R_goto dd_OneSidedLaw_law_991 rfl ?_
  exact k
theorem B_law_994 {xs : Nat → Int} {xl e : Nat} {h : LH} {Q : Option LV → LH → Prop} {v3 : Int} (hF : RF h) (r_v3 : 0 ≤ v3 ∧ v3 ≤ 3577)
    (k : (0 ≤ v3 + 1 ∧ v3 + 1 < (xl : Int)) ∧
      (∃ c, c < e ∧ Rn xs xl c mm_OneSided_found 0 [some (.inr (.inr 1)), some (.inl (xs (v3 + 1).toNat))] [] h (fun r h' => Rn xs xl e mm_OneSidedLaw_law 1003 [some (.inr (.inr (-2))), some (.inr (.inr 1)), some (.inr (.inr 182)), some (.inl v3)] (r.toList ++ []) h' Q))) :
    Rn xs xl e mm_OneSidedLaw_law 994 [some (.inr (.inr (-2))), some (.inr (.inr 1)), some (.inr (.inr 182)), some (.inl v3)] [] h Q := by
  refine R_ld (v := .inr (.inr 1)) dd_OneSidedLaw_law_994 rfl rfl rfl rfl ?_
  refine R_ld (v := .inr (.inr (-2))) dd_OneSidedLaw_law_995 rfl rfl rfl rfl ?_
  refine R_ld (v := .inl v3) dd_OneSidedLaw_law_996 rfl rfl rfl rfl ?_
  refine R_ic dd_OneSidedLaw_law_997 (by decide) rfl ?_
  refine R_iadd (c := v3 + 1) dd_OneSidedLaw_law_998 (by omega) (by omega) rfl ?_
  obtain ⟨s1, k⟩ := k
  refine R_sld dd_OneSidedLaw_law_999 s1 rfl ?_
  obtain ⟨c, hc, k⟩ := k
  exact R_call (as := [.inr (.inr 1), .inl (xs (v3 + 1).toNat)]) (rest := []) (M' := mm_OneSided_found) (ls0 := [some (.inr (.inr 1)), some (.inl (xs (v3 + 1).toNat))]) dd_OneSidedLaw_law_1000 rfl rfl (cw_v cw_13_112 io_1 rfl rfl (Nat.le_of_ble_eq_true rfl) (Nat.le_of_ble_eq_true rfl)) mt_OneSided_found rfl hc rfl k
theorem B_law_1003 {xs : Nat → Int} {xl e : Nat} {h : LH} {Q : Option LV → LH → Prop} {v3 w0 : Int} (hF : RF h) (r_v3 : 0 ≤ v3 ∧ v3 ≤ 3577)
    (k : (0 ≤ v3 + 1 ∧ v3 + 1 < (xl : Int)) ∧
      (∃ c, c < e ∧ Rn xs xl c mm_found 0 [some (.inr (.inr 182)), some (.inl (xs (v3 + 1).toNat)), none] [] h (fun r h' => Rn xs xl e mm_OneSidedLaw_law 1013 [some (.inr (.inr (-2))), some (.inr (.inr 1)), some (.inr (.inr 182)), some (.inl v3)] (r.toList ++ []) h' Q))) :
    Rn xs xl e mm_OneSidedLaw_law 1003 [some (.inr (.inr (-2))), some (.inr (.inr 1)), some (.inr (.inr 182)), some (.inl v3)] [.inl w0] h Q := by
  refine R_A dd_OneSidedLaw_law_1003 rfl rfl rfl rfl ?_
  refine R_ld (v := .inr (.inr 182)) dd_OneSidedLaw_law_1004 rfl rfl rfl rfl ?_
  refine R_ld (v := .inr (.inr (-2))) dd_OneSidedLaw_law_1005 rfl rfl rfl rfl ?_
  refine R_ld (v := .inl v3) dd_OneSidedLaw_law_1006 rfl rfl rfl rfl ?_
  refine R_ic dd_OneSidedLaw_law_1007 (by decide) rfl ?_
  refine R_iadd (c := v3 + 1) dd_OneSidedLaw_law_1008 (by omega) (by omega) rfl ?_
  obtain ⟨s1, k⟩ := k
  refine R_sld dd_OneSidedLaw_law_1009 s1 rfl ?_
  obtain ⟨c, hc, k⟩ := k
  exact R_call (as := [.inr (.inr 182), .inl (xs (v3 + 1).toNat)]) (rest := []) (M' := mm_found) (ls0 := [some (.inr (.inr 182)), some (.inl (xs (v3 + 1).toNat)), none]) dd_OneSidedLaw_law_1010 rfl rfl (cw_v cw_13_115 io_182 rfl rfl (Nat.le_of_ble_eq_true rfl) (Nat.le_of_ble_eq_true rfl)) mt_found rfl hc rfl k
theorem B_law_1013 {xs : Nat → Int} {xl e : Nat} {h : LH} {Q : Option LV → LH → Prop} {v3 w0 : Int} (hF : RF h) (r_v3 : 0 ≤ v3 ∧ v3 ≤ 3577)
    (k : Rn xs xl e mm_OneSidedLaw_law 1231 [some (.inr (.inr (-2))), some (.inr (.inr 1)), some (.inr (.inr 182)), some (.inl v3)] [] h Q) :
    Rn xs xl e mm_OneSidedLaw_law 1013 [some (.inr (.inr (-2))), some (.inr (.inr 1)), some (.inr (.inr 182)), some (.inl v3)] [.inl w0] h Q := by
  refine R_A dd_OneSidedLaw_law_1013 rfl rfl rfl rfl ?_
  refine R_goto dd_OneSidedLaw_law_1014 rfl ?_
  exact k
theorem B_law_1017 {xs : Nat → Int} {xl e : Nat} {h : LH} {Q : Option LV → LH → Prop} {v3 : Int} (hF : RF h) (r_v3 : 0 ≤ v3 ∧ v3 ≤ 3577)
    (k : (0 ≤ v3 + 1 ∧ v3 + 1 < (xl : Int)) ∧
      (0 ≤ v3 + 2 ∧ v3 + 2 < (xl : Int)) ∧
      (0 ≤ v3 + 3 ∧ v3 + 3 < (xl : Int)) ∧
      (∃ c, c < e ∧ Rn xs xl c mm_OneSided_rests 0 [some (.inr (.inr 1)), some (.inl (xs (v3 + 1).toNat)), some (.inl (xs (v3 + 2).toNat)), some (.inl (xs (v3 + 3).toNat))] [] h (fun r h' => Rn xs xl e mm_OneSidedLaw_law 1036 [some (.inr (.inr (-2))), some (.inr (.inr 1)), some (.inr (.inr 182)), some (.inl v3)] (r.toList ++ []) h' Q))) :
    Rn xs xl e mm_OneSidedLaw_law 1017 [some (.inr (.inr (-2))), some (.inr (.inr 1)), some (.inr (.inr 182)), some (.inl v3)] [] h Q := by
  refine R_ld (v := .inr (.inr 1)) dd_OneSidedLaw_law_1017 rfl rfl rfl rfl ?_
  refine R_ld (v := .inr (.inr (-2))) dd_OneSidedLaw_law_1018 rfl rfl rfl rfl ?_
  refine R_ld (v := .inl v3) dd_OneSidedLaw_law_1019 rfl rfl rfl rfl ?_
  refine R_ic dd_OneSidedLaw_law_1020 (by decide) rfl ?_
  refine R_iadd (c := v3 + 1) dd_OneSidedLaw_law_1021 (by omega) (by omega) rfl ?_
  obtain ⟨s1, k⟩ := k
  refine R_sld dd_OneSidedLaw_law_1022 s1 rfl ?_
  refine R_ld (v := .inr (.inr (-2))) dd_OneSidedLaw_law_1023 rfl rfl rfl rfl ?_
  refine R_ld (v := .inl v3) dd_OneSidedLaw_law_1024 rfl rfl rfl rfl ?_
  refine R_ic dd_OneSidedLaw_law_1025 (by decide) rfl ?_
  refine R_iadd (c := v3 + 2) dd_OneSidedLaw_law_1026 (by omega) (by omega) rfl ?_
  obtain ⟨s2, k⟩ := k
  refine R_sld dd_OneSidedLaw_law_1027 s2 rfl ?_
  refine R_ld (v := .inr (.inr (-2))) dd_OneSidedLaw_law_1028 rfl rfl rfl rfl ?_
  refine R_ld (v := .inl v3) dd_OneSidedLaw_law_1029 rfl rfl rfl rfl ?_
  refine R_ic dd_OneSidedLaw_law_1030 (by decide) rfl ?_
  refine R_iadd (c := v3 + 3) dd_OneSidedLaw_law_1031 (by omega) (by omega) rfl ?_
  obtain ⟨s3, k⟩ := k
  refine R_sld dd_OneSidedLaw_law_1032 s3 rfl ?_
  obtain ⟨c, hc, k⟩ := k
  exact R_call (as := [.inr (.inr 1), .inl (xs (v3 + 1).toNat), .inl (xs (v3 + 2).toNat), .inl (xs (v3 + 3).toNat)]) (rest := []) (M' := mm_OneSided_rests) (ls0 := [some (.inr (.inr 1)), some (.inl (xs (v3 + 1).toNat)), some (.inl (xs (v3 + 2).toNat)), some (.inl (xs (v3 + 3).toNat))]) dd_OneSidedLaw_law_1033 rfl rfl (cw_v cw_13_116 io_1 rfl rfl (Nat.le_of_ble_eq_true rfl) (Nat.le_of_ble_eq_true rfl)) mt_OneSided_rests rfl hc rfl k
theorem B_law_1036 {xs : Nat → Int} {xl e : Nat} {h : LH} {Q : Option LV → LH → Prop} {v3 w0 : Int} (hF : RF h) (r_v3 : 0 ≤ v3 ∧ v3 ≤ 3577)
    (k : (0 ≤ v3 + 1 ∧ v3 + 1 < (xl : Int)) ∧
      (0 ≤ v3 + 2 ∧ v3 + 2 < (xl : Int)) ∧
      (0 ≤ v3 + 3 ∧ v3 + 3 < (xl : Int)) ∧
      (∃ c, c < e ∧ Rn xs xl c mm_rests 0 [some (.inr (.inr 182)), some (.inl (xs (v3 + 1).toNat)), some (.inl (xs (v3 + 2).toNat)), some (.inl (xs (v3 + 3).toNat)), none, none, none, none] [] h (fun r h' => Rn xs xl e mm_OneSidedLaw_law 1056 [some (.inr (.inr (-2))), some (.inr (.inr 1)), some (.inr (.inr 182)), some (.inl v3)] (r.toList ++ []) h' Q))) :
    Rn xs xl e mm_OneSidedLaw_law 1036 [some (.inr (.inr (-2))), some (.inr (.inr 1)), some (.inr (.inr 182)), some (.inl v3)] [.inl w0] h Q := by
  refine R_A dd_OneSidedLaw_law_1036 rfl rfl rfl rfl ?_
  refine R_ld (v := .inr (.inr 182)) dd_OneSidedLaw_law_1037 rfl rfl rfl rfl ?_
  refine R_ld (v := .inr (.inr (-2))) dd_OneSidedLaw_law_1038 rfl rfl rfl rfl ?_
  refine R_ld (v := .inl v3) dd_OneSidedLaw_law_1039 rfl rfl rfl rfl ?_
  refine R_ic dd_OneSidedLaw_law_1040 (by decide) rfl ?_
  refine R_iadd (c := v3 + 1) dd_OneSidedLaw_law_1041 (by omega) (by omega) rfl ?_
  obtain ⟨s1, k⟩ := k
  refine R_sld dd_OneSidedLaw_law_1042 s1 rfl ?_
  refine R_ld (v := .inr (.inr (-2))) dd_OneSidedLaw_law_1043 rfl rfl rfl rfl ?_
  refine R_ld (v := .inl v3) dd_OneSidedLaw_law_1044 rfl rfl rfl rfl ?_
  refine R_ic dd_OneSidedLaw_law_1045 (by decide) rfl ?_
  refine R_iadd (c := v3 + 2) dd_OneSidedLaw_law_1046 (by omega) (by omega) rfl ?_
  obtain ⟨s2, k⟩ := k
  refine R_sld dd_OneSidedLaw_law_1047 s2 rfl ?_
  refine R_ld (v := .inr (.inr (-2))) dd_OneSidedLaw_law_1048 rfl rfl rfl rfl ?_
  refine R_ld (v := .inl v3) dd_OneSidedLaw_law_1049 rfl rfl rfl rfl ?_
  refine R_ic dd_OneSidedLaw_law_1050 (by decide) rfl ?_
  refine R_iadd (c := v3 + 3) dd_OneSidedLaw_law_1051 (by omega) (by omega) rfl ?_
  obtain ⟨s3, k⟩ := k
  refine R_sld dd_OneSidedLaw_law_1052 s3 rfl ?_
  obtain ⟨c, hc, k⟩ := k
  exact R_call (as := [.inr (.inr 182), .inl (xs (v3 + 1).toNat), .inl (xs (v3 + 2).toNat), .inl (xs (v3 + 3).toNat)]) (rest := []) (M' := mm_rests) (ls0 := [some (.inr (.inr 182)), some (.inl (xs (v3 + 1).toNat)), some (.inl (xs (v3 + 2).toNat)), some (.inl (xs (v3 + 3).toNat)), none, none, none, none]) dd_OneSidedLaw_law_1053 rfl rfl (cw_v cw_13_119 io_182 rfl rfl (Nat.le_of_ble_eq_true rfl) (Nat.le_of_ble_eq_true rfl)) mt_rests rfl hc rfl k
theorem B_law_1056 {xs : Nat → Int} {xl e : Nat} {h : LH} {Q : Option LV → LH → Prop} {v3 w0 : Int} (hF : RF h) (r_v3 : 0 ≤ v3 ∧ v3 ≤ 3577)
    (k : Rn xs xl e mm_OneSidedLaw_law 1231 [some (.inr (.inr (-2))), some (.inr (.inr 1)), some (.inr (.inr 182)), some (.inl v3)] [] h Q) :
    Rn xs xl e mm_OneSidedLaw_law 1056 [some (.inr (.inr (-2))), some (.inr (.inr 1)), some (.inr (.inr 182)), some (.inl v3)] [.inl w0] h Q := by
  refine R_A dd_OneSidedLaw_law_1056 rfl rfl rfl rfl ?_
  refine R_goto dd_OneSidedLaw_law_1057 rfl ?_
  exact k
theorem B_law_1060 {xs : Nat → Int} {xl e : Nat} {h : LH} {Q : Option LV → LH → Prop} {v3 : Int} (hF : RF h) (r_v3 : 0 ≤ v3 ∧ v3 ≤ 3577)
    (k : (0 ≤ v3 + 1 ∧ v3 + 1 < (xl : Int)) ∧
      (0 ≤ v3 + 2 ∧ v3 + 2 < (xl : Int)) ∧
      (∃ c, c < e ∧ Rn xs xl c mm_OneSided_chase 0 [some (.inr (.inr 1)), some (.inl (xs (v3 + 1).toNat)), some (.inl (xs (v3 + 2).toNat)), none] [] h (fun r h' => Rn xs xl e mm_OneSidedLaw_law 1074 [some (.inr (.inr (-2))), some (.inr (.inr 1)), some (.inr (.inr 182)), some (.inl v3)] (r.toList ++ []) h' Q))) :
    Rn xs xl e mm_OneSidedLaw_law 1060 [some (.inr (.inr (-2))), some (.inr (.inr 1)), some (.inr (.inr 182)), some (.inl v3)] [] h Q := by
  refine R_ld (v := .inr (.inr 1)) dd_OneSidedLaw_law_1060 rfl rfl rfl rfl ?_
  refine R_ld (v := .inr (.inr (-2))) dd_OneSidedLaw_law_1061 rfl rfl rfl rfl ?_
  refine R_ld (v := .inl v3) dd_OneSidedLaw_law_1062 rfl rfl rfl rfl ?_
  refine R_ic dd_OneSidedLaw_law_1063 (by decide) rfl ?_
  refine R_iadd (c := v3 + 1) dd_OneSidedLaw_law_1064 (by omega) (by omega) rfl ?_
  obtain ⟨s1, k⟩ := k
  refine R_sld dd_OneSidedLaw_law_1065 s1 rfl ?_
  refine R_ld (v := .inr (.inr (-2))) dd_OneSidedLaw_law_1066 rfl rfl rfl rfl ?_
  refine R_ld (v := .inl v3) dd_OneSidedLaw_law_1067 rfl rfl rfl rfl ?_
  refine R_ic dd_OneSidedLaw_law_1068 (by decide) rfl ?_
  refine R_iadd (c := v3 + 2) dd_OneSidedLaw_law_1069 (by omega) (by omega) rfl ?_
  obtain ⟨s2, k⟩ := k
  refine R_sld dd_OneSidedLaw_law_1070 s2 rfl ?_
  obtain ⟨c, hc, k⟩ := k
  exact R_call (as := [.inr (.inr 1), .inl (xs (v3 + 1).toNat), .inl (xs (v3 + 2).toNat)]) (rest := []) (M' := mm_OneSided_chase) (ls0 := [some (.inr (.inr 1)), some (.inl (xs (v3 + 1).toNat)), some (.inl (xs (v3 + 2).toNat)), none]) dd_OneSidedLaw_law_1071 rfl rfl (cw_v cw_13_120 io_1 rfl rfl (Nat.le_of_ble_eq_true rfl) (Nat.le_of_ble_eq_true rfl)) mt_OneSided_chase rfl hc rfl k
theorem B_law_1074 {xs : Nat → Int} {xl e : Nat} {h : LH} {Q : Option LV → LH → Prop} {v3 w0 : Int} (hF : RF h) (r_v3 : 0 ≤ v3 ∧ v3 ≤ 3577)
    (k : (0 ≤ v3 + 1 ∧ v3 + 1 < (xl : Int)) ∧
      (0 ≤ v3 + 2 ∧ v3 + 2 < (xl : Int)) ∧
      (∃ c, c < e ∧ Rn xs xl c mm_chase 0 [some (.inr (.inr 182)), some (.inl (xs (v3 + 1).toNat)), some (.inl (xs (v3 + 2).toNat)), none, none] [] h (fun r h' => Rn xs xl e mm_OneSidedLaw_law 1089 [some (.inr (.inr (-2))), some (.inr (.inr 1)), some (.inr (.inr 182)), some (.inl v3)] (r.toList ++ []) h' Q))) :
    Rn xs xl e mm_OneSidedLaw_law 1074 [some (.inr (.inr (-2))), some (.inr (.inr 1)), some (.inr (.inr 182)), some (.inl v3)] [.inl w0] h Q := by
  refine R_A dd_OneSidedLaw_law_1074 rfl rfl rfl rfl ?_
  refine R_ld (v := .inr (.inr 182)) dd_OneSidedLaw_law_1075 rfl rfl rfl rfl ?_
  refine R_ld (v := .inr (.inr (-2))) dd_OneSidedLaw_law_1076 rfl rfl rfl rfl ?_
  refine R_ld (v := .inl v3) dd_OneSidedLaw_law_1077 rfl rfl rfl rfl ?_
  refine R_ic dd_OneSidedLaw_law_1078 (by decide) rfl ?_
  refine R_iadd (c := v3 + 1) dd_OneSidedLaw_law_1079 (by omega) (by omega) rfl ?_
  obtain ⟨s1, k⟩ := k
  refine R_sld dd_OneSidedLaw_law_1080 s1 rfl ?_
  refine R_ld (v := .inr (.inr (-2))) dd_OneSidedLaw_law_1081 rfl rfl rfl rfl ?_
  refine R_ld (v := .inl v3) dd_OneSidedLaw_law_1082 rfl rfl rfl rfl ?_
  refine R_ic dd_OneSidedLaw_law_1083 (by decide) rfl ?_
  refine R_iadd (c := v3 + 2) dd_OneSidedLaw_law_1084 (by omega) (by omega) rfl ?_
  obtain ⟨s2, k⟩ := k
  refine R_sld dd_OneSidedLaw_law_1085 s2 rfl ?_
  obtain ⟨c, hc, k⟩ := k
  exact R_call (as := [.inr (.inr 182), .inl (xs (v3 + 1).toNat), .inl (xs (v3 + 2).toNat)]) (rest := []) (M' := mm_chase) (ls0 := [some (.inr (.inr 182)), some (.inl (xs (v3 + 1).toNat)), some (.inl (xs (v3 + 2).toNat)), none, none]) dd_OneSidedLaw_law_1086 rfl rfl (cw_v cw_13_123 io_182 rfl rfl (Nat.le_of_ble_eq_true rfl) (Nat.le_of_ble_eq_true rfl)) mt_chase rfl hc rfl k
theorem B_law_1089 {xs : Nat → Int} {xl e : Nat} {h : LH} {Q : Option LV → LH → Prop} {v3 w0 : Int} (hF : RF h) (r_v3 : 0 ≤ v3 ∧ v3 ≤ 3577)
    (k : Rn xs xl e mm_OneSidedLaw_law 1231 [some (.inr (.inr (-2))), some (.inr (.inr 1)), some (.inr (.inr 182)), some (.inl v3)] [] h Q) :
    Rn xs xl e mm_OneSidedLaw_law 1089 [some (.inr (.inr (-2))), some (.inr (.inr 1)), some (.inr (.inr 182)), some (.inl v3)] [.inl w0] h Q := by
  refine R_A dd_OneSidedLaw_law_1089 rfl rfl rfl rfl ?_
  refine R_goto dd_OneSidedLaw_law_1090 rfl ?_
  exact k
theorem B_law_1093 {xs : Nat → Int} {xl e : Nat} {h : LH} {Q : Option LV → LH → Prop} {v3 : Int} (hF : RF h) (r_v3 : 0 ≤ v3 ∧ v3 ≤ 3577)
    (k : (0 ≤ v3 + 1 ∧ v3 + 1 < (xl : Int)) ∧
      (∃ c, c < e ∧ Rn xs xl c mm_OneSided_run 0 [some (.inr (.inr 1)), some (.inl (xs (v3 + 1).toNat)), none, none] [] h (fun r h' => Rn xs xl e mm_OneSidedLaw_law 1102 [some (.inr (.inr (-2))), some (.inr (.inr 1)), some (.inr (.inr 182)), some (.inl v3)] (r.toList ++ []) h' Q))) :
    Rn xs xl e mm_OneSidedLaw_law 1093 [some (.inr (.inr (-2))), some (.inr (.inr 1)), some (.inr (.inr 182)), some (.inl v3)] [] h Q := by
  refine R_ld (v := .inr (.inr 1)) dd_OneSidedLaw_law_1093 rfl rfl rfl rfl ?_
  refine R_ld (v := .inr (.inr (-2))) dd_OneSidedLaw_law_1094 rfl rfl rfl rfl ?_
  refine R_ld (v := .inl v3) dd_OneSidedLaw_law_1095 rfl rfl rfl rfl ?_
  refine R_ic dd_OneSidedLaw_law_1096 (by decide) rfl ?_
  refine R_iadd (c := v3 + 1) dd_OneSidedLaw_law_1097 (by omega) (by omega) rfl ?_
  obtain ⟨s1, k⟩ := k
  refine R_sld dd_OneSidedLaw_law_1098 s1 rfl ?_
  obtain ⟨c, hc, k⟩ := k
  exact R_call (as := [.inr (.inr 1), .inl (xs (v3 + 1).toNat)]) (rest := []) (M' := mm_OneSided_run) (ls0 := [some (.inr (.inr 1)), some (.inl (xs (v3 + 1).toNat)), none, none]) dd_OneSidedLaw_law_1099 rfl rfl (cw_v cw_13_124 io_1 rfl rfl (Nat.le_of_ble_eq_true rfl) (Nat.le_of_ble_eq_true rfl)) mt_OneSided_run rfl hc rfl k
theorem B_law_1102 {xs : Nat → Int} {xl e : Nat} {h : LH} {Q : Option LV → LH → Prop} {v3 w0 : Int} (hF : RF h) (r_v3 : 0 ≤ v3 ∧ v3 ≤ 3577)
    (k : (0 ≤ v3 + 1 ∧ v3 + 1 < (xl : Int)) ∧
      (∃ c, c < e ∧ Rn xs xl c mm_run 0 [some (.inr (.inr 182)), some (.inl (xs (v3 + 1).toNat))] [] h (fun r h' => Rn xs xl e mm_OneSidedLaw_law 1112 [some (.inr (.inr (-2))), some (.inr (.inr 1)), some (.inr (.inr 182)), some (.inl v3)] (r.toList ++ []) h' Q))) :
    Rn xs xl e mm_OneSidedLaw_law 1102 [some (.inr (.inr (-2))), some (.inr (.inr 1)), some (.inr (.inr 182)), some (.inl v3)] [.inl w0] h Q := by
  refine R_A dd_OneSidedLaw_law_1102 rfl rfl rfl rfl ?_
  refine R_ld (v := .inr (.inr 182)) dd_OneSidedLaw_law_1103 rfl rfl rfl rfl ?_
  refine R_ld (v := .inr (.inr (-2))) dd_OneSidedLaw_law_1104 rfl rfl rfl rfl ?_
  refine R_ld (v := .inl v3) dd_OneSidedLaw_law_1105 rfl rfl rfl rfl ?_
  refine R_ic dd_OneSidedLaw_law_1106 (by decide) rfl ?_
  refine R_iadd (c := v3 + 1) dd_OneSidedLaw_law_1107 (by omega) (by omega) rfl ?_
  obtain ⟨s1, k⟩ := k
  refine R_sld dd_OneSidedLaw_law_1108 s1 rfl ?_
  obtain ⟨c, hc, k⟩ := k
  exact R_call (as := [.inr (.inr 182), .inl (xs (v3 + 1).toNat)]) (rest := []) (M' := mm_run) (ls0 := [some (.inr (.inr 182)), some (.inl (xs (v3 + 1).toNat))]) dd_OneSidedLaw_law_1109 rfl rfl (cw_v cw_13_127 io_182 rfl rfl (Nat.le_of_ble_eq_true rfl) (Nat.le_of_ble_eq_true rfl)) mt_run rfl hc rfl k
theorem B_law_1112 {xs : Nat → Int} {xl e : Nat} {h : LH} {Q : Option LV → LH → Prop} {v3 w0 : Int} (hF : RF h) (r_v3 : 0 ≤ v3 ∧ v3 ≤ 3577)
    (k : Rn xs xl e mm_OneSidedLaw_law 1231 [some (.inr (.inr (-2))), some (.inr (.inr 1)), some (.inr (.inr 182)), some (.inl v3)] [] h Q) :
    Rn xs xl e mm_OneSidedLaw_law 1112 [some (.inr (.inr (-2))), some (.inr (.inr 1)), some (.inr (.inr 182)), some (.inl v3)] [.inl w0] h Q := by
  refine R_A dd_OneSidedLaw_law_1112 rfl rfl rfl rfl ?_
  refine R_goto dd_OneSidedLaw_law_1113 rfl ?_
  exact k
theorem B_law_1116 {xs : Nat → Int} {xl e : Nat} {h : LH} {Q : Option LV → LH → Prop} {v3 : Int} (hF : RF h) (r_v3 : 0 ≤ v3 ∧ v3 ≤ 3577)
    (k : (0 ≤ v3 + 1 ∧ v3 + 1 < (xl : Int)) ∧
      (0 ≤ v3 + 2 ∧ v3 + 2 < (xl : Int)) ∧
      (0 ≤ v3 + 3 ∧ v3 + 3 < (xl : Int)) ∧
      (∃ c, c < e ∧ Rn xs xl c mm_OneSided_years 0 [some (.inr (.inr 1)), some (.inl (xs (v3 + 1).toNat)), some (.inl (xs (v3 + 2).toNat)), some (.inl (xs (v3 + 3).toNat))] [] h (fun r h' => Rn xs xl e mm_OneSidedLaw_law 1135 [some (.inr (.inr (-2))), some (.inr (.inr 1)), some (.inr (.inr 182)), some (.inl v3)] (r.toList ++ []) h' Q))) :
    Rn xs xl e mm_OneSidedLaw_law 1116 [some (.inr (.inr (-2))), some (.inr (.inr 1)), some (.inr (.inr 182)), some (.inl v3)] [] h Q := by
  refine R_ld (v := .inr (.inr 1)) dd_OneSidedLaw_law_1116 rfl rfl rfl rfl ?_
  refine R_ld (v := .inr (.inr (-2))) dd_OneSidedLaw_law_1117 rfl rfl rfl rfl ?_
  refine R_ld (v := .inl v3) dd_OneSidedLaw_law_1118 rfl rfl rfl rfl ?_
  refine R_ic dd_OneSidedLaw_law_1119 (by decide) rfl ?_
  refine R_iadd (c := v3 + 1) dd_OneSidedLaw_law_1120 (by omega) (by omega) rfl ?_
  obtain ⟨s1, k⟩ := k
  refine R_sld dd_OneSidedLaw_law_1121 s1 rfl ?_
  refine R_ld (v := .inr (.inr (-2))) dd_OneSidedLaw_law_1122 rfl rfl rfl rfl ?_
  refine R_ld (v := .inl v3) dd_OneSidedLaw_law_1123 rfl rfl rfl rfl ?_
  refine R_ic dd_OneSidedLaw_law_1124 (by decide) rfl ?_
  refine R_iadd (c := v3 + 2) dd_OneSidedLaw_law_1125 (by omega) (by omega) rfl ?_
  obtain ⟨s2, k⟩ := k
  refine R_sld dd_OneSidedLaw_law_1126 s2 rfl ?_
  refine R_ld (v := .inr (.inr (-2))) dd_OneSidedLaw_law_1127 rfl rfl rfl rfl ?_
  refine R_ld (v := .inl v3) dd_OneSidedLaw_law_1128 rfl rfl rfl rfl ?_
  refine R_ic dd_OneSidedLaw_law_1129 (by decide) rfl ?_
  refine R_iadd (c := v3 + 3) dd_OneSidedLaw_law_1130 (by omega) (by omega) rfl ?_
  obtain ⟨s3, k⟩ := k
  refine R_sld dd_OneSidedLaw_law_1131 s3 rfl ?_
  obtain ⟨c, hc, k⟩ := k
  exact R_call (as := [.inr (.inr 1), .inl (xs (v3 + 1).toNat), .inl (xs (v3 + 2).toNat), .inl (xs (v3 + 3).toNat)]) (rest := []) (M' := mm_OneSided_years) (ls0 := [some (.inr (.inr 1)), some (.inl (xs (v3 + 1).toNat)), some (.inl (xs (v3 + 2).toNat)), some (.inl (xs (v3 + 3).toNat))]) dd_OneSidedLaw_law_1132 rfl rfl (cw_v cw_13_128 io_1 rfl rfl (Nat.le_of_ble_eq_true rfl) (Nat.le_of_ble_eq_true rfl)) mt_OneSided_years rfl hc rfl k
theorem B_law_1135 {xs : Nat → Int} {xl e : Nat} {h : LH} {Q : Option LV → LH → Prop} {v3 w0 : Int} (hF : RF h) (r_v3 : 0 ≤ v3 ∧ v3 ≤ 3577)
    (k : (0 ≤ v3 + 1 ∧ v3 + 1 < (xl : Int)) ∧
      (0 ≤ v3 + 2 ∧ v3 + 2 < (xl : Int)) ∧
      (0 ≤ v3 + 3 ∧ v3 + 3 < (xl : Int)) ∧
      (∃ c, c < e ∧ Rn xs xl c mm_years 0 [some (.inr (.inr 182)), some (.inl (xs (v3 + 1).toNat)), some (.inl (xs (v3 + 2).toNat)), some (.inl (xs (v3 + 3).toNat)), none, none, none, none, none, none] [] h (fun r h' => Rn xs xl e mm_OneSidedLaw_law 1155 [some (.inr (.inr (-2))), some (.inr (.inr 1)), some (.inr (.inr 182)), some (.inl v3)] (r.toList ++ []) h' Q))) :
    Rn xs xl e mm_OneSidedLaw_law 1135 [some (.inr (.inr (-2))), some (.inr (.inr 1)), some (.inr (.inr 182)), some (.inl v3)] [.inl w0] h Q := by
  refine R_A dd_OneSidedLaw_law_1135 rfl rfl rfl rfl ?_
  refine R_ld (v := .inr (.inr 182)) dd_OneSidedLaw_law_1136 rfl rfl rfl rfl ?_
  refine R_ld (v := .inr (.inr (-2))) dd_OneSidedLaw_law_1137 rfl rfl rfl rfl ?_
  refine R_ld (v := .inl v3) dd_OneSidedLaw_law_1138 rfl rfl rfl rfl ?_
  refine R_ic dd_OneSidedLaw_law_1139 (by decide) rfl ?_
  refine R_iadd (c := v3 + 1) dd_OneSidedLaw_law_1140 (by omega) (by omega) rfl ?_
  obtain ⟨s1, k⟩ := k
  refine R_sld dd_OneSidedLaw_law_1141 s1 rfl ?_
  refine R_ld (v := .inr (.inr (-2))) dd_OneSidedLaw_law_1142 rfl rfl rfl rfl ?_
  refine R_ld (v := .inl v3) dd_OneSidedLaw_law_1143 rfl rfl rfl rfl ?_
  refine R_ic dd_OneSidedLaw_law_1144 (by decide) rfl ?_
  refine R_iadd (c := v3 + 2) dd_OneSidedLaw_law_1145 (by omega) (by omega) rfl ?_
  obtain ⟨s2, k⟩ := k
  refine R_sld dd_OneSidedLaw_law_1146 s2 rfl ?_
  refine R_ld (v := .inr (.inr (-2))) dd_OneSidedLaw_law_1147 rfl rfl rfl rfl ?_
  refine R_ld (v := .inl v3) dd_OneSidedLaw_law_1148 rfl rfl rfl rfl ?_
  refine R_ic dd_OneSidedLaw_law_1149 (by decide) rfl ?_
  refine R_iadd (c := v3 + 3) dd_OneSidedLaw_law_1150 (by omega) (by omega) rfl ?_
  obtain ⟨s3, k⟩ := k
  refine R_sld dd_OneSidedLaw_law_1151 s3 rfl ?_
  obtain ⟨c, hc, k⟩ := k
  exact R_call (as := [.inr (.inr 182), .inl (xs (v3 + 1).toNat), .inl (xs (v3 + 2).toNat), .inl (xs (v3 + 3).toNat)]) (rest := []) (M' := mm_years) (ls0 := [some (.inr (.inr 182)), some (.inl (xs (v3 + 1).toNat)), some (.inl (xs (v3 + 2).toNat)), some (.inl (xs (v3 + 3).toNat)), none, none, none, none, none, none]) dd_OneSidedLaw_law_1152 rfl rfl (cw_v cw_13_131 io_182 rfl rfl (Nat.le_of_ble_eq_true rfl) (Nat.le_of_ble_eq_true rfl)) mt_years rfl hc rfl k
theorem B_law_1155 {xs : Nat → Int} {xl e : Nat} {h : LH} {Q : Option LV → LH → Prop} {v3 w0 : Int} (hF : RF h) (r_v3 : 0 ≤ v3 ∧ v3 ≤ 3577)
    (k : Rn xs xl e mm_OneSidedLaw_law 1231 [some (.inr (.inr (-2))), some (.inr (.inr 1)), some (.inr (.inr 182)), some (.inl v3)] [] h Q) :
    Rn xs xl e mm_OneSidedLaw_law 1155 [some (.inr (.inr (-2))), some (.inr (.inr 1)), some (.inr (.inr 182)), some (.inl v3)] [.inl w0] h Q := by
  refine R_A dd_OneSidedLaw_law_1155 rfl rfl rfl rfl ?_
  refine R_goto dd_OneSidedLaw_law_1156 rfl ?_
  exact k
theorem B_law_1159 {xs : Nat → Int} {xl e : Nat} {h : LH} {Q : Option LV → LH → Prop} {v3 : Int} (hF : RF h) (r_v3 : 0 ≤ v3 ∧ v3 ≤ 3577)
    (k : (0 ≤ v3 + 1 ∧ v3 + 1 < (xl : Int)) ∧
      (0 ≤ v3 + 2 ∧ v3 + 2 < (xl : Int)) ∧
      ((xs (v3 + 2).toNat) = 0 →
        (∃ c, c < e ∧ Rn xs xl c mm_OneSided_mark 0 [some (.inr (.inr 1)), some (.inl (xs (v3 + 1).toNat)), some (.inl 0)] [] h (fun r h' => Rn xs xl e mm_OneSidedLaw_law 1181 [some (.inr (.inr (-2))), some (.inr (.inr 1)), some (.inr (.inr 182)), some (.inl v3)] (r.toList ++ []) h' Q))) ∧
      ((xs (v3 + 2).toNat) ≠ 0 →
        (∃ c, c < e ∧ Rn xs xl c mm_OneSided_mark 0 [some (.inr (.inr 1)), some (.inl (xs (v3 + 1).toNat)), some (.inl 1)] [] h (fun r h' => Rn xs xl e mm_OneSidedLaw_law 1181 [some (.inr (.inr (-2))), some (.inr (.inr 1)), some (.inr (.inr 182)), some (.inl v3)] (r.toList ++ []) h' Q)))) :
    Rn xs xl e mm_OneSidedLaw_law 1159 [some (.inr (.inr (-2))), some (.inr (.inr 1)), some (.inr (.inr 182)), some (.inl v3)] [] h Q := by
  refine R_ld (v := .inr (.inr 1)) dd_OneSidedLaw_law_1159 rfl rfl rfl rfl ?_
  refine R_ld (v := .inr (.inr (-2))) dd_OneSidedLaw_law_1160 rfl rfl rfl rfl ?_
  refine R_ld (v := .inl v3) dd_OneSidedLaw_law_1161 rfl rfl rfl rfl ?_
  refine R_ic dd_OneSidedLaw_law_1162 (by decide) rfl ?_
  refine R_iadd (c := v3 + 1) dd_OneSidedLaw_law_1163 (by omega) (by omega) rfl ?_
  obtain ⟨s1, k⟩ := k
  refine R_sld dd_OneSidedLaw_law_1164 s1 rfl ?_
  refine R_ld (v := .inr (.inr (-2))) dd_OneSidedLaw_law_1165 rfl rfl rfl rfl ?_
  refine R_ld (v := .inl v3) dd_OneSidedLaw_law_1166 rfl rfl rfl rfl ?_
  refine R_ic dd_OneSidedLaw_law_1167 (by decide) rfl ?_
  refine R_iadd (c := v3 + 2) dd_OneSidedLaw_law_1168 (by omega) (by omega) rfl ?_
  obtain ⟨s2, k⟩ := k
  refine R_sld dd_OneSidedLaw_law_1169 s2 rfl ?_
  refine R_if dd_OneSidedLaw_law_1170 rfl rfl (fun (c5 : (xs (v3 + 2).toNat) = 0) => ?_) (fun (c5 : (xs (v3 + 2).toNat) ≠ 0) => ?_)
  · replace k := k.1 c5
    refine R_ic dd_OneSidedLaw_law_1177 (by decide) rfl ?_
    obtain ⟨c, hc, k⟩ := k
    exact R_call (as := [.inr (.inr 1), .inl (xs (v3 + 1).toNat), .inl 0]) (rest := []) (M' := mm_OneSided_mark) (ls0 := [some (.inr (.inr 1)), some (.inl (xs (v3 + 1).toNat)), some (.inl 0)]) dd_OneSidedLaw_law_1178 rfl rfl (cw_v cw_13_132 io_1 rfl rfl (Nat.le_of_ble_eq_true rfl) (Nat.le_of_ble_eq_true rfl)) mt_OneSided_mark rfl hc rfl k
  · replace k := k.2 c5
    refine R_ic dd_OneSidedLaw_law_1173 (by decide) rfl ?_
    refine R_goto dd_OneSidedLaw_law_1174 rfl ?_
    obtain ⟨c, hc, k⟩ := k
    exact R_call (as := [.inr (.inr 1), .inl (xs (v3 + 1).toNat), .inl 1]) (rest := []) (M' := mm_OneSided_mark) (ls0 := [some (.inr (.inr 1)), some (.inl (xs (v3 + 1).toNat)), some (.inl 1)]) dd_OneSidedLaw_law_1178 rfl rfl (cw_v cw_13_132 io_1 rfl rfl (Nat.le_of_ble_eq_true rfl) (Nat.le_of_ble_eq_true rfl)) mt_OneSided_mark rfl hc rfl k
theorem B_law_1181 {xs : Nat → Int} {xl e : Nat} {h : LH} {Q : Option LV → LH → Prop} {v3 w0 : Int} (hF : RF h) (r_v3 : 0 ≤ v3 ∧ v3 ≤ 3577)
    (k : (0 ≤ v3 + 1 ∧ v3 + 1 < (xl : Int)) ∧
      (0 ≤ v3 + 2 ∧ v3 + 2 < (xl : Int)) ∧
      ((xs (v3 + 2).toNat) = 0 →
        (∃ c, c < e ∧ Rn xs xl c mm_mark 0 [some (.inr (.inr 182)), some (.inl (xs (v3 + 1).toNat)), some (.inl 0), none] [] h (fun r h' => Rn xs xl e mm_OneSidedLaw_law 1204 [some (.inr (.inr (-2))), some (.inr (.inr 1)), some (.inr (.inr 182)), some (.inl v3)] (r.toList ++ []) h' Q))) ∧
      ((xs (v3 + 2).toNat) ≠ 0 →
        (∃ c, c < e ∧ Rn xs xl c mm_mark 0 [some (.inr (.inr 182)), some (.inl (xs (v3 + 1).toNat)), some (.inl 1), none] [] h (fun r h' => Rn xs xl e mm_OneSidedLaw_law 1204 [some (.inr (.inr (-2))), some (.inr (.inr 1)), some (.inr (.inr 182)), some (.inl v3)] (r.toList ++ []) h' Q)))) :
    Rn xs xl e mm_OneSidedLaw_law 1181 [some (.inr (.inr (-2))), some (.inr (.inr 1)), some (.inr (.inr 182)), some (.inl v3)] [.inl w0] h Q := by
  refine R_A dd_OneSidedLaw_law_1181 rfl rfl rfl rfl ?_
  refine R_ld (v := .inr (.inr 182)) dd_OneSidedLaw_law_1182 rfl rfl rfl rfl ?_
  refine R_ld (v := .inr (.inr (-2))) dd_OneSidedLaw_law_1183 rfl rfl rfl rfl ?_
  refine R_ld (v := .inl v3) dd_OneSidedLaw_law_1184 rfl rfl rfl rfl ?_
  refine R_ic dd_OneSidedLaw_law_1185 (by decide) rfl ?_
  refine R_iadd (c := v3 + 1) dd_OneSidedLaw_law_1186 (by omega) (by omega) rfl ?_
  obtain ⟨s1, k⟩ := k
  refine R_sld dd_OneSidedLaw_law_1187 s1 rfl ?_
  refine R_ld (v := .inr (.inr (-2))) dd_OneSidedLaw_law_1188 rfl rfl rfl rfl ?_
  refine R_ld (v := .inl v3) dd_OneSidedLaw_law_1189 rfl rfl rfl rfl ?_
  refine R_ic dd_OneSidedLaw_law_1190 (by decide) rfl ?_
  refine R_iadd (c := v3 + 2) dd_OneSidedLaw_law_1191 (by omega) (by omega) rfl ?_
  obtain ⟨s2, k⟩ := k
  refine R_sld dd_OneSidedLaw_law_1192 s2 rfl ?_
  refine R_if dd_OneSidedLaw_law_1193 rfl rfl (fun (c5 : (xs (v3 + 2).toNat) = 0) => ?_) (fun (c5 : (xs (v3 + 2).toNat) ≠ 0) => ?_)
  · replace k := k.1 c5
    refine R_ic dd_OneSidedLaw_law_1200 (by decide) rfl ?_
    obtain ⟨c, hc, k⟩ := k
    exact R_call (as := [.inr (.inr 182), .inl (xs (v3 + 1).toNat), .inl 0]) (rest := []) (M' := mm_mark) (ls0 := [some (.inr (.inr 182)), some (.inl (xs (v3 + 1).toNat)), some (.inl 0), none]) dd_OneSidedLaw_law_1201 rfl rfl (cw_v cw_13_135 io_182 rfl rfl (Nat.le_of_ble_eq_true rfl) (Nat.le_of_ble_eq_true rfl)) mt_mark rfl hc rfl k
  · replace k := k.2 c5
    refine R_ic dd_OneSidedLaw_law_1196 (by decide) rfl ?_
    refine R_goto dd_OneSidedLaw_law_1197 rfl ?_
    obtain ⟨c, hc, k⟩ := k
    exact R_call (as := [.inr (.inr 182), .inl (xs (v3 + 1).toNat), .inl 1]) (rest := []) (M' := mm_mark) (ls0 := [some (.inr (.inr 182)), some (.inl (xs (v3 + 1).toNat)), some (.inl 1), none]) dd_OneSidedLaw_law_1201 rfl rfl (cw_v cw_13_135 io_182 rfl rfl (Nat.le_of_ble_eq_true rfl) (Nat.le_of_ble_eq_true rfl)) mt_mark rfl hc rfl k
theorem B_law_1204 {xs : Nat → Int} {xl e : Nat} {h : LH} {Q : Option LV → LH → Prop} {v3 w0 : Int} (hF : RF h) (r_v3 : 0 ≤ v3 ∧ v3 ≤ 3577)
    (k : Rn xs xl e mm_OneSidedLaw_law 1231 [some (.inr (.inr (-2))), some (.inr (.inr 1)), some (.inr (.inr 182)), some (.inl v3)] [] h Q) :
    Rn xs xl e mm_OneSidedLaw_law 1204 [some (.inr (.inr (-2))), some (.inr (.inr 1)), some (.inr (.inr 182)), some (.inl v3)] [.inl w0] h Q := by
  refine R_A dd_OneSidedLaw_law_1204 rfl rfl rfl rfl ?_
  refine R_goto dd_OneSidedLaw_law_1205 rfl ?_
  exact k
theorem B_law_1208 {xs : Nat → Int} {xl e : Nat} {h : LH} {Q : Option LV → LH → Prop} {v3 : Int} (hF : RF h) (r_v3 : 0 ≤ v3 ∧ v3 ≤ 3577)
    (k : (0 ≤ v3 + 1 ∧ v3 + 1 < (xl : Int)) ∧
      (∃ c, c < e ∧ Rn xs xl c mm_OneSided_count 0 [some (.inr (.inr 1)), some (.inl (xs (v3 + 1).toNat))] [] h (fun r h' => Rn xs xl e mm_OneSidedLaw_law 1217 [some (.inr (.inr (-2))), some (.inr (.inr 1)), some (.inr (.inr 182)), some (.inl v3)] (r.toList ++ []) h' Q))) :
    Rn xs xl e mm_OneSidedLaw_law 1208 [some (.inr (.inr (-2))), some (.inr (.inr 1)), some (.inr (.inr 182)), some (.inl v3)] [] h Q := by
  refine R_ld (v := .inr (.inr 1)) dd_OneSidedLaw_law_1208 rfl rfl rfl rfl ?_
  refine R_ld (v := .inr (.inr (-2))) dd_OneSidedLaw_law_1209 rfl rfl rfl rfl ?_
  refine R_ld (v := .inl v3) dd_OneSidedLaw_law_1210 rfl rfl rfl rfl ?_
  refine R_ic dd_OneSidedLaw_law_1211 (by decide) rfl ?_
  refine R_iadd (c := v3 + 1) dd_OneSidedLaw_law_1212 (by omega) (by omega) rfl ?_
  obtain ⟨s1, k⟩ := k
  refine R_sld dd_OneSidedLaw_law_1213 s1 rfl ?_
  obtain ⟨c, hc, k⟩ := k
  exact R_call (as := [.inr (.inr 1), .inl (xs (v3 + 1).toNat)]) (rest := []) (M' := mm_OneSided_count) (ls0 := [some (.inr (.inr 1)), some (.inl (xs (v3 + 1).toNat))]) dd_OneSidedLaw_law_1214 rfl rfl (cw_v cw_13_136 io_1 rfl rfl (Nat.le_of_ble_eq_true rfl) (Nat.le_of_ble_eq_true rfl)) mt_OneSided_count rfl hc rfl k
theorem B_law_1217 {xs : Nat → Int} {xl e : Nat} {h : LH} {Q : Option LV → LH → Prop} {v3 w0 : Int} (hF : RF h) (r_v3 : 0 ≤ v3 ∧ v3 ≤ 3577)
    (k : (0 ≤ v3 + 1 ∧ v3 + 1 < (xl : Int)) ∧
      (∃ c, c < e ∧ Rn xs xl c mm_count 0 [some (.inr (.inr 182)), some (.inl (xs (v3 + 1).toNat)), none, none] [] h (fun r h' => Rn xs xl e mm_OneSidedLaw_law 1227 [some (.inr (.inr (-2))), some (.inr (.inr 1)), some (.inr (.inr 182)), some (.inl v3)] (r.toList ++ []) h' Q))) :
    Rn xs xl e mm_OneSidedLaw_law 1217 [some (.inr (.inr (-2))), some (.inr (.inr 1)), some (.inr (.inr 182)), some (.inl v3)] [.inl w0] h Q := by
  refine R_A dd_OneSidedLaw_law_1217 rfl rfl rfl rfl ?_
  refine R_ld (v := .inr (.inr 182)) dd_OneSidedLaw_law_1218 rfl rfl rfl rfl ?_
  refine R_ld (v := .inr (.inr (-2))) dd_OneSidedLaw_law_1219 rfl rfl rfl rfl ?_
  refine R_ld (v := .inl v3) dd_OneSidedLaw_law_1220 rfl rfl rfl rfl ?_
  refine R_ic dd_OneSidedLaw_law_1221 (by decide) rfl ?_
  refine R_iadd (c := v3 + 1) dd_OneSidedLaw_law_1222 (by omega) (by omega) rfl ?_
  obtain ⟨s1, k⟩ := k
  refine R_sld dd_OneSidedLaw_law_1223 s1 rfl ?_
  obtain ⟨c, hc, k⟩ := k
  exact R_call (as := [.inr (.inr 182), .inl (xs (v3 + 1).toNat)]) (rest := []) (M' := mm_count) (ls0 := [some (.inr (.inr 182)), some (.inl (xs (v3 + 1).toNat)), none, none]) dd_OneSidedLaw_law_1224 rfl rfl (cw_v cw_13_139 io_182 rfl rfl (Nat.le_of_ble_eq_true rfl) (Nat.le_of_ble_eq_true rfl)) mt_count rfl hc rfl k
theorem B_law_1227 {xs : Nat → Int} {xl e : Nat} {h : LH} {Q : Option LV → LH → Prop} {v3 w0 : Int} (hF : RF h) (r_v3 : 0 ≤ v3 ∧ v3 ≤ 3577)
    (k : Rn xs xl e mm_OneSidedLaw_law 1231 [some (.inr (.inr (-2))), some (.inr (.inr 1)), some (.inr (.inr 182)), some (.inl v3)] [] h Q) :
    Rn xs xl e mm_OneSidedLaw_law 1227 [some (.inr (.inr (-2))), some (.inr (.inr 1)), some (.inr (.inr 182)), some (.inl v3)] [.inl w0] h Q := by
  refine R_A dd_OneSidedLaw_law_1227 rfl rfl rfl rfl ?_
  refine R_goto dd_OneSidedLaw_law_1228 rfl ?_
  exact k
theorem B_law_1231 {xs : Nat → Int} {xl e : Nat} {h : LH} {Q : Option LV → LH → Prop} {v3 : Int} (hF : RF h) (r_v3 : 0 ≤ v3 ∧ v3 ≤ 3577)
    (k : Rn xs xl e mm_OneSidedLaw_law 18 [some (.inr (.inr (-2))), some (.inr (.inr 1)), some (.inr (.inr 182)), some (.inl (v3 + 7))] [] h Q) :
    Rn xs xl e mm_OneSidedLaw_law 1231 [some (.inr (.inr (-2))), some (.inr (.inr 1)), some (.inr (.inr 182)), some (.inl v3)] [] h Q := by
  refine R_inc (y := v3 + 7) (ls' := [some (.inr (.inr (-2))), some (.inr (.inr 1)), some (.inr (.inr 182)), some (.inl (v3 + 7))]) dd_OneSidedLaw_law_1231 rfl (by decide) (by omega) (by omega) rfl rfl ?_
  refine R_goto dd_OneSidedLaw_law_1234 rfl ?_
  exact k
