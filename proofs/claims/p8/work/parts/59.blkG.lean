/-! LM, by program (wip/p2/hand.py): rows of goesBy -/
def mm_goesBy : LM_M := (⟨"OneSidedModel", "goesBy", "(I)I"⟩, prog_14_method_101_code, 8, (some .int), 12, 2, 0, 1785, 1784, 1000127)
theorem dd_goesBy_0 : decode mm_goesBy.2.1 0 = .ok (.aload_n 0, 1) := by decide +kernel
theorem dd_goesBy_1 : decode mm_goesBy.2.1 1 = .ok (.iload_n 1, 1) := by decide +kernel
theorem dd_goesBy_2 : decode mm_goesBy.2.1 2 = .ok (.iconst 0, 1) := by decide +kernel
theorem dd_goesBy_3 : decode mm_goesBy.2.1 3 = .ok (.invokevirtual 325, 3) := by decide +kernel
theorem dd_goesBy_6 : decode mm_goesBy.2.1 6 = .ok (.istore_n 2, 1) := by decide +kernel
theorem dd_goesBy_7 : decode mm_goesBy.2.1 7 = .ok (.iconst 0, 1) := by decide +kernel
theorem dd_goesBy_8 : decode mm_goesBy.2.1 8 = .ok (.istore_n 3, 1) := by decide +kernel
theorem dd_goesBy_9 : decode mm_goesBy.2.1 9 = .ok (.iload_n 3, 1) := by decide +kernel
theorem dd_goesBy_10 : decode mm_goesBy.2.1 10 = .ok (.bipush 10, 2) := by decide +kernel
theorem dd_goesBy_12 : decode mm_goesBy.2.1 12 = .ok (.if_icmp .ge (32), 3) := by decide +kernel
theorem dd_goesBy_44 : decode mm_goesBy.2.1 44 = .ok (.iconst 0, 1) := by decide +kernel
theorem dd_goesBy_45 : decode mm_goesBy.2.1 45 = .ok (.istore_n 3, 1) := by decide +kernel
theorem dd_goesBy_15 : decode mm_goesBy.2.1 15 = .ok (.aload_n 0, 1) := by decide +kernel
theorem dd_goesBy_16 : decode mm_goesBy.2.1 16 = .ok (.getfield 168, 3) := by decide +kernel
theorem fd_12_168 : fld 12 168 = some (12, 49) := by decide +kernel
theorem rf_182_49 {h : LH} (hF : RF h) : rd h 182 49 = 210 := hF 182 49 210 (by decide +kernel) (by decide +kernel)
theorem dd_goesBy_19 : decode mm_goesBy.2.1 19 = .ok (.iload_n 3, 1) := by decide +kernel
theorem dd_goesBy_20 : decode mm_goesBy.2.1 20 = .ok (.iload_n 3, 1) := by decide +kernel
theorem dd_goesBy_21 : decode mm_goesBy.2.1 21 = .ok (.aload_n 0, 1) := by decide +kernel
theorem dd_goesBy_22 : decode mm_goesBy.2.1 22 = .ok (.iload_n 1, 1) := by decide +kernel
theorem dd_goesBy_23 : decode mm_goesBy.2.1 23 = .ok (.iconst 2, 1) := by decide +kernel
theorem dd_goesBy_24 : decode mm_goesBy.2.1 24 = .ok (.invokevirtual 325, 3) := by decide +kernel
theorem dd_goesBy_27 : decode mm_goesBy.2.1 27 = .ok (.if_icmp .ne (7), 3) := by decide +kernel
theorem dd_goesBy_34 : decode mm_goesBy.2.1 34 = .ok (.ldc_w 396, 3) := by decide +kernel
theorem dd_goesBy_37 : decode mm_goesBy.2.1 37 = .ok (.iastore, 1) := by decide +kernel
theorem ia_210 : isA NC 210 1 = true := by decide +kernel
theorem la_210 : (lay (210 : Int).toNat).2.2 = 10 := by decide +kernel
theorem dd_goesBy_38 : decode mm_goesBy.2.1 38 = .ok (.iinc 3 1, 3) := by decide +kernel
theorem dd_goesBy_41 : decode mm_goesBy.2.1 41 = .ok (.goto (-32), 3) := by decide +kernel
theorem dd_goesBy_30 : decode mm_goesBy.2.1 30 = .ok (.iconst 0, 1) := by decide +kernel
theorem dd_goesBy_31 : decode mm_goesBy.2.1 31 = .ok (.goto 6, 3) := by decide +kernel
theorem dd_goesBy_46 : decode mm_goesBy.2.1 46 = .ok (.iload_n 3, 1) := by decide +kernel
theorem dd_goesBy_47 : decode mm_goesBy.2.1 47 = .ok (.bipush 10, 2) := by decide +kernel
theorem dd_goesBy_49 : decode mm_goesBy.2.1 49 = .ok (.if_icmp .ge (126), 3) := by decide +kernel
theorem dd_goesBy_175 : decode mm_goesBy.2.1 175 = .ok (.iconst 0, 1) := by decide +kernel
theorem dd_goesBy_176 : decode mm_goesBy.2.1 176 = .ok (.istore_n 3, 1) := by decide +kernel
theorem dd_goesBy_177 : decode mm_goesBy.2.1 177 = .ok (.aload_n 0, 1) := by decide +kernel
theorem dd_goesBy_178 : decode mm_goesBy.2.1 178 = .ok (.getfield 125, 3) := by decide +kernel
theorem dd_goesBy_181 : decode mm_goesBy.2.1 181 = .ok (.iconst 2, 1) := by decide +kernel
theorem dd_goesBy_182 : decode mm_goesBy.2.1 182 = .ok (.iload_n 1, 1) := by decide +kernel
theorem dd_goesBy_183 : decode mm_goesBy.2.1 183 = .ok (.iadd, 1) := by decide +kernel
theorem dd_goesBy_184 : decode mm_goesBy.2.1 184 = .ok (.iaload, 1) := by decide +kernel
theorem dd_goesBy_185 : decode mm_goesBy.2.1 185 = .ok (.istore 4, 2) := by decide +kernel
theorem dd_goesBy_52 : decode mm_goesBy.2.1 52 = .ok (.iconst 0, 1) := by decide +kernel
theorem dd_goesBy_53 : decode mm_goesBy.2.1 53 = .ok (.istore 4, 2) := by decide +kernel
theorem dd_goesBy_55 : decode mm_goesBy.2.1 55 = .ok (.iload 4, 2) := by decide +kernel
theorem dd_goesBy_57 : decode mm_goesBy.2.1 57 = .ok (.aload_n 0, 1) := by decide +kernel
theorem dd_goesBy_58 : decode mm_goesBy.2.1 58 = .ok (.invokevirtual 332, 3) := by decide +kernel
theorem dd_goesBy_61 : decode mm_goesBy.2.1 61 = .ok (.if_icmp .ge (108), 3) := by decide +kernel
theorem dd_goesBy_169 : decode mm_goesBy.2.1 169 = .ok (.iinc 3 1, 3) := by decide +kernel
theorem dd_goesBy_172 : decode mm_goesBy.2.1 172 = .ok (.goto (-126), 3) := by decide +kernel
theorem dd_goesBy_64 : decode mm_goesBy.2.1 64 = .ok (.iconst 0, 1) := by decide +kernel
theorem dd_goesBy_65 : decode mm_goesBy.2.1 65 = .ok (.istore 5, 2) := by decide +kernel
theorem dd_goesBy_67 : decode mm_goesBy.2.1 67 = .ok (.iload 5, 2) := by decide +kernel
theorem dd_goesBy_69 : decode mm_goesBy.2.1 69 = .ok (.aload_n 0, 1) := by decide +kernel
theorem dd_goesBy_70 : decode mm_goesBy.2.1 70 = .ok (.invokevirtual 335, 3) := by decide +kernel
theorem dd_goesBy_73 : decode mm_goesBy.2.1 73 = .ok (.if_icmp .ge (90), 3) := by decide +kernel
theorem dd_goesBy_163 : decode mm_goesBy.2.1 163 = .ok (.iinc 4 1, 3) := by decide +kernel
theorem dd_goesBy_166 : decode mm_goesBy.2.1 166 = .ok (.goto (-111), 3) := by decide +kernel
theorem dd_goesBy_76 : decode mm_goesBy.2.1 76 = .ok (.aload_n 0, 1) := by decide +kernel
theorem dd_goesBy_77 : decode mm_goesBy.2.1 77 = .ok (.iconst 0, 1) := by decide +kernel
theorem dd_goesBy_78 : decode mm_goesBy.2.1 78 = .ok (.iload 5, 2) := by decide +kernel
theorem dd_goesBy_80 : decode mm_goesBy.2.1 80 = .ok (.iload_n 2, 1) := by decide +kernel
theorem dd_goesBy_81 : decode mm_goesBy.2.1 81 = .ok (.iload 4, 2) := by decide +kernel
theorem dd_goesBy_83 : decode mm_goesBy.2.1 83 = .ok (.aload_n 0, 1) := by decide +kernel
theorem dd_goesBy_84 : decode mm_goesBy.2.1 84 = .ok (.getfield 125, 3) := by decide +kernel
theorem dd_goesBy_87 : decode mm_goesBy.2.1 87 = .ok (.iconst 0, 1) := by decide +kernel
theorem dd_goesBy_88 : decode mm_goesBy.2.1 88 = .ok (.iaload, 1) := by decide +kernel
theorem dd_goesBy_89 : decode mm_goesBy.2.1 89 = .ok (.invokevirtual 373, 3) := by decide +kernel
theorem dd_goesBy_92 : decode mm_goesBy.2.1 92 = .ok (.istore 6, 2) := by decide +kernel
theorem dd_goesBy_94 : decode mm_goesBy.2.1 94 = .ok (.iload 6, 2) := by decide +kernel
theorem dd_goesBy_96 : decode mm_goesBy.2.1 96 = .ok (.ifCond .ge (9), 3) := by decide +kernel
theorem dd_goesBy_105 : decode mm_goesBy.2.1 105 = .ok (.aload_n 0, 1) := by decide +kernel
theorem dd_goesBy_106 : decode mm_goesBy.2.1 106 = .ok (.getfield 168, 3) := by decide +kernel
theorem dd_goesBy_109 : decode mm_goesBy.2.1 109 = .ok (.iload 6, 2) := by decide +kernel
theorem dd_goesBy_111 : decode mm_goesBy.2.1 111 = .ok (.iaload, 1) := by decide +kernel
theorem dd_goesBy_112 : decode mm_goesBy.2.1 112 = .ok (.bipush 100, 2) := by decide +kernel
theorem dd_goesBy_114 : decode mm_goesBy.2.1 114 = .ok (.aload_n 0, 1) := by decide +kernel
theorem dd_goesBy_115 : decode mm_goesBy.2.1 115 = .ok (.iload 5, 2) := by decide +kernel
theorem dd_goesBy_117 : decode mm_goesBy.2.1 117 = .ok (.invokevirtual 354, 3) := by decide +kernel
theorem dd_goesBy_120 : decode mm_goesBy.2.1 120 = .ok (.imul, 1) := by decide +kernel
theorem dd_goesBy_121 : decode mm_goesBy.2.1 121 = .ok (.iadd, 1) := by decide +kernel
theorem dd_goesBy_122 : decode mm_goesBy.2.1 122 = .ok (.iconst 1, 1) := by decide +kernel
theorem dd_goesBy_123 : decode mm_goesBy.2.1 123 = .ok (.iadd, 1) := by decide +kernel
theorem dd_goesBy_124 : decode mm_goesBy.2.1 124 = .ok (.istore 7, 2) := by decide +kernel
theorem dd_goesBy_126 : decode mm_goesBy.2.1 126 = .ok (.aload_n 0, 1) := by decide +kernel
theorem dd_goesBy_127 : decode mm_goesBy.2.1 127 = .ok (.getfield 168, 3) := by decide +kernel
theorem dd_goesBy_130 : decode mm_goesBy.2.1 130 = .ok (.iload 4, 2) := by decide +kernel
theorem dd_goesBy_132 : decode mm_goesBy.2.1 132 = .ok (.iload 7, 2) := by decide +kernel
theorem dd_goesBy_134 : decode mm_goesBy.2.1 134 = .ok (.aload_n 0, 1) := by decide +kernel
theorem dd_goesBy_135 : decode mm_goesBy.2.1 135 = .ok (.getfield 168, 3) := by decide +kernel
theorem dd_goesBy_138 : decode mm_goesBy.2.1 138 = .ok (.iload 4, 2) := by decide +kernel
theorem dd_goesBy_140 : decode mm_goesBy.2.1 140 = .ok (.iaload, 1) := by decide +kernel
theorem dd_goesBy_141 : decode mm_goesBy.2.1 141 = .ok (.if_icmp .ge (8), 3) := by decide +kernel
theorem dd_goesBy_149 : decode mm_goesBy.2.1 149 = .ok (.aload_n 0, 1) := by decide +kernel
theorem dd_goesBy_150 : decode mm_goesBy.2.1 150 = .ok (.getfield 168, 3) := by decide +kernel
theorem dd_goesBy_153 : decode mm_goesBy.2.1 153 = .ok (.iload 4, 2) := by decide +kernel
theorem dd_goesBy_155 : decode mm_goesBy.2.1 155 = .ok (.iaload, 1) := by decide +kernel
theorem dd_goesBy_156 : decode mm_goesBy.2.1 156 = .ok (.iastore, 1) := by decide +kernel
theorem dd_goesBy_157 : decode mm_goesBy.2.1 157 = .ok (.iinc 5 1, 3) := by decide +kernel
theorem dd_goesBy_160 : decode mm_goesBy.2.1 160 = .ok (.goto (-93), 3) := by decide +kernel
theorem dd_goesBy_144 : decode mm_goesBy.2.1 144 = .ok (.iload 7, 2) := by decide +kernel
theorem dd_goesBy_146 : decode mm_goesBy.2.1 146 = .ok (.goto 10, 3) := by decide +kernel
theorem dd_goesBy_99 : decode mm_goesBy.2.1 99 = .ok (.ldc_w 396, 3) := by decide +kernel
theorem dd_goesBy_102 : decode mm_goesBy.2.1 102 = .ok (.goto 22, 3) := by decide +kernel
theorem dd_goesBy_187 : decode mm_goesBy.2.1 187 = .ok (.aload_n 0, 1) := by decide +kernel
theorem dd_goesBy_188 : decode mm_goesBy.2.1 188 = .ok (.getfield 168, 3) := by decide +kernel
theorem dd_goesBy_191 : decode mm_goesBy.2.1 191 = .ok (.iload 4, 2) := by decide +kernel
theorem dd_goesBy_193 : decode mm_goesBy.2.1 193 = .ok (.iaload, 1) := by decide +kernel
theorem dd_goesBy_194 : decode mm_goesBy.2.1 194 = .ok (.ifCond .le (112), 3) := by decide +kernel
theorem dd_goesBy_306 : decode mm_goesBy.2.1 306 = .ok (.iload_n 3, 1) := by decide +kernel
theorem dd_goesBy_307 : decode mm_goesBy.2.1 307 = .ok (.ireturn, 1) := by decide +kernel
theorem dd_goesBy_197 : decode mm_goesBy.2.1 197 = .ok (.aload_n 0, 1) := by decide +kernel
theorem dd_goesBy_198 : decode mm_goesBy.2.1 198 = .ok (.getfield 168, 3) := by decide +kernel
theorem dd_goesBy_201 : decode mm_goesBy.2.1 201 = .ok (.iload 4, 2) := by decide +kernel
theorem dd_goesBy_203 : decode mm_goesBy.2.1 203 = .ok (.iaload, 1) := by decide +kernel
theorem dd_goesBy_204 : decode mm_goesBy.2.1 204 = .ok (.ldc_w 396, 3) := by decide +kernel
theorem dd_goesBy_207 : decode mm_goesBy.2.1 207 = .ok (.if_icmp .ge (99), 3) := by decide +kernel
theorem dd_goesBy_210 : decode mm_goesBy.2.1 210 = .ok (.iconst (-1), 1) := by decide +kernel
theorem dd_goesBy_211 : decode mm_goesBy.2.1 211 = .ok (.istore 5, 2) := by decide +kernel
theorem dd_goesBy_213 : decode mm_goesBy.2.1 213 = .ok (.iconst 0, 1) := by decide +kernel
theorem dd_goesBy_214 : decode mm_goesBy.2.1 214 = .ok (.istore 6, 2) := by decide +kernel
theorem dd_goesBy_216 : decode mm_goesBy.2.1 216 = .ok (.iload 6, 2) := by decide +kernel
theorem dd_goesBy_218 : decode mm_goesBy.2.1 218 = .ok (.aload_n 0, 1) := by decide +kernel
theorem dd_goesBy_219 : decode mm_goesBy.2.1 219 = .ok (.invokevirtual 335, 3) := by decide +kernel
theorem dd_goesBy_222 : decode mm_goesBy.2.1 222 = .ok (.if_icmp .ge (77), 3) := by decide +kernel
theorem dd_goesBy_299 : decode mm_goesBy.2.1 299 = .ok (.iload 5, 2) := by decide +kernel
theorem dd_goesBy_301 : decode mm_goesBy.2.1 301 = .ok (.istore 4, 2) := by decide +kernel
theorem dd_goesBy_303 : decode mm_goesBy.2.1 303 = .ok (.goto (-116), 3) := by decide +kernel
theorem dd_goesBy_225 : decode mm_goesBy.2.1 225 = .ok (.iload 5, 2) := by decide +kernel
theorem dd_goesBy_227 : decode mm_goesBy.2.1 227 = .ok (.ifCond .ge (72), 3) := by decide +kernel
theorem dd_goesBy_230 : decode mm_goesBy.2.1 230 = .ok (.aload_n 0, 1) := by decide +kernel
theorem dd_goesBy_231 : decode mm_goesBy.2.1 231 = .ok (.iconst 0, 1) := by decide +kernel
theorem dd_goesBy_232 : decode mm_goesBy.2.1 232 = .ok (.iload 6, 2) := by decide +kernel
theorem dd_goesBy_234 : decode mm_goesBy.2.1 234 = .ok (.iload_n 2, 1) := by decide +kernel
theorem dd_goesBy_235 : decode mm_goesBy.2.1 235 = .ok (.iload 4, 2) := by decide +kernel
theorem dd_goesBy_237 : decode mm_goesBy.2.1 237 = .ok (.aload_n 0, 1) := by decide +kernel
theorem dd_goesBy_238 : decode mm_goesBy.2.1 238 = .ok (.getfield 125, 3) := by decide +kernel
theorem dd_goesBy_241 : decode mm_goesBy.2.1 241 = .ok (.iconst 0, 1) := by decide +kernel
theorem dd_goesBy_242 : decode mm_goesBy.2.1 242 = .ok (.iaload, 1) := by decide +kernel
theorem dd_goesBy_243 : decode mm_goesBy.2.1 243 = .ok (.invokevirtual 373, 3) := by decide +kernel
theorem dd_goesBy_246 : decode mm_goesBy.2.1 246 = .ok (.istore 7, 2) := by decide +kernel
theorem dd_goesBy_248 : decode mm_goesBy.2.1 248 = .ok (.iload 7, 2) := by decide +kernel
theorem dd_goesBy_250 : decode mm_goesBy.2.1 250 = .ok (.ifCond .lt (43), 3) := by decide +kernel
theorem dd_goesBy_293 : decode mm_goesBy.2.1 293 = .ok (.iinc 6 1, 3) := by decide +kernel
theorem dd_goesBy_296 : decode mm_goesBy.2.1 296 = .ok (.goto (-80), 3) := by decide +kernel
theorem dd_goesBy_253 : decode mm_goesBy.2.1 253 = .ok (.aload_n 0, 1) := by decide +kernel
theorem dd_goesBy_254 : decode mm_goesBy.2.1 254 = .ok (.getfield 168, 3) := by decide +kernel
theorem dd_goesBy_257 : decode mm_goesBy.2.1 257 = .ok (.iload 7, 2) := by decide +kernel
theorem dd_goesBy_259 : decode mm_goesBy.2.1 259 = .ok (.iaload, 1) := by decide +kernel
theorem dd_goesBy_260 : decode mm_goesBy.2.1 260 = .ok (.bipush 100, 2) := by decide +kernel
theorem dd_goesBy_262 : decode mm_goesBy.2.1 262 = .ok (.aload_n 0, 1) := by decide +kernel
theorem dd_goesBy_263 : decode mm_goesBy.2.1 263 = .ok (.iload 6, 2) := by decide +kernel
theorem dd_goesBy_265 : decode mm_goesBy.2.1 265 = .ok (.invokevirtual 354, 3) := by decide +kernel
theorem dd_goesBy_268 : decode mm_goesBy.2.1 268 = .ok (.imul, 1) := by decide +kernel
theorem dd_goesBy_269 : decode mm_goesBy.2.1 269 = .ok (.iadd, 1) := by decide +kernel
theorem dd_goesBy_270 : decode mm_goesBy.2.1 270 = .ok (.iconst 1, 1) := by decide +kernel
theorem dd_goesBy_271 : decode mm_goesBy.2.1 271 = .ok (.iadd, 1) := by decide +kernel
theorem dd_goesBy_272 : decode mm_goesBy.2.1 272 = .ok (.aload_n 0, 1) := by decide +kernel
theorem dd_goesBy_273 : decode mm_goesBy.2.1 273 = .ok (.getfield 168, 3) := by decide +kernel
theorem dd_goesBy_276 : decode mm_goesBy.2.1 276 = .ok (.iload 4, 2) := by decide +kernel
theorem dd_goesBy_278 : decode mm_goesBy.2.1 278 = .ok (.iaload, 1) := by decide +kernel
theorem dd_goesBy_279 : decode mm_goesBy.2.1 279 = .ok (.if_icmp .ne (14), 3) := by decide +kernel
theorem dd_goesBy_282 : decode mm_goesBy.2.1 282 = .ok (.iload 7, 2) := by decide +kernel
theorem dd_goesBy_284 : decode mm_goesBy.2.1 284 = .ok (.istore 5, 2) := by decide +kernel
theorem dd_goesBy_286 : decode mm_goesBy.2.1 286 = .ok (.iload_n 3, 1) := by decide +kernel
theorem dd_goesBy_287 : decode mm_goesBy.2.1 287 = .ok (.iconst 1, 1) := by decide +kernel
theorem dd_goesBy_288 : decode mm_goesBy.2.1 288 = .ok (.iload 6, 2) := by decide +kernel
theorem dd_goesBy_290 : decode mm_goesBy.2.1 290 = .ok (.ishl, 1) := by decide +kernel
theorem dd_goesBy_291 : decode mm_goesBy.2.1 291 = .ok (.ior, 1) := by decide +kernel
theorem dd_goesBy_292 : decode mm_goesBy.2.1 292 = .ok (.istore_n 3, 1) := by decide +kernel
theorem B_goesBy_0 {xs : Nat → Int} {xl e : Nat} {h : LH} {Q : Option LV → LH → Prop} {v1 : Int} (hF : RF h) (r_v1 : 0 ≤ v1 ∧ v1 ≤ 5) (he : 1 ≤ e)
    (k : Rn xs xl e mm_goesBy 9 [some (.inr (.inr 182)), some (.inl v1), some (.inl (rd h 188 (4 * v1 + 116))), some (.inl 0), none, none, none, none] [] h Q) :
    Rn xs xl e mm_goesBy 0 [some (.inr (.inr 182)), some (.inl v1), none, none, none, none, none, none] [] h Q := by
  refine R_ld (v := .inr (.inr 182)) dd_goesBy_0 rfl rfl rfl rfl ?_
  refine R_ld (v := .inl v1) dd_goesBy_1 rfl rfl rfl rfl ?_
  refine R_ic dd_goesBy_2 (by decide) rfl ?_
  refine R_call (as := [.inr (.inr 182), .inl v1, .inl 0]) (rest := []) (M' := mm_personOf) (ls0 := [some (.inr (.inr 182)), some (.inl v1), some (.inl 0)]) dd_goesBy_3 rfl rfl (cw_v cw_12_325 io_182 rfl rfl (Nat.le_of_ble_eq_true rfl) (Nat.le_of_ble_eq_true rfl)) mt_personOf rfl (c := e - 1) (by omega) rfl ?_
  refine R_ld (v := .inr (.inr 182)) dd_personOf_0 rfl rfl rfl rfl ?_
  refine R_gf (v := .inr (.inr 188)) dd_personOf_1 fd_12_95 io_182 (congrArg (fun z : Int => (Sum.inr (Sum.inr z) : LV)) (rf_182_10 hF)) rfl ?_
  refine R_bi dd_personOf_4 (by decide) rfl ?_
  refine R_ic dd_personOf_6 (by decide) rfl ?_
  refine R_ld (v := .inl v1) dd_personOf_7 rfl rfl rfl rfl ?_
  refine R_imul (c := 4 * v1) dd_personOf_8 (by omega) (by omega) rfl ?_
  refine R_iadd (c := 4 * v1 + 116) dd_personOf_9 (by omega) (by omega) rfl ?_
  refine R_ld (v := .inl 0) dd_personOf_10 rfl rfl rfl rfl ?_
  refine R_iadd (c := 4 * v1 + 116) dd_personOf_11 (by omega) (by omega) rfl ?_
  refine R_iald (v := (rd h 188 (4 * v1 + 116))) (n := 300) dd_personOf_12 ia_188 la_188 (by omega) (rfl) rfl ?_
  refine R_iret dd_personOf_13 rfl ?_
  change Rn xs xl e mm_goesBy 6 [some (.inr (.inr 182)), some (.inl v1), none, none, none, none, none, none] [.inl (rd h 188 (4 * v1 + 116))] h _
  refine R_st (ls' := [some (.inr (.inr 182)), some (.inl v1), some (.inl (rd h 188 (4 * v1 + 116))), none, none, none, none, none]) dd_goesBy_6 rfl rfl rfl (Nat.le_of_ble_eq_true rfl) rfl rfl ?_
  refine R_ic dd_goesBy_7 (by decide) rfl ?_
  refine R_st (ls' := [some (.inr (.inr 182)), some (.inl v1), some (.inl (rd h 188 (4 * v1 + 116))), some (.inl 0), none, none, none, none]) dd_goesBy_8 rfl rfl rfl (Nat.le_of_ble_eq_true rfl) rfl rfl ?_
  exact k
theorem B_goesBy_9 {xs : Nat → Int} {xl e : Nat} {h : LH} {Q : Option LV → LH → Prop} {v1 v2 v3 : Int} (hF : RF h) (r_v1 : 0 ≤ v1 ∧ v1 ≤ 5) (r_v2 : 0 ≤ v2 ∧ v2 ≤ 3) (r_v3 : 0 ≤ v3 ∧ v3 ≤ 10) (he : 1 ≤ e)
    (k : (10 ≤ v3 →
        Rn xs xl e mm_goesBy 46 [some (.inr (.inr 182)), some (.inl v1), some (.inl v2), some (.inl 0), none, none, none, none] [] h Q) ∧
      (v3 < 10 →
        (v3 ≠ (rd h 188 (4 * v1 + 118)) →
          (0 ≤ v3 ∧ v3 < 10) ∧
          Rn xs xl e mm_goesBy 9 [some (.inr (.inr 182)), some (.inl v1), some (.inl v2), some (.inl (v3 + 1)), none, none, none, none] [] (wr h 210 v3 1000000) Q) ∧
        (v3 = (rd h 188 (4 * v1 + 118)) →
          (0 ≤ v3 ∧ v3 < 10) ∧
          Rn xs xl e mm_goesBy 9 [some (.inr (.inr 182)), some (.inl v1), some (.inl v2), some (.inl (v3 + 1)), none, none, none, none] [] (wr h 210 v3 0) Q))) :
    Rn xs xl e mm_goesBy 9 [some (.inr (.inr 182)), some (.inl v1), some (.inl v2), some (.inl v3), none, none, none, none] [] h Q := by
  refine R_ld (v := .inl v3) dd_goesBy_9 rfl rfl rfl rfl ?_
  refine R_bi dd_goesBy_10 (by decide) rfl ?_
  refine R_icmp dd_goesBy_12 rfl rfl (fun (c3 : 10 ≤ v3) => ?_) (fun (c3 : v3 < 10) => ?_)
  · replace k := k.1 c3
    refine R_ic dd_goesBy_44 (by decide) rfl ?_
    refine R_st (ls' := [some (.inr (.inr 182)), some (.inl v1), some (.inl v2), some (.inl 0), none, none, none, none]) dd_goesBy_45 rfl rfl rfl (Nat.le_of_ble_eq_true rfl) rfl rfl ?_
    exact k
  · replace k := k.2 c3
    refine R_ld (v := .inr (.inr 182)) dd_goesBy_15 rfl rfl rfl rfl ?_
    refine R_gf (v := .inr (.inr 210)) dd_goesBy_16 fd_12_168 io_182 (congrArg (fun z : Int => (Sum.inr (Sum.inr z) : LV)) (rf_182_49 hF)) rfl ?_
    refine R_ld (v := .inl v3) dd_goesBy_19 rfl rfl rfl rfl ?_
    refine R_ld (v := .inl v3) dd_goesBy_20 rfl rfl rfl rfl ?_
    refine R_ld (v := .inr (.inr 182)) dd_goesBy_21 rfl rfl rfl rfl ?_
    refine R_ld (v := .inl v1) dd_goesBy_22 rfl rfl rfl rfl ?_
    refine R_ic dd_goesBy_23 (by decide) rfl ?_
    refine R_call (as := [.inr (.inr 182), .inl v1, .inl 2]) (rest := [.inl v3, .inl v3, .inr (.inr 210)]) (M' := mm_personOf) (ls0 := [some (.inr (.inr 182)), some (.inl v1), some (.inl 2)]) dd_goesBy_24 rfl rfl (cw_v cw_12_325 io_182 rfl rfl (Nat.le_of_ble_eq_true rfl) (Nat.le_of_ble_eq_true rfl)) mt_personOf rfl (c := e - 1) (by omega) rfl ?_
    refine R_ld (v := .inr (.inr 182)) dd_personOf_0 rfl rfl rfl rfl ?_
    refine R_gf (v := .inr (.inr 188)) dd_personOf_1 fd_12_95 io_182 (congrArg (fun z : Int => (Sum.inr (Sum.inr z) : LV)) (rf_182_10 hF)) rfl ?_
    refine R_bi dd_personOf_4 (by decide) rfl ?_
    refine R_ic dd_personOf_6 (by decide) rfl ?_
    refine R_ld (v := .inl v1) dd_personOf_7 rfl rfl rfl rfl ?_
    refine R_imul (c := 4 * v1) dd_personOf_8 (by omega) (by omega) rfl ?_
    refine R_iadd (c := 4 * v1 + 116) dd_personOf_9 (by omega) (by omega) rfl ?_
    refine R_ld (v := .inl 2) dd_personOf_10 rfl rfl rfl rfl ?_
    refine R_iadd (c := 4 * v1 + 118) dd_personOf_11 (by omega) (by omega) rfl ?_
    refine R_iald (v := (rd h 188 (4 * v1 + 118))) (n := 300) dd_personOf_12 ia_188 la_188 (by omega) (rfl) rfl ?_
    refine R_iret dd_personOf_13 rfl ?_
    change Rn xs xl e mm_goesBy 27 [some (.inr (.inr 182)), some (.inl v1), some (.inl v2), some (.inl v3), none, none, none, none] [.inl (rd h 188 (4 * v1 + 118)), .inl v3, .inl v3, .inr (.inr 210)] h _
    refine R_icmp dd_goesBy_27 rfl rfl (fun (c4 : v3 ≠ (rd h 188 (4 * v1 + 118))) => ?_) (fun (c4 : v3 = (rd h 188 (4 * v1 + 118))) => ?_)
    · replace k := k.1 c4
      refine R_C (v := .inl (1000000)) dd_goesBy_34 rfl rfl (by decide +kernel) rfl ?_
      obtain ⟨s1, k⟩ := k
      refine R_iast (n := 10) dd_goesBy_37 ia_210 la_210 s1 rfl ?_
      refine R_inc (y := v3 + 1) (ls' := [some (.inr (.inr 182)), some (.inl v1), some (.inl v2), some (.inl (v3 + 1)), none, none, none, none]) dd_goesBy_38 rfl (by decide) (by omega) (by omega) rfl rfl ?_
      refine R_goto dd_goesBy_41 rfl ?_
      exact k
    · replace k := k.2 c4
      refine R_ic dd_goesBy_30 (by decide) rfl ?_
      refine R_goto dd_goesBy_31 rfl ?_
      obtain ⟨s2, k⟩ := k
      refine R_iast (n := 10) dd_goesBy_37 ia_210 la_210 s2 rfl ?_
      refine R_inc (y := v3 + 1) (ls' := [some (.inr (.inr 182)), some (.inl v1), some (.inl v2), some (.inl (v3 + 1)), none, none, none, none]) dd_goesBy_38 rfl (by decide) (by omega) (by omega) rfl rfl ?_
      refine R_goto dd_goesBy_41 rfl ?_
      exact k
theorem B_goesBy_46 {xs : Nat → Int} {xl e : Nat} {h : LH} {Q : Option LV → LH → Prop} {v1 v2 v3 : Int} {o4 : Option LV} {o5 : Option LV} {o6 : Option LV} {o7 : Option LV} (hF : RF h) (r_v1 : 0 ≤ v1 ∧ v1 ≤ 5) (r_v2 : 0 ≤ v2 ∧ v2 ≤ 3) (r_v3 : 0 ≤ v3 ∧ v3 ≤ 10)
    (k : (10 ≤ v3 →
        Rn xs xl e mm_goesBy 187 [some (.inr (.inr 182)), some (.inl v1), some (.inl v2), some (.inl 0), some (.inl (rd h 198 (v1 + 2))), o5, o6, o7] [] h Q) ∧
      (v3 < 10 →
        Rn xs xl e mm_goesBy 55 [some (.inr (.inr 182)), some (.inl v1), some (.inl v2), some (.inl v3), some (.inl 0), o5, o6, o7] [] h Q)) :
    Rn xs xl e mm_goesBy 46 [some (.inr (.inr 182)), some (.inl v1), some (.inl v2), some (.inl v3), o4, o5, o6, o7] [] h Q := by
  refine R_ld (v := .inl v3) dd_goesBy_46 rfl rfl rfl rfl ?_
  refine R_bi dd_goesBy_47 (by decide) rfl ?_
  refine R_icmp dd_goesBy_49 rfl rfl (fun (c1 : 10 ≤ v3) => ?_) (fun (c1 : v3 < 10) => ?_)
  · replace k := k.1 c1
    refine R_ic dd_goesBy_175 (by decide) rfl ?_
    refine R_st (ls' := [some (.inr (.inr 182)), some (.inl v1), some (.inl v2), some (.inl 0), o4, o5, o6, o7]) dd_goesBy_176 rfl rfl rfl (Nat.le_of_ble_eq_true rfl) rfl rfl ?_
    refine R_ld (v := .inr (.inr 182)) dd_goesBy_177 rfl rfl rfl rfl ?_
    refine R_gf (v := .inr (.inr 198)) dd_goesBy_178 fd_12_125 io_182 (congrArg (fun z : Int => (Sum.inr (Sum.inr z) : LV)) (rf_182_24 hF)) rfl ?_
    refine R_ic dd_goesBy_181 (by decide) rfl ?_
    refine R_ld (v := .inl v1) dd_goesBy_182 rfl rfl rfl rfl ?_
    refine R_iadd (c := v1 + 2) dd_goesBy_183 (by omega) (by omega) rfl ?_
    refine R_iald (v := (rd h 198 (v1 + 2))) (n := 1610) dd_goesBy_184 ia_198 la_198 (by omega) (rfl) rfl ?_
    refine R_st (ls' := [some (.inr (.inr 182)), some (.inl v1), some (.inl v2), some (.inl 0), some (.inl (rd h 198 (v1 + 2))), o5, o6, o7]) dd_goesBy_185 rfl rfl rfl (Nat.le_of_ble_eq_true rfl) rfl rfl ?_
    exact k
  · replace k := k.2 c1
    refine R_ic dd_goesBy_52 (by decide) rfl ?_
    refine R_st (ls' := [some (.inr (.inr 182)), some (.inl v1), some (.inl v2), some (.inl v3), some (.inl 0), o5, o6, o7]) dd_goesBy_53 rfl rfl rfl (Nat.le_of_ble_eq_true rfl) rfl rfl ?_
    exact k
theorem B_goesBy_55 {xs : Nat → Int} {xl e : Nat} {h : LH} {Q : Option LV → LH → Prop} {v1 v2 v3 v4 : Int} {o5 : Option LV} {o6 : Option LV} {o7 : Option LV} (hF : RF h) (r_v1 : 0 ≤ v1 ∧ v1 ≤ 5) (r_v2 : 0 ≤ v2 ∧ v2 ≤ 3) (r_v3 : 0 ≤ v3 ∧ v3 ≤ 9) (r_v4 : 0 ≤ v4 ∧ v4 ≤ 10) (he : 1 ≤ e)
    (k : ((rd h 188 0) ≤ v4 →
        Rn xs xl e mm_goesBy 46 [some (.inr (.inr 182)), some (.inl v1), some (.inl v2), some (.inl (v3 + 1)), some (.inl v4), o5, o6, o7] [] h Q) ∧
      (v4 < (rd h 188 0) →
        Rn xs xl e mm_goesBy 67 [some (.inr (.inr 182)), some (.inl v1), some (.inl v2), some (.inl v3), some (.inl v4), some (.inl 0), o6, o7] [] h Q)) :
    Rn xs xl e mm_goesBy 55 [some (.inr (.inr 182)), some (.inl v1), some (.inl v2), some (.inl v3), some (.inl v4), o5, o6, o7] [] h Q := by
  refine R_ld (v := .inl v4) dd_goesBy_55 rfl rfl rfl rfl ?_
  refine R_ld (v := .inr (.inr 182)) dd_goesBy_57 rfl rfl rfl rfl ?_
  refine R_call (as := [.inr (.inr 182)]) (rest := [.inl v4]) (M' := mm_rooms) (ls0 := [some (.inr (.inr 182))]) dd_goesBy_58 rfl rfl (cw_v cw_12_332 io_182 rfl rfl (Nat.le_of_ble_eq_true rfl) (Nat.le_of_ble_eq_true rfl)) mt_rooms rfl (c := e - 1) (by omega) rfl ?_
  refine R_ld (v := .inr (.inr 182)) dd_rooms_0 rfl rfl rfl rfl ?_
  refine R_gf (v := .inr (.inr 188)) dd_rooms_1 fd_12_95 io_182 (congrArg (fun z : Int => (Sum.inr (Sum.inr z) : LV)) (rf_182_10 hF)) rfl ?_
  refine R_ic dd_rooms_4 (by decide) rfl ?_
  refine R_iald (v := (rd h 188 0)) (n := 300) dd_rooms_5 ia_188 la_188 (by decide) (rfl) rfl ?_
  refine R_iret dd_rooms_6 rfl ?_
  change Rn xs xl e mm_goesBy 61 [some (.inr (.inr 182)), some (.inl v1), some (.inl v2), some (.inl v3), some (.inl v4), o5, o6, o7] [.inl (rd h 188 0), .inl v4] h _
  refine R_icmp dd_goesBy_61 rfl rfl (fun (c1 : (rd h 188 0) ≤ v4) => ?_) (fun (c1 : v4 < (rd h 188 0)) => ?_)
  · replace k := k.1 c1
    refine R_inc (y := v3 + 1) (ls' := [some (.inr (.inr 182)), some (.inl v1), some (.inl v2), some (.inl (v3 + 1)), some (.inl v4), o5, o6, o7]) dd_goesBy_169 rfl (by decide) (by omega) (by omega) rfl rfl ?_
    refine R_goto dd_goesBy_172 rfl ?_
    exact k
  · replace k := k.2 c1
    refine R_ic dd_goesBy_64 (by decide) rfl ?_
    refine R_st (ls' := [some (.inr (.inr 182)), some (.inl v1), some (.inl v2), some (.inl v3), some (.inl v4), some (.inl 0), o6, o7]) dd_goesBy_65 rfl rfl rfl (Nat.le_of_ble_eq_true rfl) rfl rfl ?_
    exact k
theorem B_goesBy_67 {xs : Nat → Int} {xl e : Nat} {h : LH} {Q : Option LV → LH → Prop} {v1 v2 v3 v4 v5 : Int} {o6 : Option LV} {o7 : Option LV} (hF : RF h) (r_v1 : 0 ≤ v1 ∧ v1 ≤ 5) (r_v2 : 0 ≤ v2 ∧ v2 ≤ 3) (r_v3 : 0 ≤ v3 ∧ v3 ≤ 9) (r_v4 : 0 ≤ v4 ∧ v4 ≤ 9) (r_v5 : 0 ≤ v5 ∧ v5 ≤ 14) (he : 1 ≤ e)
    (k : ((rd h 188 1) ≤ v5 →
        Rn xs xl e mm_goesBy 55 [some (.inr (.inr 182)), some (.inl v1), some (.inl v2), some (.inl v3), some (.inl (v4 + 1)), some (.inl v5), o6, o7] [] h Q) ∧
      (v5 < (rd h 188 1) →
        (∃ c, c < e ∧ Rn xs xl c mm_leadsNow 0 [some (.inr (.inr 182)), some (.inl 0), some (.inl v5), some (.inl v2), some (.inl v4), some (.inl (rd h 198 0))] [] h (fun r h' => Rn xs xl e mm_goesBy 92 [some (.inr (.inr 182)), some (.inl v1), some (.inl v2), some (.inl v3), some (.inl v4), some (.inl v5), o6, o7] (r.toList ++ []) h' Q)))) :
    Rn xs xl e mm_goesBy 67 [some (.inr (.inr 182)), some (.inl v1), some (.inl v2), some (.inl v3), some (.inl v4), some (.inl v5), o6, o7] [] h Q := by
  refine R_ld (v := .inl v5) dd_goesBy_67 rfl rfl rfl rfl ?_
  refine R_ld (v := .inr (.inr 182)) dd_goesBy_69 rfl rfl rfl rfl ?_
  refine R_call (as := [.inr (.inr 182)]) (rest := [.inl v5]) (M' := mm_doors) (ls0 := [some (.inr (.inr 182))]) dd_goesBy_70 rfl rfl (cw_v cw_12_335 io_182 rfl rfl (Nat.le_of_ble_eq_true rfl) (Nat.le_of_ble_eq_true rfl)) mt_doors rfl (c := e - 1) (by omega) rfl ?_
  refine R_ld (v := .inr (.inr 182)) dd_doors_0 rfl rfl rfl rfl ?_
  refine R_gf (v := .inr (.inr 188)) dd_doors_1 fd_12_95 io_182 (congrArg (fun z : Int => (Sum.inr (Sum.inr z) : LV)) (rf_182_10 hF)) rfl ?_
  refine R_ic dd_doors_4 (by decide) rfl ?_
  refine R_iald (v := (rd h 188 1)) (n := 300) dd_doors_5 ia_188 la_188 (by decide) (rfl) rfl ?_
  refine R_iret dd_doors_6 rfl ?_
  change Rn xs xl e mm_goesBy 73 [some (.inr (.inr 182)), some (.inl v1), some (.inl v2), some (.inl v3), some (.inl v4), some (.inl v5), o6, o7] [.inl (rd h 188 1), .inl v5] h _
  refine R_icmp dd_goesBy_73 rfl rfl (fun (c2 : (rd h 188 1) ≤ v5) => ?_) (fun (c2 : v5 < (rd h 188 1)) => ?_)
  · replace k := k.1 c2
    refine R_inc (y := v4 + 1) (ls' := [some (.inr (.inr 182)), some (.inl v1), some (.inl v2), some (.inl v3), some (.inl (v4 + 1)), some (.inl v5), o6, o7]) dd_goesBy_163 rfl (by decide) (by omega) (by omega) rfl rfl ?_
    refine R_goto dd_goesBy_166 rfl ?_
    exact k
  · replace k := k.2 c2
    refine R_ld (v := .inr (.inr 182)) dd_goesBy_76 rfl rfl rfl rfl ?_
    refine R_ic dd_goesBy_77 (by decide) rfl ?_
    refine R_ld (v := .inl v5) dd_goesBy_78 rfl rfl rfl rfl ?_
    refine R_ld (v := .inl v2) dd_goesBy_80 rfl rfl rfl rfl ?_
    refine R_ld (v := .inl v4) dd_goesBy_81 rfl rfl rfl rfl ?_
    refine R_ld (v := .inr (.inr 182)) dd_goesBy_83 rfl rfl rfl rfl ?_
    refine R_gf (v := .inr (.inr 198)) dd_goesBy_84 fd_12_125 io_182 (congrArg (fun z : Int => (Sum.inr (Sum.inr z) : LV)) (rf_182_24 hF)) rfl ?_
    refine R_ic dd_goesBy_87 (by decide) rfl ?_
    refine R_iald (v := (rd h 198 0)) (n := 1610) dd_goesBy_88 ia_198 la_198 (by decide) (rfl) rfl ?_
    obtain ⟨c, hc, k⟩ := k
    exact R_call (as := [.inr (.inr 182), .inl 0, .inl v5, .inl v2, .inl v4, .inl (rd h 198 0)]) (rest := []) (M' := mm_leadsNow) (ls0 := [some (.inr (.inr 182)), some (.inl 0), some (.inl v5), some (.inl v2), some (.inl v4), some (.inl (rd h 198 0))]) dd_goesBy_89 rfl rfl (cw_v cw_12_373 io_182 rfl rfl (Nat.le_of_ble_eq_true rfl) (Nat.le_of_ble_eq_true rfl)) mt_leadsNow rfl hc rfl k
theorem B_goesBy_92 {xs : Nat → Int} {xl e : Nat} {h : LH} {Q : Option LV → LH → Prop} {v1 v2 v3 v4 v5 w0 : Int} {o6 : Option LV} {o7 : Option LV} (hF : RF h) (r_v1 : 0 ≤ v1 ∧ v1 ≤ 5) (r_v2 : 0 ≤ v2 ∧ v2 ≤ 3) (r_v3 : 0 ≤ v3 ∧ v3 ≤ 9) (r_v4 : 0 ≤ v4 ∧ v4 ≤ 9) (r_v5 : 0 ≤ v5 ∧ v5 ≤ 13) (r_w0 : -1 ≤ w0 ∧ w0 ≤ 9) (he : 2 ≤ e)
    (k : (0 ≤ w0 →
        (0 ≤ w0 ∧ w0 < 10) ∧
        (v5 ≠ (rd h 182 28) →
          (v5 ≠ (rd h 182 29) →
            (-2147483648 ≤ 100 * (rd h 188 (8 * v5 + 11)) ∧ 100 * (rd h 188 (8 * v5 + 11)) ≤ 2147483647) ∧
            (-2147483648 ≤ (rd h 210 w0) + 100 * (rd h 188 (8 * v5 + 11)) ∧ (rd h 210 w0) + 100 * (rd h 188 (8 * v5 + 11)) ≤ 2147483647) ∧
            (-2147483648 ≤ (rd h 210 w0) + 100 * (rd h 188 (8 * v5 + 11)) + 1 ∧ (rd h 210 w0) + 100 * (rd h 188 (8 * v5 + 11)) + 1 ≤ 2147483647) ∧
            ((rd h 210 v4) ≤ ((rd h 210 w0) + 100 * (rd h 188 (8 * v5 + 11)) + 1) →
              Rn xs xl e mm_goesBy 67 [some (.inr (.inr 182)), some (.inl v1), some (.inl v2), some (.inl v3), some (.inl v4), some (.inl (v5 + 1)), some (.inl w0), some (.inl ((rd h 210 w0) + 100 * (rd h 188 (8 * v5 + 11)) + 1))] [] (wr h 210 v4 (rd h 210 v4)) Q) ∧
            (((rd h 210 w0) + 100 * (rd h 188 (8 * v5 + 11)) + 1) < (rd h 210 v4) →
              Rn xs xl e mm_goesBy 67 [some (.inr (.inr 182)), some (.inl v1), some (.inl v2), some (.inl v3), some (.inl v4), some (.inl (v5 + 1)), some (.inl w0), some (.inl ((rd h 210 w0) + 100 * (rd h 188 (8 * v5 + 11)) + 1))] [] (wr h 210 v4 ((rd h 210 w0) + 100 * (rd h 188 (8 * v5 + 11)) + 1)) Q)) ∧
          (v5 = (rd h 182 29) →
            (-2147483648 ≤ 100 * (rd h 182 31) ∧ 100 * (rd h 182 31) ≤ 2147483647) ∧
            (-2147483648 ≤ (rd h 210 w0) + 100 * (rd h 182 31) ∧ (rd h 210 w0) + 100 * (rd h 182 31) ≤ 2147483647) ∧
            (-2147483648 ≤ (rd h 210 w0) + 100 * (rd h 182 31) + 1 ∧ (rd h 210 w0) + 100 * (rd h 182 31) + 1 ≤ 2147483647) ∧
            ((rd h 210 v4) ≤ ((rd h 210 w0) + 100 * (rd h 182 31) + 1) →
              Rn xs xl e mm_goesBy 67 [some (.inr (.inr 182)), some (.inl v1), some (.inl v2), some (.inl v3), some (.inl v4), some (.inl (v5 + 1)), some (.inl w0), some (.inl ((rd h 210 w0) + 100 * (rd h 182 31) + 1))] [] (wr h 210 v4 (rd h 210 v4)) Q) ∧
            (((rd h 210 w0) + 100 * (rd h 182 31) + 1) < (rd h 210 v4) →
              Rn xs xl e mm_goesBy 67 [some (.inr (.inr 182)), some (.inl v1), some (.inl v2), some (.inl v3), some (.inl v4), some (.inl (v5 + 1)), some (.inl w0), some (.inl ((rd h 210 w0) + 100 * (rd h 182 31) + 1))] [] (wr h 210 v4 ((rd h 210 w0) + 100 * (rd h 182 31) + 1)) Q))) ∧
        (v5 = (rd h 182 28) →
          (-2147483648 ≤ 100 * (rd h 182 30) ∧ 100 * (rd h 182 30) ≤ 2147483647) ∧
          (-2147483648 ≤ (rd h 210 w0) + 100 * (rd h 182 30) ∧ (rd h 210 w0) + 100 * (rd h 182 30) ≤ 2147483647) ∧
          (-2147483648 ≤ (rd h 210 w0) + 100 * (rd h 182 30) + 1 ∧ (rd h 210 w0) + 100 * (rd h 182 30) + 1 ≤ 2147483647) ∧
          ((rd h 210 v4) ≤ ((rd h 210 w0) + 100 * (rd h 182 30) + 1) →
            Rn xs xl e mm_goesBy 67 [some (.inr (.inr 182)), some (.inl v1), some (.inl v2), some (.inl v3), some (.inl v4), some (.inl (v5 + 1)), some (.inl w0), some (.inl ((rd h 210 w0) + 100 * (rd h 182 30) + 1))] [] (wr h 210 v4 (rd h 210 v4)) Q) ∧
          (((rd h 210 w0) + 100 * (rd h 182 30) + 1) < (rd h 210 v4) →
            Rn xs xl e mm_goesBy 67 [some (.inr (.inr 182)), some (.inl v1), some (.inl v2), some (.inl v3), some (.inl v4), some (.inl (v5 + 1)), some (.inl w0), some (.inl ((rd h 210 w0) + 100 * (rd h 182 30) + 1))] [] (wr h 210 v4 ((rd h 210 w0) + 100 * (rd h 182 30) + 1)) Q))) ∧
      (w0 < 0 →
        ((rd h 210 v4) ≤ 1000000 →
          Rn xs xl e mm_goesBy 67 [some (.inr (.inr 182)), some (.inl v1), some (.inl v2), some (.inl v3), some (.inl v4), some (.inl (v5 + 1)), some (.inl w0), some (.inl 1000000)] [] (wr h 210 v4 (rd h 210 v4)) Q) ∧
        (1000000 < (rd h 210 v4) →
          Rn xs xl e mm_goesBy 67 [some (.inr (.inr 182)), some (.inl v1), some (.inl v2), some (.inl v3), some (.inl v4), some (.inl (v5 + 1)), some (.inl w0), some (.inl 1000000)] [] (wr h 210 v4 1000000) Q))) :
    Rn xs xl e mm_goesBy 92 [some (.inr (.inr 182)), some (.inl v1), some (.inl v2), some (.inl v3), some (.inl v4), some (.inl v5), o6, o7] [.inl w0] h Q := by
  refine R_st (ls' := [some (.inr (.inr 182)), some (.inl v1), some (.inl v2), some (.inl v3), some (.inl v4), some (.inl v5), some (.inl w0), o7]) dd_goesBy_92 rfl rfl rfl (Nat.le_of_ble_eq_true rfl) rfl rfl ?_
  refine R_ld (v := .inl w0) dd_goesBy_94 rfl rfl rfl rfl ?_
  refine R_if dd_goesBy_96 rfl rfl (fun (c11 : 0 ≤ w0) => ?_) (fun (c11 : w0 < 0) => ?_)
  · replace k := k.1 c11
    refine R_ld (v := .inr (.inr 182)) dd_goesBy_105 rfl rfl rfl rfl ?_
    refine R_gf (v := .inr (.inr 210)) dd_goesBy_106 fd_12_168 io_182 (congrArg (fun z : Int => (Sum.inr (Sum.inr z) : LV)) (rf_182_49 hF)) rfl ?_
    refine R_ld (v := .inl w0) dd_goesBy_109 rfl rfl rfl rfl ?_
    obtain ⟨s1, k⟩ := k
    refine R_iald (v := (rd h 210 w0)) (n := 10) dd_goesBy_111 ia_210 la_210 s1 (rfl) rfl ?_
    refine R_bi dd_goesBy_112 (by decide) rfl ?_
    refine R_ld (v := .inr (.inr 182)) dd_goesBy_114 rfl rfl rfl rfl ?_
    refine R_ld (v := .inl v5) dd_goesBy_115 rfl rfl rfl rfl ?_
    refine R_call (as := [.inr (.inr 182), .inl v5]) (rest := [.inl 100, .inl (rd h 210 w0)]) (M' := mm_priceOf) (ls0 := [some (.inr (.inr 182)), some (.inl v5)]) dd_goesBy_117 rfl rfl (cw_v cw_12_354 io_182 rfl rfl (Nat.le_of_ble_eq_true rfl) (Nat.le_of_ble_eq_true rfl)) mt_priceOf rfl (c := e - 1) (by omega) rfl ?_
    refine R_ld (v := .inl v5) dd_priceOf_0 rfl rfl rfl rfl ?_
    refine R_ld (v := .inr (.inr 182)) dd_priceOf_1 rfl rfl rfl rfl ?_
    refine R_gf (v := .inl (rd h 182 28)) dd_priceOf_2 fd_12_135 io_182 (congrArg (fun z : Int => (Sum.inl z : LV)) (rfl)) rfl ?_
    refine R_icmp dd_priceOf_5 rfl rfl (fun (c12 : v5 ≠ (rd h 182 28)) => ?_) (fun (c12 : v5 = (rd h 182 28)) => ?_)
    · replace k := k.1 c12
      refine R_ld (v := .inl v5) dd_priceOf_15 rfl rfl rfl rfl ?_
      refine R_ld (v := .inr (.inr 182)) dd_priceOf_16 rfl rfl rfl rfl ?_
      refine R_gf (v := .inl (rd h 182 29)) dd_priceOf_17 fd_12_138 io_182 (congrArg (fun z : Int => (Sum.inl z : LV)) (rfl)) rfl ?_
      refine R_icmp dd_priceOf_20 rfl rfl (fun (c13 : v5 ≠ (rd h 182 29)) => ?_) (fun (c13 : v5 = (rd h 182 29)) => ?_)
      · replace k := k.1 c13
        refine R_ld (v := .inr (.inr 182)) dd_priceOf_30 rfl rfl rfl rfl ?_
        refine R_ld (v := .inl v5) dd_priceOf_31 rfl rfl rfl rfl ?_
        refine R_bi dd_priceOf_32 (by decide) rfl ?_
        refine R_call (as := [.inr (.inr 182), .inl v5, .inl 7]) (rest := []) (M' := mm_doorOf) (ls0 := [some (.inr (.inr 182)), some (.inl v5), some (.inl 7)]) dd_priceOf_34 rfl rfl (cw_v cw_12_347 io_182 rfl rfl (Nat.le_of_ble_eq_true rfl) (Nat.le_of_ble_eq_true rfl)) mt_doorOf rfl (c := e - 2) (by omega) rfl ?_
        refine R_ld (v := .inr (.inr 182)) dd_doorOf_0 rfl rfl rfl rfl ?_
        refine R_gf (v := .inr (.inr 188)) dd_doorOf_1 fd_12_95 io_182 (congrArg (fun z : Int => (Sum.inr (Sum.inr z) : LV)) (rf_182_10 hF)) rfl ?_
        refine R_ic dd_doorOf_4 (by decide) rfl ?_
        refine R_bi dd_doorOf_5 (by decide) rfl ?_
        refine R_ld (v := .inl v5) dd_doorOf_7 rfl rfl rfl rfl ?_
        refine R_imul (c := 8 * v5) dd_doorOf_8 (by omega) (by omega) rfl ?_
        refine R_iadd (c := 8 * v5 + 4) dd_doorOf_9 (by omega) (by omega) rfl ?_
        refine R_ld (v := .inl 7) dd_doorOf_10 rfl rfl rfl rfl ?_
        refine R_iadd (c := 8 * v5 + 11) dd_doorOf_11 (by omega) (by omega) rfl ?_
        refine R_iald (v := (rd h 188 (8 * v5 + 11))) (n := 300) dd_doorOf_12 ia_188 la_188 (by omega) (rfl) rfl ?_
        refine R_iret dd_doorOf_13 rfl ?_
        change Rn xs xl (e - 1) mm_priceOf 37 [some (.inr (.inr 182)), some (.inl v5)] [.inl (rd h 188 (8 * v5 + 11))] h _
        refine R_iret dd_priceOf_37 rfl ?_
        change Rn xs xl e mm_goesBy 120 [some (.inr (.inr 182)), some (.inl v1), some (.inl v2), some (.inl v3), some (.inl v4), some (.inl v5), some (.inl w0), o7] [.inl (rd h 188 (8 * v5 + 11)), .inl 100, .inl (rd h 210 w0)] h _
        obtain ⟨s2, k⟩ := k
        refine R_imul (c := 100 * (rd h 188 (8 * v5 + 11))) dd_goesBy_120 (by omega) s2 rfl ?_
        obtain ⟨s3, k⟩ := k
        refine R_iadd (c := (rd h 210 w0) + 100 * (rd h 188 (8 * v5 + 11))) dd_goesBy_121 (by omega) s3 rfl ?_
        refine R_ic dd_goesBy_122 (by decide) rfl ?_
        obtain ⟨s4, k⟩ := k
        refine R_iadd (c := (rd h 210 w0) + 100 * (rd h 188 (8 * v5 + 11)) + 1) dd_goesBy_123 (by omega) s4 rfl ?_
        refine R_st (ls' := [some (.inr (.inr 182)), some (.inl v1), some (.inl v2), some (.inl v3), some (.inl v4), some (.inl v5), some (.inl w0), some (.inl ((rd h 210 w0) + 100 * (rd h 188 (8 * v5 + 11)) + 1))]) dd_goesBy_124 rfl rfl rfl (Nat.le_of_ble_eq_true rfl) rfl rfl ?_
        refine R_ld (v := .inr (.inr 182)) dd_goesBy_126 rfl rfl rfl rfl ?_
        refine R_gf (v := .inr (.inr 210)) dd_goesBy_127 fd_12_168 io_182 (congrArg (fun z : Int => (Sum.inr (Sum.inr z) : LV)) (rf_182_49 hF)) rfl ?_
        refine R_ld (v := .inl v4) dd_goesBy_130 rfl rfl rfl rfl ?_
        refine R_ld (v := .inl ((rd h 210 w0) + 100 * (rd h 188 (8 * v5 + 11)) + 1)) dd_goesBy_132 rfl rfl rfl rfl ?_
        refine R_ld (v := .inr (.inr 182)) dd_goesBy_134 rfl rfl rfl rfl ?_
        refine R_gf (v := .inr (.inr 210)) dd_goesBy_135 fd_12_168 io_182 (congrArg (fun z : Int => (Sum.inr (Sum.inr z) : LV)) (rf_182_49 hF)) rfl ?_
        refine R_ld (v := .inl v4) dd_goesBy_138 rfl rfl rfl rfl ?_
        refine R_iald (v := (rd h 210 v4)) (n := 10) dd_goesBy_140 ia_210 la_210 (by omega) (rfl) rfl ?_
        refine R_icmp dd_goesBy_141 rfl rfl (fun (c14 : (rd h 210 v4) ≤ ((rd h 210 w0) + 100 * (rd h 188 (8 * v5 + 11)) + 1)) => ?_) (fun (c14 : ((rd h 210 w0) + 100 * (rd h 188 (8 * v5 + 11)) + 1) < (rd h 210 v4)) => ?_)
        · replace k := k.1 c14
          refine R_ld (v := .inr (.inr 182)) dd_goesBy_149 rfl rfl rfl rfl ?_
          refine R_gf (v := .inr (.inr 210)) dd_goesBy_150 fd_12_168 io_182 (congrArg (fun z : Int => (Sum.inr (Sum.inr z) : LV)) (rf_182_49 hF)) rfl ?_
          refine R_ld (v := .inl v4) dd_goesBy_153 rfl rfl rfl rfl ?_
          refine R_iald (v := (rd h 210 v4)) (n := 10) dd_goesBy_155 ia_210 la_210 (by omega) (rfl) rfl ?_
          refine R_iast (n := 10) dd_goesBy_156 ia_210 la_210 (by omega) rfl ?_
          refine R_inc (y := v5 + 1) (ls' := [some (.inr (.inr 182)), some (.inl v1), some (.inl v2), some (.inl v3), some (.inl v4), some (.inl (v5 + 1)), some (.inl w0), some (.inl ((rd h 210 w0) + 100 * (rd h 188 (8 * v5 + 11)) + 1))]) dd_goesBy_157 rfl (by decide) (by omega) (by omega) rfl rfl ?_
          refine R_goto dd_goesBy_160 rfl ?_
          exact k
        · replace k := k.2 c14
          refine R_ld (v := .inl ((rd h 210 w0) + 100 * (rd h 188 (8 * v5 + 11)) + 1)) dd_goesBy_144 rfl rfl rfl rfl ?_
          refine R_goto dd_goesBy_146 rfl ?_
          refine R_iast (n := 10) dd_goesBy_156 ia_210 la_210 (by omega) rfl ?_
          refine R_inc (y := v5 + 1) (ls' := [some (.inr (.inr 182)), some (.inl v1), some (.inl v2), some (.inl v3), some (.inl v4), some (.inl (v5 + 1)), some (.inl w0), some (.inl ((rd h 210 w0) + 100 * (rd h 188 (8 * v5 + 11)) + 1))]) dd_goesBy_157 rfl (by decide) (by omega) (by omega) rfl rfl ?_
          refine R_goto dd_goesBy_160 rfl ?_
          exact k
      · replace k := k.2 c13
        refine R_ld (v := .inr (.inr 182)) dd_priceOf_23 rfl rfl rfl rfl ?_
        refine R_gf (v := .inl (rd h 182 31)) dd_priceOf_24 fd_12_344 io_182 (congrArg (fun z : Int => (Sum.inl z : LV)) (rfl)) rfl ?_
        refine R_goto dd_priceOf_27 rfl ?_
        refine R_iret dd_priceOf_37 rfl ?_
        change Rn xs xl e mm_goesBy 120 [some (.inr (.inr 182)), some (.inl v1), some (.inl v2), some (.inl v3), some (.inl v4), some (.inl v5), some (.inl w0), o7] [.inl (rd h 182 31), .inl 100, .inl (rd h 210 w0)] h _
        obtain ⟨s5, k⟩ := k
        refine R_imul (c := 100 * (rd h 182 31)) dd_goesBy_120 (by omega) s5 rfl ?_
        obtain ⟨s6, k⟩ := k
        refine R_iadd (c := (rd h 210 w0) + 100 * (rd h 182 31)) dd_goesBy_121 (by omega) s6 rfl ?_
        refine R_ic dd_goesBy_122 (by decide) rfl ?_
        obtain ⟨s7, k⟩ := k
        refine R_iadd (c := (rd h 210 w0) + 100 * (rd h 182 31) + 1) dd_goesBy_123 (by omega) s7 rfl ?_
        refine R_st (ls' := [some (.inr (.inr 182)), some (.inl v1), some (.inl v2), some (.inl v3), some (.inl v4), some (.inl v5), some (.inl w0), some (.inl ((rd h 210 w0) + 100 * (rd h 182 31) + 1))]) dd_goesBy_124 rfl rfl rfl (Nat.le_of_ble_eq_true rfl) rfl rfl ?_
        refine R_ld (v := .inr (.inr 182)) dd_goesBy_126 rfl rfl rfl rfl ?_
        refine R_gf (v := .inr (.inr 210)) dd_goesBy_127 fd_12_168 io_182 (congrArg (fun z : Int => (Sum.inr (Sum.inr z) : LV)) (rf_182_49 hF)) rfl ?_
        refine R_ld (v := .inl v4) dd_goesBy_130 rfl rfl rfl rfl ?_
        refine R_ld (v := .inl ((rd h 210 w0) + 100 * (rd h 182 31) + 1)) dd_goesBy_132 rfl rfl rfl rfl ?_
        refine R_ld (v := .inr (.inr 182)) dd_goesBy_134 rfl rfl rfl rfl ?_
        refine R_gf (v := .inr (.inr 210)) dd_goesBy_135 fd_12_168 io_182 (congrArg (fun z : Int => (Sum.inr (Sum.inr z) : LV)) (rf_182_49 hF)) rfl ?_
        refine R_ld (v := .inl v4) dd_goesBy_138 rfl rfl rfl rfl ?_
        refine R_iald (v := (rd h 210 v4)) (n := 10) dd_goesBy_140 ia_210 la_210 (by omega) (rfl) rfl ?_
        refine R_icmp dd_goesBy_141 rfl rfl (fun (c15 : (rd h 210 v4) ≤ ((rd h 210 w0) + 100 * (rd h 182 31) + 1)) => ?_) (fun (c15 : ((rd h 210 w0) + 100 * (rd h 182 31) + 1) < (rd h 210 v4)) => ?_)
        · replace k := k.1 c15
          refine R_ld (v := .inr (.inr 182)) dd_goesBy_149 rfl rfl rfl rfl ?_
          refine R_gf (v := .inr (.inr 210)) dd_goesBy_150 fd_12_168 io_182 (congrArg (fun z : Int => (Sum.inr (Sum.inr z) : LV)) (rf_182_49 hF)) rfl ?_
          refine R_ld (v := .inl v4) dd_goesBy_153 rfl rfl rfl rfl ?_
          refine R_iald (v := (rd h 210 v4)) (n := 10) dd_goesBy_155 ia_210 la_210 (by omega) (rfl) rfl ?_
          refine R_iast (n := 10) dd_goesBy_156 ia_210 la_210 (by omega) rfl ?_
          refine R_inc (y := v5 + 1) (ls' := [some (.inr (.inr 182)), some (.inl v1), some (.inl v2), some (.inl v3), some (.inl v4), some (.inl (v5 + 1)), some (.inl w0), some (.inl ((rd h 210 w0) + 100 * (rd h 182 31) + 1))]) dd_goesBy_157 rfl (by decide) (by omega) (by omega) rfl rfl ?_
          refine R_goto dd_goesBy_160 rfl ?_
          exact k
        · replace k := k.2 c15
          refine R_ld (v := .inl ((rd h 210 w0) + 100 * (rd h 182 31) + 1)) dd_goesBy_144 rfl rfl rfl rfl ?_
          refine R_goto dd_goesBy_146 rfl ?_
          refine R_iast (n := 10) dd_goesBy_156 ia_210 la_210 (by omega) rfl ?_
          refine R_inc (y := v5 + 1) (ls' := [some (.inr (.inr 182)), some (.inl v1), some (.inl v2), some (.inl v3), some (.inl v4), some (.inl (v5 + 1)), some (.inl w0), some (.inl ((rd h 210 w0) + 100 * (rd h 182 31) + 1))]) dd_goesBy_157 rfl (by decide) (by omega) (by omega) rfl rfl ?_
          refine R_goto dd_goesBy_160 rfl ?_
          exact k
    · replace k := k.2 c12
      refine R_ld (v := .inr (.inr 182)) dd_priceOf_8 rfl rfl rfl rfl ?_
      refine R_gf (v := .inl (rd h 182 30)) dd_priceOf_9 fd_12_341 io_182 (congrArg (fun z : Int => (Sum.inl z : LV)) (rfl)) rfl ?_
      refine R_goto dd_priceOf_12 rfl ?_
      refine R_iret dd_priceOf_37 rfl ?_
      change Rn xs xl e mm_goesBy 120 [some (.inr (.inr 182)), some (.inl v1), some (.inl v2), some (.inl v3), some (.inl v4), some (.inl v5), some (.inl w0), o7] [.inl (rd h 182 30), .inl 100, .inl (rd h 210 w0)] h _
      obtain ⟨s8, k⟩ := k
      refine R_imul (c := 100 * (rd h 182 30)) dd_goesBy_120 (by omega) s8 rfl ?_
      obtain ⟨s9, k⟩ := k
      refine R_iadd (c := (rd h 210 w0) + 100 * (rd h 182 30)) dd_goesBy_121 (by omega) s9 rfl ?_
      refine R_ic dd_goesBy_122 (by decide) rfl ?_
      obtain ⟨s10, k⟩ := k
      refine R_iadd (c := (rd h 210 w0) + 100 * (rd h 182 30) + 1) dd_goesBy_123 (by omega) s10 rfl ?_
      refine R_st (ls' := [some (.inr (.inr 182)), some (.inl v1), some (.inl v2), some (.inl v3), some (.inl v4), some (.inl v5), some (.inl w0), some (.inl ((rd h 210 w0) + 100 * (rd h 182 30) + 1))]) dd_goesBy_124 rfl rfl rfl (Nat.le_of_ble_eq_true rfl) rfl rfl ?_
      refine R_ld (v := .inr (.inr 182)) dd_goesBy_126 rfl rfl rfl rfl ?_
      refine R_gf (v := .inr (.inr 210)) dd_goesBy_127 fd_12_168 io_182 (congrArg (fun z : Int => (Sum.inr (Sum.inr z) : LV)) (rf_182_49 hF)) rfl ?_
      refine R_ld (v := .inl v4) dd_goesBy_130 rfl rfl rfl rfl ?_
      refine R_ld (v := .inl ((rd h 210 w0) + 100 * (rd h 182 30) + 1)) dd_goesBy_132 rfl rfl rfl rfl ?_
      refine R_ld (v := .inr (.inr 182)) dd_goesBy_134 rfl rfl rfl rfl ?_
      refine R_gf (v := .inr (.inr 210)) dd_goesBy_135 fd_12_168 io_182 (congrArg (fun z : Int => (Sum.inr (Sum.inr z) : LV)) (rf_182_49 hF)) rfl ?_
      refine R_ld (v := .inl v4) dd_goesBy_138 rfl rfl rfl rfl ?_
      refine R_iald (v := (rd h 210 v4)) (n := 10) dd_goesBy_140 ia_210 la_210 (by omega) (rfl) rfl ?_
      refine R_icmp dd_goesBy_141 rfl rfl (fun (c16 : (rd h 210 v4) ≤ ((rd h 210 w0) + 100 * (rd h 182 30) + 1)) => ?_) (fun (c16 : ((rd h 210 w0) + 100 * (rd h 182 30) + 1) < (rd h 210 v4)) => ?_)
      · replace k := k.1 c16
        refine R_ld (v := .inr (.inr 182)) dd_goesBy_149 rfl rfl rfl rfl ?_
        refine R_gf (v := .inr (.inr 210)) dd_goesBy_150 fd_12_168 io_182 (congrArg (fun z : Int => (Sum.inr (Sum.inr z) : LV)) (rf_182_49 hF)) rfl ?_
        refine R_ld (v := .inl v4) dd_goesBy_153 rfl rfl rfl rfl ?_
        refine R_iald (v := (rd h 210 v4)) (n := 10) dd_goesBy_155 ia_210 la_210 (by omega) (rfl) rfl ?_
        refine R_iast (n := 10) dd_goesBy_156 ia_210 la_210 (by omega) rfl ?_
        refine R_inc (y := v5 + 1) (ls' := [some (.inr (.inr 182)), some (.inl v1), some (.inl v2), some (.inl v3), some (.inl v4), some (.inl (v5 + 1)), some (.inl w0), some (.inl ((rd h 210 w0) + 100 * (rd h 182 30) + 1))]) dd_goesBy_157 rfl (by decide) (by omega) (by omega) rfl rfl ?_
        refine R_goto dd_goesBy_160 rfl ?_
        exact k
      · replace k := k.2 c16
        refine R_ld (v := .inl ((rd h 210 w0) + 100 * (rd h 182 30) + 1)) dd_goesBy_144 rfl rfl rfl rfl ?_
        refine R_goto dd_goesBy_146 rfl ?_
        refine R_iast (n := 10) dd_goesBy_156 ia_210 la_210 (by omega) rfl ?_
        refine R_inc (y := v5 + 1) (ls' := [some (.inr (.inr 182)), some (.inl v1), some (.inl v2), some (.inl v3), some (.inl v4), some (.inl (v5 + 1)), some (.inl w0), some (.inl ((rd h 210 w0) + 100 * (rd h 182 30) + 1))]) dd_goesBy_157 rfl (by decide) (by omega) (by omega) rfl rfl ?_
        refine R_goto dd_goesBy_160 rfl ?_
        exact k
  · replace k := k.2 c11
    refine R_C (v := .inl (1000000)) dd_goesBy_99 rfl rfl (by decide +kernel) rfl ?_
    refine R_goto dd_goesBy_102 rfl ?_
    refine R_st (ls' := [some (.inr (.inr 182)), some (.inl v1), some (.inl v2), some (.inl v3), some (.inl v4), some (.inl v5), some (.inl w0), some (.inl 1000000)]) dd_goesBy_124 rfl rfl rfl (Nat.le_of_ble_eq_true rfl) rfl rfl ?_
    refine R_ld (v := .inr (.inr 182)) dd_goesBy_126 rfl rfl rfl rfl ?_
    refine R_gf (v := .inr (.inr 210)) dd_goesBy_127 fd_12_168 io_182 (congrArg (fun z : Int => (Sum.inr (Sum.inr z) : LV)) (rf_182_49 hF)) rfl ?_
    refine R_ld (v := .inl v4) dd_goesBy_130 rfl rfl rfl rfl ?_
    refine R_ld (v := .inl 1000000) dd_goesBy_132 rfl rfl rfl rfl ?_
    refine R_ld (v := .inr (.inr 182)) dd_goesBy_134 rfl rfl rfl rfl ?_
    refine R_gf (v := .inr (.inr 210)) dd_goesBy_135 fd_12_168 io_182 (congrArg (fun z : Int => (Sum.inr (Sum.inr z) : LV)) (rf_182_49 hF)) rfl ?_
    refine R_ld (v := .inl v4) dd_goesBy_138 rfl rfl rfl rfl ?_
    refine R_iald (v := (rd h 210 v4)) (n := 10) dd_goesBy_140 ia_210 la_210 (by omega) (rfl) rfl ?_
    refine R_icmp dd_goesBy_141 rfl rfl (fun (c17 : (rd h 210 v4) ≤ 1000000) => ?_) (fun (c17 : 1000000 < (rd h 210 v4)) => ?_)
    · replace k := k.1 c17
      refine R_ld (v := .inr (.inr 182)) dd_goesBy_149 rfl rfl rfl rfl ?_
      refine R_gf (v := .inr (.inr 210)) dd_goesBy_150 fd_12_168 io_182 (congrArg (fun z : Int => (Sum.inr (Sum.inr z) : LV)) (rf_182_49 hF)) rfl ?_
      refine R_ld (v := .inl v4) dd_goesBy_153 rfl rfl rfl rfl ?_
      refine R_iald (v := (rd h 210 v4)) (n := 10) dd_goesBy_155 ia_210 la_210 (by omega) (rfl) rfl ?_
      refine R_iast (n := 10) dd_goesBy_156 ia_210 la_210 (by omega) rfl ?_
      refine R_inc (y := v5 + 1) (ls' := [some (.inr (.inr 182)), some (.inl v1), some (.inl v2), some (.inl v3), some (.inl v4), some (.inl (v5 + 1)), some (.inl w0), some (.inl 1000000)]) dd_goesBy_157 rfl (by decide) (by omega) (by omega) rfl rfl ?_
      refine R_goto dd_goesBy_160 rfl ?_
      exact k
    · replace k := k.2 c17
      refine R_ld (v := .inl 1000000) dd_goesBy_144 rfl rfl rfl rfl ?_
      refine R_goto dd_goesBy_146 rfl ?_
      refine R_iast (n := 10) dd_goesBy_156 ia_210 la_210 (by omega) rfl ?_
      refine R_inc (y := v5 + 1) (ls' := [some (.inr (.inr 182)), some (.inl v1), some (.inl v2), some (.inl v3), some (.inl v4), some (.inl (v5 + 1)), some (.inl w0), some (.inl 1000000)]) dd_goesBy_157 rfl (by decide) (by omega) (by omega) rfl rfl ?_
      refine R_goto dd_goesBy_160 rfl ?_
      exact k
theorem B_goesBy_187 {xs : Nat → Int} {xl e : Nat} {h : LH} {Q : Option LV → LH → Prop} {v1 v2 v3 v4 : Int} {o5 : Option LV} {o6 : Option LV} {o7 : Option LV} (hF : RF h) (r_v1 : 0 ≤ v1 ∧ v1 ≤ 5) (r_v2 : 0 ≤ v2 ∧ v2 ≤ 3) (r_v4 : 0 ≤ v4 ∧ v4 ≤ 9)
    (k : ((rd h 210 v4) ≤ 0 →
        Q (some (.inl v3)) h) ∧
      (0 < (rd h 210 v4) →
        (1000000 ≤ (rd h 210 v4) →
          Q (some (.inl v3)) h) ∧
        ((rd h 210 v4) < 1000000 →
          Rn xs xl e mm_goesBy 216 [some (.inr (.inr 182)), some (.inl v1), some (.inl v2), some (.inl v3), some (.inl v4), some (.inl (-1)), some (.inl 0), o7] [] h Q))) :
    Rn xs xl e mm_goesBy 187 [some (.inr (.inr 182)), some (.inl v1), some (.inl v2), some (.inl v3), some (.inl v4), o5, o6, o7] [] h Q := by
  refine R_ld (v := .inr (.inr 182)) dd_goesBy_187 rfl rfl rfl rfl ?_
  refine R_gf (v := .inr (.inr 210)) dd_goesBy_188 fd_12_168 io_182 (congrArg (fun z : Int => (Sum.inr (Sum.inr z) : LV)) (rf_182_49 hF)) rfl ?_
  refine R_ld (v := .inl v4) dd_goesBy_191 rfl rfl rfl rfl ?_
  refine R_iald (v := (rd h 210 v4)) (n := 10) dd_goesBy_193 ia_210 la_210 (by omega) (rfl) rfl ?_
  refine R_if dd_goesBy_194 rfl rfl (fun (c1 : (rd h 210 v4) ≤ 0) => ?_) (fun (c1 : 0 < (rd h 210 v4)) => ?_)
  · replace k := k.1 c1
    refine R_ld (v := .inl v3) dd_goesBy_306 rfl rfl rfl rfl ?_
    exact R_iret dd_goesBy_307 rfl k
  · replace k := k.2 c1
    refine R_ld (v := .inr (.inr 182)) dd_goesBy_197 rfl rfl rfl rfl ?_
    refine R_gf (v := .inr (.inr 210)) dd_goesBy_198 fd_12_168 io_182 (congrArg (fun z : Int => (Sum.inr (Sum.inr z) : LV)) (rf_182_49 hF)) rfl ?_
    refine R_ld (v := .inl v4) dd_goesBy_201 rfl rfl rfl rfl ?_
    refine R_iald (v := (rd h 210 v4)) (n := 10) dd_goesBy_203 ia_210 la_210 (by omega) (rfl) rfl ?_
    refine R_C (v := .inl (1000000)) dd_goesBy_204 rfl rfl (by decide +kernel) rfl ?_
    refine R_icmp dd_goesBy_207 rfl rfl (fun (c2 : 1000000 ≤ (rd h 210 v4)) => ?_) (fun (c2 : (rd h 210 v4) < 1000000) => ?_)
    · replace k := k.1 c2
      refine R_ld (v := .inl v3) dd_goesBy_306 rfl rfl rfl rfl ?_
      exact R_iret dd_goesBy_307 rfl k
    · replace k := k.2 c2
      refine R_ic dd_goesBy_210 (by decide) rfl ?_
      refine R_st (ls' := [some (.inr (.inr 182)), some (.inl v1), some (.inl v2), some (.inl v3), some (.inl v4), some (.inl (-1)), o6, o7]) dd_goesBy_211 rfl rfl rfl (Nat.le_of_ble_eq_true rfl) rfl rfl ?_
      refine R_ic dd_goesBy_213 (by decide) rfl ?_
      refine R_st (ls' := [some (.inr (.inr 182)), some (.inl v1), some (.inl v2), some (.inl v3), some (.inl v4), some (.inl (-1)), some (.inl 0), o7]) dd_goesBy_214 rfl rfl rfl (Nat.le_of_ble_eq_true rfl) rfl rfl ?_
      exact k
theorem B_goesBy_216 {xs : Nat → Int} {xl e : Nat} {h : LH} {Q : Option LV → LH → Prop} {v1 v2 v3 v4 v5 v6 : Int} {o7 : Option LV} (hF : RF h) (r_v1 : 0 ≤ v1 ∧ v1 ≤ 5) (r_v2 : 0 ≤ v2 ∧ v2 ≤ 3) (r_v4 : 0 ≤ v4 ∧ v4 ≤ 9) (r_v6 : 0 ≤ v6 ∧ v6 ≤ 14) (he : 1 ≤ e)
    (k : ((rd h 188 1) ≤ v6 →
        Rn xs xl e mm_goesBy 187 [some (.inr (.inr 182)), some (.inl v1), some (.inl v2), some (.inl v3), some (.inl v5), some (.inl v5), some (.inl v6), o7] [] h Q) ∧
      (v6 < (rd h 188 1) →
        (0 ≤ v5 →
          Rn xs xl e mm_goesBy 187 [some (.inr (.inr 182)), some (.inl v1), some (.inl v2), some (.inl v3), some (.inl v5), some (.inl v5), some (.inl v6), o7] [] h Q) ∧
        (v5 < 0 →
          (∃ c, c < e ∧ Rn xs xl c mm_leadsNow 0 [some (.inr (.inr 182)), some (.inl 0), some (.inl v6), some (.inl v2), some (.inl v4), some (.inl (rd h 198 0))] [] h (fun r h' => Rn xs xl e mm_goesBy 246 [some (.inr (.inr 182)), some (.inl v1), some (.inl v2), some (.inl v3), some (.inl v4), some (.inl v5), some (.inl v6), o7] (r.toList ++ []) h' Q))))) :
    Rn xs xl e mm_goesBy 216 [some (.inr (.inr 182)), some (.inl v1), some (.inl v2), some (.inl v3), some (.inl v4), some (.inl v5), some (.inl v6), o7] [] h Q := by
  refine R_ld (v := .inl v6) dd_goesBy_216 rfl rfl rfl rfl ?_
  refine R_ld (v := .inr (.inr 182)) dd_goesBy_218 rfl rfl rfl rfl ?_
  refine R_call (as := [.inr (.inr 182)]) (rest := [.inl v6]) (M' := mm_doors) (ls0 := [some (.inr (.inr 182))]) dd_goesBy_219 rfl rfl (cw_v cw_12_335 io_182 rfl rfl (Nat.le_of_ble_eq_true rfl) (Nat.le_of_ble_eq_true rfl)) mt_doors rfl (c := e - 1) (by omega) rfl ?_
  refine R_ld (v := .inr (.inr 182)) dd_doors_0 rfl rfl rfl rfl ?_
  refine R_gf (v := .inr (.inr 188)) dd_doors_1 fd_12_95 io_182 (congrArg (fun z : Int => (Sum.inr (Sum.inr z) : LV)) (rf_182_10 hF)) rfl ?_
  refine R_ic dd_doors_4 (by decide) rfl ?_
  refine R_iald (v := (rd h 188 1)) (n := 300) dd_doors_5 ia_188 la_188 (by decide) (rfl) rfl ?_
  refine R_iret dd_doors_6 rfl ?_
  change Rn xs xl e mm_goesBy 222 [some (.inr (.inr 182)), some (.inl v1), some (.inl v2), some (.inl v3), some (.inl v4), some (.inl v5), some (.inl v6), o7] [.inl (rd h 188 1), .inl v6] h _
  refine R_icmp dd_goesBy_222 rfl rfl (fun (c2 : (rd h 188 1) ≤ v6) => ?_) (fun (c2 : v6 < (rd h 188 1)) => ?_)
  · replace k := k.1 c2
    refine R_ld (v := .inl v5) dd_goesBy_299 rfl rfl rfl rfl ?_
    refine R_st (ls' := [some (.inr (.inr 182)), some (.inl v1), some (.inl v2), some (.inl v3), some (.inl v5), some (.inl v5), some (.inl v6), o7]) dd_goesBy_301 rfl rfl rfl (Nat.le_of_ble_eq_true rfl) rfl rfl ?_
    refine R_goto dd_goesBy_303 rfl ?_
    exact k
  · replace k := k.2 c2
    refine R_ld (v := .inl v5) dd_goesBy_225 rfl rfl rfl rfl ?_
    refine R_if dd_goesBy_227 rfl rfl (fun (c3 : 0 ≤ v5) => ?_) (fun (c3 : v5 < 0) => ?_)
    · replace k := k.1 c3
      refine R_ld (v := .inl v5) dd_goesBy_299 rfl rfl rfl rfl ?_
      refine R_st (ls' := [some (.inr (.inr 182)), some (.inl v1), some (.inl v2), some (.inl v3), some (.inl v5), some (.inl v5), some (.inl v6), o7]) dd_goesBy_301 rfl rfl rfl (Nat.le_of_ble_eq_true rfl) rfl rfl ?_
      refine R_goto dd_goesBy_303 rfl ?_
      exact k
    · replace k := k.2 c3
      refine R_ld (v := .inr (.inr 182)) dd_goesBy_230 rfl rfl rfl rfl ?_
      refine R_ic dd_goesBy_231 (by decide) rfl ?_
      refine R_ld (v := .inl v6) dd_goesBy_232 rfl rfl rfl rfl ?_
      refine R_ld (v := .inl v2) dd_goesBy_234 rfl rfl rfl rfl ?_
      refine R_ld (v := .inl v4) dd_goesBy_235 rfl rfl rfl rfl ?_
      refine R_ld (v := .inr (.inr 182)) dd_goesBy_237 rfl rfl rfl rfl ?_
      refine R_gf (v := .inr (.inr 198)) dd_goesBy_238 fd_12_125 io_182 (congrArg (fun z : Int => (Sum.inr (Sum.inr z) : LV)) (rf_182_24 hF)) rfl ?_
      refine R_ic dd_goesBy_241 (by decide) rfl ?_
      refine R_iald (v := (rd h 198 0)) (n := 1610) dd_goesBy_242 ia_198 la_198 (by decide) (rfl) rfl ?_
      obtain ⟨c, hc, k⟩ := k
      exact R_call (as := [.inr (.inr 182), .inl 0, .inl v6, .inl v2, .inl v4, .inl (rd h 198 0)]) (rest := []) (M' := mm_leadsNow) (ls0 := [some (.inr (.inr 182)), some (.inl 0), some (.inl v6), some (.inl v2), some (.inl v4), some (.inl (rd h 198 0))]) dd_goesBy_243 rfl rfl (cw_v cw_12_373 io_182 rfl rfl (Nat.le_of_ble_eq_true rfl) (Nat.le_of_ble_eq_true rfl)) mt_leadsNow rfl hc rfl k
theorem B_goesBy_246 {xs : Nat → Int} {xl e : Nat} {h : LH} {Q : Option LV → LH → Prop} {v1 v2 v3 v4 v5 v6 w0 : Int} {o7 : Option LV} (hF : RF h) (r_v1 : 0 ≤ v1 ∧ v1 ≤ 5) (r_v2 : 0 ≤ v2 ∧ v2 ≤ 3) (r_v4 : 0 ≤ v4 ∧ v4 ≤ 9) (r_v6 : 0 ≤ v6 ∧ v6 ≤ 13) (r_w0 : -1 ≤ w0 ∧ w0 ≤ 9) (he : 2 ≤ e)
    (k : (w0 < 0 →
        Rn xs xl e mm_goesBy 216 [some (.inr (.inr 182)), some (.inl v1), some (.inl v2), some (.inl v3), some (.inl v4), some (.inl v5), some (.inl (v6 + 1)), some (.inl w0)] [] h Q) ∧
      (0 ≤ w0 →
        (0 ≤ w0 ∧ w0 < 10) ∧
        (v6 ≠ (rd h 182 28) →
          (v6 ≠ (rd h 182 29) →
            (-2147483648 ≤ 100 * (rd h 188 (8 * v6 + 11)) ∧ 100 * (rd h 188 (8 * v6 + 11)) ≤ 2147483647) ∧
            (-2147483648 ≤ (rd h 210 w0) + 100 * (rd h 188 (8 * v6 + 11)) ∧ (rd h 210 w0) + 100 * (rd h 188 (8 * v6 + 11)) ≤ 2147483647) ∧
            (-2147483648 ≤ (rd h 210 w0) + 100 * (rd h 188 (8 * v6 + 11)) + 1 ∧ (rd h 210 w0) + 100 * (rd h 188 (8 * v6 + 11)) + 1 ≤ 2147483647) ∧
            (((rd h 210 w0) + 100 * (rd h 188 (8 * v6 + 11)) + 1) ≠ (rd h 210 v4) →
              Rn xs xl e mm_goesBy 216 [some (.inr (.inr 182)), some (.inl v1), some (.inl v2), some (.inl v3), some (.inl v4), some (.inl v5), some (.inl (v6 + 1)), some (.inl w0)] [] h Q) ∧
            (((rd h 210 w0) + 100 * (rd h 188 (8 * v6 + 11)) + 1) = (rd h 210 v4) →
              Rn xs xl e mm_goesBy 216 [some (.inr (.inr 182)), some (.inl v1), some (.inl v2), some (.inl (zor v3 (zshl 1 v6))), some (.inl v4), some (.inl w0), some (.inl (v6 + 1)), some (.inl w0)] [] h Q)) ∧
          (v6 = (rd h 182 29) →
            (-2147483648 ≤ 100 * (rd h 182 31) ∧ 100 * (rd h 182 31) ≤ 2147483647) ∧
            (-2147483648 ≤ (rd h 210 w0) + 100 * (rd h 182 31) ∧ (rd h 210 w0) + 100 * (rd h 182 31) ≤ 2147483647) ∧
            (-2147483648 ≤ (rd h 210 w0) + 100 * (rd h 182 31) + 1 ∧ (rd h 210 w0) + 100 * (rd h 182 31) + 1 ≤ 2147483647) ∧
            (((rd h 210 w0) + 100 * (rd h 182 31) + 1) ≠ (rd h 210 v4) →
              Rn xs xl e mm_goesBy 216 [some (.inr (.inr 182)), some (.inl v1), some (.inl v2), some (.inl v3), some (.inl v4), some (.inl v5), some (.inl (v6 + 1)), some (.inl w0)] [] h Q) ∧
            (((rd h 210 w0) + 100 * (rd h 182 31) + 1) = (rd h 210 v4) →
              Rn xs xl e mm_goesBy 216 [some (.inr (.inr 182)), some (.inl v1), some (.inl v2), some (.inl (zor v3 (zshl 1 v6))), some (.inl v4), some (.inl w0), some (.inl (v6 + 1)), some (.inl w0)] [] h Q))) ∧
        (v6 = (rd h 182 28) →
          (-2147483648 ≤ 100 * (rd h 182 30) ∧ 100 * (rd h 182 30) ≤ 2147483647) ∧
          (-2147483648 ≤ (rd h 210 w0) + 100 * (rd h 182 30) ∧ (rd h 210 w0) + 100 * (rd h 182 30) ≤ 2147483647) ∧
          (-2147483648 ≤ (rd h 210 w0) + 100 * (rd h 182 30) + 1 ∧ (rd h 210 w0) + 100 * (rd h 182 30) + 1 ≤ 2147483647) ∧
          (((rd h 210 w0) + 100 * (rd h 182 30) + 1) ≠ (rd h 210 v4) →
            Rn xs xl e mm_goesBy 216 [some (.inr (.inr 182)), some (.inl v1), some (.inl v2), some (.inl v3), some (.inl v4), some (.inl v5), some (.inl (v6 + 1)), some (.inl w0)] [] h Q) ∧
          (((rd h 210 w0) + 100 * (rd h 182 30) + 1) = (rd h 210 v4) →
            Rn xs xl e mm_goesBy 216 [some (.inr (.inr 182)), some (.inl v1), some (.inl v2), some (.inl (zor v3 (zshl 1 v6))), some (.inl v4), some (.inl w0), some (.inl (v6 + 1)), some (.inl w0)] [] h Q)))) :
    Rn xs xl e mm_goesBy 246 [some (.inr (.inr 182)), some (.inl v1), some (.inl v2), some (.inl v3), some (.inl v4), some (.inl v5), some (.inl v6), o7] [.inl w0] h Q := by
  refine R_st (ls' := [some (.inr (.inr 182)), some (.inl v1), some (.inl v2), some (.inl v3), some (.inl v4), some (.inl v5), some (.inl v6), some (.inl w0)]) dd_goesBy_246 rfl rfl rfl (Nat.le_of_ble_eq_true rfl) rfl rfl ?_
  refine R_ld (v := .inl w0) dd_goesBy_248 rfl rfl rfl rfl ?_
  refine R_if dd_goesBy_250 rfl rfl (fun (c11 : w0 < 0) => ?_) (fun (c11 : 0 ≤ w0) => ?_)
  · replace k := k.1 c11
    refine R_inc (y := v6 + 1) (ls' := [some (.inr (.inr 182)), some (.inl v1), some (.inl v2), some (.inl v3), some (.inl v4), some (.inl v5), some (.inl (v6 + 1)), some (.inl w0)]) dd_goesBy_293 rfl (by decide) (by omega) (by omega) rfl rfl ?_
    refine R_goto dd_goesBy_296 rfl ?_
    exact k
  · replace k := k.2 c11
    refine R_ld (v := .inr (.inr 182)) dd_goesBy_253 rfl rfl rfl rfl ?_
    refine R_gf (v := .inr (.inr 210)) dd_goesBy_254 fd_12_168 io_182 (congrArg (fun z : Int => (Sum.inr (Sum.inr z) : LV)) (rf_182_49 hF)) rfl ?_
    refine R_ld (v := .inl w0) dd_goesBy_257 rfl rfl rfl rfl ?_
    obtain ⟨s1, k⟩ := k
    refine R_iald (v := (rd h 210 w0)) (n := 10) dd_goesBy_259 ia_210 la_210 s1 (rfl) rfl ?_
    refine R_bi dd_goesBy_260 (by decide) rfl ?_
    refine R_ld (v := .inr (.inr 182)) dd_goesBy_262 rfl rfl rfl rfl ?_
    refine R_ld (v := .inl v6) dd_goesBy_263 rfl rfl rfl rfl ?_
    refine R_call (as := [.inr (.inr 182), .inl v6]) (rest := [.inl 100, .inl (rd h 210 w0)]) (M' := mm_priceOf) (ls0 := [some (.inr (.inr 182)), some (.inl v6)]) dd_goesBy_265 rfl rfl (cw_v cw_12_354 io_182 rfl rfl (Nat.le_of_ble_eq_true rfl) (Nat.le_of_ble_eq_true rfl)) mt_priceOf rfl (c := e - 1) (by omega) rfl ?_
    refine R_ld (v := .inl v6) dd_priceOf_0 rfl rfl rfl rfl ?_
    refine R_ld (v := .inr (.inr 182)) dd_priceOf_1 rfl rfl rfl rfl ?_
    refine R_gf (v := .inl (rd h 182 28)) dd_priceOf_2 fd_12_135 io_182 (congrArg (fun z : Int => (Sum.inl z : LV)) (rfl)) rfl ?_
    refine R_icmp dd_priceOf_5 rfl rfl (fun (c12 : v6 ≠ (rd h 182 28)) => ?_) (fun (c12 : v6 = (rd h 182 28)) => ?_)
    · replace k := k.1 c12
      refine R_ld (v := .inl v6) dd_priceOf_15 rfl rfl rfl rfl ?_
      refine R_ld (v := .inr (.inr 182)) dd_priceOf_16 rfl rfl rfl rfl ?_
      refine R_gf (v := .inl (rd h 182 29)) dd_priceOf_17 fd_12_138 io_182 (congrArg (fun z : Int => (Sum.inl z : LV)) (rfl)) rfl ?_
      refine R_icmp dd_priceOf_20 rfl rfl (fun (c13 : v6 ≠ (rd h 182 29)) => ?_) (fun (c13 : v6 = (rd h 182 29)) => ?_)
      · replace k := k.1 c13
        refine R_ld (v := .inr (.inr 182)) dd_priceOf_30 rfl rfl rfl rfl ?_
        refine R_ld (v := .inl v6) dd_priceOf_31 rfl rfl rfl rfl ?_
        refine R_bi dd_priceOf_32 (by decide) rfl ?_
        refine R_call (as := [.inr (.inr 182), .inl v6, .inl 7]) (rest := []) (M' := mm_doorOf) (ls0 := [some (.inr (.inr 182)), some (.inl v6), some (.inl 7)]) dd_priceOf_34 rfl rfl (cw_v cw_12_347 io_182 rfl rfl (Nat.le_of_ble_eq_true rfl) (Nat.le_of_ble_eq_true rfl)) mt_doorOf rfl (c := e - 2) (by omega) rfl ?_
        refine R_ld (v := .inr (.inr 182)) dd_doorOf_0 rfl rfl rfl rfl ?_
        refine R_gf (v := .inr (.inr 188)) dd_doorOf_1 fd_12_95 io_182 (congrArg (fun z : Int => (Sum.inr (Sum.inr z) : LV)) (rf_182_10 hF)) rfl ?_
        refine R_ic dd_doorOf_4 (by decide) rfl ?_
        refine R_bi dd_doorOf_5 (by decide) rfl ?_
        refine R_ld (v := .inl v6) dd_doorOf_7 rfl rfl rfl rfl ?_
        refine R_imul (c := 8 * v6) dd_doorOf_8 (by omega) (by omega) rfl ?_
        refine R_iadd (c := 8 * v6 + 4) dd_doorOf_9 (by omega) (by omega) rfl ?_
        refine R_ld (v := .inl 7) dd_doorOf_10 rfl rfl rfl rfl ?_
        refine R_iadd (c := 8 * v6 + 11) dd_doorOf_11 (by omega) (by omega) rfl ?_
        refine R_iald (v := (rd h 188 (8 * v6 + 11))) (n := 300) dd_doorOf_12 ia_188 la_188 (by omega) (rfl) rfl ?_
        refine R_iret dd_doorOf_13 rfl ?_
        change Rn xs xl (e - 1) mm_priceOf 37 [some (.inr (.inr 182)), some (.inl v6)] [.inl (rd h 188 (8 * v6 + 11))] h _
        refine R_iret dd_priceOf_37 rfl ?_
        change Rn xs xl e mm_goesBy 268 [some (.inr (.inr 182)), some (.inl v1), some (.inl v2), some (.inl v3), some (.inl v4), some (.inl v5), some (.inl v6), some (.inl w0)] [.inl (rd h 188 (8 * v6 + 11)), .inl 100, .inl (rd h 210 w0)] h _
        obtain ⟨s2, k⟩ := k
        refine R_imul (c := 100 * (rd h 188 (8 * v6 + 11))) dd_goesBy_268 (by omega) s2 rfl ?_
        obtain ⟨s3, k⟩ := k
        refine R_iadd (c := (rd h 210 w0) + 100 * (rd h 188 (8 * v6 + 11))) dd_goesBy_269 (by omega) s3 rfl ?_
        refine R_ic dd_goesBy_270 (by decide) rfl ?_
        obtain ⟨s4, k⟩ := k
        refine R_iadd (c := (rd h 210 w0) + 100 * (rd h 188 (8 * v6 + 11)) + 1) dd_goesBy_271 (by omega) s4 rfl ?_
        refine R_ld (v := .inr (.inr 182)) dd_goesBy_272 rfl rfl rfl rfl ?_
        refine R_gf (v := .inr (.inr 210)) dd_goesBy_273 fd_12_168 io_182 (congrArg (fun z : Int => (Sum.inr (Sum.inr z) : LV)) (rf_182_49 hF)) rfl ?_
        refine R_ld (v := .inl v4) dd_goesBy_276 rfl rfl rfl rfl ?_
        refine R_iald (v := (rd h 210 v4)) (n := 10) dd_goesBy_278 ia_210 la_210 (by omega) (rfl) rfl ?_
        refine R_icmp dd_goesBy_279 rfl rfl (fun (c14 : ((rd h 210 w0) + 100 * (rd h 188 (8 * v6 + 11)) + 1) ≠ (rd h 210 v4)) => ?_) (fun (c14 : ((rd h 210 w0) + 100 * (rd h 188 (8 * v6 + 11)) + 1) = (rd h 210 v4)) => ?_)
        · replace k := k.1 c14
          refine R_inc (y := v6 + 1) (ls' := [some (.inr (.inr 182)), some (.inl v1), some (.inl v2), some (.inl v3), some (.inl v4), some (.inl v5), some (.inl (v6 + 1)), some (.inl w0)]) dd_goesBy_293 rfl (by decide) (by omega) (by omega) rfl rfl ?_
          refine R_goto dd_goesBy_296 rfl ?_
          exact k
        · replace k := k.2 c14
          refine R_ld (v := .inl w0) dd_goesBy_282 rfl rfl rfl rfl ?_
          refine R_st (ls' := [some (.inr (.inr 182)), some (.inl v1), some (.inl v2), some (.inl v3), some (.inl v4), some (.inl w0), some (.inl v6), some (.inl w0)]) dd_goesBy_284 rfl rfl rfl (Nat.le_of_ble_eq_true rfl) rfl rfl ?_
          refine R_ld (v := .inl v3) dd_goesBy_286 rfl rfl rfl rfl ?_
          refine R_ic dd_goesBy_287 (by decide) rfl ?_
          refine R_ld (v := .inl v6) dd_goesBy_288 rfl rfl rfl rfl ?_
          refine R_A dd_goesBy_290 rfl rfl rfl rfl ?_
          refine R_A dd_goesBy_291 rfl rfl rfl rfl ?_
          refine R_st (ls' := [some (.inr (.inr 182)), some (.inl v1), some (.inl v2), some (.inl (zor v3 (zshl 1 v6))), some (.inl v4), some (.inl w0), some (.inl v6), some (.inl w0)]) dd_goesBy_292 rfl rfl rfl (Nat.le_of_ble_eq_true rfl) rfl rfl ?_
          refine R_inc (y := v6 + 1) (ls' := [some (.inr (.inr 182)), some (.inl v1), some (.inl v2), some (.inl (zor v3 (zshl 1 v6))), some (.inl v4), some (.inl w0), some (.inl (v6 + 1)), some (.inl w0)]) dd_goesBy_293 rfl (by decide) (by omega) (by omega) rfl rfl ?_
          refine R_goto dd_goesBy_296 rfl ?_
          exact k
      · replace k := k.2 c13
        refine R_ld (v := .inr (.inr 182)) dd_priceOf_23 rfl rfl rfl rfl ?_
        refine R_gf (v := .inl (rd h 182 31)) dd_priceOf_24 fd_12_344 io_182 (congrArg (fun z : Int => (Sum.inl z : LV)) (rfl)) rfl ?_
        refine R_goto dd_priceOf_27 rfl ?_
        refine R_iret dd_priceOf_37 rfl ?_
        change Rn xs xl e mm_goesBy 268 [some (.inr (.inr 182)), some (.inl v1), some (.inl v2), some (.inl v3), some (.inl v4), some (.inl v5), some (.inl v6), some (.inl w0)] [.inl (rd h 182 31), .inl 100, .inl (rd h 210 w0)] h _
        obtain ⟨s5, k⟩ := k
        refine R_imul (c := 100 * (rd h 182 31)) dd_goesBy_268 (by omega) s5 rfl ?_
        obtain ⟨s6, k⟩ := k
        refine R_iadd (c := (rd h 210 w0) + 100 * (rd h 182 31)) dd_goesBy_269 (by omega) s6 rfl ?_
        refine R_ic dd_goesBy_270 (by decide) rfl ?_
        obtain ⟨s7, k⟩ := k
        refine R_iadd (c := (rd h 210 w0) + 100 * (rd h 182 31) + 1) dd_goesBy_271 (by omega) s7 rfl ?_
        refine R_ld (v := .inr (.inr 182)) dd_goesBy_272 rfl rfl rfl rfl ?_
        refine R_gf (v := .inr (.inr 210)) dd_goesBy_273 fd_12_168 io_182 (congrArg (fun z : Int => (Sum.inr (Sum.inr z) : LV)) (rf_182_49 hF)) rfl ?_
        refine R_ld (v := .inl v4) dd_goesBy_276 rfl rfl rfl rfl ?_
        refine R_iald (v := (rd h 210 v4)) (n := 10) dd_goesBy_278 ia_210 la_210 (by omega) (rfl) rfl ?_
        refine R_icmp dd_goesBy_279 rfl rfl (fun (c15 : ((rd h 210 w0) + 100 * (rd h 182 31) + 1) ≠ (rd h 210 v4)) => ?_) (fun (c15 : ((rd h 210 w0) + 100 * (rd h 182 31) + 1) = (rd h 210 v4)) => ?_)
        · replace k := k.1 c15
          refine R_inc (y := v6 + 1) (ls' := [some (.inr (.inr 182)), some (.inl v1), some (.inl v2), some (.inl v3), some (.inl v4), some (.inl v5), some (.inl (v6 + 1)), some (.inl w0)]) dd_goesBy_293 rfl (by decide) (by omega) (by omega) rfl rfl ?_
          refine R_goto dd_goesBy_296 rfl ?_
          exact k
        · replace k := k.2 c15
          refine R_ld (v := .inl w0) dd_goesBy_282 rfl rfl rfl rfl ?_
          refine R_st (ls' := [some (.inr (.inr 182)), some (.inl v1), some (.inl v2), some (.inl v3), some (.inl v4), some (.inl w0), some (.inl v6), some (.inl w0)]) dd_goesBy_284 rfl rfl rfl (Nat.le_of_ble_eq_true rfl) rfl rfl ?_
          refine R_ld (v := .inl v3) dd_goesBy_286 rfl rfl rfl rfl ?_
          refine R_ic dd_goesBy_287 (by decide) rfl ?_
          refine R_ld (v := .inl v6) dd_goesBy_288 rfl rfl rfl rfl ?_
          refine R_A dd_goesBy_290 rfl rfl rfl rfl ?_
          refine R_A dd_goesBy_291 rfl rfl rfl rfl ?_
          refine R_st (ls' := [some (.inr (.inr 182)), some (.inl v1), some (.inl v2), some (.inl (zor v3 (zshl 1 v6))), some (.inl v4), some (.inl w0), some (.inl v6), some (.inl w0)]) dd_goesBy_292 rfl rfl rfl (Nat.le_of_ble_eq_true rfl) rfl rfl ?_
          refine R_inc (y := v6 + 1) (ls' := [some (.inr (.inr 182)), some (.inl v1), some (.inl v2), some (.inl (zor v3 (zshl 1 v6))), some (.inl v4), some (.inl w0), some (.inl (v6 + 1)), some (.inl w0)]) dd_goesBy_293 rfl (by decide) (by omega) (by omega) rfl rfl ?_
          refine R_goto dd_goesBy_296 rfl ?_
          exact k
    · replace k := k.2 c12
      refine R_ld (v := .inr (.inr 182)) dd_priceOf_8 rfl rfl rfl rfl ?_
      refine R_gf (v := .inl (rd h 182 30)) dd_priceOf_9 fd_12_341 io_182 (congrArg (fun z : Int => (Sum.inl z : LV)) (rfl)) rfl ?_
      refine R_goto dd_priceOf_12 rfl ?_
      refine R_iret dd_priceOf_37 rfl ?_
      change Rn xs xl e mm_goesBy 268 [some (.inr (.inr 182)), some (.inl v1), some (.inl v2), some (.inl v3), some (.inl v4), some (.inl v5), some (.inl v6), some (.inl w0)] [.inl (rd h 182 30), .inl 100, .inl (rd h 210 w0)] h _
      obtain ⟨s8, k⟩ := k
      refine R_imul (c := 100 * (rd h 182 30)) dd_goesBy_268 (by omega) s8 rfl ?_
      obtain ⟨s9, k⟩ := k
      refine R_iadd (c := (rd h 210 w0) + 100 * (rd h 182 30)) dd_goesBy_269 (by omega) s9 rfl ?_
      refine R_ic dd_goesBy_270 (by decide) rfl ?_
      obtain ⟨s10, k⟩ := k
      refine R_iadd (c := (rd h 210 w0) + 100 * (rd h 182 30) + 1) dd_goesBy_271 (by omega) s10 rfl ?_
      refine R_ld (v := .inr (.inr 182)) dd_goesBy_272 rfl rfl rfl rfl ?_
      refine R_gf (v := .inr (.inr 210)) dd_goesBy_273 fd_12_168 io_182 (congrArg (fun z : Int => (Sum.inr (Sum.inr z) : LV)) (rf_182_49 hF)) rfl ?_
      refine R_ld (v := .inl v4) dd_goesBy_276 rfl rfl rfl rfl ?_
      refine R_iald (v := (rd h 210 v4)) (n := 10) dd_goesBy_278 ia_210 la_210 (by omega) (rfl) rfl ?_
      refine R_icmp dd_goesBy_279 rfl rfl (fun (c16 : ((rd h 210 w0) + 100 * (rd h 182 30) + 1) ≠ (rd h 210 v4)) => ?_) (fun (c16 : ((rd h 210 w0) + 100 * (rd h 182 30) + 1) = (rd h 210 v4)) => ?_)
      · replace k := k.1 c16
        refine R_inc (y := v6 + 1) (ls' := [some (.inr (.inr 182)), some (.inl v1), some (.inl v2), some (.inl v3), some (.inl v4), some (.inl v5), some (.inl (v6 + 1)), some (.inl w0)]) dd_goesBy_293 rfl (by decide) (by omega) (by omega) rfl rfl ?_
        refine R_goto dd_goesBy_296 rfl ?_
        exact k
      · replace k := k.2 c16
        refine R_ld (v := .inl w0) dd_goesBy_282 rfl rfl rfl rfl ?_
        refine R_st (ls' := [some (.inr (.inr 182)), some (.inl v1), some (.inl v2), some (.inl v3), some (.inl v4), some (.inl w0), some (.inl v6), some (.inl w0)]) dd_goesBy_284 rfl rfl rfl (Nat.le_of_ble_eq_true rfl) rfl rfl ?_
        refine R_ld (v := .inl v3) dd_goesBy_286 rfl rfl rfl rfl ?_
        refine R_ic dd_goesBy_287 (by decide) rfl ?_
        refine R_ld (v := .inl v6) dd_goesBy_288 rfl rfl rfl rfl ?_
        refine R_A dd_goesBy_290 rfl rfl rfl rfl ?_
        refine R_A dd_goesBy_291 rfl rfl rfl rfl ?_
        refine R_st (ls' := [some (.inr (.inr 182)), some (.inl v1), some (.inl v2), some (.inl (zor v3 (zshl 1 v6))), some (.inl v4), some (.inl w0), some (.inl v6), some (.inl w0)]) dd_goesBy_292 rfl rfl rfl (Nat.le_of_ble_eq_true rfl) rfl rfl ?_
        refine R_inc (y := v6 + 1) (ls' := [some (.inr (.inr 182)), some (.inl v1), some (.inl v2), some (.inl (zor v3 (zshl 1 v6))), some (.inl v4), some (.inl w0), some (.inl (v6 + 1)), some (.inl w0)]) dd_goesBy_293 rfl (by decide) (by omega) (by omega) rfl rfl ?_
        refine R_goto dd_goesBy_296 rfl ?_
        exact k
