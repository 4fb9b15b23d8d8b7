/-! LM, by program (wip/p2/hand.py): p3: rows of the class's door line -/
def mm_Reader_doorLine : LM_M := (⟨"OneSided$Reader", "doorLine", "(LOneSided$Quarter;)V"⟩, prog_9_method_5_code, 4, none, 7, 2, 0, 644, 643, 1000011)
theorem dd_Reader_doorLine_0 : decode mm_Reader_doorLine.2.1 0 = .ok (.aload_n 1, 1) := by decide +kernel
theorem dd_Reader_doorLine_1 : decode mm_Reader_doorLine.2.1 1 = .ok (.getfield 92, 3) := by decide +kernel
theorem fd_7_92 : fld 7 92 = some (6, 2) := by decide +kernel
theorem dd_Reader_doorLine_4 : decode mm_Reader_doorLine.2.1 4 = .ok (.bipush 14, 2) := by decide +kernel
theorem dd_Reader_doorLine_6 : decode mm_Reader_doorLine.2.1 6 = .ok (.if_icmp .lt (9), 3) := by decide +kernel
theorem dd_Reader_doorLine_15 : decode mm_Reader_doorLine.2.1 15 = .ok (.aload_n 1, 1) := by decide +kernel
theorem dd_Reader_doorLine_16 : decode mm_Reader_doorLine.2.1 16 = .ok (.getfield 95, 3) := by decide +kernel
theorem fd_7_95 : fld 7 95 = some (6, 1) := by decide +kernel
theorem dd_Reader_doorLine_19 : decode mm_Reader_doorLine.2.1 19 = .ok (.aload_n 1, 1) := by decide +kernel
theorem dd_Reader_doorLine_20 : decode mm_Reader_doorLine.2.1 20 = .ok (.getfield 92, 3) := by decide +kernel
theorem dd_Reader_doorLine_23 : decode mm_Reader_doorLine.2.1 23 = .ok (.aaload, 1) := by decide +kernel
theorem dd_Reader_doorLine_24 : decode mm_Reader_doorLine.2.1 24 = .ok (.astore_n 2, 1) := by decide +kernel
theorem dd_Reader_doorLine_25 : decode mm_Reader_doorLine.2.1 25 = .ok (.aload_n 0, 1) := by decide +kernel
theorem dd_Reader_doorLine_26 : decode mm_Reader_doorLine.2.1 26 = .ok (.invokevirtual 99, 3) := by decide +kernel
theorem dd_Reader_doorLine_9 : decode mm_Reader_doorLine.2.1 9 = .ok (.aload_n 0, 1) := by decide +kernel
theorem dd_Reader_doorLine_10 : decode mm_Reader_doorLine.2.1 10 = .ok (.iconst 5, 1) := by decide +kernel
theorem dd_Reader_doorLine_11 : decode mm_Reader_doorLine.2.1 11 = .ok (.invokevirtual 80, 3) := by decide +kernel
theorem dd_Reader_doorLine_14 : decode mm_Reader_doorLine.2.1 14 = .ok (.return_, 1) := by decide +kernel
theorem dd_Reader_doorLine_29 : decode mm_Reader_doorLine.2.1 29 = .ok (.aload_n 2, 1) := by decide +kernel
theorem dd_Reader_doorLine_30 : decode mm_Reader_doorLine.2.1 30 = .ok (.aload_n 0, 1) := by decide +kernel
theorem dd_Reader_doorLine_31 : decode mm_Reader_doorLine.2.1 31 = .ok (.aload_n 1, 1) := by decide +kernel
theorem dd_Reader_doorLine_32 : decode mm_Reader_doorLine.2.1 32 = .ok (.invokevirtual 102, 3) := by decide +kernel
theorem cw_7_102 : cwOk 7 102 0 31 2 4 7 = true := by decide +kernel
theorem mt_Reader_takeNewName : MTB 31 = some mm_Reader_takeNewName := rfl
theorem dd_Reader_doorLine_35 : decode mm_Reader_doorLine.2.1 35 = .ok (.putfield 106, 3) := by decide +kernel
theorem fd_7_106 : fld 7 106 = some (1, 0) := by decide +kernel
theorem fn_1_0 : fin 1 0 = false := by decide +kernel
theorem dd_Reader_doorLine_38 : decode mm_Reader_doorLine.2.1 38 = .ok (.aload_n 2, 1) := by decide +kernel
theorem dd_Reader_doorLine_39 : decode mm_Reader_doorLine.2.1 39 = .ok (.aload_n 0, 1) := by decide +kernel
theorem dd_Reader_doorLine_40 : decode mm_Reader_doorLine.2.1 40 = .ok (.iconst 0, 1) := by decide +kernel
theorem dd_Reader_doorLine_41 : decode mm_Reader_doorLine.2.1 41 = .ok (.aload_n 1, 1) := by decide +kernel
theorem dd_Reader_doorLine_42 : decode mm_Reader_doorLine.2.1 42 = .ok (.getfield 54, 3) := by decide +kernel
theorem fd_7_54 : fld 7 54 = some (6, 0) := by decide +kernel
theorem dd_Reader_doorLine_45 : decode mm_Reader_doorLine.2.1 45 = .ok (.iconst 1, 1) := by decide +kernel
theorem dd_Reader_doorLine_46 : decode mm_Reader_doorLine.2.1 46 = .ok (.isub, 1) := by decide +kernel
theorem dd_Reader_doorLine_47 : decode mm_Reader_doorLine.2.1 47 = .ok (.invokevirtual 50, 3) := by decide +kernel
theorem dd_Reader_doorLine_50 : decode mm_Reader_doorLine.2.1 50 = .ok (.putfield 112, 3) := by decide +kernel
theorem fd_7_112 : fld 7 112 = some (1, 2) := by decide +kernel
theorem fn_1_2 : fin 1 2 = false := by decide +kernel
theorem dd_Reader_doorLine_53 : decode mm_Reader_doorLine.2.1 53 = .ok (.aload_n 0, 1) := by decide +kernel
theorem dd_Reader_doorLine_54 : decode mm_Reader_doorLine.2.1 54 = .ok (.iconst 2, 1) := by decide +kernel
theorem dd_Reader_doorLine_55 : decode mm_Reader_doorLine.2.1 55 = .ok (.invokevirtual 46, 3) := by decide +kernel
theorem cw_7_46 : cwOk 7 46 0 25 2 2 7 = true := by decide +kernel
theorem mt_Reader_takeWord : MTB 25 = some mm_Reader_takeWord := rfl
theorem dd_Reader_doorLine_58 : decode mm_Reader_doorLine.2.1 58 = .ok (.aload_n 2, 1) := by decide +kernel
theorem dd_Reader_doorLine_59 : decode mm_Reader_doorLine.2.1 59 = .ok (.aload_n 0, 1) := by decide +kernel
theorem dd_Reader_doorLine_60 : decode mm_Reader_doorLine.2.1 60 = .ok (.aload_n 2, 1) := by decide +kernel
theorem dd_Reader_doorLine_61 : decode mm_Reader_doorLine.2.1 61 = .ok (.getfield 112, 3) := by decide +kernel
theorem dd_Reader_doorLine_64 : decode mm_Reader_doorLine.2.1 64 = .ok (.aload_n 1, 1) := by decide +kernel
theorem dd_Reader_doorLine_65 : decode mm_Reader_doorLine.2.1 65 = .ok (.getfield 54, 3) := by decide +kernel
theorem dd_Reader_doorLine_68 : decode mm_Reader_doorLine.2.1 68 = .ok (.invokevirtual 115, 3) := by decide +kernel
theorem cw_7_115 : cwOk 7 115 0 35 3 3 7 = true := by decide +kernel
theorem mt_Reader_takeOtherRoom : MTB 35 = some mm_Reader_takeOtherRoom := rfl
theorem dd_Reader_doorLine_71 : decode mm_Reader_doorLine.2.1 71 = .ok (.putfield 118, 3) := by decide +kernel
theorem fd_7_118 : fld 7 118 = some (1, 3) := by decide +kernel
theorem fn_1_3 : fin 1 3 = false := by decide +kernel
theorem dd_Reader_doorLine_74 : decode mm_Reader_doorLine.2.1 74 = .ok (.aload_n 2, 1) := by decide +kernel
theorem dd_Reader_doorLine_75 : decode mm_Reader_doorLine.2.1 75 = .ok (.aload_n 0, 1) := by decide +kernel
theorem dd_Reader_doorLine_76 : decode mm_Reader_doorLine.2.1 76 = .ok (.bipush 14, 2) := by decide +kernel
theorem dd_Reader_doorLine_78 : decode mm_Reader_doorLine.2.1 78 = .ok (.invokevirtual 121, 3) := by decide +kernel
theorem cw_7_121 : cwOk 7 121 0 36 2 3 7 = true := by decide +kernel
theorem mt_Reader_takeOneOfFour : MTB 36 = some mm_Reader_takeOneOfFour := rfl
theorem dd_Reader_doorLine_81 : decode mm_Reader_doorLine.2.1 81 = .ok (.putfield 125, 3) := by decide +kernel
theorem fd_7_125 : fld 7 125 = some (1, 1) := by decide +kernel
theorem fn_1_1 : fin 1 1 = false := by decide +kernel
theorem dd_Reader_doorLine_84 : decode mm_Reader_doorLine.2.1 84 = .ok (.aload_n 0, 1) := by decide +kernel
theorem dd_Reader_doorLine_85 : decode mm_Reader_doorLine.2.1 85 = .ok (.iconst 3, 1) := by decide +kernel
theorem dd_Reader_doorLine_86 : decode mm_Reader_doorLine.2.1 86 = .ok (.invokevirtual 126, 3) := by decide +kernel
theorem cw_7_126 : cwOk 7 126 0 37 2 2 7 = true := by decide +kernel
theorem mt_Reader_skipWord : MTB 37 = some mm_Reader_skipWord := rfl
theorem dd_Reader_doorLine_89 : decode mm_Reader_doorLine.2.1 89 = .ok (.istore_n 3, 1) := by decide +kernel
theorem dd_Reader_doorLine_90 : decode mm_Reader_doorLine.2.1 90 = .ok (.aload_n 2, 1) := by decide +kernel
theorem dd_Reader_doorLine_91 : decode mm_Reader_doorLine.2.1 91 = .ok (.iload_n 3, 1) := by decide +kernel
theorem dd_Reader_doorLine_92 : decode mm_Reader_doorLine.2.1 92 = .ok (.ifCond .eq (13), 3) := by decide +kernel
theorem dd_Reader_doorLine_105 : decode mm_Reader_doorLine.2.1 105 = .ok (.iconst 0, 1) := by decide +kernel
theorem dd_Reader_doorLine_95 : decode mm_Reader_doorLine.2.1 95 = .ok (.aload_n 0, 1) := by decide +kernel
theorem dd_Reader_doorLine_96 : decode mm_Reader_doorLine.2.1 96 = .ok (.iconst 0, 1) := by decide +kernel
theorem dd_Reader_doorLine_97 : decode mm_Reader_doorLine.2.1 97 = .ok (.bipush 23, 2) := by decide +kernel
theorem dd_Reader_doorLine_99 : decode mm_Reader_doorLine.2.1 99 = .ok (.invokevirtual 50, 3) := by decide +kernel
theorem dd_Reader_doorLine_102 : decode mm_Reader_doorLine.2.1 102 = .ok (.goto 4, 3) := by decide +kernel
theorem dd_Reader_doorLine_106 : decode mm_Reader_doorLine.2.1 106 = .ok (.putfield 130, 3) := by decide +kernel
theorem fd_7_130 : fld 7 130 = some (1, 4) := by decide +kernel
theorem fn_1_4 : fin 1 4 = false := by decide +kernel
theorem dd_Reader_doorLine_109 : decode mm_Reader_doorLine.2.1 109 = .ok (.iload_n 3, 1) := by decide +kernel
theorem dd_Reader_doorLine_110 : decode mm_Reader_doorLine.2.1 110 = .ok (.ifCond .eq (8), 3) := by decide +kernel
theorem dd_Reader_doorLine_113 : decode mm_Reader_doorLine.2.1 113 = .ok (.aload_n 0, 1) := by decide +kernel
theorem dd_Reader_doorLine_114 : decode mm_Reader_doorLine.2.1 114 = .ok (.iconst 2, 1) := by decide +kernel
theorem dd_Reader_doorLine_115 : decode mm_Reader_doorLine.2.1 115 = .ok (.invokevirtual 46, 3) := by decide +kernel
theorem dd_Reader_doorLine_118 : decode mm_Reader_doorLine.2.1 118 = .ok (.aload_n 2, 1) := by decide +kernel
theorem dd_Reader_doorLine_119 : decode mm_Reader_doorLine.2.1 119 = .ok (.iload_n 3, 1) := by decide +kernel
theorem dd_Reader_doorLine_120 : decode mm_Reader_doorLine.2.1 120 = .ok (.ifCond .eq (18), 3) := by decide +kernel
theorem dd_Reader_doorLine_138 : decode mm_Reader_doorLine.2.1 138 = .ok (.bipush 24, 2) := by decide +kernel
theorem dd_Reader_doorLine_123 : decode mm_Reader_doorLine.2.1 123 = .ok (.aload_n 0, 1) := by decide +kernel
theorem dd_Reader_doorLine_124 : decode mm_Reader_doorLine.2.1 124 = .ok (.aload_n 2, 1) := by decide +kernel
theorem dd_Reader_doorLine_125 : decode mm_Reader_doorLine.2.1 125 = .ok (.getfield 130, 3) := by decide +kernel
theorem dd_Reader_doorLine_128 : decode mm_Reader_doorLine.2.1 128 = .ok (.iconst 1, 1) := by decide +kernel
theorem dd_Reader_doorLine_129 : decode mm_Reader_doorLine.2.1 129 = .ok (.iadd, 1) := by decide +kernel
theorem dd_Reader_doorLine_130 : decode mm_Reader_doorLine.2.1 130 = .ok (.bipush 24, 2) := by decide +kernel
theorem dd_Reader_doorLine_132 : decode mm_Reader_doorLine.2.1 132 = .ok (.invokevirtual 50, 3) := by decide +kernel
theorem dd_Reader_doorLine_135 : decode mm_Reader_doorLine.2.1 135 = .ok (.goto 5, 3) := by decide +kernel
theorem dd_Reader_doorLine_140 : decode mm_Reader_doorLine.2.1 140 = .ok (.putfield 133, 3) := by decide +kernel
theorem fd_7_133 : fld 7 133 = some (1, 5) := by decide +kernel
theorem fn_1_5 : fin 1 5 = false := by decide +kernel
theorem dd_Reader_doorLine_143 : decode mm_Reader_doorLine.2.1 143 = .ok (.aload_n 2, 1) := by decide +kernel
theorem dd_Reader_doorLine_144 : decode mm_Reader_doorLine.2.1 144 = .ok (.aload_n 0, 1) := by decide +kernel
theorem dd_Reader_doorLine_145 : decode mm_Reader_doorLine.2.1 145 = .ok (.iconst 4, 1) := by decide +kernel
theorem dd_Reader_doorLine_146 : decode mm_Reader_doorLine.2.1 146 = .ok (.invokevirtual 126, 3) := by decide +kernel
theorem dd_Reader_doorLine_149 : decode mm_Reader_doorLine.2.1 149 = .ok (.ifCond .eq (12), 3) := by decide +kernel
theorem dd_Reader_doorLine_161 : decode mm_Reader_doorLine.2.1 161 = .ok (.iconst (-1), 1) := by decide +kernel
theorem dd_Reader_doorLine_152 : decode mm_Reader_doorLine.2.1 152 = .ok (.aload_n 0, 1) := by decide +kernel
theorem dd_Reader_doorLine_153 : decode mm_Reader_doorLine.2.1 153 = .ok (.bipush 18, 2) := by decide +kernel
theorem dd_Reader_doorLine_155 : decode mm_Reader_doorLine.2.1 155 = .ok (.invokevirtual 121, 3) := by decide +kernel
theorem dd_Reader_doorLine_158 : decode mm_Reader_doorLine.2.1 158 = .ok (.goto 4, 3) := by decide +kernel
theorem dd_Reader_doorLine_162 : decode mm_Reader_doorLine.2.1 162 = .ok (.putfield 136, 3) := by decide +kernel
theorem fd_7_136 : fld 7 136 = some (1, 6) := by decide +kernel
theorem fn_1_6 : fin 1 6 = false := by decide +kernel
theorem dd_Reader_doorLine_165 : decode mm_Reader_doorLine.2.1 165 = .ok (.aload_n 2, 1) := by decide +kernel
theorem dd_Reader_doorLine_166 : decode mm_Reader_doorLine.2.1 166 = .ok (.aload_n 0, 1) := by decide +kernel
theorem dd_Reader_doorLine_167 : decode mm_Reader_doorLine.2.1 167 = .ok (.iconst 5, 1) := by decide +kernel
theorem dd_Reader_doorLine_168 : decode mm_Reader_doorLine.2.1 168 = .ok (.invokevirtual 126, 3) := by decide +kernel
theorem dd_Reader_doorLine_171 : decode mm_Reader_doorLine.2.1 171 = .ok (.ifCond .eq (13), 3) := by decide +kernel
theorem dd_Reader_doorLine_184 : decode mm_Reader_doorLine.2.1 184 = .ok (.iconst 1, 1) := by decide +kernel
theorem dd_Reader_doorLine_174 : decode mm_Reader_doorLine.2.1 174 = .ok (.aload_n 0, 1) := by decide +kernel
theorem dd_Reader_doorLine_175 : decode mm_Reader_doorLine.2.1 175 = .ok (.iconst 1, 1) := by decide +kernel
theorem dd_Reader_doorLine_176 : decode mm_Reader_doorLine.2.1 176 = .ok (.bipush 9, 2) := by decide +kernel
theorem dd_Reader_doorLine_178 : decode mm_Reader_doorLine.2.1 178 = .ok (.invokevirtual 50, 3) := by decide +kernel
theorem dd_Reader_doorLine_181 : decode mm_Reader_doorLine.2.1 181 = .ok (.goto 4, 3) := by decide +kernel
theorem dd_Reader_doorLine_185 : decode mm_Reader_doorLine.2.1 185 = .ok (.putfield 139, 3) := by decide +kernel
theorem fd_7_139 : fld 7 139 = some (1, 7) := by decide +kernel
theorem fn_1_7 : fin 1 7 = false := by decide +kernel
theorem dd_Reader_doorLine_188 : decode mm_Reader_doorLine.2.1 188 = .ok (.aload_n 2, 1) := by decide +kernel
theorem dd_Reader_doorLine_189 : decode mm_Reader_doorLine.2.1 189 = .ok (.aload_n 0, 1) := by decide +kernel
theorem dd_Reader_doorLine_190 : decode mm_Reader_doorLine.2.1 190 = .ok (.bipush 6, 2) := by decide +kernel
theorem dd_Reader_doorLine_192 : decode mm_Reader_doorLine.2.1 192 = .ok (.invokevirtual 126, 3) := by decide +kernel
theorem dd_Reader_doorLine_195 : decode mm_Reader_doorLine.2.1 195 = .ok (.ifCond .eq (13), 3) := by decide +kernel
theorem dd_Reader_doorLine_208 : decode mm_Reader_doorLine.2.1 208 = .ok (.iconst 0, 1) := by decide +kernel
theorem dd_Reader_doorLine_198 : decode mm_Reader_doorLine.2.1 198 = .ok (.aload_n 0, 1) := by decide +kernel
theorem dd_Reader_doorLine_199 : decode mm_Reader_doorLine.2.1 199 = .ok (.iconst 0, 1) := by decide +kernel
theorem dd_Reader_doorLine_200 : decode mm_Reader_doorLine.2.1 200 = .ok (.bipush 9, 2) := by decide +kernel
theorem dd_Reader_doorLine_202 : decode mm_Reader_doorLine.2.1 202 = .ok (.invokevirtual 50, 3) := by decide +kernel
theorem dd_Reader_doorLine_205 : decode mm_Reader_doorLine.2.1 205 = .ok (.goto 4, 3) := by decide +kernel
theorem dd_Reader_doorLine_209 : decode mm_Reader_doorLine.2.1 209 = .ok (.putfield 142, 3) := by decide +kernel
theorem fd_7_142 : fld 7 142 = some (1, 8) := by decide +kernel
theorem fn_1_8 : fin 1 8 = false := by decide +kernel
theorem dd_Reader_doorLine_212 : decode mm_Reader_doorLine.2.1 212 = .ok (.aload_n 0, 1) := by decide +kernel
theorem dd_Reader_doorLine_213 : decode mm_Reader_doorLine.2.1 213 = .ok (.bipush 59, 2) := by decide +kernel
theorem dd_Reader_doorLine_215 : decode mm_Reader_doorLine.2.1 215 = .ok (.invokevirtual 57, 3) := by decide +kernel
theorem dd_Reader_doorLine_218 : decode mm_Reader_doorLine.2.1 218 = .ok (.aload_n 1, 1) := by decide +kernel
theorem dd_Reader_doorLine_219 : decode mm_Reader_doorLine.2.1 219 = .ok (.dup, 1) := by decide +kernel
theorem dd_Reader_doorLine_220 : decode mm_Reader_doorLine.2.1 220 = .ok (.getfield 92, 3) := by decide +kernel
theorem dd_Reader_doorLine_223 : decode mm_Reader_doorLine.2.1 223 = .ok (.iconst 1, 1) := by decide +kernel
theorem dd_Reader_doorLine_224 : decode mm_Reader_doorLine.2.1 224 = .ok (.iadd, 1) := by decide +kernel
theorem dd_Reader_doorLine_225 : decode mm_Reader_doorLine.2.1 225 = .ok (.putfield 92, 3) := by decide +kernel
theorem fn_6_2 : fin 6 2 = false := by decide +kernel
theorem dd_Reader_doorLine_228 : decode mm_Reader_doorLine.2.1 228 = .ok (.return_, 1) := by decide +kernel
theorem B_Reader_doorLine_0 {xs : Nat → Int} {xl e : Nat} {h : LH} {Q : Option LV → LH → Prop} {q : Int} (hq : q = 5 ∨ q = 32) (hF : RF h) (hP : PT h)
    (k : ((rd h q 2) < 14 →
        (0 ≤ (rd h q 2) ∧ (rd h q 2) < 14) ∧
        (∃ c, c < e ∧ Rn xs xl c mm_Reader_step 0 [some (.inr (.inr 2)), none] [] h (fun r h' => Rn xs xl e mm_Reader_doorLine 29 [some (.inr (.inr 2)), some (.inr (.inr q)), some (.inr (.inr (q + 7 + (rd h q 2)))), none] (r.toList ++ []) h' Q))) ∧
      (14 ≤ (rd h q 2) →
        (∃ c, c < e ∧ Rn xs xl c mm_Reader_fail 0 [some (.inr (.inr 2)), some (.inl 5)] [] h (fun r h' => Rn xs xl e mm_Reader_doorLine 14 [some (.inr (.inr 2)), some (.inr (.inr q)), none, none] (r.toList ++ []) h' Q)))) :
    Rn xs xl e mm_Reader_doorLine 0 [some (.inr (.inr 2)), some (.inr (.inr q)), none, none] [] h Q := by
  refine R_ld (v := .inr (.inr q)) dd_Reader_doorLine_0 rfl rfl rfl rfl ?_
  refine R_gf (v := .inl (rd h q 2)) dd_Reader_doorLine_1 fd_7_92 (io_q hq) (congrArg (fun z : Int => (Sum.inl z : LV)) (rfl)) rfl ?_
  refine R_bi dd_Reader_doorLine_4 (by decide) rfl ?_
  refine R_icmp dd_Reader_doorLine_6 rfl rfl (fun (c4 : (rd h q 2) < 14) => ?_) (fun (c4 : 14 ≤ (rd h q 2)) => ?_)
  · replace k := k.1 c4
    refine R_ld (v := .inr (.inr q)) dd_Reader_doorLine_15 rfl rfl rfl rfl ?_
    refine R_gf (v := .inr (.inr (q + 1))) dd_Reader_doorLine_16 fd_7_95 (io_q hq) (congrArg (fun z : Int => (Sum.inr (Sum.inr z) : LV)) (rq_arr hF hq)) rfl ?_
    refine R_ld (v := .inr (.inr q)) dd_Reader_doorLine_19 rfl rfl rfl rfl ?_
    refine R_gf (v := .inl (rd h q 2)) dd_Reader_doorLine_20 fd_7_92 (io_q hq) (congrArg (fun z : Int => (Sum.inl z : LV)) (rfl)) rfl ?_
    obtain ⟨s1, k⟩ := k
    refine R_aald (v := (q + 7 + (rd h q 2))) (n := 14) dd_Reader_doorLine_23 (ia_dq hq) (la_dq hq) s1 (rq_d hP hq s1) rfl ?_
    refine R_st (ls' := [some (.inr (.inr 2)), some (.inr (.inr q)), some (.inr (.inr (q + 7 + (rd h q 2)))), none]) dd_Reader_doorLine_24 rfl rfl rfl (Nat.le_of_ble_eq_true rfl) rfl rfl ?_
    refine R_ld (v := .inr (.inr 2)) dd_Reader_doorLine_25 rfl rfl rfl rfl ?_
    obtain ⟨c, hc, k⟩ := k
    exact R_call (as := [.inr (.inr 2)]) (rest := []) (M' := mm_Reader_step) (ls0 := [some (.inr (.inr 2)), none]) dd_Reader_doorLine_26 rfl rfl (cw_v cw_7_99 io_2 rfl rfl (Nat.le_of_ble_eq_true rfl) (Nat.le_of_ble_eq_true rfl)) mt_Reader_step rfl hc rfl k
  · replace k := k.2 c4
    refine R_ld (v := .inr (.inr 2)) dd_Reader_doorLine_9 rfl rfl rfl rfl ?_
    refine R_ic dd_Reader_doorLine_10 (by decide) rfl ?_
    obtain ⟨c, hc, k⟩ := k
    exact R_call (as := [.inr (.inr 2), .inl 5]) (rest := []) (M' := mm_Reader_fail) (ls0 := [some (.inr (.inr 2)), some (.inl 5)]) dd_Reader_doorLine_11 rfl rfl (cw_v cw_7_80 io_2 rfl rfl (Nat.le_of_ble_eq_true rfl) (Nat.le_of_ble_eq_true rfl)) mt_Reader_fail rfl hc rfl k
theorem B_Reader_doorLine_14 {xs : Nat → Int} {xl e : Nat} {h : LH} {Q : Option LV → LH → Prop} {q : Int} (hq : q = 5 ∨ q = 32) (hF : RF h)
    (k : Q none h) :
    Rn xs xl e mm_Reader_doorLine 14 [some (.inr (.inr 2)), some (.inr (.inr q)), none, none] [] h Q := by
  exact R_vret dd_Reader_doorLine_14 rfl k
theorem B_Reader_doorLine_29 {xs : Nat → Int} {xl e : Nat} {h : LH} {Q : Option LV → LH → Prop} {q : Int} (hq : q = 5 ∨ q = 32) {d : Int} (hd : q + 7 ≤ d ∧ d ≤ q + 20) (hF : RF h)
    (k : (∃ c, c < e ∧ Rn xs xl c mm_Reader_takeNewName 0 [some (.inr (.inr 2)), some (.inr (.inr q)), none, none] [] h (fun r h' => Rn xs xl e mm_Reader_doorLine 35 [some (.inr (.inr 2)), some (.inr (.inr q)), some (.inr (.inr d)), none] (r.toList ++ [.inr (.inr d)]) h' Q))) :
    Rn xs xl e mm_Reader_doorLine 29 [some (.inr (.inr 2)), some (.inr (.inr q)), some (.inr (.inr d)), none] [] h Q := by
  refine R_ld (v := .inr (.inr d)) dd_Reader_doorLine_29 rfl rfl rfl rfl ?_
  refine R_ld (v := .inr (.inr 2)) dd_Reader_doorLine_30 rfl rfl rfl rfl ?_
  refine R_ld (v := .inr (.inr q)) dd_Reader_doorLine_31 rfl rfl rfl rfl ?_
  obtain ⟨c, hc, k⟩ := k
  exact R_call (as := [.inr (.inr 2), .inr (.inr q)]) (rest := [.inr (.inr d)]) (M' := mm_Reader_takeNewName) (ls0 := [some (.inr (.inr 2)), some (.inr (.inr q)), none, none]) dd_Reader_doorLine_32 rfl rfl (cw_v cw_7_102 io_2 rfl rfl (Nat.le_of_ble_eq_true rfl) (Nat.le_of_ble_eq_true rfl)) mt_Reader_takeNewName rfl hc rfl k
theorem B_Reader_doorLine_35 {xs : Nat → Int} {xl e : Nat} {h : LH} {Q : Option LV → LH → Prop} {w1 : Int} {q : Int} (hq : q = 5 ∨ q = 32) {d : Int} (hd : q + 7 ≤ d ∧ d ≤ q + 20) (hF : RF h)
    (k : (-2147483648 ≤ (rd h q 0) - 1 ∧ (rd h q 0) - 1 ≤ 2147483647) ∧
      (∃ c, c < e ∧ Rn xs xl c mm_Reader_takeNumber 0 [some (.inr (.inr 2)), some (.inl 0), some (.inl ((rd h q 0) - 1)), none] [] (wr h d 0 w1) (fun r h' => Rn xs xl e mm_Reader_doorLine 50 [some (.inr (.inr 2)), some (.inr (.inr q)), some (.inr (.inr d)), none] (r.toList ++ [.inr (.inr d)]) h' Q))) :
    Rn xs xl e mm_Reader_doorLine 35 [some (.inr (.inr 2)), some (.inr (.inr q)), some (.inr (.inr d)), none] [.inr (.inl w1), .inr (.inr d)] h Q := by
  refine R_pf (z := w1) dd_Reader_doorLine_35 fd_7_106 (io_d hq hd) fn_1_0 rfl rfl ?_
  refine R_ld (v := .inr (.inr d)) dd_Reader_doorLine_38 rfl rfl rfl rfl ?_
  refine R_ld (v := .inr (.inr 2)) dd_Reader_doorLine_39 rfl rfl rfl rfl ?_
  refine R_ic dd_Reader_doorLine_40 (by decide) rfl ?_
  refine R_ld (v := .inr (.inr q)) dd_Reader_doorLine_41 rfl rfl rfl rfl ?_
  refine R_gf (v := .inl (rd h q 0)) dd_Reader_doorLine_42 fd_7_54 (io_q hq) (congrArg (fun z : Int => (Sum.inl z : LV)) (rdw_ne (by omega))) rfl ?_
  refine R_ic dd_Reader_doorLine_45 (by decide) rfl ?_
  obtain ⟨s1, k⟩ := k
  refine R_isub (c := (rd h q 0) - 1) dd_Reader_doorLine_46 (by omega) s1 rfl ?_
  obtain ⟨c, hc, k⟩ := k
  exact R_call (as := [.inr (.inr 2), .inl 0, .inl ((rd h q 0) - 1)]) (rest := [.inr (.inr d)]) (M' := mm_Reader_takeNumber) (ls0 := [some (.inr (.inr 2)), some (.inl 0), some (.inl ((rd h q 0) - 1)), none]) dd_Reader_doorLine_47 rfl rfl (cw_v cw_7_50 io_2 rfl rfl (Nat.le_of_ble_eq_true rfl) (Nat.le_of_ble_eq_true rfl)) mt_Reader_takeNumber rfl hc rfl k
theorem B_Reader_doorLine_50 {xs : Nat → Int} {xl e : Nat} {h : LH} {Q : Option LV → LH → Prop} {w1 : Int} {q : Int} (hq : q = 5 ∨ q = 32) {d : Int} (hd : q + 7 ≤ d ∧ d ≤ q + 20) (hF : RF h)
    (k : (∃ c, c < e ∧ Rn xs xl c mm_Reader_takeWord 0 [some (.inr (.inr 2)), some (.inl 2)] [] (wr h d 2 w1) (fun r h' => Rn xs xl e mm_Reader_doorLine 58 [some (.inr (.inr 2)), some (.inr (.inr q)), some (.inr (.inr d)), none] (r.toList ++ []) h' Q))) :
    Rn xs xl e mm_Reader_doorLine 50 [some (.inr (.inr 2)), some (.inr (.inr q)), some (.inr (.inr d)), none] [.inl w1, .inr (.inr d)] h Q := by
  refine R_pf (z := w1) dd_Reader_doorLine_50 fd_7_112 (io_d hq hd) fn_1_2 rfl rfl ?_
  refine R_ld (v := .inr (.inr 2)) dd_Reader_doorLine_53 rfl rfl rfl rfl ?_
  refine R_ic dd_Reader_doorLine_54 (by decide) rfl ?_
  obtain ⟨c, hc, k⟩ := k
  exact R_call (as := [.inr (.inr 2), .inl 2]) (rest := []) (M' := mm_Reader_takeWord) (ls0 := [some (.inr (.inr 2)), some (.inl 2)]) dd_Reader_doorLine_55 rfl rfl (cw_v cw_7_46 io_2 rfl rfl (Nat.le_of_ble_eq_true rfl) (Nat.le_of_ble_eq_true rfl)) mt_Reader_takeWord rfl hc rfl k
theorem B_Reader_doorLine_58 {xs : Nat → Int} {xl e : Nat} {h : LH} {Q : Option LV → LH → Prop} {q : Int} (hq : q = 5 ∨ q = 32) {d : Int} (hd : q + 7 ≤ d ∧ d ≤ q + 20) (hF : RF h)
    (k : (∃ c, c < e ∧ Rn xs xl c mm_Reader_takeOtherRoom 0 [some (.inr (.inr 2)), some (.inl (rd h d 2)), some (.inl (rd h q 0))] [] h (fun r h' => Rn xs xl e mm_Reader_doorLine 71 [some (.inr (.inr 2)), some (.inr (.inr q)), some (.inr (.inr d)), none] (r.toList ++ [.inr (.inr d)]) h' Q))) :
    Rn xs xl e mm_Reader_doorLine 58 [some (.inr (.inr 2)), some (.inr (.inr q)), some (.inr (.inr d)), none] [] h Q := by
  refine R_ld (v := .inr (.inr d)) dd_Reader_doorLine_58 rfl rfl rfl rfl ?_
  refine R_ld (v := .inr (.inr 2)) dd_Reader_doorLine_59 rfl rfl rfl rfl ?_
  refine R_ld (v := .inr (.inr d)) dd_Reader_doorLine_60 rfl rfl rfl rfl ?_
  refine R_gf (v := .inl (rd h d 2)) dd_Reader_doorLine_61 fd_7_112 (io_d hq hd) (congrArg (fun z : Int => (Sum.inl z : LV)) (rfl)) rfl ?_
  refine R_ld (v := .inr (.inr q)) dd_Reader_doorLine_64 rfl rfl rfl rfl ?_
  refine R_gf (v := .inl (rd h q 0)) dd_Reader_doorLine_65 fd_7_54 (io_q hq) (congrArg (fun z : Int => (Sum.inl z : LV)) (rfl)) rfl ?_
  obtain ⟨c, hc, k⟩ := k
  exact R_call (as := [.inr (.inr 2), .inl (rd h d 2), .inl (rd h q 0)]) (rest := [.inr (.inr d)]) (M' := mm_Reader_takeOtherRoom) (ls0 := [some (.inr (.inr 2)), some (.inl (rd h d 2)), some (.inl (rd h q 0))]) dd_Reader_doorLine_68 rfl rfl (cw_v cw_7_115 io_2 rfl rfl (Nat.le_of_ble_eq_true rfl) (Nat.le_of_ble_eq_true rfl)) mt_Reader_takeOtherRoom rfl hc rfl k
theorem B_Reader_doorLine_71 {xs : Nat → Int} {xl e : Nat} {h : LH} {Q : Option LV → LH → Prop} {w1 : Int} {q : Int} (hq : q = 5 ∨ q = 32) {d : Int} (hd : q + 7 ≤ d ∧ d ≤ q + 20) (hF : RF h)
    (k : (∃ c, c < e ∧ Rn xs xl c mm_Reader_takeOneOfFour 0 [some (.inr (.inr 2)), some (.inl 14), none] [] (wr h d 3 w1) (fun r h' => Rn xs xl e mm_Reader_doorLine 81 [some (.inr (.inr 2)), some (.inr (.inr q)), some (.inr (.inr d)), none] (r.toList ++ [.inr (.inr d)]) h' Q))) :
    Rn xs xl e mm_Reader_doorLine 71 [some (.inr (.inr 2)), some (.inr (.inr q)), some (.inr (.inr d)), none] [.inl w1, .inr (.inr d)] h Q := by
  refine R_pf (z := w1) dd_Reader_doorLine_71 fd_7_118 (io_d hq hd) fn_1_3 rfl rfl ?_
  refine R_ld (v := .inr (.inr d)) dd_Reader_doorLine_74 rfl rfl rfl rfl ?_
  refine R_ld (v := .inr (.inr 2)) dd_Reader_doorLine_75 rfl rfl rfl rfl ?_
  refine R_bi dd_Reader_doorLine_76 (by decide) rfl ?_
  obtain ⟨c, hc, k⟩ := k
  exact R_call (as := [.inr (.inr 2), .inl 14]) (rest := [.inr (.inr d)]) (M' := mm_Reader_takeOneOfFour) (ls0 := [some (.inr (.inr 2)), some (.inl 14), none]) dd_Reader_doorLine_78 rfl rfl (cw_v cw_7_121 io_2 rfl rfl (Nat.le_of_ble_eq_true rfl) (Nat.le_of_ble_eq_true rfl)) mt_Reader_takeOneOfFour rfl hc rfl k
theorem B_Reader_doorLine_81 {xs : Nat → Int} {xl e : Nat} {h : LH} {Q : Option LV → LH → Prop} {w1 : Int} {q : Int} (hq : q = 5 ∨ q = 32) {d : Int} (hd : q + 7 ≤ d ∧ d ≤ q + 20) (hF : RF h)
    (k : (∃ c, c < e ∧ Rn xs xl c mm_Reader_skipWord 0 [some (.inr (.inr 2)), some (.inl 3)] [] (wr h d 1 w1) (fun r h' => Rn xs xl e mm_Reader_doorLine 89 [some (.inr (.inr 2)), some (.inr (.inr q)), some (.inr (.inr d)), none] (r.toList ++ []) h' Q))) :
    Rn xs xl e mm_Reader_doorLine 81 [some (.inr (.inr 2)), some (.inr (.inr q)), some (.inr (.inr d)), none] [.inl w1, .inr (.inr d)] h Q := by
  refine R_pf (z := w1) dd_Reader_doorLine_81 fd_7_125 (io_d hq hd) fn_1_1 rfl rfl ?_
  refine R_ld (v := .inr (.inr 2)) dd_Reader_doorLine_84 rfl rfl rfl rfl ?_
  refine R_ic dd_Reader_doorLine_85 (by decide) rfl ?_
  obtain ⟨c, hc, k⟩ := k
  exact R_call (as := [.inr (.inr 2), .inl 3]) (rest := []) (M' := mm_Reader_skipWord) (ls0 := [some (.inr (.inr 2)), some (.inl 3)]) dd_Reader_doorLine_86 rfl rfl (cw_v cw_7_126 io_2 rfl rfl (Nat.le_of_ble_eq_true rfl) (Nat.le_of_ble_eq_true rfl)) mt_Reader_skipWord rfl hc rfl k
theorem B_Reader_doorLine_89 {xs : Nat → Int} {xl e : Nat} {h : LH} {Q : Option LV → LH → Prop} {w0 : Int} {q : Int} (hq : q = 5 ∨ q = 32) {d : Int} (hd : q + 7 ≤ d ∧ d ≤ q + 20) (hF : RF h)
    (k : (w0 = 0 →
        Rn xs xl e mm_Reader_doorLine 106 [some (.inr (.inr 2)), some (.inr (.inr q)), some (.inr (.inr d)), some (.inl w0)] [.inl 0, .inr (.inr d)] h Q) ∧
      (w0 ≠ 0 →
        (∃ c, c < e ∧ Rn xs xl c mm_Reader_takeNumber 0 [some (.inr (.inr 2)), some (.inl 0), some (.inl 23), none] [] h (fun r h' => Rn xs xl e mm_Reader_doorLine 102 [some (.inr (.inr 2)), some (.inr (.inr q)), some (.inr (.inr d)), some (.inl w0)] (r.toList ++ [.inr (.inr d)]) h' Q)))) :
    Rn xs xl e mm_Reader_doorLine 89 [some (.inr (.inr 2)), some (.inr (.inr q)), some (.inr (.inr d)), none] [.inl w0] h Q := by
  refine R_st (ls' := [some (.inr (.inr 2)), some (.inr (.inr q)), some (.inr (.inr d)), some (.inl w0)]) dd_Reader_doorLine_89 rfl rfl rfl (Nat.le_of_ble_eq_true rfl) rfl rfl ?_
  refine R_ld (v := .inr (.inr d)) dd_Reader_doorLine_90 rfl rfl rfl rfl ?_
  refine R_ld (v := .inl w0) dd_Reader_doorLine_91 rfl rfl rfl rfl ?_
  refine R_if dd_Reader_doorLine_92 rfl rfl (fun (c2 : w0 = 0) => ?_) (fun (c2 : w0 ≠ 0) => ?_)
  · replace k := k.1 c2
    refine R_ic dd_Reader_doorLine_105 (by decide) rfl ?_
    exact k
  · replace k := k.2 c2
    refine R_ld (v := .inr (.inr 2)) dd_Reader_doorLine_95 rfl rfl rfl rfl ?_
    refine R_ic dd_Reader_doorLine_96 (by decide) rfl ?_
    refine R_bi dd_Reader_doorLine_97 (by decide) rfl ?_
    obtain ⟨c, hc, k⟩ := k
    exact R_call (as := [.inr (.inr 2), .inl 0, .inl 23]) (rest := [.inr (.inr d)]) (M' := mm_Reader_takeNumber) (ls0 := [some (.inr (.inr 2)), some (.inl 0), some (.inl 23), none]) dd_Reader_doorLine_99 rfl rfl (cw_v cw_7_50 io_2 rfl rfl (Nat.le_of_ble_eq_true rfl) (Nat.le_of_ble_eq_true rfl)) mt_Reader_takeNumber rfl hc rfl k
theorem B_Reader_doorLine_102 {xs : Nat → Int} {xl e : Nat} {h : LH} {Q : Option LV → LH → Prop} {v3 w1 : Int} {q : Int} (hq : q = 5 ∨ q = 32) {d : Int} (hd : q + 7 ≤ d ∧ d ≤ q + 20) (hF : RF h)
    (k : Rn xs xl e mm_Reader_doorLine 106 [some (.inr (.inr 2)), some (.inr (.inr q)), some (.inr (.inr d)), some (.inl v3)] [.inl w1, .inr (.inr d)] h Q) :
    Rn xs xl e mm_Reader_doorLine 102 [some (.inr (.inr 2)), some (.inr (.inr q)), some (.inr (.inr d)), some (.inl v3)] [.inl w1, .inr (.inr d)] h Q := by
  refine R_goto dd_Reader_doorLine_102 rfl ?_
  exact k
theorem B_Reader_doorLine_106 {xs : Nat → Int} {xl e : Nat} {h : LH} {Q : Option LV → LH → Prop} {v3 w1 : Int} {q : Int} (hq : q = 5 ∨ q = 32) {d : Int} (hd : q + 7 ≤ d ∧ d ≤ q + 20) (hF : RF h)
    (k : (v3 = 0 →
        Rn xs xl e mm_Reader_doorLine 118 [some (.inr (.inr 2)), some (.inr (.inr q)), some (.inr (.inr d)), some (.inl v3)] [] (wr h d 4 w1) Q) ∧
      (v3 ≠ 0 →
        (∃ c, c < e ∧ Rn xs xl c mm_Reader_takeWord 0 [some (.inr (.inr 2)), some (.inl 2)] [] (wr h d 4 w1) (fun r h' => Rn xs xl e mm_Reader_doorLine 118 [some (.inr (.inr 2)), some (.inr (.inr q)), some (.inr (.inr d)), some (.inl v3)] (r.toList ++ []) h' Q)))) :
    Rn xs xl e mm_Reader_doorLine 106 [some (.inr (.inr 2)), some (.inr (.inr q)), some (.inr (.inr d)), some (.inl v3)] [.inl w1, .inr (.inr d)] h Q := by
  refine R_pf (z := w1) dd_Reader_doorLine_106 fd_7_130 (io_d hq hd) fn_1_4 rfl rfl ?_
  refine R_ld (v := .inl v3) dd_Reader_doorLine_109 rfl rfl rfl rfl ?_
  refine R_if dd_Reader_doorLine_110 rfl rfl (fun (c2 : v3 = 0) => ?_) (fun (c2 : v3 ≠ 0) => ?_)
  · replace k := k.1 c2
    exact k
  · replace k := k.2 c2
    refine R_ld (v := .inr (.inr 2)) dd_Reader_doorLine_113 rfl rfl rfl rfl ?_
    refine R_ic dd_Reader_doorLine_114 (by decide) rfl ?_
    obtain ⟨c, hc, k⟩ := k
    exact R_call (as := [.inr (.inr 2), .inl 2]) (rest := []) (M' := mm_Reader_takeWord) (ls0 := [some (.inr (.inr 2)), some (.inl 2)]) dd_Reader_doorLine_115 rfl rfl (cw_v cw_7_46 io_2 rfl rfl (Nat.le_of_ble_eq_true rfl) (Nat.le_of_ble_eq_true rfl)) mt_Reader_takeWord rfl hc rfl k
theorem B_Reader_doorLine_118 {xs : Nat → Int} {xl e : Nat} {h : LH} {Q : Option LV → LH → Prop} {v3 : Int} {q : Int} (hq : q = 5 ∨ q = 32) {d : Int} (hd : q + 7 ≤ d ∧ d ≤ q + 20) (hF : RF h)
    (k : (v3 = 0 →
        Rn xs xl e mm_Reader_doorLine 140 [some (.inr (.inr 2)), some (.inr (.inr q)), some (.inr (.inr d)), some (.inl v3)] [.inl 24, .inr (.inr d)] h Q) ∧
      (v3 ≠ 0 →
        (-2147483648 ≤ (rd h d 4) + 1 ∧ (rd h d 4) + 1 ≤ 2147483647) ∧
        (∃ c, c < e ∧ Rn xs xl c mm_Reader_takeNumber 0 [some (.inr (.inr 2)), some (.inl ((rd h d 4) + 1)), some (.inl 24), none] [] h (fun r h' => Rn xs xl e mm_Reader_doorLine 135 [some (.inr (.inr 2)), some (.inr (.inr q)), some (.inr (.inr d)), some (.inl v3)] (r.toList ++ [.inr (.inr d)]) h' Q)))) :
    Rn xs xl e mm_Reader_doorLine 118 [some (.inr (.inr 2)), some (.inr (.inr q)), some (.inr (.inr d)), some (.inl v3)] [] h Q := by
  refine R_ld (v := .inr (.inr d)) dd_Reader_doorLine_118 rfl rfl rfl rfl ?_
  refine R_ld (v := .inl v3) dd_Reader_doorLine_119 rfl rfl rfl rfl ?_
  refine R_if dd_Reader_doorLine_120 rfl rfl (fun (c3 : v3 = 0) => ?_) (fun (c3 : v3 ≠ 0) => ?_)
  · replace k := k.1 c3
    refine R_bi dd_Reader_doorLine_138 (by decide) rfl ?_
    exact k
  · replace k := k.2 c3
    refine R_ld (v := .inr (.inr 2)) dd_Reader_doorLine_123 rfl rfl rfl rfl ?_
    refine R_ld (v := .inr (.inr d)) dd_Reader_doorLine_124 rfl rfl rfl rfl ?_
    refine R_gf (v := .inl (rd h d 4)) dd_Reader_doorLine_125 fd_7_130 (io_d hq hd) (congrArg (fun z : Int => (Sum.inl z : LV)) (rfl)) rfl ?_
    refine R_ic dd_Reader_doorLine_128 (by decide) rfl ?_
    obtain ⟨s1, k⟩ := k
    refine R_iadd (c := (rd h d 4) + 1) dd_Reader_doorLine_129 (by omega) s1 rfl ?_
    refine R_bi dd_Reader_doorLine_130 (by decide) rfl ?_
    obtain ⟨c, hc, k⟩ := k
    exact R_call (as := [.inr (.inr 2), .inl ((rd h d 4) + 1), .inl 24]) (rest := [.inr (.inr d)]) (M' := mm_Reader_takeNumber) (ls0 := [some (.inr (.inr 2)), some (.inl ((rd h d 4) + 1)), some (.inl 24), none]) dd_Reader_doorLine_132 rfl rfl (cw_v cw_7_50 io_2 rfl rfl (Nat.le_of_ble_eq_true rfl) (Nat.le_of_ble_eq_true rfl)) mt_Reader_takeNumber rfl hc rfl k
theorem B_Reader_doorLine_135 {xs : Nat → Int} {xl e : Nat} {h : LH} {Q : Option LV → LH → Prop} {v3 w1 : Int} {q : Int} (hq : q = 5 ∨ q = 32) {d : Int} (hd : q + 7 ≤ d ∧ d ≤ q + 20) (hF : RF h)
    (k : Rn xs xl e mm_Reader_doorLine 140 [some (.inr (.inr 2)), some (.inr (.inr q)), some (.inr (.inr d)), some (.inl v3)] [.inl w1, .inr (.inr d)] h Q) :
    Rn xs xl e mm_Reader_doorLine 135 [some (.inr (.inr 2)), some (.inr (.inr q)), some (.inr (.inr d)), some (.inl v3)] [.inl w1, .inr (.inr d)] h Q := by
  refine R_goto dd_Reader_doorLine_135 rfl ?_
  exact k
theorem B_Reader_doorLine_140 {xs : Nat → Int} {xl e : Nat} {h : LH} {Q : Option LV → LH → Prop} {v3 w1 : Int} {q : Int} (hq : q = 5 ∨ q = 32) {d : Int} (hd : q + 7 ≤ d ∧ d ≤ q + 20) (hF : RF h)
    (k : (∃ c, c < e ∧ Rn xs xl c mm_Reader_skipWord 0 [some (.inr (.inr 2)), some (.inl 4)] [] (wr h d 5 w1) (fun r h' => Rn xs xl e mm_Reader_doorLine 149 [some (.inr (.inr 2)), some (.inr (.inr q)), some (.inr (.inr d)), some (.inl v3)] (r.toList ++ [.inr (.inr d)]) h' Q))) :
    Rn xs xl e mm_Reader_doorLine 140 [some (.inr (.inr 2)), some (.inr (.inr q)), some (.inr (.inr d)), some (.inl v3)] [.inl w1, .inr (.inr d)] h Q := by
  refine R_pf (z := w1) dd_Reader_doorLine_140 fd_7_133 (io_d hq hd) fn_1_5 rfl rfl ?_
  refine R_ld (v := .inr (.inr d)) dd_Reader_doorLine_143 rfl rfl rfl rfl ?_
  refine R_ld (v := .inr (.inr 2)) dd_Reader_doorLine_144 rfl rfl rfl rfl ?_
  refine R_ic dd_Reader_doorLine_145 (by decide) rfl ?_
  obtain ⟨c, hc, k⟩ := k
  exact R_call (as := [.inr (.inr 2), .inl 4]) (rest := [.inr (.inr d)]) (M' := mm_Reader_skipWord) (ls0 := [some (.inr (.inr 2)), some (.inl 4)]) dd_Reader_doorLine_146 rfl rfl (cw_v cw_7_126 io_2 rfl rfl (Nat.le_of_ble_eq_true rfl) (Nat.le_of_ble_eq_true rfl)) mt_Reader_skipWord rfl hc rfl k
theorem B_Reader_doorLine_149 {xs : Nat → Int} {xl e : Nat} {h : LH} {Q : Option LV → LH → Prop} {v3 w1 : Int} {q : Int} (hq : q = 5 ∨ q = 32) {d : Int} (hd : q + 7 ≤ d ∧ d ≤ q + 20) (hF : RF h)
    (k : (w1 = 0 →
        Rn xs xl e mm_Reader_doorLine 162 [some (.inr (.inr 2)), some (.inr (.inr q)), some (.inr (.inr d)), some (.inl v3)] [.inl (-1), .inr (.inr d)] h Q) ∧
      (w1 ≠ 0 →
        (∃ c, c < e ∧ Rn xs xl c mm_Reader_takeOneOfFour 0 [some (.inr (.inr 2)), some (.inl 18), none] [] h (fun r h' => Rn xs xl e mm_Reader_doorLine 158 [some (.inr (.inr 2)), some (.inr (.inr q)), some (.inr (.inr d)), some (.inl v3)] (r.toList ++ [.inr (.inr d)]) h' Q)))) :
    Rn xs xl e mm_Reader_doorLine 149 [some (.inr (.inr 2)), some (.inr (.inr q)), some (.inr (.inr d)), some (.inl v3)] [.inl w1, .inr (.inr d)] h Q := by
  refine R_if dd_Reader_doorLine_149 rfl rfl (fun (c2 : w1 = 0) => ?_) (fun (c2 : w1 ≠ 0) => ?_)
  · replace k := k.1 c2
    refine R_ic dd_Reader_doorLine_161 (by decide) rfl ?_
    exact k
  · replace k := k.2 c2
    refine R_ld (v := .inr (.inr 2)) dd_Reader_doorLine_152 rfl rfl rfl rfl ?_
    refine R_bi dd_Reader_doorLine_153 (by decide) rfl ?_
    obtain ⟨c, hc, k⟩ := k
    exact R_call (as := [.inr (.inr 2), .inl 18]) (rest := [.inr (.inr d)]) (M' := mm_Reader_takeOneOfFour) (ls0 := [some (.inr (.inr 2)), some (.inl 18), none]) dd_Reader_doorLine_155 rfl rfl (cw_v cw_7_121 io_2 rfl rfl (Nat.le_of_ble_eq_true rfl) (Nat.le_of_ble_eq_true rfl)) mt_Reader_takeOneOfFour rfl hc rfl k
theorem B_Reader_doorLine_158 {xs : Nat → Int} {xl e : Nat} {h : LH} {Q : Option LV → LH → Prop} {v3 w1 : Int} {q : Int} (hq : q = 5 ∨ q = 32) {d : Int} (hd : q + 7 ≤ d ∧ d ≤ q + 20) (hF : RF h)
    (k : Rn xs xl e mm_Reader_doorLine 162 [some (.inr (.inr 2)), some (.inr (.inr q)), some (.inr (.inr d)), some (.inl v3)] [.inl w1, .inr (.inr d)] h Q) :
    Rn xs xl e mm_Reader_doorLine 158 [some (.inr (.inr 2)), some (.inr (.inr q)), some (.inr (.inr d)), some (.inl v3)] [.inl w1, .inr (.inr d)] h Q := by
  refine R_goto dd_Reader_doorLine_158 rfl ?_
  exact k
theorem B_Reader_doorLine_162 {xs : Nat → Int} {xl e : Nat} {h : LH} {Q : Option LV → LH → Prop} {v3 w1 : Int} {q : Int} (hq : q = 5 ∨ q = 32) {d : Int} (hd : q + 7 ≤ d ∧ d ≤ q + 20) (hF : RF h)
    (k : (∃ c, c < e ∧ Rn xs xl c mm_Reader_skipWord 0 [some (.inr (.inr 2)), some (.inl 5)] [] (wr h d 6 w1) (fun r h' => Rn xs xl e mm_Reader_doorLine 171 [some (.inr (.inr 2)), some (.inr (.inr q)), some (.inr (.inr d)), some (.inl v3)] (r.toList ++ [.inr (.inr d)]) h' Q))) :
    Rn xs xl e mm_Reader_doorLine 162 [some (.inr (.inr 2)), some (.inr (.inr q)), some (.inr (.inr d)), some (.inl v3)] [.inl w1, .inr (.inr d)] h Q := by
  refine R_pf (z := w1) dd_Reader_doorLine_162 fd_7_136 (io_d hq hd) fn_1_6 rfl rfl ?_
  refine R_ld (v := .inr (.inr d)) dd_Reader_doorLine_165 rfl rfl rfl rfl ?_
  refine R_ld (v := .inr (.inr 2)) dd_Reader_doorLine_166 rfl rfl rfl rfl ?_
  refine R_ic dd_Reader_doorLine_167 (by decide) rfl ?_
  obtain ⟨c, hc, k⟩ := k
  exact R_call (as := [.inr (.inr 2), .inl 5]) (rest := [.inr (.inr d)]) (M' := mm_Reader_skipWord) (ls0 := [some (.inr (.inr 2)), some (.inl 5)]) dd_Reader_doorLine_168 rfl rfl (cw_v cw_7_126 io_2 rfl rfl (Nat.le_of_ble_eq_true rfl) (Nat.le_of_ble_eq_true rfl)) mt_Reader_skipWord rfl hc rfl k
theorem B_Reader_doorLine_171 {xs : Nat → Int} {xl e : Nat} {h : LH} {Q : Option LV → LH → Prop} {v3 w1 : Int} {q : Int} (hq : q = 5 ∨ q = 32) {d : Int} (hd : q + 7 ≤ d ∧ d ≤ q + 20) (hF : RF h)
    (k : (w1 = 0 →
        Rn xs xl e mm_Reader_doorLine 185 [some (.inr (.inr 2)), some (.inr (.inr q)), some (.inr (.inr d)), some (.inl v3)] [.inl 1, .inr (.inr d)] h Q) ∧
      (w1 ≠ 0 →
        (∃ c, c < e ∧ Rn xs xl c mm_Reader_takeNumber 0 [some (.inr (.inr 2)), some (.inl 1), some (.inl 9), none] [] h (fun r h' => Rn xs xl e mm_Reader_doorLine 181 [some (.inr (.inr 2)), some (.inr (.inr q)), some (.inr (.inr d)), some (.inl v3)] (r.toList ++ [.inr (.inr d)]) h' Q)))) :
    Rn xs xl e mm_Reader_doorLine 171 [some (.inr (.inr 2)), some (.inr (.inr q)), some (.inr (.inr d)), some (.inl v3)] [.inl w1, .inr (.inr d)] h Q := by
  refine R_if dd_Reader_doorLine_171 rfl rfl (fun (c2 : w1 = 0) => ?_) (fun (c2 : w1 ≠ 0) => ?_)
  · replace k := k.1 c2
    refine R_ic dd_Reader_doorLine_184 (by decide) rfl ?_
    exact k
  · replace k := k.2 c2
    refine R_ld (v := .inr (.inr 2)) dd_Reader_doorLine_174 rfl rfl rfl rfl ?_
    refine R_ic dd_Reader_doorLine_175 (by decide) rfl ?_
    refine R_bi dd_Reader_doorLine_176 (by decide) rfl ?_
    obtain ⟨c, hc, k⟩ := k
    exact R_call (as := [.inr (.inr 2), .inl 1, .inl 9]) (rest := [.inr (.inr d)]) (M' := mm_Reader_takeNumber) (ls0 := [some (.inr (.inr 2)), some (.inl 1), some (.inl 9), none]) dd_Reader_doorLine_178 rfl rfl (cw_v cw_7_50 io_2 rfl rfl (Nat.le_of_ble_eq_true rfl) (Nat.le_of_ble_eq_true rfl)) mt_Reader_takeNumber rfl hc rfl k
theorem B_Reader_doorLine_181 {xs : Nat → Int} {xl e : Nat} {h : LH} {Q : Option LV → LH → Prop} {v3 w1 : Int} {q : Int} (hq : q = 5 ∨ q = 32) {d : Int} (hd : q + 7 ≤ d ∧ d ≤ q + 20) (hF : RF h)
    (k : Rn xs xl e mm_Reader_doorLine 185 [some (.inr (.inr 2)), some (.inr (.inr q)), some (.inr (.inr d)), some (.inl v3)] [.inl w1, .inr (.inr d)] h Q) :
    Rn xs xl e mm_Reader_doorLine 181 [some (.inr (.inr 2)), some (.inr (.inr q)), some (.inr (.inr d)), some (.inl v3)] [.inl w1, .inr (.inr d)] h Q := by
  refine R_goto dd_Reader_doorLine_181 rfl ?_
  exact k
theorem B_Reader_doorLine_185 {xs : Nat → Int} {xl e : Nat} {h : LH} {Q : Option LV → LH → Prop} {v3 w1 : Int} {q : Int} (hq : q = 5 ∨ q = 32) {d : Int} (hd : q + 7 ≤ d ∧ d ≤ q + 20) (hF : RF h)
    (k : (∃ c, c < e ∧ Rn xs xl c mm_Reader_skipWord 0 [some (.inr (.inr 2)), some (.inl 6)] [] (wr h d 7 w1) (fun r h' => Rn xs xl e mm_Reader_doorLine 195 [some (.inr (.inr 2)), some (.inr (.inr q)), some (.inr (.inr d)), some (.inl v3)] (r.toList ++ [.inr (.inr d)]) h' Q))) :
    Rn xs xl e mm_Reader_doorLine 185 [some (.inr (.inr 2)), some (.inr (.inr q)), some (.inr (.inr d)), some (.inl v3)] [.inl w1, .inr (.inr d)] h Q := by
  refine R_pf (z := w1) dd_Reader_doorLine_185 fd_7_139 (io_d hq hd) fn_1_7 rfl rfl ?_
  refine R_ld (v := .inr (.inr d)) dd_Reader_doorLine_188 rfl rfl rfl rfl ?_
  refine R_ld (v := .inr (.inr 2)) dd_Reader_doorLine_189 rfl rfl rfl rfl ?_
  refine R_bi dd_Reader_doorLine_190 (by decide) rfl ?_
  obtain ⟨c, hc, k⟩ := k
  exact R_call (as := [.inr (.inr 2), .inl 6]) (rest := [.inr (.inr d)]) (M' := mm_Reader_skipWord) (ls0 := [some (.inr (.inr 2)), some (.inl 6)]) dd_Reader_doorLine_192 rfl rfl (cw_v cw_7_126 io_2 rfl rfl (Nat.le_of_ble_eq_true rfl) (Nat.le_of_ble_eq_true rfl)) mt_Reader_skipWord rfl hc rfl k
theorem B_Reader_doorLine_195 {xs : Nat → Int} {xl e : Nat} {h : LH} {Q : Option LV → LH → Prop} {v3 w1 : Int} {q : Int} (hq : q = 5 ∨ q = 32) {d : Int} (hd : q + 7 ≤ d ∧ d ≤ q + 20) (hF : RF h)
    (k : (w1 = 0 →
        Rn xs xl e mm_Reader_doorLine 209 [some (.inr (.inr 2)), some (.inr (.inr q)), some (.inr (.inr d)), some (.inl v3)] [.inl 0, .inr (.inr d)] h Q) ∧
      (w1 ≠ 0 →
        (∃ c, c < e ∧ Rn xs xl c mm_Reader_takeNumber 0 [some (.inr (.inr 2)), some (.inl 0), some (.inl 9), none] [] h (fun r h' => Rn xs xl e mm_Reader_doorLine 205 [some (.inr (.inr 2)), some (.inr (.inr q)), some (.inr (.inr d)), some (.inl v3)] (r.toList ++ [.inr (.inr d)]) h' Q)))) :
    Rn xs xl e mm_Reader_doorLine 195 [some (.inr (.inr 2)), some (.inr (.inr q)), some (.inr (.inr d)), some (.inl v3)] [.inl w1, .inr (.inr d)] h Q := by
  refine R_if dd_Reader_doorLine_195 rfl rfl (fun (c2 : w1 = 0) => ?_) (fun (c2 : w1 ≠ 0) => ?_)
  · replace k := k.1 c2
    refine R_ic dd_Reader_doorLine_208 (by decide) rfl ?_
    exact k
  · replace k := k.2 c2
    refine R_ld (v := .inr (.inr 2)) dd_Reader_doorLine_198 rfl rfl rfl rfl ?_
    refine R_ic dd_Reader_doorLine_199 (by decide) rfl ?_
    refine R_bi dd_Reader_doorLine_200 (by decide) rfl ?_
    obtain ⟨c, hc, k⟩ := k
    exact R_call (as := [.inr (.inr 2), .inl 0, .inl 9]) (rest := [.inr (.inr d)]) (M' := mm_Reader_takeNumber) (ls0 := [some (.inr (.inr 2)), some (.inl 0), some (.inl 9), none]) dd_Reader_doorLine_202 rfl rfl (cw_v cw_7_50 io_2 rfl rfl (Nat.le_of_ble_eq_true rfl) (Nat.le_of_ble_eq_true rfl)) mt_Reader_takeNumber rfl hc rfl k
theorem B_Reader_doorLine_205 {xs : Nat → Int} {xl e : Nat} {h : LH} {Q : Option LV → LH → Prop} {v3 w1 : Int} {q : Int} (hq : q = 5 ∨ q = 32) {d : Int} (hd : q + 7 ≤ d ∧ d ≤ q + 20) (hF : RF h)
    (k : Rn xs xl e mm_Reader_doorLine 209 [some (.inr (.inr 2)), some (.inr (.inr q)), some (.inr (.inr d)), some (.inl v3)] [.inl w1, .inr (.inr d)] h Q) :
    Rn xs xl e mm_Reader_doorLine 205 [some (.inr (.inr 2)), some (.inr (.inr q)), some (.inr (.inr d)), some (.inl v3)] [.inl w1, .inr (.inr d)] h Q := by
  refine R_goto dd_Reader_doorLine_205 rfl ?_
  exact k
theorem B_Reader_doorLine_209 {xs : Nat → Int} {xl e : Nat} {h : LH} {Q : Option LV → LH → Prop} {v3 w1 : Int} {q : Int} (hq : q = 5 ∨ q = 32) {d : Int} (hd : q + 7 ≤ d ∧ d ≤ q + 20) (hF : RF h)
    (k : (∃ c, c < e ∧ Rn xs xl c mm_Reader_takeSign 0 [some (.inr (.inr 2)), some (.inl 59)] [] (wr h d 8 w1) (fun r h' => Rn xs xl e mm_Reader_doorLine 218 [some (.inr (.inr 2)), some (.inr (.inr q)), some (.inr (.inr d)), some (.inl v3)] (r.toList ++ []) h' Q))) :
    Rn xs xl e mm_Reader_doorLine 209 [some (.inr (.inr 2)), some (.inr (.inr q)), some (.inr (.inr d)), some (.inl v3)] [.inl w1, .inr (.inr d)] h Q := by
  refine R_pf (z := w1) dd_Reader_doorLine_209 fd_7_142 (io_d hq hd) fn_1_8 rfl rfl ?_
  refine R_ld (v := .inr (.inr 2)) dd_Reader_doorLine_212 rfl rfl rfl rfl ?_
  refine R_bi dd_Reader_doorLine_213 (by decide) rfl ?_
  obtain ⟨c, hc, k⟩ := k
  exact R_call (as := [.inr (.inr 2), .inl 59]) (rest := []) (M' := mm_Reader_takeSign) (ls0 := [some (.inr (.inr 2)), some (.inl 59)]) dd_Reader_doorLine_215 rfl rfl (cw_v cw_7_57 io_2 rfl rfl (Nat.le_of_ble_eq_true rfl) (Nat.le_of_ble_eq_true rfl)) mt_Reader_takeSign rfl hc rfl k
theorem B_Reader_doorLine_218 {xs : Nat → Int} {xl e : Nat} {h : LH} {Q : Option LV → LH → Prop} {v3 : Int} {q : Int} (hq : q = 5 ∨ q = 32) {d : Int} (hd : q + 7 ≤ d ∧ d ≤ q + 20) (hF : RF h)
    (k : (-2147483648 ≤ (rd h q 2) + 1 ∧ (rd h q 2) + 1 ≤ 2147483647) ∧
      Q none (wr h q 2 ((rd h q 2) + 1))) :
    Rn xs xl e mm_Reader_doorLine 218 [some (.inr (.inr 2)), some (.inr (.inr q)), some (.inr (.inr d)), some (.inl v3)] [] h Q := by
  refine R_ld (v := .inr (.inr q)) dd_Reader_doorLine_218 rfl rfl rfl rfl ?_
  refine R_A dd_Reader_doorLine_219 rfl rfl rfl rfl ?_
  refine R_gf (v := .inl (rd h q 2)) dd_Reader_doorLine_220 fd_7_92 (io_q hq) (congrArg (fun z : Int => (Sum.inl z : LV)) (rfl)) rfl ?_
  refine R_ic dd_Reader_doorLine_223 (by decide) rfl ?_
  obtain ⟨s1, k⟩ := k
  refine R_iadd (c := (rd h q 2) + 1) dd_Reader_doorLine_224 (by omega) s1 rfl ?_
  refine R_pf (z := ((rd h q 2) + 1)) dd_Reader_doorLine_225 fd_7_92 (io_q hq) fn_6_2 rfl rfl ?_
  exact R_vret dd_Reader_doorLine_228 rfl k
