section
/-! LM, by program (wip/p2/hand.py): p3: rows of the class's reader, the law -/
def mm_Quarter_addLaw : LM_M := (⟨"OneSided$Quarter", "addLaw", "(I)V"⟩, prog_8_method_3_code, 2, none, 6, 2, 0, 692, 690, 691)
def mm_Reader_expression : LM_M := (⟨"OneSided$Reader", "expression", "(LOneSided$Quarter;II)V"⟩, prog_9_method_9_code, 6, none, 7, 4, 0, 684, 683, 1000019)
def mm_Reader_part : LM_M := (⟨"OneSided$Reader", "part", "(LOneSided$Quarter;I)V"⟩, prog_9_method_11_code, 6, none, 7, 3, 0, 688, 687, 1000020)
theorem dd_Quarter_addLaw_0 : decode mm_Quarter_addLaw.2.1 0 = .ok (.aload_n 0, 1) := by decide +kernel
theorem dd_Quarter_addLaw_1 : decode mm_Quarter_addLaw.2.1 1 = .ok (.getfield 48, 3) := by decide +kernel
theorem fd_6_48 : fld 6 48 = some (6, 6) := by decide +kernel
theorem dd_Quarter_addLaw_4 : decode mm_Quarter_addLaw.2.1 4 = .ok (.sipush 1000, 3) := by decide +kernel
theorem dd_Quarter_addLaw_7 : decode mm_Quarter_addLaw.2.1 7 = .ok (.if_icmp .ge (23), 3) := by decide +kernel
theorem dd_Quarter_addLaw_30 : decode mm_Quarter_addLaw.2.1 30 = .ok (.return_, 1) := by decide +kernel
theorem dd_Quarter_addLaw_10 : decode mm_Quarter_addLaw.2.1 10 = .ok (.aload_n 0, 1) := by decide +kernel
theorem dd_Quarter_addLaw_11 : decode mm_Quarter_addLaw.2.1 11 = .ok (.getfield 27, 3) := by decide +kernel
theorem fd_6_27 : fld 6 27 = some (6, 5) := by decide +kernel
theorem dd_Quarter_addLaw_14 : decode mm_Quarter_addLaw.2.1 14 = .ok (.aload_n 0, 1) := by decide +kernel
theorem dd_Quarter_addLaw_15 : decode mm_Quarter_addLaw.2.1 15 = .ok (.getfield 48, 3) := by decide +kernel
theorem dd_Quarter_addLaw_18 : decode mm_Quarter_addLaw.2.1 18 = .ok (.iload_n 1, 1) := by decide +kernel
theorem dd_Quarter_addLaw_19 : decode mm_Quarter_addLaw.2.1 19 = .ok (.iastore, 1) := by decide +kernel
theorem dd_Quarter_addLaw_20 : decode mm_Quarter_addLaw.2.1 20 = .ok (.aload_n 0, 1) := by decide +kernel
theorem dd_Quarter_addLaw_21 : decode mm_Quarter_addLaw.2.1 21 = .ok (.dup, 1) := by decide +kernel
theorem dd_Quarter_addLaw_22 : decode mm_Quarter_addLaw.2.1 22 = .ok (.getfield 48, 3) := by decide +kernel
theorem dd_Quarter_addLaw_25 : decode mm_Quarter_addLaw.2.1 25 = .ok (.iconst 1, 1) := by decide +kernel
theorem dd_Quarter_addLaw_26 : decode mm_Quarter_addLaw.2.1 26 = .ok (.iadd, 1) := by decide +kernel
theorem dd_Quarter_addLaw_27 : decode mm_Quarter_addLaw.2.1 27 = .ok (.putfield 48, 3) := by decide +kernel
theorem fn_6_6 : fin 6 6 = false := by decide +kernel
theorem dd_Reader_expression_0 : decode mm_Reader_expression.2.1 0 = .ok (.iload_n 2, 1) := by decide +kernel
theorem dd_Reader_expression_1 : decode mm_Reader_expression.2.1 1 = .ok (.iconst 4, 1) := by decide +kernel
theorem dd_Reader_expression_2 : decode mm_Reader_expression.2.1 2 = .ok (.if_icmp .lt (10), 3) := by decide +kernel
theorem dd_Reader_expression_12 : decode mm_Reader_expression.2.1 12 = .ok (.aload_n 0, 1) := by decide +kernel
theorem dd_Reader_expression_13 : decode mm_Reader_expression.2.1 13 = .ok (.aload_n 1, 1) := by decide +kernel
theorem dd_Reader_expression_14 : decode mm_Reader_expression.2.1 14 = .ok (.iload_n 2, 1) := by decide +kernel
theorem dd_Reader_expression_15 : decode mm_Reader_expression.2.1 15 = .ok (.iconst 1, 1) := by decide +kernel
theorem dd_Reader_expression_16 : decode mm_Reader_expression.2.1 16 = .ok (.iadd, 1) := by decide +kernel
theorem dd_Reader_expression_17 : decode mm_Reader_expression.2.1 17 = .ok (.iload_n 3, 1) := by decide +kernel
theorem dd_Reader_expression_18 : decode mm_Reader_expression.2.1 18 = .ok (.invokevirtual 170, 3) := by decide +kernel
theorem cw_7_170 : cwOk 7 170 0 40 4 6 7 = true := by decide +kernel
theorem mt_Reader_expression : MTB 40 = some mm_Reader_expression := rfl
theorem dd_Reader_expression_5 : decode mm_Reader_expression.2.1 5 = .ok (.aload_n 0, 1) := by decide +kernel
theorem dd_Reader_expression_6 : decode mm_Reader_expression.2.1 6 = .ok (.aload_n 1, 1) := by decide +kernel
theorem dd_Reader_expression_7 : decode mm_Reader_expression.2.1 7 = .ok (.iload_n 3, 1) := by decide +kernel
theorem dd_Reader_expression_8 : decode mm_Reader_expression.2.1 8 = .ok (.invokevirtual 191, 3) := by decide +kernel
theorem cw_7_191 : cwOk 7 191 0 41 3 6 7 = true := by decide +kernel
theorem mt_Reader_part : MTB 41 = some mm_Reader_part := rfl
theorem dd_Reader_expression_11 : decode mm_Reader_expression.2.1 11 = .ok (.return_, 1) := by decide +kernel
theorem dd_Reader_expression_21 : decode mm_Reader_expression.2.1 21 = .ok (.iconst 0, 1) := by decide +kernel
theorem dd_Reader_expression_22 : decode mm_Reader_expression.2.1 22 = .ok (.istore 4, 2) := by decide +kernel
theorem dd_Reader_expression_24 : decode mm_Reader_expression.2.1 24 = .ok (.iload 4, 2) := by decide +kernel
theorem dd_Reader_expression_26 : decode mm_Reader_expression.2.1 26 = .ok (.sipush 1000, 3) := by decide +kernel
theorem dd_Reader_expression_29 : decode mm_Reader_expression.2.1 29 = .ok (.if_icmp .ge (55), 3) := by decide +kernel
theorem dd_Reader_expression_84 : decode mm_Reader_expression.2.1 84 = .ok (.return_, 1) := by decide +kernel
theorem dd_Reader_expression_32 : decode mm_Reader_expression.2.1 32 = .ok (.aload_n 0, 1) := by decide +kernel
theorem dd_Reader_expression_33 : decode mm_Reader_expression.2.1 33 = .ok (.getfield 61, 3) := by decide +kernel
theorem dd_Reader_expression_36 : decode mm_Reader_expression.2.1 36 = .ok (.ifCond .ne (48), 3) := by decide +kernel
theorem dd_Reader_expression_39 : decode mm_Reader_expression.2.1 39 = .ok (.aload_n 0, 1) := by decide +kernel
theorem dd_Reader_expression_40 : decode mm_Reader_expression.2.1 40 = .ok (.iload_n 2, 1) := by decide +kernel
theorem dd_Reader_expression_41 : decode mm_Reader_expression.2.1 41 = .ok (.invokevirtual 195, 3) := by decide +kernel
theorem cw_7_195 : cwOk 7 195 0 43 2 2 7 = true := by decide +kernel
theorem mt_Reader_operatorOf : MTB 43 = some mm_Reader_operatorOf := rfl
theorem dd_Reader_expression_44 : decode mm_Reader_expression.2.1 44 = .ok (.istore 5, 2) := by decide +kernel
theorem dd_Reader_expression_46 : decode mm_Reader_expression.2.1 46 = .ok (.iload 5, 2) := by decide +kernel
theorem dd_Reader_expression_48 : decode mm_Reader_expression.2.1 48 = .ok (.iconst (-1), 1) := by decide +kernel
theorem dd_Reader_expression_49 : decode mm_Reader_expression.2.1 49 = .ok (.if_icmp .ne (4), 3) := by decide +kernel
theorem dd_Reader_expression_53 : decode mm_Reader_expression.2.1 53 = .ok (.aload_n 0, 1) := by decide +kernel
theorem dd_Reader_expression_54 : decode mm_Reader_expression.2.1 54 = .ok (.invokevirtual 99, 3) := by decide +kernel
theorem dd_Reader_expression_52 : decode mm_Reader_expression.2.1 52 = .ok (.return_, 1) := by decide +kernel
theorem dd_Reader_expression_57 : decode mm_Reader_expression.2.1 57 = .ok (.aload_n 0, 1) := by decide +kernel
theorem dd_Reader_expression_58 : decode mm_Reader_expression.2.1 58 = .ok (.aload_n 1, 1) := by decide +kernel
theorem dd_Reader_expression_59 : decode mm_Reader_expression.2.1 59 = .ok (.iload_n 2, 1) := by decide +kernel
theorem dd_Reader_expression_60 : decode mm_Reader_expression.2.1 60 = .ok (.iconst 1, 1) := by decide +kernel
theorem dd_Reader_expression_61 : decode mm_Reader_expression.2.1 61 = .ok (.iadd, 1) := by decide +kernel
theorem dd_Reader_expression_62 : decode mm_Reader_expression.2.1 62 = .ok (.iload_n 3, 1) := by decide +kernel
theorem dd_Reader_expression_63 : decode mm_Reader_expression.2.1 63 = .ok (.invokevirtual 170, 3) := by decide +kernel
theorem dd_Reader_expression_66 : decode mm_Reader_expression.2.1 66 = .ok (.aload_n 1, 1) := by decide +kernel
theorem dd_Reader_expression_67 : decode mm_Reader_expression.2.1 67 = .ok (.iload 5, 2) := by decide +kernel
theorem dd_Reader_expression_69 : decode mm_Reader_expression.2.1 69 = .ok (.invokevirtual 198, 3) := by decide +kernel
theorem cw_7_198 : cwOk 7 198 0 42 2 2 6 = true := by decide +kernel
theorem mt_Quarter_addLaw : MTB 42 = some mm_Quarter_addLaw := rfl
theorem dd_Reader_expression_72 : decode mm_Reader_expression.2.1 72 = .ok (.iload_n 2, 1) := by decide +kernel
theorem dd_Reader_expression_73 : decode mm_Reader_expression.2.1 73 = .ok (.iconst 1, 1) := by decide +kernel
theorem dd_Reader_expression_74 : decode mm_Reader_expression.2.1 74 = .ok (.if_icmp .ne (4), 3) := by decide +kernel
theorem dd_Reader_expression_78 : decode mm_Reader_expression.2.1 78 = .ok (.iinc 4 1, 3) := by decide +kernel
theorem dd_Reader_expression_81 : decode mm_Reader_expression.2.1 81 = .ok (.goto (-57), 3) := by decide +kernel
theorem dd_Reader_expression_77 : decode mm_Reader_expression.2.1 77 = .ok (.return_, 1) := by decide +kernel
theorem dd_Reader_part_0 : decode mm_Reader_part.2.1 0 = .ok (.aload_n 0, 1) := by decide +kernel
theorem dd_Reader_part_1 : decode mm_Reader_part.2.1 1 = .ok (.getfield 64, 3) := by decide +kernel
theorem dd_Reader_part_4 : decode mm_Reader_part.2.1 4 = .ok (.iconst 3, 1) := by decide +kernel
theorem dd_Reader_part_5 : decode mm_Reader_part.2.1 5 = .ok (.if_icmp .ne (7), 3) := by decide +kernel
theorem dd_Reader_part_12 : decode mm_Reader_part.2.1 12 = .ok (.iconst 0, 1) := by decide +kernel
theorem dd_Reader_part_13 : decode mm_Reader_part.2.1 13 = .ok (.istore_n 3, 1) := by decide +kernel
theorem dd_Reader_part_14 : decode mm_Reader_part.2.1 14 = .ok (.aload_n 0, 1) := by decide +kernel
theorem dd_Reader_part_15 : decode mm_Reader_part.2.1 15 = .ok (.getfield 67, 3) := by decide +kernel
theorem dd_Reader_part_18 : decode mm_Reader_part.2.1 18 = .ok (.bipush 25, 2) := by decide +kernel
theorem dd_Reader_part_20 : decode mm_Reader_part.2.1 20 = .ok (.if_icmp .lt (7), 3) := by decide +kernel
theorem dd_Reader_part_27 : decode mm_Reader_part.2.1 27 = .ok (.iconst 0, 1) := by decide +kernel
theorem dd_Reader_part_28 : decode mm_Reader_part.2.1 28 = .ok (.istore 4, 2) := by decide +kernel
theorem dd_Reader_part_30 : decode mm_Reader_part.2.1 30 = .ok (.aload_n 0, 1) := by decide +kernel
theorem dd_Reader_part_31 : decode mm_Reader_part.2.1 31 = .ok (.bipush 40, 2) := by decide +kernel
theorem dd_Reader_part_33 : decode mm_Reader_part.2.1 33 = .ok (.invokevirtual 201, 3) := by decide +kernel
theorem dd_Reader_part_23 : decode mm_Reader_part.2.1 23 = .ok (.iconst 1, 1) := by decide +kernel
theorem dd_Reader_part_24 : decode mm_Reader_part.2.1 24 = .ok (.goto 4, 3) := by decide +kernel
theorem dd_Reader_part_8 : decode mm_Reader_part.2.1 8 = .ok (.iconst 1, 1) := by decide +kernel
theorem dd_Reader_part_9 : decode mm_Reader_part.2.1 9 = .ok (.goto 4, 3) := by decide +kernel
theorem dd_Reader_part_36 : decode mm_Reader_part.2.1 36 = .ok (.istore 5, 2) := by decide +kernel
theorem dd_Reader_part_38 : decode mm_Reader_part.2.1 38 = .ok (.iload_n 3, 1) := by decide +kernel
theorem dd_Reader_part_39 : decode mm_Reader_part.2.1 39 = .ok (.ifCond .ne (28), 3) := by decide +kernel
theorem dd_Reader_part_67 : decode mm_Reader_part.2.1 67 = .ok (.iload_n 2, 1) := by decide +kernel
theorem dd_Reader_part_68 : decode mm_Reader_part.2.1 68 = .ok (.iconst 5, 1) := by decide +kernel
theorem dd_Reader_part_69 : decode mm_Reader_part.2.1 69 = .ok (.if_icmp .lt (9), 3) := by decide +kernel
theorem dd_Reader_part_78 : decode mm_Reader_part.2.1 78 = .ok (.iload_n 3, 1) := by decide +kernel
theorem dd_Reader_part_79 : decode mm_Reader_part.2.1 79 = .ok (.ifCond .ne (8), 3) := by decide +kernel
theorem dd_Reader_part_87 : decode mm_Reader_part.2.1 87 = .ok (.aload_n 1, 1) := by decide +kernel
theorem dd_Reader_part_88 : decode mm_Reader_part.2.1 88 = .ok (.iload_n 3, 1) := by decide +kernel
theorem dd_Reader_part_89 : decode mm_Reader_part.2.1 89 = .ok (.ifCond .eq (11), 3) := by decide +kernel
theorem dd_Reader_part_92 : decode mm_Reader_part.2.1 92 = .ok (.aload_n 0, 1) := by decide +kernel
theorem dd_Reader_part_93 : decode mm_Reader_part.2.1 93 = .ok (.getfield 174, 3) := by decide +kernel
theorem dd_Reader_part_96 : decode mm_Reader_part.2.1 96 = .ok (.l2i, 1) := by decide +kernel
theorem dd_Reader_part_97 : decode mm_Reader_part.2.1 97 = .ok (.goto 14, 3) := by decide +kernel
theorem dd_Reader_part_111 : decode mm_Reader_part.2.1 111 = .ok (.invokevirtual 198, 3) := by decide +kernel
theorem dd_Reader_part_72 : decode mm_Reader_part.2.1 72 = .ok (.aload_n 0, 1) := by decide +kernel
theorem dd_Reader_part_73 : decode mm_Reader_part.2.1 73 = .ok (.iconst 5, 1) := by decide +kernel
theorem dd_Reader_part_74 : decode mm_Reader_part.2.1 74 = .ok (.invokevirtual 80, 3) := by decide +kernel
theorem dd_Reader_part_42 : decode mm_Reader_part.2.1 42 = .ok (.iload 4, 2) := by decide +kernel
theorem dd_Reader_part_44 : decode mm_Reader_part.2.1 44 = .ok (.ifCond .ne (23), 3) := by decide +kernel
theorem dd_Reader_part_82 : decode mm_Reader_part.2.1 82 = .ok (.iload 4, 2) := by decide +kernel
theorem dd_Reader_part_84 : decode mm_Reader_part.2.1 84 = .ok (.ifCond .eq (37), 3) := by decide +kernel
theorem dd_Reader_part_100 : decode mm_Reader_part.2.1 100 = .ok (.sipush 10000, 3) := by decide +kernel
theorem dd_Reader_part_103 : decode mm_Reader_part.2.1 103 = .ok (.aload_n 0, 1) := by decide +kernel
theorem dd_Reader_part_104 : decode mm_Reader_part.2.1 104 = .ok (.getfield 67, 3) := by decide +kernel
theorem dd_Reader_part_107 : decode mm_Reader_part.2.1 107 = .ok (.iadd, 1) := by decide +kernel
theorem dd_Reader_part_108 : decode mm_Reader_part.2.1 108 = .ok (.bipush 25, 2) := by decide +kernel
theorem dd_Reader_part_110 : decode mm_Reader_part.2.1 110 = .ok (.isub, 1) := by decide +kernel
theorem dd_Reader_part_47 : decode mm_Reader_part.2.1 47 = .ok (.iload 5, 2) := by decide +kernel
theorem dd_Reader_part_49 : decode mm_Reader_part.2.1 49 = .ok (.ifCond .ne (18), 3) := by decide +kernel
theorem dd_Reader_part_121 : decode mm_Reader_part.2.1 121 = .ok (.iload 5, 2) := by decide +kernel
theorem dd_Reader_part_123 : decode mm_Reader_part.2.1 123 = .ok (.ifCond .eq (25), 3) := by decide +kernel
theorem dd_Reader_part_126 : decode mm_Reader_part.2.1 126 = .ok (.aload_n 0, 1) := by decide +kernel
theorem dd_Reader_part_127 : decode mm_Reader_part.2.1 127 = .ok (.invokevirtual 99, 3) := by decide +kernel
theorem dd_Reader_part_52 : decode mm_Reader_part.2.1 52 = .ok (.aload_n 0, 1) := by decide +kernel
theorem dd_Reader_part_53 : decode mm_Reader_part.2.1 53 = .ok (.getfield 67, 3) := by decide +kernel
theorem dd_Reader_part_56 : decode mm_Reader_part.2.1 56 = .ok (.bipush 22, 2) := by decide +kernel
theorem dd_Reader_part_58 : decode mm_Reader_part.2.1 58 = .ok (.if_icmp .eq (9), 3) := by decide +kernel
theorem dd_Reader_part_148 : decode mm_Reader_part.2.1 148 = .ok (.aload_n 0, 1) := by decide +kernel
theorem dd_Reader_part_149 : decode mm_Reader_part.2.1 149 = .ok (.invokevirtual 99, 3) := by decide +kernel
theorem dd_Reader_part_61 : decode mm_Reader_part.2.1 61 = .ok (.aload_n 0, 1) := by decide +kernel
theorem dd_Reader_part_62 : decode mm_Reader_part.2.1 62 = .ok (.iconst 1, 1) := by decide +kernel
theorem dd_Reader_part_63 : decode mm_Reader_part.2.1 63 = .ok (.invokevirtual 80, 3) := by decide +kernel
theorem dd_Reader_part_66 : decode mm_Reader_part.2.1 66 = .ok (.return_, 1) := by decide +kernel
theorem dd_Reader_part_77 : decode mm_Reader_part.2.1 77 = .ok (.return_, 1) := by decide +kernel
theorem dd_Reader_part_114 : decode mm_Reader_part.2.1 114 = .ok (.aload_n 0, 1) := by decide +kernel
theorem dd_Reader_part_115 : decode mm_Reader_part.2.1 115 = .ok (.invokevirtual 99, 3) := by decide +kernel
theorem dd_Reader_part_118 : decode mm_Reader_part.2.1 118 = .ok (.goto 49, 3) := by decide +kernel
theorem dd_Reader_part_167 : decode mm_Reader_part.2.1 167 = .ok (.return_, 1) := by decide +kernel
theorem dd_Reader_part_130 : decode mm_Reader_part.2.1 130 = .ok (.aload_n 0, 1) := by decide +kernel
theorem dd_Reader_part_131 : decode mm_Reader_part.2.1 131 = .ok (.aload_n 1, 1) := by decide +kernel
theorem dd_Reader_part_132 : decode mm_Reader_part.2.1 132 = .ok (.iconst 0, 1) := by decide +kernel
theorem dd_Reader_part_133 : decode mm_Reader_part.2.1 133 = .ok (.iload_n 2, 1) := by decide +kernel
theorem dd_Reader_part_134 : decode mm_Reader_part.2.1 134 = .ok (.iconst 1, 1) := by decide +kernel
theorem dd_Reader_part_135 : decode mm_Reader_part.2.1 135 = .ok (.iadd, 1) := by decide +kernel
theorem dd_Reader_part_136 : decode mm_Reader_part.2.1 136 = .ok (.invokevirtual 170, 3) := by decide +kernel
theorem dd_Reader_part_139 : decode mm_Reader_part.2.1 139 = .ok (.aload_n 0, 1) := by decide +kernel
theorem dd_Reader_part_140 : decode mm_Reader_part.2.1 140 = .ok (.bipush 41, 2) := by decide +kernel
theorem dd_Reader_part_142 : decode mm_Reader_part.2.1 142 = .ok (.invokevirtual 57, 3) := by decide +kernel
theorem dd_Reader_part_145 : decode mm_Reader_part.2.1 145 = .ok (.goto 22, 3) := by decide +kernel
theorem dd_Reader_part_152 : decode mm_Reader_part.2.1 152 = .ok (.aload_n 0, 1) := by decide +kernel
theorem dd_Reader_part_153 : decode mm_Reader_part.2.1 153 = .ok (.aload_n 1, 1) := by decide +kernel
theorem dd_Reader_part_154 : decode mm_Reader_part.2.1 154 = .ok (.iload_n 2, 1) := by decide +kernel
theorem dd_Reader_part_155 : decode mm_Reader_part.2.1 155 = .ok (.iconst 1, 1) := by decide +kernel
theorem dd_Reader_part_156 : decode mm_Reader_part.2.1 156 = .ok (.iadd, 1) := by decide +kernel
theorem dd_Reader_part_157 : decode mm_Reader_part.2.1 157 = .ok (.invokevirtual 191, 3) := by decide +kernel
theorem dd_Reader_part_160 : decode mm_Reader_part.2.1 160 = .ok (.aload_n 1, 1) := by decide +kernel
theorem dd_Reader_part_161 : decode mm_Reader_part.2.1 161 = .ok (.sipush 10004, 3) := by decide +kernel
theorem dd_Reader_part_164 : decode mm_Reader_part.2.1 164 = .ok (.invokevirtual 198, 3) := by decide +kernel
theorem rq_law {h : LH} {q : Int} (hF : RF h) (hq : q = 5 ∨ q = 32) : rd h q ((5 : Nat) : Int) = q + 3 := by
  rcases hq with rfl | rfl
  · exact hF 5 5 8 (by decide +kernel) (by decide +kernel)
  · exact hF 32 5 35 (by decide +kernel) (by decide +kernel)
theorem ia_lq {q : Int} (hq : q = 5 ∨ q = 32) : isA NC (q + 3) 1 = true := by
  rcases hq with rfl | rfl <;> decide +kernel
theorem la_lq {q : Int} (hq : q = 5 ∨ q = 32) : (lay (q + 3).toNat).2.2 = 1000 := by
  rcases hq with rfl | rfl <;> decide +kernel
theorem B_Quarter_addLaw_0 {xs : Nat → Int} {xl e : Nat} {h : LH} {Q : Option LV → LH → Prop} {v1 : Int} {q : Int} (hq : q = 5 ∨ q = 32) (hF : RF h)
    (k : (1000 ≤ (rd h q 6) →
        Q none h) ∧
      ((rd h q 6) < 1000 →
        (0 ≤ (rd h q 6) ∧ (rd h q 6) < 1000) ∧
        (-2147483648 ≤ (rd h q 6) + 1 ∧ (rd h q 6) + 1 ≤ 2147483647) ∧
        Q none (wr (wr h (q + 3) (rd h q 6) v1) q 6 ((rd h q 6) + 1)))) :
    Rn xs xl e mm_Quarter_addLaw 0 [some (.inr (.inr q)), some (.inl v1)] [] h Q := by
  refine R_ld (v := .inr (.inr q)) dd_Quarter_addLaw_0 rfl rfl rfl rfl ?_
  refine R_gf (v := .inl (rd h q 6)) dd_Quarter_addLaw_1 fd_6_48 (io_q hq) rfl rfl ?_
  refine R_si dd_Quarter_addLaw_4 (by decide) rfl ?_
  refine R_icmp dd_Quarter_addLaw_7 rfl rfl (fun (c3 : 1000 ≤ (rd h q 6)) => ?_) (fun (c3 : (rd h q 6) < 1000) => ?_)
  · replace k := k.1 c3
    exact R_vret dd_Quarter_addLaw_30 rfl k
  · replace k := k.2 c3
    refine R_ld (v := .inr (.inr q)) dd_Quarter_addLaw_10 rfl rfl rfl rfl ?_
    refine R_gf (v := .inr (.inr (q + 3))) dd_Quarter_addLaw_11 fd_6_27 (io_q hq) (congrArg (fun z : Int => (Sum.inr (Sum.inr z) : LV)) (rq_law hF hq)) rfl ?_
    refine R_ld (v := .inr (.inr q)) dd_Quarter_addLaw_14 rfl rfl rfl rfl ?_
    refine R_gf (v := .inl (rd h q 6)) dd_Quarter_addLaw_15 fd_6_48 (io_q hq) rfl rfl ?_
    refine R_ld (v := .inl v1) dd_Quarter_addLaw_18 rfl rfl rfl rfl ?_
    obtain ⟨s1, k⟩ := k
    refine R_iast (n := 1000) dd_Quarter_addLaw_19 (ia_lq hq) (la_lq hq) s1 rfl ?_
    refine R_ld (v := .inr (.inr q)) dd_Quarter_addLaw_20 rfl rfl rfl rfl ?_
    refine R_A dd_Quarter_addLaw_21 rfl rfl rfl rfl ?_
    refine R_gf (v := .inl (rd h q 6)) dd_Quarter_addLaw_22 fd_6_48 (io_q hq) (congrArg (fun z : Int => (Sum.inl z : LV)) (rdw_ne (by omega))) rfl ?_
    refine R_ic dd_Quarter_addLaw_25 (by decide) rfl ?_
    obtain ⟨s2, k⟩ := k
    refine R_iadd (c := (rd h q 6) + 1) dd_Quarter_addLaw_26 (by omega) s2 rfl ?_
    refine R_pf (z := ((rd h q 6) + 1)) dd_Quarter_addLaw_27 fd_6_48 (io_q hq) fn_6_6 rfl rfl ?_
    exact R_vret dd_Quarter_addLaw_30 rfl k
theorem B_Reader_expression_0 {xs : Nat → Int} {xl e : Nat} {h : LH} {Q : Option LV → LH → Prop} {v2 v3 : Int} {q : Int} (hq : q = 5 ∨ q = 32) (hF : RF h)
    (k : (v2 < 4 →
        (-2147483648 ≤ v2 + 1 ∧ v2 + 1 ≤ 2147483647) ∧
        (∃ c, c < e ∧ Rn xs xl c mm_Reader_expression 0 [some (.inr (.inr 2)), some (.inr (.inr q)), some (.inl (v2 + 1)), some (.inl v3), none, none] [] h (fun r h' => Rn xs xl e mm_Reader_expression 21 [some (.inr (.inr 2)), some (.inr (.inr q)), some (.inl v2), some (.inl v3), none, none] (r.toList ++ []) h' Q))) ∧
      (4 ≤ v2 →
        (∃ c, c < e ∧ Rn xs xl c mm_Reader_part 0 [some (.inr (.inr 2)), some (.inr (.inr q)), some (.inl v3), none, none, none] [] h (fun r h' => Rn xs xl e mm_Reader_expression 11 [some (.inr (.inr 2)), some (.inr (.inr q)), some (.inl v2), some (.inl v3), none, none] (r.toList ++ []) h' Q)))) :
    Rn xs xl e mm_Reader_expression 0 [some (.inr (.inr 2)), some (.inr (.inr q)), some (.inl v2), some (.inl v3), none, none] [] h Q := by
  refine R_ld (v := .inl v2) dd_Reader_expression_0 rfl rfl rfl rfl ?_
  refine R_ic dd_Reader_expression_1 (by decide) rfl ?_
  refine R_icmp dd_Reader_expression_2 rfl rfl (fun (c4 : v2 < 4) => ?_) (fun (c4 : 4 ≤ v2) => ?_)
  · replace k := k.1 c4
    refine R_ld (v := .inr (.inr 2)) dd_Reader_expression_12 rfl rfl rfl rfl ?_
    refine R_ld (v := .inr (.inr q)) dd_Reader_expression_13 rfl rfl rfl rfl ?_
    refine R_ld (v := .inl v2) dd_Reader_expression_14 rfl rfl rfl rfl ?_
    refine R_ic dd_Reader_expression_15 (by decide) rfl ?_
    obtain ⟨s1, k⟩ := k
    refine R_iadd (c := v2 + 1) dd_Reader_expression_16 (by omega) s1 rfl ?_
    refine R_ld (v := .inl v3) dd_Reader_expression_17 rfl rfl rfl rfl ?_
    obtain ⟨c, hc, k⟩ := k
    exact R_call (as := [.inr (.inr 2), .inr (.inr q), .inl (v2 + 1), .inl v3]) (rest := []) (M' := mm_Reader_expression) (ls0 := [some (.inr (.inr 2)), some (.inr (.inr q)), some (.inl (v2 + 1)), some (.inl v3), none, none]) dd_Reader_expression_18 rfl rfl (cw_v cw_7_170 io_2 rfl rfl (Nat.le_of_ble_eq_true rfl) (Nat.le_of_ble_eq_true rfl)) mt_Reader_expression rfl hc rfl k
  · replace k := k.2 c4
    refine R_ld (v := .inr (.inr 2)) dd_Reader_expression_5 rfl rfl rfl rfl ?_
    refine R_ld (v := .inr (.inr q)) dd_Reader_expression_6 rfl rfl rfl rfl ?_
    refine R_ld (v := .inl v3) dd_Reader_expression_7 rfl rfl rfl rfl ?_
    obtain ⟨c, hc, k⟩ := k
    exact R_call (as := [.inr (.inr 2), .inr (.inr q), .inl v3]) (rest := []) (M' := mm_Reader_part) (ls0 := [some (.inr (.inr 2)), some (.inr (.inr q)), some (.inl v3), none, none, none]) dd_Reader_expression_8 rfl rfl (cw_v cw_7_191 io_2 rfl rfl (Nat.le_of_ble_eq_true rfl) (Nat.le_of_ble_eq_true rfl)) mt_Reader_part rfl hc rfl k
theorem B_Reader_expression_11 {xs : Nat → Int} {xl e : Nat} {h : LH} {Q : Option LV → LH → Prop} {v2 v3 : Int} {q : Int} (hq : q = 5 ∨ q = 32) (hF : RF h)
    (k : Q none h) :
    Rn xs xl e mm_Reader_expression 11 [some (.inr (.inr 2)), some (.inr (.inr q)), some (.inl v2), some (.inl v3), none, none] [] h Q := by
  exact R_vret dd_Reader_expression_11 rfl k
theorem B_Reader_expression_21 {xs : Nat → Int} {xl e : Nat} {h : LH} {Q : Option LV → LH → Prop} {v2 v3 : Int} {q : Int} (hq : q = 5 ∨ q = 32) (hF : RF h)
    (k : Rn xs xl e mm_Reader_expression 24 [some (.inr (.inr 2)), some (.inr (.inr q)), some (.inl v2), some (.inl v3), some (.inl 0), none] [] h Q) :
    Rn xs xl e mm_Reader_expression 21 [some (.inr (.inr 2)), some (.inr (.inr q)), some (.inl v2), some (.inl v3), none, none] [] h Q := by
  refine R_ic dd_Reader_expression_21 (by decide) rfl ?_
  refine R_st (ls' := [some (.inr (.inr 2)), some (.inr (.inr q)), some (.inl v2), some (.inl v3), some (.inl 0), none]) dd_Reader_expression_22 rfl rfl rfl (Nat.le_of_ble_eq_true rfl) rfl rfl ?_
  exact k
theorem B_Reader_expression_24 {xs : Nat → Int} {xl e : Nat} {h : LH} {Q : Option LV → LH → Prop} {v2 v3 v4 : Int} {q : Int} (hq : q = 5 ∨ q = 32) {o5 : Option LV} (hF : RF h) (r_v4 : 0 ≤ v4 ∧ v4 ≤ 1000)
    (k : (1000 ≤ v4 →
        Q none h) ∧
      (v4 < 1000 →
        ((rd h 2 8) ≠ 0 →
          Q none h) ∧
        ((rd h 2 8) = 0 →
          (∃ c, c < e ∧ Rn xs xl c mm_Reader_operatorOf 0 [some (.inr (.inr 2)), some (.inl v2)] [] h (fun r h' => Rn xs xl e mm_Reader_expression 44 [some (.inr (.inr 2)), some (.inr (.inr q)), some (.inl v2), some (.inl v3), some (.inl v4), o5] (r.toList ++ []) h' Q))))) :
    Rn xs xl e mm_Reader_expression 24 [some (.inr (.inr 2)), some (.inr (.inr q)), some (.inl v2), some (.inl v3), some (.inl v4), o5] [] h Q := by
  refine R_ld (v := .inl v4) dd_Reader_expression_24 rfl rfl rfl rfl ?_
  refine R_si dd_Reader_expression_26 (by decide) rfl ?_
  refine R_icmp dd_Reader_expression_29 rfl rfl (fun (c2 : 1000 ≤ v4) => ?_) (fun (c2 : v4 < 1000) => ?_)
  · replace k := k.1 c2
    exact R_vret dd_Reader_expression_84 rfl k
  · replace k := k.2 c2
    refine R_ld (v := .inr (.inr 2)) dd_Reader_expression_32 rfl rfl rfl rfl ?_
    refine R_gf (v := .inl (rd h 2 8)) dd_Reader_expression_33 fd_7_61 io_2 (congrArg (fun z : Int => (Sum.inl z : LV)) (rfl)) rfl ?_
    refine R_if dd_Reader_expression_36 rfl rfl (fun (c3 : (rd h 2 8) ≠ 0) => ?_) (fun (c3 : (rd h 2 8) = 0) => ?_)
    · replace k := k.1 c3
      exact R_vret dd_Reader_expression_84 rfl k
    · replace k := k.2 c3
      refine R_ld (v := .inr (.inr 2)) dd_Reader_expression_39 rfl rfl rfl rfl ?_
      refine R_ld (v := .inl v2) dd_Reader_expression_40 rfl rfl rfl rfl ?_
      obtain ⟨c, hc, k⟩ := k
      exact R_call (as := [.inr (.inr 2), .inl v2]) (rest := []) (M' := mm_Reader_operatorOf) (ls0 := [some (.inr (.inr 2)), some (.inl v2)]) dd_Reader_expression_41 rfl rfl (cw_v cw_7_195 io_2 rfl rfl (Nat.le_of_ble_eq_true rfl) (Nat.le_of_ble_eq_true rfl)) mt_Reader_operatorOf rfl hc rfl k
theorem B_Reader_expression_44 {xs : Nat → Int} {xl e : Nat} {h : LH} {Q : Option LV → LH → Prop} {v2 v3 v4 w0 : Int} {q : Int} (hq : q = 5 ∨ q = 32) {o5 : Option LV} (hF : RF h)
    (k : (w0 ≠ (-1) →
        (∃ c, c < e ∧ Rn xs xl c mm_Reader_step 0 [some (.inr (.inr 2)), none] [] h (fun r h' => Rn xs xl e mm_Reader_expression 57 [some (.inr (.inr 2)), some (.inr (.inr q)), some (.inl v2), some (.inl v3), some (.inl v4), some (.inl w0)] (r.toList ++ []) h' Q))) ∧
      (w0 = (-1) →
        Q none h)) :
    Rn xs xl e mm_Reader_expression 44 [some (.inr (.inr 2)), some (.inr (.inr q)), some (.inl v2), some (.inl v3), some (.inl v4), o5] [.inl w0] h Q := by
  refine R_st (ls' := [some (.inr (.inr 2)), some (.inr (.inr q)), some (.inl v2), some (.inl v3), some (.inl v4), some (.inl w0)]) dd_Reader_expression_44 rfl rfl rfl (Nat.le_of_ble_eq_true rfl) rfl rfl ?_
  refine R_ld (v := .inl w0) dd_Reader_expression_46 rfl rfl rfl rfl ?_
  refine R_ic dd_Reader_expression_48 (by decide) rfl ?_
  refine R_icmp dd_Reader_expression_49 rfl rfl (fun (c2 : w0 ≠ (-1)) => ?_) (fun (c2 : w0 = (-1)) => ?_)
  · replace k := k.1 c2
    refine R_ld (v := .inr (.inr 2)) dd_Reader_expression_53 rfl rfl rfl rfl ?_
    obtain ⟨c, hc, k⟩ := k
    exact R_call (as := [.inr (.inr 2)]) (rest := []) (M' := mm_Reader_step) (ls0 := [some (.inr (.inr 2)), none]) dd_Reader_expression_54 rfl rfl (cw_v cw_7_99 io_2 rfl rfl (Nat.le_of_ble_eq_true rfl) (Nat.le_of_ble_eq_true rfl)) mt_Reader_step rfl hc rfl k
  · replace k := k.2 c2
    exact R_vret dd_Reader_expression_52 rfl k
theorem B_Reader_expression_57 {xs : Nat → Int} {xl e : Nat} {h : LH} {Q : Option LV → LH → Prop} {v2 v3 v4 v5 : Int} {q : Int} (hq : q = 5 ∨ q = 32) (hF : RF h)
    (k : (-2147483648 ≤ v2 + 1 ∧ v2 + 1 ≤ 2147483647) ∧
      (∃ c, c < e ∧ Rn xs xl c mm_Reader_expression 0 [some (.inr (.inr 2)), some (.inr (.inr q)), some (.inl (v2 + 1)), some (.inl v3), none, none] [] h (fun r h' => Rn xs xl e mm_Reader_expression 66 [some (.inr (.inr 2)), some (.inr (.inr q)), some (.inl v2), some (.inl v3), some (.inl v4), some (.inl v5)] (r.toList ++ []) h' Q))) :
    Rn xs xl e mm_Reader_expression 57 [some (.inr (.inr 2)), some (.inr (.inr q)), some (.inl v2), some (.inl v3), some (.inl v4), some (.inl v5)] [] h Q := by
  refine R_ld (v := .inr (.inr 2)) dd_Reader_expression_57 rfl rfl rfl rfl ?_
  refine R_ld (v := .inr (.inr q)) dd_Reader_expression_58 rfl rfl rfl rfl ?_
  refine R_ld (v := .inl v2) dd_Reader_expression_59 rfl rfl rfl rfl ?_
  refine R_ic dd_Reader_expression_60 (by decide) rfl ?_
  obtain ⟨s1, k⟩ := k
  refine R_iadd (c := v2 + 1) dd_Reader_expression_61 (by omega) s1 rfl ?_
  refine R_ld (v := .inl v3) dd_Reader_expression_62 rfl rfl rfl rfl ?_
  obtain ⟨c, hc, k⟩ := k
  exact R_call (as := [.inr (.inr 2), .inr (.inr q), .inl (v2 + 1), .inl v3]) (rest := []) (M' := mm_Reader_expression) (ls0 := [some (.inr (.inr 2)), some (.inr (.inr q)), some (.inl (v2 + 1)), some (.inl v3), none, none]) dd_Reader_expression_63 rfl rfl (cw_v cw_7_170 io_2 rfl rfl (Nat.le_of_ble_eq_true rfl) (Nat.le_of_ble_eq_true rfl)) mt_Reader_expression rfl hc rfl k
theorem B_Reader_expression_66 {xs : Nat → Int} {xl e : Nat} {h : LH} {Q : Option LV → LH → Prop} {v2 v3 v4 v5 : Int} {q : Int} (hq : q = 5 ∨ q = 32) (hF : RF h)
    (k : (∃ c, c < e ∧ Rn xs xl c mm_Quarter_addLaw 0 [some (.inr (.inr q)), some (.inl v5)] [] h (fun r h' => Rn xs xl e mm_Reader_expression 72 [some (.inr (.inr 2)), some (.inr (.inr q)), some (.inl v2), some (.inl v3), some (.inl v4), some (.inl v5)] (r.toList ++ []) h' Q))) :
    Rn xs xl e mm_Reader_expression 66 [some (.inr (.inr 2)), some (.inr (.inr q)), some (.inl v2), some (.inl v3), some (.inl v4), some (.inl v5)] [] h Q := by
  refine R_ld (v := .inr (.inr q)) dd_Reader_expression_66 rfl rfl rfl rfl ?_
  refine R_ld (v := .inl v5) dd_Reader_expression_67 rfl rfl rfl rfl ?_
  obtain ⟨c, hc, k⟩ := k
  exact R_call (as := [.inr (.inr q), .inl v5]) (rest := []) (M' := mm_Quarter_addLaw) (ls0 := [some (.inr (.inr q)), some (.inl v5)]) dd_Reader_expression_69 rfl rfl (cw_v cw_7_198 (io_q hq) rfl rfl (Nat.le_of_ble_eq_true rfl) (Nat.le_of_ble_eq_true rfl)) mt_Quarter_addLaw rfl hc rfl k
theorem B_Reader_expression_72 {xs : Nat → Int} {xl e : Nat} {h : LH} {Q : Option LV → LH → Prop} {v2 v3 v4 v5 : Int} {q : Int} (hq : q = 5 ∨ q = 32) (hF : RF h) (r_v4 : 0 ≤ v4 ∧ v4 ≤ 999)
    (k : (v2 ≠ 1 →
        Rn xs xl e mm_Reader_expression 24 [some (.inr (.inr 2)), some (.inr (.inr q)), some (.inl v2), some (.inl v3), some (.inl (v4 + 1)), some (.inl v5)] [] h Q) ∧
      (v2 = 1 →
        Q none h)) :
    Rn xs xl e mm_Reader_expression 72 [some (.inr (.inr 2)), some (.inr (.inr q)), some (.inl v2), some (.inl v3), some (.inl v4), some (.inl v5)] [] h Q := by
  refine R_ld (v := .inl v2) dd_Reader_expression_72 rfl rfl rfl rfl ?_
  refine R_ic dd_Reader_expression_73 (by decide) rfl ?_
  refine R_icmp dd_Reader_expression_74 rfl rfl (fun (c1 : v2 ≠ 1) => ?_) (fun (c1 : v2 = 1) => ?_)
  · replace k := k.1 c1
    refine R_inc (y := v4 + 1) (ls' := [some (.inr (.inr 2)), some (.inr (.inr q)), some (.inl v2), some (.inl v3), some (.inl (v4 + 1)), some (.inl v5)]) dd_Reader_expression_78 rfl (by decide) (by omega) (by omega) rfl rfl ?_
    refine R_goto dd_Reader_expression_81 rfl ?_
    exact k
  · replace k := k.2 c1
    exact R_vret dd_Reader_expression_77 rfl k
theorem B_Reader_part_0 {xs : Nat → Int} {xl e : Nat} {h : LH} {Q : Option LV → LH → Prop} {v2 : Int} {q : Int} (hq : q = 5 ∨ q = 32) (hF : RF h)
    (k : ((rd h 2 3) ≠ 3 →
        ((rd h 2 7) < 25 →
          (∃ c, c < e ∧ Rn xs xl c mm_Reader_isSign 0 [some (.inr (.inr 2)), some (.inl 40)] [] h (fun r h' => Rn xs xl e mm_Reader_part 36 [some (.inr (.inr 2)), some (.inr (.inr q)), some (.inl v2), some (.inl 0), some (.inl 0), none] (r.toList ++ []) h' Q))) ∧
        (25 ≤ (rd h 2 7) →
          (∃ c, c < e ∧ Rn xs xl c mm_Reader_isSign 0 [some (.inr (.inr 2)), some (.inl 40)] [] h (fun r h' => Rn xs xl e mm_Reader_part 36 [some (.inr (.inr 2)), some (.inr (.inr q)), some (.inl v2), some (.inl 0), some (.inl 1), none] (r.toList ++ []) h' Q)))) ∧
      ((rd h 2 3) = 3 →
        ((rd h 2 7) < 25 →
          (∃ c, c < e ∧ Rn xs xl c mm_Reader_isSign 0 [some (.inr (.inr 2)), some (.inl 40)] [] h (fun r h' => Rn xs xl e mm_Reader_part 36 [some (.inr (.inr 2)), some (.inr (.inr q)), some (.inl v2), some (.inl 1), some (.inl 0), none] (r.toList ++ []) h' Q))) ∧
        (25 ≤ (rd h 2 7) →
          (∃ c, c < e ∧ Rn xs xl c mm_Reader_isSign 0 [some (.inr (.inr 2)), some (.inl 40)] [] h (fun r h' => Rn xs xl e mm_Reader_part 36 [some (.inr (.inr 2)), some (.inr (.inr q)), some (.inl v2), some (.inl 1), some (.inl 1), none] (r.toList ++ []) h' Q))))) :
    Rn xs xl e mm_Reader_part 0 [some (.inr (.inr 2)), some (.inr (.inr q)), some (.inl v2), none, none, none] [] h Q := by
  refine R_ld (v := .inr (.inr 2)) dd_Reader_part_0 rfl rfl rfl rfl ?_
  refine R_gf (v := .inl (rd h 2 3)) dd_Reader_part_1 fd_7_64 io_2 (congrArg (fun z : Int => (Sum.inl z : LV)) (rfl)) rfl ?_
  refine R_ic dd_Reader_part_4 (by decide) rfl ?_
  refine R_icmp dd_Reader_part_5 rfl rfl (fun (c5 : (rd h 2 3) ≠ 3) => ?_) (fun (c5 : (rd h 2 3) = 3) => ?_)
  · replace k := k.1 c5
    refine R_ic dd_Reader_part_12 (by decide) rfl ?_
    refine R_st (ls' := [some (.inr (.inr 2)), some (.inr (.inr q)), some (.inl v2), some (.inl 0), none, none]) dd_Reader_part_13 rfl rfl rfl (Nat.le_of_ble_eq_true rfl) rfl rfl ?_
    refine R_ld (v := .inr (.inr 2)) dd_Reader_part_14 rfl rfl rfl rfl ?_
    refine R_gf (v := .inl (rd h 2 7)) dd_Reader_part_15 fd_7_67 io_2 (congrArg (fun z : Int => (Sum.inl z : LV)) (rfl)) rfl ?_
    refine R_bi dd_Reader_part_18 (by decide) rfl ?_
    refine R_icmp dd_Reader_part_20 rfl rfl (fun (c6 : (rd h 2 7) < 25) => ?_) (fun (c6 : 25 ≤ (rd h 2 7)) => ?_)
    · replace k := k.1 c6
      refine R_ic dd_Reader_part_27 (by decide) rfl ?_
      refine R_st (ls' := [some (.inr (.inr 2)), some (.inr (.inr q)), some (.inl v2), some (.inl 0), some (.inl 0), none]) dd_Reader_part_28 rfl rfl rfl (Nat.le_of_ble_eq_true rfl) rfl rfl ?_
      refine R_ld (v := .inr (.inr 2)) dd_Reader_part_30 rfl rfl rfl rfl ?_
      refine R_bi dd_Reader_part_31 (by decide) rfl ?_
      obtain ⟨c, hc, k⟩ := k
      exact R_call (as := [.inr (.inr 2), .inl 40]) (rest := []) (M' := mm_Reader_isSign) (ls0 := [some (.inr (.inr 2)), some (.inl 40)]) dd_Reader_part_33 rfl rfl (cw_v cw_7_201 io_2 rfl rfl (Nat.le_of_ble_eq_true rfl) (Nat.le_of_ble_eq_true rfl)) mt_Reader_isSign rfl hc rfl k
    · replace k := k.2 c6
      refine R_ic dd_Reader_part_23 (by decide) rfl ?_
      refine R_goto dd_Reader_part_24 rfl ?_
      refine R_st (ls' := [some (.inr (.inr 2)), some (.inr (.inr q)), some (.inl v2), some (.inl 0), some (.inl 1), none]) dd_Reader_part_28 rfl rfl rfl (Nat.le_of_ble_eq_true rfl) rfl rfl ?_
      refine R_ld (v := .inr (.inr 2)) dd_Reader_part_30 rfl rfl rfl rfl ?_
      refine R_bi dd_Reader_part_31 (by decide) rfl ?_
      obtain ⟨c, hc, k⟩ := k
      exact R_call (as := [.inr (.inr 2), .inl 40]) (rest := []) (M' := mm_Reader_isSign) (ls0 := [some (.inr (.inr 2)), some (.inl 40)]) dd_Reader_part_33 rfl rfl (cw_v cw_7_201 io_2 rfl rfl (Nat.le_of_ble_eq_true rfl) (Nat.le_of_ble_eq_true rfl)) mt_Reader_isSign rfl hc rfl k
  · replace k := k.2 c5
    refine R_ic dd_Reader_part_8 (by decide) rfl ?_
    refine R_goto dd_Reader_part_9 rfl ?_
    refine R_st (ls' := [some (.inr (.inr 2)), some (.inr (.inr q)), some (.inl v2), some (.inl 1), none, none]) dd_Reader_part_13 rfl rfl rfl (Nat.le_of_ble_eq_true rfl) rfl rfl ?_
    refine R_ld (v := .inr (.inr 2)) dd_Reader_part_14 rfl rfl rfl rfl ?_
    refine R_gf (v := .inl (rd h 2 7)) dd_Reader_part_15 fd_7_67 io_2 (congrArg (fun z : Int => (Sum.inl z : LV)) (rfl)) rfl ?_
    refine R_bi dd_Reader_part_18 (by decide) rfl ?_
    refine R_icmp dd_Reader_part_20 rfl rfl (fun (c7 : (rd h 2 7) < 25) => ?_) (fun (c7 : 25 ≤ (rd h 2 7)) => ?_)
    · replace k := k.1 c7
      refine R_ic dd_Reader_part_27 (by decide) rfl ?_
      refine R_st (ls' := [some (.inr (.inr 2)), some (.inr (.inr q)), some (.inl v2), some (.inl 1), some (.inl 0), none]) dd_Reader_part_28 rfl rfl rfl (Nat.le_of_ble_eq_true rfl) rfl rfl ?_
      refine R_ld (v := .inr (.inr 2)) dd_Reader_part_30 rfl rfl rfl rfl ?_
      refine R_bi dd_Reader_part_31 (by decide) rfl ?_
      obtain ⟨c, hc, k⟩ := k
      exact R_call (as := [.inr (.inr 2), .inl 40]) (rest := []) (M' := mm_Reader_isSign) (ls0 := [some (.inr (.inr 2)), some (.inl 40)]) dd_Reader_part_33 rfl rfl (cw_v cw_7_201 io_2 rfl rfl (Nat.le_of_ble_eq_true rfl) (Nat.le_of_ble_eq_true rfl)) mt_Reader_isSign rfl hc rfl k
    · replace k := k.2 c7
      refine R_ic dd_Reader_part_23 (by decide) rfl ?_
      refine R_goto dd_Reader_part_24 rfl ?_
      refine R_st (ls' := [some (.inr (.inr 2)), some (.inr (.inr q)), some (.inl v2), some (.inl 1), some (.inl 1), none]) dd_Reader_part_28 rfl rfl rfl (Nat.le_of_ble_eq_true rfl) rfl rfl ?_
      refine R_ld (v := .inr (.inr 2)) dd_Reader_part_30 rfl rfl rfl rfl ?_
      refine R_bi dd_Reader_part_31 (by decide) rfl ?_
      obtain ⟨c, hc, k⟩ := k
      exact R_call (as := [.inr (.inr 2), .inl 40]) (rest := []) (M' := mm_Reader_isSign) (ls0 := [some (.inr (.inr 2)), some (.inl 40)]) dd_Reader_part_33 rfl rfl (cw_v cw_7_201 io_2 rfl rfl (Nat.le_of_ble_eq_true rfl) (Nat.le_of_ble_eq_true rfl)) mt_Reader_isSign rfl hc rfl k
theorem B_Reader_part_36 {xs : Nat → Int} {xl e : Nat} {h : LH} {Q : Option LV → LH → Prop} {v2 v3 v4 w0 : Int} {q : Int} (hq : q = 5 ∨ q = 32) (hF : RF h) (r_v2 : 0 ≤ v2 ∧ v2 ≤ 5)
    (k : (v3 ≠ 0 →
        (v2 < 5 →
          (∃ c, c < e ∧ Rn xs xl c mm_Quarter_addLaw 0 [some (.inr (.inr q)), some (.inl (w32 (rd h 2 6)))] [] h (fun r h' => Rn xs xl e mm_Reader_part 114 [some (.inr (.inr 2)), some (.inr (.inr q)), some (.inl v2), some (.inl v3), some (.inl v4), some (.inl w0)] (r.toList ++ []) h' Q))) ∧
        (5 ≤ v2 →
          (∃ c, c < e ∧ Rn xs xl c mm_Reader_fail 0 [some (.inr (.inr 2)), some (.inl 5)] [] h (fun r h' => Rn xs xl e mm_Reader_part 77 [some (.inr (.inr 2)), some (.inr (.inr q)), some (.inl v2), some (.inl v3), some (.inl v4), some (.inl w0)] (r.toList ++ []) h' Q)))) ∧
      (v3 = 0 →
        (v4 ≠ 0 →
          (v2 < 5 →
            (-2147483648 ≤ (rd h 2 7) + 10000 ∧ (rd h 2 7) + 10000 ≤ 2147483647) ∧
            (-2147483648 ≤ (rd h 2 7) + 9975 ∧ (rd h 2 7) + 9975 ≤ 2147483647) ∧
            (∃ c, c < e ∧ Rn xs xl c mm_Quarter_addLaw 0 [some (.inr (.inr q)), some (.inl ((rd h 2 7) + 9975))] [] h (fun r h' => Rn xs xl e mm_Reader_part 114 [some (.inr (.inr 2)), some (.inr (.inr q)), some (.inl v2), some (.inl v3), some (.inl v4), some (.inl w0)] (r.toList ++ []) h' Q))) ∧
          (5 ≤ v2 →
            (∃ c, c < e ∧ Rn xs xl c mm_Reader_fail 0 [some (.inr (.inr 2)), some (.inl 5)] [] h (fun r h' => Rn xs xl e mm_Reader_part 77 [some (.inr (.inr 2)), some (.inr (.inr q)), some (.inl v2), some (.inl v3), some (.inl v4), some (.inl w0)] (r.toList ++ []) h' Q)))) ∧
        (v4 = 0 →
          (w0 ≠ 0 →
            (v2 < 5 →
              (∃ c, c < e ∧ Rn xs xl c mm_Reader_step 0 [some (.inr (.inr 2)), none] [] h (fun r h' => Rn xs xl e mm_Reader_part 130 [some (.inr (.inr 2)), some (.inr (.inr q)), some (.inl v2), some (.inl v3), some (.inl v4), some (.inl w0)] (r.toList ++ []) h' Q))) ∧
            (5 ≤ v2 →
              (∃ c, c < e ∧ Rn xs xl c mm_Reader_fail 0 [some (.inr (.inr 2)), some (.inl 5)] [] h (fun r h' => Rn xs xl e mm_Reader_part 77 [some (.inr (.inr 2)), some (.inr (.inr q)), some (.inl v2), some (.inl v3), some (.inl v4), some (.inl w0)] (r.toList ++ []) h' Q)))) ∧
          (w0 = 0 →
            ((rd h 2 7) = 22 →
              (v2 < 5 →
                (∃ c, c < e ∧ Rn xs xl c mm_Reader_step 0 [some (.inr (.inr 2)), none] [] h (fun r h' => Rn xs xl e mm_Reader_part 152 [some (.inr (.inr 2)), some (.inr (.inr q)), some (.inl v2), some (.inl v3), some (.inl v4), some (.inl w0)] (r.toList ++ []) h' Q))) ∧
              (5 ≤ v2 →
                (∃ c, c < e ∧ Rn xs xl c mm_Reader_fail 0 [some (.inr (.inr 2)), some (.inl 5)] [] h (fun r h' => Rn xs xl e mm_Reader_part 77 [some (.inr (.inr 2)), some (.inr (.inr q)), some (.inl v2), some (.inl v3), some (.inl v4), some (.inl w0)] (r.toList ++ []) h' Q)))) ∧
            ((rd h 2 7) ≠ 22 →
              (∃ c, c < e ∧ Rn xs xl c mm_Reader_fail 0 [some (.inr (.inr 2)), some (.inl 1)] [] h (fun r h' => Rn xs xl e mm_Reader_part 66 [some (.inr (.inr 2)), some (.inr (.inr q)), some (.inl v2), some (.inl v3), some (.inl v4), some (.inl w0)] (r.toList ++ []) h' Q))))))) :
    Rn xs xl e mm_Reader_part 36 [some (.inr (.inr 2)), some (.inr (.inr q)), some (.inl v2), some (.inl v3), some (.inl v4), none] [.inl w0] h Q := by
  refine R_st (ls' := [some (.inr (.inr 2)), some (.inr (.inr q)), some (.inl v2), some (.inl v3), some (.inl v4), some (.inl w0)]) dd_Reader_part_36 rfl rfl rfl (Nat.le_of_ble_eq_true rfl) rfl rfl ?_
  refine R_ld (v := .inl v3) dd_Reader_part_38 rfl rfl rfl rfl ?_
  refine R_if dd_Reader_part_39 rfl rfl (fun (c12 : v3 ≠ 0) => ?_) (fun (c12 : v3 = 0) => ?_)
  · replace k := k.1 c12
    refine R_ld (v := .inl v2) dd_Reader_part_67 rfl rfl rfl rfl ?_
    refine R_ic dd_Reader_part_68 (by decide) rfl ?_
    refine R_icmp dd_Reader_part_69 rfl rfl (fun (c13 : v2 < 5) => ?_) (fun (c13 : 5 ≤ v2) => ?_)
    · replace k := k.1 c13
      refine R_ld (v := .inl v3) dd_Reader_part_78 rfl rfl rfl rfl ?_
      refine R_if dd_Reader_part_79 rfl rfl (fun (c14 : v3 ≠ 0) => ?_) (fun (c14 : v3 = 0) => ?_)
      · skip
        refine R_ld (v := .inr (.inr q)) dd_Reader_part_87 rfl rfl rfl rfl ?_
        refine R_ld (v := .inl v3) dd_Reader_part_88 rfl rfl rfl rfl ?_
        refine R_if dd_Reader_part_89 rfl rfl (fun (c15 : v3 = 0) => ?_) (fun (c15 : v3 ≠ 0) => ?_)
        · exact absurd c15 (by omega)
        · skip
          refine R_ld (v := .inr (.inr 2)) dd_Reader_part_92 rfl rfl rfl rfl ?_
          refine R_gf (v := .inr (.inl (rd h 2 6))) dd_Reader_part_93 fd_7_174 io_2 (congrArg (fun z : Int => (Sum.inr (Sum.inl z) : LV)) (rfl)) rfl ?_
          refine R_A dd_Reader_part_96 rfl rfl rfl rfl ?_
          refine R_goto dd_Reader_part_97 rfl ?_
          obtain ⟨c, hc, k⟩ := k
          exact R_call (as := [.inr (.inr q), .inl (w32 (rd h 2 6))]) (rest := []) (M' := mm_Quarter_addLaw) (ls0 := [some (.inr (.inr q)), some (.inl (w32 (rd h 2 6)))]) dd_Reader_part_111 rfl rfl (cw_v cw_7_198 (io_q hq) rfl rfl (Nat.le_of_ble_eq_true rfl) (Nat.le_of_ble_eq_true rfl)) mt_Quarter_addLaw rfl hc rfl k
      · exact absurd c14 (by omega)
    · replace k := k.2 c13
      refine R_ld (v := .inr (.inr 2)) dd_Reader_part_72 rfl rfl rfl rfl ?_
      refine R_ic dd_Reader_part_73 (by decide) rfl ?_
      obtain ⟨c, hc, k⟩ := k
      exact R_call (as := [.inr (.inr 2), .inl 5]) (rest := []) (M' := mm_Reader_fail) (ls0 := [some (.inr (.inr 2)), some (.inl 5)]) dd_Reader_part_74 rfl rfl (cw_v cw_7_80 io_2 rfl rfl (Nat.le_of_ble_eq_true rfl) (Nat.le_of_ble_eq_true rfl)) mt_Reader_fail rfl hc rfl k
  · replace k := k.2 c12
    refine R_ld (v := .inl v4) dd_Reader_part_42 rfl rfl rfl rfl ?_
    refine R_if dd_Reader_part_44 rfl rfl (fun (c16 : v4 ≠ 0) => ?_) (fun (c16 : v4 = 0) => ?_)
    · replace k := k.1 c16
      refine R_ld (v := .inl v2) dd_Reader_part_67 rfl rfl rfl rfl ?_
      refine R_ic dd_Reader_part_68 (by decide) rfl ?_
      refine R_icmp dd_Reader_part_69 rfl rfl (fun (c17 : v2 < 5) => ?_) (fun (c17 : 5 ≤ v2) => ?_)
      · replace k := k.1 c17
        refine R_ld (v := .inl v3) dd_Reader_part_78 rfl rfl rfl rfl ?_
        refine R_if dd_Reader_part_79 rfl rfl (fun (c18 : v3 ≠ 0) => ?_) (fun (c18 : v3 = 0) => ?_)
        · exact absurd c18 (by omega)
        · skip
          refine R_ld (v := .inl v4) dd_Reader_part_82 rfl rfl rfl rfl ?_
          refine R_if dd_Reader_part_84 rfl rfl (fun (c19 : v4 = 0) => ?_) (fun (c19 : v4 ≠ 0) => ?_)
          · exact absurd c19 (by omega)
          · skip
            refine R_ld (v := .inr (.inr q)) dd_Reader_part_87 rfl rfl rfl rfl ?_
            refine R_ld (v := .inl v3) dd_Reader_part_88 rfl rfl rfl rfl ?_
            refine R_if dd_Reader_part_89 rfl rfl (fun (c20 : v3 = 0) => ?_) (fun (c20 : v3 ≠ 0) => ?_)
            · skip
              refine R_si dd_Reader_part_100 (by decide) rfl ?_
              refine R_ld (v := .inr (.inr 2)) dd_Reader_part_103 rfl rfl rfl rfl ?_
              refine R_gf (v := .inl (rd h 2 7)) dd_Reader_part_104 fd_7_67 io_2 (congrArg (fun z : Int => (Sum.inl z : LV)) (rfl)) rfl ?_
              obtain ⟨s3, k⟩ := k
              refine R_iadd (c := (rd h 2 7) + 10000) dd_Reader_part_107 (by omega) s3 rfl ?_
              refine R_bi dd_Reader_part_108 (by decide) rfl ?_
              obtain ⟨s4, k⟩ := k
              refine R_isub (c := (rd h 2 7) + 9975) dd_Reader_part_110 (by omega) s4 rfl ?_
              obtain ⟨c, hc, k⟩ := k
              exact R_call (as := [.inr (.inr q), .inl ((rd h 2 7) + 9975)]) (rest := []) (M' := mm_Quarter_addLaw) (ls0 := [some (.inr (.inr q)), some (.inl ((rd h 2 7) + 9975))]) dd_Reader_part_111 rfl rfl (cw_v cw_7_198 (io_q hq) rfl rfl (Nat.le_of_ble_eq_true rfl) (Nat.le_of_ble_eq_true rfl)) mt_Quarter_addLaw rfl hc rfl k
            · exact absurd c20 (by omega)
      · replace k := k.2 c17
        refine R_ld (v := .inr (.inr 2)) dd_Reader_part_72 rfl rfl rfl rfl ?_
        refine R_ic dd_Reader_part_73 (by decide) rfl ?_
        obtain ⟨c, hc, k⟩ := k
        exact R_call (as := [.inr (.inr 2), .inl 5]) (rest := []) (M' := mm_Reader_fail) (ls0 := [some (.inr (.inr 2)), some (.inl 5)]) dd_Reader_part_74 rfl rfl (cw_v cw_7_80 io_2 rfl rfl (Nat.le_of_ble_eq_true rfl) (Nat.le_of_ble_eq_true rfl)) mt_Reader_fail rfl hc rfl k
    · replace k := k.2 c16
      refine R_ld (v := .inl w0) dd_Reader_part_47 rfl rfl rfl rfl ?_
      refine R_if dd_Reader_part_49 rfl rfl (fun (c21 : w0 ≠ 0) => ?_) (fun (c21 : w0 = 0) => ?_)
      · replace k := k.1 c21
        refine R_ld (v := .inl v2) dd_Reader_part_67 rfl rfl rfl rfl ?_
        refine R_ic dd_Reader_part_68 (by decide) rfl ?_
        refine R_icmp dd_Reader_part_69 rfl rfl (fun (c22 : v2 < 5) => ?_) (fun (c22 : 5 ≤ v2) => ?_)
        · replace k := k.1 c22
          refine R_ld (v := .inl v3) dd_Reader_part_78 rfl rfl rfl rfl ?_
          refine R_if dd_Reader_part_79 rfl rfl (fun (c23 : v3 ≠ 0) => ?_) (fun (c23 : v3 = 0) => ?_)
          · exact absurd c23 (by omega)
          · skip
            refine R_ld (v := .inl v4) dd_Reader_part_82 rfl rfl rfl rfl ?_
            refine R_if dd_Reader_part_84 rfl rfl (fun (c24 : v4 = 0) => ?_) (fun (c24 : v4 ≠ 0) => ?_)
            · skip
              refine R_ld (v := .inl w0) dd_Reader_part_121 rfl rfl rfl rfl ?_
              refine R_if dd_Reader_part_123 rfl rfl (fun (c25 : w0 = 0) => ?_) (fun (c25 : w0 ≠ 0) => ?_)
              · exact absurd c25 (by omega)
              · skip
                refine R_ld (v := .inr (.inr 2)) dd_Reader_part_126 rfl rfl rfl rfl ?_
                obtain ⟨c, hc, k⟩ := k
                exact R_call (as := [.inr (.inr 2)]) (rest := []) (M' := mm_Reader_step) (ls0 := [some (.inr (.inr 2)), none]) dd_Reader_part_127 rfl rfl (cw_v cw_7_99 io_2 rfl rfl (Nat.le_of_ble_eq_true rfl) (Nat.le_of_ble_eq_true rfl)) mt_Reader_step rfl hc rfl k
            · exact absurd c24 (by omega)
        · replace k := k.2 c22
          refine R_ld (v := .inr (.inr 2)) dd_Reader_part_72 rfl rfl rfl rfl ?_
          refine R_ic dd_Reader_part_73 (by decide) rfl ?_
          obtain ⟨c, hc, k⟩ := k
          exact R_call (as := [.inr (.inr 2), .inl 5]) (rest := []) (M' := mm_Reader_fail) (ls0 := [some (.inr (.inr 2)), some (.inl 5)]) dd_Reader_part_74 rfl rfl (cw_v cw_7_80 io_2 rfl rfl (Nat.le_of_ble_eq_true rfl) (Nat.le_of_ble_eq_true rfl)) mt_Reader_fail rfl hc rfl k
      · replace k := k.2 c21
        refine R_ld (v := .inr (.inr 2)) dd_Reader_part_52 rfl rfl rfl rfl ?_
        refine R_gf (v := .inl (rd h 2 7)) dd_Reader_part_53 fd_7_67 io_2 (congrArg (fun z : Int => (Sum.inl z : LV)) (rfl)) rfl ?_
        refine R_bi dd_Reader_part_56 (by decide) rfl ?_
        refine R_icmp dd_Reader_part_58 rfl rfl (fun (c26 : (rd h 2 7) = 22) => ?_) (fun (c26 : (rd h 2 7) ≠ 22) => ?_)
        · replace k := k.1 c26
          refine R_ld (v := .inl v2) dd_Reader_part_67 rfl rfl rfl rfl ?_
          refine R_ic dd_Reader_part_68 (by decide) rfl ?_
          refine R_icmp dd_Reader_part_69 rfl rfl (fun (c27 : v2 < 5) => ?_) (fun (c27 : 5 ≤ v2) => ?_)
          · replace k := k.1 c27
            refine R_ld (v := .inl v3) dd_Reader_part_78 rfl rfl rfl rfl ?_
            refine R_if dd_Reader_part_79 rfl rfl (fun (c28 : v3 ≠ 0) => ?_) (fun (c28 : v3 = 0) => ?_)
            · exact absurd c28 (by omega)
            · skip
              refine R_ld (v := .inl v4) dd_Reader_part_82 rfl rfl rfl rfl ?_
              refine R_if dd_Reader_part_84 rfl rfl (fun (c29 : v4 = 0) => ?_) (fun (c29 : v4 ≠ 0) => ?_)
              · skip
                refine R_ld (v := .inl w0) dd_Reader_part_121 rfl rfl rfl rfl ?_
                refine R_if dd_Reader_part_123 rfl rfl (fun (c30 : w0 = 0) => ?_) (fun (c30 : w0 ≠ 0) => ?_)
                · skip
                  refine R_ld (v := .inr (.inr 2)) dd_Reader_part_148 rfl rfl rfl rfl ?_
                  obtain ⟨c, hc, k⟩ := k
                  exact R_call (as := [.inr (.inr 2)]) (rest := []) (M' := mm_Reader_step) (ls0 := [some (.inr (.inr 2)), none]) dd_Reader_part_149 rfl rfl (cw_v cw_7_99 io_2 rfl rfl (Nat.le_of_ble_eq_true rfl) (Nat.le_of_ble_eq_true rfl)) mt_Reader_step rfl hc rfl k
                · exact absurd c30 (by omega)
              · exact absurd c29 (by omega)
          · replace k := k.2 c27
            refine R_ld (v := .inr (.inr 2)) dd_Reader_part_72 rfl rfl rfl rfl ?_
            refine R_ic dd_Reader_part_73 (by decide) rfl ?_
            obtain ⟨c, hc, k⟩ := k
            exact R_call (as := [.inr (.inr 2), .inl 5]) (rest := []) (M' := mm_Reader_fail) (ls0 := [some (.inr (.inr 2)), some (.inl 5)]) dd_Reader_part_74 rfl rfl (cw_v cw_7_80 io_2 rfl rfl (Nat.le_of_ble_eq_true rfl) (Nat.le_of_ble_eq_true rfl)) mt_Reader_fail rfl hc rfl k
        · replace k := k.2 c26
          refine R_ld (v := .inr (.inr 2)) dd_Reader_part_61 rfl rfl rfl rfl ?_
          refine R_ic dd_Reader_part_62 (by decide) rfl ?_
          obtain ⟨c, hc, k⟩ := k
          exact R_call (as := [.inr (.inr 2), .inl 1]) (rest := []) (M' := mm_Reader_fail) (ls0 := [some (.inr (.inr 2)), some (.inl 1)]) dd_Reader_part_63 rfl rfl (cw_v cw_7_80 io_2 rfl rfl (Nat.le_of_ble_eq_true rfl) (Nat.le_of_ble_eq_true rfl)) mt_Reader_fail rfl hc rfl k
theorem B_Reader_part_66 {xs : Nat → Int} {xl e : Nat} {h : LH} {Q : Option LV → LH → Prop} {v2 v3 v4 v5 : Int} {q : Int} (hq : q = 5 ∨ q = 32) (hF : RF h)
    (k : Q none h) :
    Rn xs xl e mm_Reader_part 66 [some (.inr (.inr 2)), some (.inr (.inr q)), some (.inl v2), some (.inl v3), some (.inl v4), some (.inl v5)] [] h Q := by
  exact R_vret dd_Reader_part_66 rfl k
theorem B_Reader_part_77 {xs : Nat → Int} {xl e : Nat} {h : LH} {Q : Option LV → LH → Prop} {v2 v3 v4 v5 : Int} {q : Int} (hq : q = 5 ∨ q = 32) (hF : RF h)
    (k : Q none h) :
    Rn xs xl e mm_Reader_part 77 [some (.inr (.inr 2)), some (.inr (.inr q)), some (.inl v2), some (.inl v3), some (.inl v4), some (.inl v5)] [] h Q := by
  exact R_vret dd_Reader_part_77 rfl k
theorem B_Reader_part_114 {xs : Nat → Int} {xl e : Nat} {h : LH} {Q : Option LV → LH → Prop} {v2 v3 v4 v5 : Int} {q : Int} (hq : q = 5 ∨ q = 32) (hF : RF h)
    (k : (∃ c, c < e ∧ Rn xs xl c mm_Reader_step 0 [some (.inr (.inr 2)), none] [] h (fun r h' => Rn xs xl e mm_Reader_part 118 [some (.inr (.inr 2)), some (.inr (.inr q)), some (.inl v2), some (.inl v3), some (.inl v4), some (.inl v5)] (r.toList ++ []) h' Q))) :
    Rn xs xl e mm_Reader_part 114 [some (.inr (.inr 2)), some (.inr (.inr q)), some (.inl v2), some (.inl v3), some (.inl v4), some (.inl v5)] [] h Q := by
  refine R_ld (v := .inr (.inr 2)) dd_Reader_part_114 rfl rfl rfl rfl ?_
  obtain ⟨c, hc, k⟩ := k
  exact R_call (as := [.inr (.inr 2)]) (rest := []) (M' := mm_Reader_step) (ls0 := [some (.inr (.inr 2)), none]) dd_Reader_part_115 rfl rfl (cw_v cw_7_99 io_2 rfl rfl (Nat.le_of_ble_eq_true rfl) (Nat.le_of_ble_eq_true rfl)) mt_Reader_step rfl hc rfl k
theorem B_Reader_part_118 {xs : Nat → Int} {xl e : Nat} {h : LH} {Q : Option LV → LH → Prop} {v2 v3 v4 v5 : Int} {q : Int} (hq : q = 5 ∨ q = 32) (hF : RF h)
    (k : Q none h) :
    Rn xs xl e mm_Reader_part 118 [some (.inr (.inr 2)), some (.inr (.inr q)), some (.inl v2), some (.inl v3), some (.inl v4), some (.inl v5)] [] h Q := by
  refine R_goto dd_Reader_part_118 rfl ?_
  exact R_vret dd_Reader_part_167 rfl k
theorem B_Reader_part_130 {xs : Nat → Int} {xl e : Nat} {h : LH} {Q : Option LV → LH → Prop} {v2 v3 v4 v5 : Int} {q : Int} (hq : q = 5 ∨ q = 32) (hF : RF h) (r_v2 : 0 ≤ v2 ∧ v2 ≤ 5)
    (k : (∃ c, c < e ∧ Rn xs xl c mm_Reader_expression 0 [some (.inr (.inr 2)), some (.inr (.inr q)), some (.inl 0), some (.inl (v2 + 1)), none, none] [] h (fun r h' => Rn xs xl e mm_Reader_part 139 [some (.inr (.inr 2)), some (.inr (.inr q)), some (.inl v2), some (.inl v3), some (.inl v4), some (.inl v5)] (r.toList ++ []) h' Q))) :
    Rn xs xl e mm_Reader_part 130 [some (.inr (.inr 2)), some (.inr (.inr q)), some (.inl v2), some (.inl v3), some (.inl v4), some (.inl v5)] [] h Q := by
  refine R_ld (v := .inr (.inr 2)) dd_Reader_part_130 rfl rfl rfl rfl ?_
  refine R_ld (v := .inr (.inr q)) dd_Reader_part_131 rfl rfl rfl rfl ?_
  refine R_ic dd_Reader_part_132 (by decide) rfl ?_
  refine R_ld (v := .inl v2) dd_Reader_part_133 rfl rfl rfl rfl ?_
  refine R_ic dd_Reader_part_134 (by decide) rfl ?_
  refine R_iadd (c := v2 + 1) dd_Reader_part_135 (by omega) (by omega) rfl ?_
  obtain ⟨c, hc, k⟩ := k
  exact R_call (as := [.inr (.inr 2), .inr (.inr q), .inl 0, .inl (v2 + 1)]) (rest := []) (M' := mm_Reader_expression) (ls0 := [some (.inr (.inr 2)), some (.inr (.inr q)), some (.inl 0), some (.inl (v2 + 1)), none, none]) dd_Reader_part_136 rfl rfl (cw_v cw_7_170 io_2 rfl rfl (Nat.le_of_ble_eq_true rfl) (Nat.le_of_ble_eq_true rfl)) mt_Reader_expression rfl hc rfl k
theorem B_Reader_part_139 {xs : Nat → Int} {xl e : Nat} {h : LH} {Q : Option LV → LH → Prop} {v2 v3 v4 v5 : Int} {q : Int} (hq : q = 5 ∨ q = 32) (hF : RF h)
    (k : (∃ c, c < e ∧ Rn xs xl c mm_Reader_takeSign 0 [some (.inr (.inr 2)), some (.inl 41)] [] h (fun r h' => Rn xs xl e mm_Reader_part 145 [some (.inr (.inr 2)), some (.inr (.inr q)), some (.inl v2), some (.inl v3), some (.inl v4), some (.inl v5)] (r.toList ++ []) h' Q))) :
    Rn xs xl e mm_Reader_part 139 [some (.inr (.inr 2)), some (.inr (.inr q)), some (.inl v2), some (.inl v3), some (.inl v4), some (.inl v5)] [] h Q := by
  refine R_ld (v := .inr (.inr 2)) dd_Reader_part_139 rfl rfl rfl rfl ?_
  refine R_bi dd_Reader_part_140 (by decide) rfl ?_
  obtain ⟨c, hc, k⟩ := k
  exact R_call (as := [.inr (.inr 2), .inl 41]) (rest := []) (M' := mm_Reader_takeSign) (ls0 := [some (.inr (.inr 2)), some (.inl 41)]) dd_Reader_part_142 rfl rfl (cw_v cw_7_57 io_2 rfl rfl (Nat.le_of_ble_eq_true rfl) (Nat.le_of_ble_eq_true rfl)) mt_Reader_takeSign rfl hc rfl k
theorem B_Reader_part_145 {xs : Nat → Int} {xl e : Nat} {h : LH} {Q : Option LV → LH → Prop} {v2 v3 v4 v5 : Int} {q : Int} (hq : q = 5 ∨ q = 32) (hF : RF h)
    (k : Q none h) :
    Rn xs xl e mm_Reader_part 145 [some (.inr (.inr 2)), some (.inr (.inr q)), some (.inl v2), some (.inl v3), some (.inl v4), some (.inl v5)] [] h Q := by
  refine R_goto dd_Reader_part_145 rfl ?_
  exact R_vret dd_Reader_part_167 rfl k
theorem B_Reader_part_152 {xs : Nat → Int} {xl e : Nat} {h : LH} {Q : Option LV → LH → Prop} {v2 v3 v4 v5 : Int} {q : Int} (hq : q = 5 ∨ q = 32) (hF : RF h) (r_v2 : 0 ≤ v2 ∧ v2 ≤ 5)
    (k : (∃ c, c < e ∧ Rn xs xl c mm_Reader_part 0 [some (.inr (.inr 2)), some (.inr (.inr q)), some (.inl (v2 + 1)), none, none, none] [] h (fun r h' => Rn xs xl e mm_Reader_part 160 [some (.inr (.inr 2)), some (.inr (.inr q)), some (.inl v2), some (.inl v3), some (.inl v4), some (.inl v5)] (r.toList ++ []) h' Q))) :
    Rn xs xl e mm_Reader_part 152 [some (.inr (.inr 2)), some (.inr (.inr q)), some (.inl v2), some (.inl v3), some (.inl v4), some (.inl v5)] [] h Q := by
  refine R_ld (v := .inr (.inr 2)) dd_Reader_part_152 rfl rfl rfl rfl ?_
  refine R_ld (v := .inr (.inr q)) dd_Reader_part_153 rfl rfl rfl rfl ?_
  refine R_ld (v := .inl v2) dd_Reader_part_154 rfl rfl rfl rfl ?_
  refine R_ic dd_Reader_part_155 (by decide) rfl ?_
  refine R_iadd (c := v2 + 1) dd_Reader_part_156 (by omega) (by omega) rfl ?_
  obtain ⟨c, hc, k⟩ := k
  exact R_call (as := [.inr (.inr 2), .inr (.inr q), .inl (v2 + 1)]) (rest := []) (M' := mm_Reader_part) (ls0 := [some (.inr (.inr 2)), some (.inr (.inr q)), some (.inl (v2 + 1)), none, none, none]) dd_Reader_part_157 rfl rfl (cw_v cw_7_191 io_2 rfl rfl (Nat.le_of_ble_eq_true rfl) (Nat.le_of_ble_eq_true rfl)) mt_Reader_part rfl hc rfl k
theorem B_Reader_part_160 {xs : Nat → Int} {xl e : Nat} {h : LH} {Q : Option LV → LH → Prop} {v2 v3 v4 v5 : Int} {q : Int} (hq : q = 5 ∨ q = 32) (hF : RF h)
    (k : (∃ c, c < e ∧ Rn xs xl c mm_Quarter_addLaw 0 [some (.inr (.inr q)), some (.inl 10004)] [] h (fun r h' => Rn xs xl e mm_Reader_part 167 [some (.inr (.inr 2)), some (.inr (.inr q)), some (.inl v2), some (.inl v3), some (.inl v4), some (.inl v5)] (r.toList ++ []) h' Q))) :
    Rn xs xl e mm_Reader_part 160 [some (.inr (.inr 2)), some (.inr (.inr q)), some (.inl v2), some (.inl v3), some (.inl v4), some (.inl v5)] [] h Q := by
  refine R_ld (v := .inr (.inr q)) dd_Reader_part_160 rfl rfl rfl rfl ?_
  refine R_si dd_Reader_part_161 (by decide) rfl ?_
  obtain ⟨c, hc, k⟩ := k
  exact R_call (as := [.inr (.inr q), .inl 10004]) (rest := []) (M' := mm_Quarter_addLaw) (ls0 := [some (.inr (.inr q)), some (.inl 10004)]) dd_Reader_part_164 rfl rfl (cw_v cw_7_198 (io_q hq) rfl rfl (Nat.le_of_ble_eq_true rfl) (Nat.le_of_ble_eq_true rfl)) mt_Quarter_addLaw rfl hc rfl k
theorem B_Reader_part_167 {xs : Nat → Int} {xl e : Nat} {h : LH} {Q : Option LV → LH → Prop} {v2 v3 v4 v5 : Int} {q : Int} (hq : q = 5 ∨ q = 32) (hF : RF h)
    (k : Q none h) :
    Rn xs xl e mm_Reader_part 167 [some (.inr (.inr 2)), some (.inr (.inr q)), some (.inl v2), some (.inl v3), some (.inl v4), some (.inl v5)] [] h Q := by
  exact R_vret dd_Reader_part_167 rfl k
end
section
/-! p3, part b1: the law's text, token by token; the class reads it so -/
section EXS
variable (o v w p : Nat → Int)
def exO (lv : Nat) (k : Nat) : Int := if lv = 0 then (if w k = 23 then 10005 else if w k = 24 then 10006 else -1) else if lv = 1 then (if o k = 3 ∧ v k = 60 then 10007 else if o k = 3 ∧ v k = 61 then 10008 else -1) else if lv = 2 then (if o k = 3 ∧ v k = 43 then 10009 else if o k = 3 ∧ v k = 45 then 10010 else -1) else (if o k = 3 ∧ v k = 42 then 10011 else -1)
def exA (c : Int) (x : (Int × Nat) × List Int) : (Int × Nat) × List Int := (x.1, x.2 ++ [c])
def exL (f : (Int × Nat) × List Int → (Int × Nat) × List Int) (lv : Nat) : Nat → (Int × Nat) × List Int → (Int × Nat) × List Int
  | 0, x => x
  | m + 1, x => if x.1.1 = 0 ∧ exO o v w lv x.1.2 ≠ -1 then exL f lv m (exA (exO o v w lv x.1.2) (f (tkA x.1, x.2))) else x
def exX (P : (Int × Nat) × List Int → (Int × Nat) × List Int) : Nat → (Int × Nat) × List Int → (Int × Nat) × List Int
  | 0 => P
  | j + 1 => fun x => exL o v w (exX P j) (3 - j) (if j = 2 then 1 else 1000) (exX P j x)
def exK (k : Nat) : Bool := decide (o k = 2 ∨ 25 ≤ w k ∨ (o k = 3 ∧ v k = 40) ∨ w k = 22)
def exP : Nat → (Int × Nat) × List Int → (Int × Nat) × List Int
  | 0, x => (if exK o v w x.1.2 = true then tkE p 5 x.1 else tkE p 1 x.1, x.2)
  | r + 1, x => if o x.1.2 = 2 then (tkA x.1, x.2 ++ [v x.1.2]) else if 25 ≤ w x.1.2 then (tkA x.1, x.2 ++ [w x.1.2 + 9975]) else if o x.1.2 = 3 ∧ v x.1.2 = 40 then (tkS o v p 41 (exX o v w (exP r) 4 (tkA x.1, x.2)).1, (exX o v w (exP r) 4 (tkA x.1, x.2)).2) else if w x.1.2 = 22 then exA 10004 (exP r (tkA x.1, x.2)) else (tkE p 1 x.1, x.2)
end EXS
/-- the class's law so far -/
def LWK (h : LH) (q : Int) (L : List Int) : Prop := rd h q 6 = L.length ∧ ∀ i : Nat, i < L.length → rd h (q + 3) i = L.getD i 0
def muE (q a i : Int) : Prop := muR a i ∨ (a = q ∧ i = 6) ∨ a = q + 3
def frE (q : Int) (h h' : LH) : Prop := ∀ a i, ¬ muE q a i → rd h' a i = rd h a i
theorem frE.refl {q : Int} {h : LH} : frE q h h := fun _ _ _ => rfl
theorem frE.trans {q : Int} {h h1 h2 : LH} (a : frE q h h1) (b : frE q h1 h2) : frE q h h2 := fun x i hn => (b x i hn).trans (a x i hn)
theorem frK.E {q : Int} {h h' : LH} (f : frK h h') : frE q h h' := fun a i hn => f a i (fun z => hn (Or.inl z))
theorem hav_law {q : Int} (hq : q = 5 ∨ q = 32) (i : Int) : (hav (q + 3) i).1 ≠ 2 := by
  rcases hq with rfl | rfl
  · unfold hav
    rw [show RGL[((5 : Int) + 3).toNat]? = some [(0, -2147483648, 2147483647, 1)] by decide +kernel]
    simp only [List.length_singleton, Nat.mod_one]
    decide
  · unfold hav
    rw [show RGL[((32 : Int) + 3).toNat]? = some [(0, -2147483648, 2147483647, 1)] by decide +kernel]
    simp only [List.length_singleton, Nat.mod_one]
    decide
theorem hav_q6 {q : Int} (hq : q = 5 ∨ q = 32) : (hav q 6).1 ≠ 2 := by
  rcases hq with rfl | rfl <;> decide +kernel
theorem RF_fe {q : Int} {h h' : LH} (hq : q = 5 ∨ q = 32) (hF : RF h) (hf : frE q h h') : RF h' := by
  intro a j c hv he
  by_cases z : muE q a j
  · exfalso
    rcases z with z | z | z
    · obtain ⟨rfl, q1, q2⟩ := z
      have := hav_R (j := j) (by omega) (by omega)
      rw [he] at this
      exact absurd rfl this
    · obtain ⟨rfl, q1⟩ := z
      have := hav_q6 hq
      rw [← q1, he] at this
      exact absurd rfl this
    · subst z
      have := hav_law hq (j : Int)
      rw [he] at this
      exact absurd rfl this
  · rw [hf a j z]
    exact hF a j c hv he
section CC
variable {xs : Nat → Int} {xl e : Nat} {h : LH} {Q : Option LV → LH → Prop} {v1 v2 v3 : Int} {T : Int → Int} {n : Int} {W : Int → Int} {s : Int × Nat} {q : Int} {x : (Int × Nat) × List Int} {g : Int}
theorem CSK_fr {h' : LH} (hF : RF h') (hf : ∀ a i, a ≤ 4 → rd h' a i = rd h a i) (hs : CSK T n W h s) : CSK T n W h' s := by
  obtain ⟨⟨c1, ⟨t1, t2, t3⟩, c3⟩, h2, h3, h4⟩ := hs
  refine ⟨⟨hF, ⟨(hf _ _ (by decide)).trans t1, fun i i0 i1 => (hf _ _ (by decide)).trans (t2 i i0 i1), t3⟩, ?_⟩, (hf _ _ (by decide)).trans h2, ?_, fun hz => ?_⟩
  · rw [← c3]; funext i; exact hf _ _ (by decide)
  · rw [hf _ _ (by decide)]; exact h3
  · obtain ⟨d1, d2, d3, d4, d5⟩ := h4 hz
    exact ⟨(hf _ _ (by decide)).trans d1, (hf _ _ (by decide)).trans d2, fun z => (hf _ _ (by decide)).trans (d3 z), fun z1 z2 => (hf _ _ (by decide)).trans (d4 z1 z2), (hf _ _ (by decide)).trans d5⟩
/-- the class is at x in the law's text; g: tokens that no code came of -/
def CEK (T : Int → Int) (n : Int) (W : Int → Int) (q : Int) (g : Int) (h : LH) (x : (Int × Nat) × List Int) : Prop := CSK T n W h x.1 ∧ (0 ≤ rd h q 6 ∧ rd h q 6 ≤ 1000) ∧ (x.1.1 = 0 → LWK h q x.2 ∧ (x.2.length : Int) + g ≤ x.1.2 ∧ x.1.2 ≤ 1000)
theorem CEK_fr (hq : q = 5 ∨ q = 32) {h' : LH} {s' : Int × Nat} {g' : Int} (hx : CEK T n W q g h x) (hs : CSK T n W h' s') (hf : frK h h') (h0 : s'.1 = 0 → x.1.1 = 0 ∧ (x.2.length : Int) + g' ≤ s'.2 ∧ s'.2 ≤ 1000) : CEK T n W q g' h' (s', x.2) := by
  have e6 : rd h' q 6 = rd h q 6 := hf _ _ (by unfold muR; omega)
  refine ⟨hs, by rw [e6]; exact hx.2.1, fun hz => ?_⟩
  obtain ⟨z0, z1⟩ := h0 hz
  obtain ⟨⟨l1, l2⟩, l3⟩ := hx.2.2 z0
  exact ⟨⟨e6.trans l1, fun i hi => (hf _ _ (by unfold muR; omega)).trans (l2 i hi)⟩, z1⟩
theorem getD_app {L : List Int} {c : Int} {i : Nat} (hi : i < (L ++ [c]).length) : (L ++ [c]).getD i 0 = if i < L.length then L.getD i 0 else c := by
  rw [List.length_append, List.length_singleton] at hi
  by_cases z : i < L.length
  · rw [if_pos z, List.getD_eq_getElem?_getD, List.getElem?_append_left z, List.getD_eq_getElem?_getD]
  · rw [if_neg z, List.getD_eq_getElem?_getD, List.getElem?_append_right (by omega), show i - L.length = 0 by omega]
    rfl
theorem F_addLaw (hq : q = 5 ∨ q = 32) (hx : CEK T n W q g h x) (hl : x.1.1 = 0 → x.2.length < 1000) (k : ∀ h', CEK T n W q (g - 1) h' (exA v1 x) → frE q h h' → (∀ a i, a ≤ 4 → rd h' a i = rd h a i) → Q none h') : Rn xs xl e mm_Quarter_addLaw 0 [some (.inr (.inr q)), some (.inl v1)] [] h Q := by
  obtain ⟨c1, c2, c3⟩ := hx
  refine B_Quarter_addLaw_0 hq c1.1.1 ⟨fun z => ?_, fun z => ⟨by omega, by omega, ?_⟩⟩
  · refine k h ⟨c1, c2, fun hz => ?_⟩ frE.refl (fun _ _ _ => rfl)
    have l := hl hz
    have := (c3 hz).1.1
    omega
  · have f1 : frE q h (wr (wr h (q + 3) (rd h q 6) v1) q 6 (rd h q 6 + 1)) := by
      intro a i hn
      unfold muE at hn
      rw [rd_wr, if_neg (fun z => hn (by omega)), rd_wr, if_neg (fun z => hn (by omega))]
    have f2 : ∀ a i, a ≤ 4 → rd (wr (wr h (q + 3) (rd h q 6) v1) q 6 (rd h q 6 + 1)) a i = rd h a i := by
      intro a i ha
      rw [rd_wr, if_neg (fun z => by omega), rd_wr, if_neg (fun z => by omega)]
    refine k _ ⟨CSK_fr (RF_fe hq c1.1.1 f1) f2 c1, by rw [rdw_eq]; omega, fun hz => ?_⟩ f1 f2
    obtain ⟨⟨l1, l2⟩, l3⟩ := c3 hz
    refine ⟨⟨?_, fun i hi => ?_⟩, ?_⟩
    · rw [rdw_eq, l1]
      show _ = (((x.2 ++ [v1]).length : Nat) : Int)
      rw [List.length_append, List.length_singleton]
      omega
    · have hi' := hi
      change i < (x.2 ++ [v1]).length at hi'
      show _ = (x.2 ++ [v1]).getD i 0
      rw [getD_app hi', rdw_ne (by omega)]
      rw [List.length_append, List.length_singleton] at hi'
      by_cases z2 : i < x.2.length
      · rw [if_pos z2, rdw_nei (by omega)]; exact l2 i z2
      · rw [if_neg z2, show (i : Int) = rd h q 6 by omega]; exact rdw_eq
    · show (((x.2 ++ [v1]).length : Nat) : Int) + (g - 1) ≤ x.1.2 ∧ x.1.2 ≤ 1000
      rw [List.length_append, List.length_singleton]
      omega
theorem F_operatorOf (he : 1 ≤ e) (hs : CSK T n W h s) (hz : s.1 = 0) {lv : Nat} (hl : lv ≤ 3) (k : Q (some (.inl (exO (tO T n) (tV T n 32) (tW T n 32 W) lv s.2))) h) : Rn xs xl e mm_Reader_operatorOf 0 [some (.inr (.inr 2)), some (.inl (lv : Int))] [] h Q := by
  have hF := hs.1.1
  have ew := CS_w hs hz
  refine B_Reader_operatorOf_0 hF ⟨fun c => ?_, fun c => ?_, fun c => ?_, fun c => ?_⟩
  · have e0 : lv = 0 := by omega
    subst e0
    unfold exO at k
    rw [if_pos rfl, ← ew] at k
    refine B_Reader_operatorOf_28 hF ⟨fun c1 => ⟨fun c2 => ?_, fun c2 => ?_⟩, fun c1 => ?_⟩
    · rw [if_neg c1, if_neg c2] at k; exact k
    · rw [if_neg c1, if_pos c2] at k; exact k
    · rw [if_pos c1] at k; exact k
  · have e0 : lv = 1 := by omega
    subst e0
    unfold exO at k
    rw [if_neg (by decide), if_pos rfl] at k
    refine B_Reader_operatorOf_60 hF ⟨0, by omega, F_isSign hs (fun r r01 hr => B_Reader_operatorOf_66 hF ⟨fun z => ⟨0, by omega, F_isSign hs (fun r2 r201 hr2 => B_Reader_operatorOf_81 hF ⟨fun z2 => ?_, fun z2 => ?_⟩)⟩, fun z => ?_⟩)⟩
    · rw [if_neg (fun y => by have := (hr hz).mpr y; omega), if_neg (fun y => by have := (hr2 hz).mpr y; omega)] at k; exact k
    · rw [if_neg (fun y => by have := (hr hz).mpr y; omega), if_pos ((hr2 hz).mp (by omega))] at k; exact k
    · rw [if_pos ((hr hz).mp (by omega))] at k; exact k
  · have e0 : lv = 2 := by omega
    subst e0
    unfold exO at k
    rw [if_neg (by decide), if_neg (by decide), if_pos rfl] at k
    refine B_Reader_operatorOf_92 hF ⟨0, by omega, F_isSign hs (fun r r01 hr => B_Reader_operatorOf_98 hF ⟨fun z => ⟨0, by omega, F_isSign hs (fun r2 r201 hr2 => B_Reader_operatorOf_113 hF ⟨fun z2 => ?_, fun z2 => ?_⟩)⟩, fun z => ?_⟩)⟩
    · rw [if_neg (fun y => by have := (hr hz).mpr y; omega), if_neg (fun y => by have := (hr2 hz).mpr y; omega)] at k; exact k
    · rw [if_neg (fun y => by have := (hr hz).mpr y; omega), if_pos ((hr2 hz).mp (by omega))] at k; exact k
    · rw [if_pos ((hr hz).mp (by omega))] at k; exact k
  · have e0 : lv = 3 := by omega
    subst e0
    unfold exO at k
    rw [if_neg (by decide), if_neg (by decide), if_neg (by decide)] at k
    refine B_Reader_operatorOf_124 hF ⟨0, by omega, F_isSign hs (fun r r01 hr => B_Reader_operatorOf_130 hF ⟨fun z => ?_, fun z => ?_⟩)⟩
    · rw [if_neg (fun y => by have := (hr hz).mpr y; omega)] at k; exact k
    · rw [if_pos ((hr hz).mp (by omega))] at k; exact k
theorem exO_o {lv k : Nat} (hn : exO (tO T n) (tV T n 32) (tW T n 32 W) lv k ≠ -1) : tO T n k ≠ 0 := by
  intro z
  have w0 : tW T n 32 W k = -1 := by unfold tW; rw [if_neg (by omega)]
  apply hn
  unfold exO
  rw [w0, z]
  split
  · rfl
  · split
    · rfl
    · split <;> rfl
end CC
end
section
/-! p3, part b2: the class reads the law's text -/
theorem tV_num {T : Int → Int} {n b : Int} {k : Nat} (h1 : n ≤ 1000) (h2 : 0 ≤ n) (ho : tO T n k = 2) : 0 ≤ tV T n b k ∧ tV T n b k ≤ 9999 := by
  have pin := tP_in (T := T) h1 h2 k
  have s0 := tS_in (T := T) h1 h2 k
  have pn : tP T n k < n := by
    rcases Int.lt_or_le (tP T n k) n with z | z
    · exact z
    · have := tO_0.mpr z; omega
  by_cases c1 : isLt (T (tP T n k)) = true
  · have := (tk_w pn c1).2
    split at this <;> omega
  by_cases c2 : isDg (T (tP T n k)) = true
  · obtain ⟨e1, e2⟩ := tk_n pn c1 c2
    have l : ¬ 4 < fw T n isDg (tP T n k) - tP T n k := fun z => by rw [if_pos z] at e2; omega
    have fo := fw_ok (T := T) (n := n) (P := isDg) (p := tP T n k) (by omega) h1
    have bd := num_bd (T := T) (p := tP T n k) (tN T n k) (fun r r0 r1 => isDg_iff.mp (fo.2.1 r r0 (by unfold tN at r1; rw [e1] at r1; omega)).2)
    have pw := pow_le8 (b := 10) (m := tN T n k) (k := 4) (by decide) (by unfold tN; rw [e1]; omega)
    have pw2 : (10 : Int) ^ 4 = 10000 := by decide
    unfold tV
    rw [if_neg (by omega), if_pos ho]
    omega
  · have := (tk_s pn c1 c2).2
    split at this <;> omega
def PartC (T : Int → Int) (n : Int) (W : Int → Int) (q : Int) (r : Nat) : Prop := ∀ (xs : Nat → Int) (xl e : Nat) (g : Int) (h : LH) (x : (Int × Nat) × List Int) (Q : Option LV → LH → Prop) (d : Int), d = 5 - (r : Int) → 4 + 6 * r ≤ e → 0 ≤ g → CEK T n W q g h x → x.1.1 = 0 → (∀ h', CEK T n W q g h' (exP (tO T n) (tV T n 32) (tW T n 32 W) (tP T n) r x) → frE q h h' → Q none h') → Rn xs xl e mm_Reader_part 0 [some (.inr (.inr 2)), some (.inr (.inr q)), some (.inl d), none, none, none] [] h Q
def ExprC (T : Int → Int) (n : Int) (W : Int → Int) (q : Int) (r j : Nat) : Prop := ∀ (xs : Nat → Int) (xl e : Nat) (g : Int) (h : LH) (x : (Int × Nat) × List Int) (Q : Option LV → LH → Prop) (l d : Int), l = 4 - (j : Int) → d = 5 - (r : Int) → 5 + 6 * r + j ≤ e → 0 ≤ g → CEK T n W q g h x → x.1.1 = 0 → (∀ h', CEK T n W q g h' (exX (tO T n) (tV T n 32) (tW T n 32 W) (exP (tO T n) (tV T n 32) (tW T n 32 W) (tP T n) r) j x) → frE q h h' → Q none h') → Rn xs xl e mm_Reader_expression 0 [some (.inr (.inr 2)), some (.inr (.inr q)), some (.inl l), some (.inl d), none, none] [] h Q
section CD
variable {T : Int → Int} {n : Int} {W : Int → Int} {q : Int}
theorem CEK_stp (hq : q = 5 ∨ q = 32) {xs : Nat → Int} {xl e : Nat} {h : LH} {Q : Option LV → LH → Prop} {g : Int} {x : (Int × Nat) × List Int} (he : 2 ≤ e) (hx : CEK T n W q g h x) (hz : x.1.1 = 0) (ho : tO T n x.1.2 ≠ 0) (k : ∀ h', CEK T n W q (g + 1) h' (tkA x.1, x.2) → frE q h h' → Q none h') : Rn xs xl e mm_Reader_step 0 [some (.inr (.inr 2)), none] [] h Q := by
  have lt := tO_lt (T := T) hx.1.1.2.1.2.2.2 hx.1.1.2.1.2.2.1 ho
  refine F_stp he hx.1 (fun _ => ho) (fun h' c1 f1 => k h' (CEK_fr hq hx c1 f1 (fun _ => ⟨hz, ?_⟩)) f1.E)
  rw [tkA_0 hz]
  have := (hx.2.2 hz).2.1
  show (x.2.length : Int) + (g + 1) ≤ ((x.1.2 + 1 : Nat) : Int) ∧ x.1.2 + 1 ≤ 1000
  omega
theorem F_expr (hq : q = 5 ∨ q = 32) {r : Nat} (hr : r ≤ 5) (hP : PartC T n W q r) : ∀ j : Nat, j ≤ 4 → ExprC T n W q r j
  | 0, _ => by
    intro xs xl e g h x Q l d hl hd he hg hx hz k
    refine B_Reader_expression_0 hq hx.1.1.1 ⟨fun c => by omega, fun _ => ⟨4 + 6 * r, by omega, hP xs xl _ g h x _ d hd (Nat.le_refl _) hg hx hz (fun h' c1 f1 => B_Reader_expression_11 hq c1.1.1.1 (k h' c1 f1))⟩⟩
  | j + 1, hj => by
    have ih := F_expr hq hr hP j (by omega)
    intro xs xl e g h x Q l d hl hd he hg hx hz k
    have el : l = ((3 - j : Nat) : Int) := by omega
    have loop : ∀ (m : Nat) (i : Int) (o5 : Option LV) (h1 : LH) (y : (Int × Nat) × List Int), (j ≠ 2 → (m : Int) + i = 1000 ∧ 0 ≤ i) → (j = 2 → m = 1 ∧ i = 0) → CEK T n W q g h1 y → frE q h h1 → (∀ h', CEK T n W q g h' (exL (tO T n) (tV T n 32) (tW T n 32 W) (exX (tO T n) (tV T n 32) (tW T n 32 W) (exP (tO T n) (tV T n 32) (tW T n 32 W) (tP T n) r) j) (3 - j) m y) → frE q h h' → Q none h') → Rn xs xl e mm_Reader_expression 24 [some (.inr (.inr 2)), some (.inr (.inr q)), some (.inl l), some (.inl d), some (.inl i), o5] [] h1 Q := by
      intro m
      induction m with
      | zero =>
        intro i o5 h1 y hm1 hm2 hy f1 kk
        have j2 : j ≠ 2 := fun z => by have := hm2 z; omega
        have hi := hm1 j2
        exact B_Reader_expression_24 hq hy.1.1.1 (by omega) ⟨fun _ => kk h1 hy f1, fun c => by omega⟩
      | succ m im =>
        intro i o5 h1 y hm1 hm2 hy f1 kk
        have hi : 0 ≤ i ∧ i < 1000 := by
          by_cases z : j = 2
          · have := hm2 z; omega
          · have := hm1 z; omega
        have e8 := hy.1.2.1
        refine B_Reader_expression_24 hq hy.1.1.1 (by omega) ⟨fun c => by omega, fun _ => ⟨fun c => kk h1 ?_ f1, fun c => ?_⟩⟩
        · unfold exL
          rw [if_neg (fun z => c (e8.trans z.1))]; exact hy
        · have yz : y.1.1 = 0 := e8.symm.trans c
          refine ⟨1, by omega, ?_⟩
          rw [el]
          refine F_operatorOf (by omega) hy.1 yz (by omega) ?_
          rw [← el]
          refine B_Reader_expression_44 hq hy.1.1.1 ⟨fun c2 => ⟨2, by omega, ?_⟩, fun c2 => kk h1 ?_ f1⟩
          · have on := exO_o c2
            refine CEK_stp hq (by omega) hy yz on (fun h2 c3 f2 => ?_)
            refine B_Reader_expression_57 hq c3.1.1.1 ⟨by omega, 5 + 6 * r + j, by omega, ?_⟩
            refine ih xs xl _ (g + 1) h2 _ _ (l + 1) d (by omega) hd (Nat.le_refl _) (by omega) c3 (by rw [tkA_0 yz]) (fun h3 c4 f3 => ?_)
            refine B_Reader_expression_66 hq c4.1.1.1 ⟨0, by omega, F_addLaw hq c4 (fun z => ?_) (fun h4 c5 f4 _ => ?_)⟩
            · have := (c4.2.2 z).2
              omega
            · rw [show g + 1 - 1 = g by omega] at c5
              have fa := ((f1.trans f2).trans f3).trans f4
              have eq : exL (tO T n) (tV T n 32) (tW T n 32 W) (exX (tO T n) (tV T n 32) (tW T n 32 W) (exP (tO T n) (tV T n 32) (tW T n 32 W) (tP T n) r) j) (3 - j) (m + 1) y = exL (tO T n) (tV T n 32) (tW T n 32 W) (exX (tO T n) (tV T n 32) (tW T n 32 W) (exP (tO T n) (tV T n 32) (tW T n 32 W) (tP T n) r) j) (3 - j) m (exA (exO (tO T n) (tV T n 32) (tW T n 32 W) (3 - j) y.1.2) (exX (tO T n) (tV T n 32) (tW T n 32 W) (exP (tO T n) (tV T n 32) (tW T n 32 W) (tP T n) r) j (tkA y.1, y.2))) := by
                show (if y.1.1 = 0 ∧ exO (tO T n) (tV T n 32) (tW T n 32 W) (3 - j) y.1.2 ≠ -1 then _ else y) = _
                rw [if_pos ⟨yz, c2⟩]
              rw [eq] at kk
              refine B_Reader_expression_72 hq c5.1.1.1 (by omega) ⟨fun c6 => ?_, fun c6 => ?_⟩
              · exact im (i + 1) _ h4 _ (fun z => by have := hm1 z; omega) (fun z => by omega) c5 fa kk
              · have m0 : m = 0 := by have := hm2 (by omega); omega
                subst m0
                exact kk h4 c5 fa
          · unfold exL
            rw [if_neg (fun z => z.2 c2)]; exact hy
    refine B_Reader_expression_0 hq hx.1.1.1 ⟨fun c => ⟨by omega, 5 + 6 * r + j, by omega, ?_⟩, fun c => by omega⟩
    refine ih xs xl _ g h x _ (l + 1) d (by omega) hd (Nat.le_refl _) hg hx hz (fun h1 c1 f1 => ?_)
    refine B_Reader_expression_21 hq c1.1.1.1 ?_
    by_cases j2 : j = 2
    · refine loop 1 0 none h1 _ (fun z => absurd j2 z) (fun _ => ⟨rfl, rfl⟩) c1 f1 (fun h' c2 f2 => k h' ?_ f2)
      show CEK T n W q g h' (exL _ _ _ _ (3 - j) (if j = 2 then 1 else 1000) _)
      rw [if_pos j2]; exact c2
    · refine loop 1000 0 none h1 _ (fun _ => ⟨by decide, by decide⟩) (fun z => absurd z j2) c1 f1 (fun h' c2 f2 => k h' ?_ f2)
      show CEK T n W q g h' (exL _ _ _ _ (3 - j) (if j = 2 then 1 else 1000) _)
      rw [if_neg j2]; exact c2
theorem F_part0 (hq : q = 5 ∨ q = 32) {xs : Nat → Int} {xl e : Nat} {h : LH} {Q : Option LV → LH → Prop} {g : Int} {x : (Int × Nat) × List Int} {d : Int} (he : 1 ≤ e) (hx : CEK T n W q g h x) (hz : x.1.1 = 0)
    (core : ∀ v3 v4 w0 : Int, (v3 ≠ 0 ↔ tO T n x.1.2 = 2) → (v4 ≠ 0 ↔ 25 ≤ tW T n 32 W x.1.2) → (w0 ≠ 0 ↔ tO T n x.1.2 = 3 ∧ tV T n 32 x.1.2 = 40) → Rn xs xl e mm_Reader_part 36 [some (.inr (.inr 2)), some (.inr (.inr q)), some (.inl d), some (.inl v3), some (.inl v4), none] [.inl w0] h Q) :
    Rn xs xl e mm_Reader_part 0 [some (.inr (.inr 2)), some (.inr (.inr q)), some (.inl d), none, none, none] [] h Q := by
  have ek := CS_k hx.1 hz
  have ew := CS_w hx.1 hz
  have sg : ∀ v3 v4 : Int, (v3 ≠ 0 ↔ tO T n x.1.2 = 2) → (v4 ≠ 0 ↔ 25 ≤ tW T n 32 W x.1.2) → (∃ c, c < e ∧ Rn xs xl c mm_Reader_isSign 0 [some (.inr (.inr 2)), some (.inl 40)] [] h (fun r h' => Rn xs xl e mm_Reader_part 36 [some (.inr (.inr 2)), some (.inr (.inr q)), some (.inl d), some (.inl v3), some (.inl v4), none] (r.toList ++ []) h' Q)) := by
    intro v3 v4 a1 a2
    refine ⟨0, by omega, F_isSign hx.1 (fun r r01 hr => core v3 v4 r a1 a2 ?_)⟩
    rw [← hr hz]
    omega
  have o2 : rd h 2 3 = 3 ↔ tO T n x.1.2 = 2 := by rw [ek]; exact ck_3
  refine B_Reader_part_0 hq hx.1.1.1 ⟨fun c => ⟨fun c2 => sg 0 0 ?_ ?_, fun c2 => sg 0 1 ?_ ?_⟩, fun c => ⟨fun c2 => sg 1 0 ?_ ?_, fun c2 => sg 1 1 ?_ ?_⟩⟩
  · rw [← o2]; omega
  · rw [← ew]; omega
  · rw [← o2]; omega
  · rw [← ew]; omega
  · rw [← o2]; omega
  · rw [← ew]; omega
  · rw [← o2]; omega
  · rw [← ew]; omega
theorem F_part (hq : q = 5 ∨ q = 32) : ∀ r : Nat, r ≤ 5 → PartC T n W q r
  | 0, _ => by
    intro xs xl e g h x Q d hd he hg hx hz k
    have ew := CS_w hx.1 hz
    refine F_part0 hq (by omega) hx hz (fun v3 v4 w0 a3 a4 a0 => ?_)
    have f5 : exK (tO T n) (tV T n 32) (tW T n 32 W) x.1.2 = true → (∃ c, c < e ∧ Rn xs xl c mm_Reader_fail 0 [some (.inr (.inr 2)), some (.inl 5)] [] h (fun r h' => Rn xs xl e mm_Reader_part 77 [some (.inr (.inr 2)), some (.inr (.inr q)), some (.inl d), some (.inl v3), some (.inl v4), some (.inl w0)] (r.toList ++ []) h' Q)) := by
      intro ok
      refine ⟨0, by omega, F_fl hx.1 (by omega) (fun h' c1 f1 => B_Reader_part_77 hq c1.1.1 (k h' ?_ f1.E))⟩
      unfold exP
      rw [if_pos ok]
      exact CEK_fr hq hx c1 f1 (fun z => absurd z (tkE_ne hx.1.1.2.1 (by decide)))
    have okd : ∀ (z : tO T n x.1.2 = 2 ∨ 25 ≤ tW T n 32 W x.1.2 ∨ (tO T n x.1.2 = 3 ∧ tV T n 32 x.1.2 = 40) ∨ tW T n 32 W x.1.2 = 22), exK (tO T n) (tV T n 32) (tW T n 32 W) x.1.2 = true := by
      intro z; unfold exK; rw [decide_eq_true_iff]; exact z
    refine B_Reader_part_36 hq hx.1.1.1 (by omega) ⟨fun b3 => ⟨fun c => by omega, fun _ => f5 (okd (Or.inl (a3.mp b3)))⟩, fun b3 => ⟨fun b4 => ⟨fun c => by omega, fun _ => f5 (okd (Or.inr (Or.inl (a4.mp b4))))⟩, fun b4 => ⟨fun b0 => ⟨fun c => by omega, fun _ => f5 (okd (Or.inr (Or.inr (Or.inl (a0.mp b0)))))⟩, fun b0 => ⟨fun b7 => ⟨fun c => by omega, fun _ => f5 (okd (Or.inr (Or.inr (Or.inr (ew.symm.trans b7)))))⟩, fun b7 => ?_⟩⟩⟩⟩
    refine ⟨0, by omega, F_fl hx.1 (by omega) (fun h' c1 f1 => B_Reader_part_66 hq c1.1.1 (k h' ?_ f1.E))⟩
    unfold exP
    rw [if_neg]
    · exact CEK_fr hq hx c1 f1 (fun z => absurd z (tkE_ne hx.1.1.2.1 (by decide)))
    · unfold exK
      rw [decide_eq_true_iff]
      rintro (z | z | z | z)
      · exact a3.mpr z b3
      · exact a4.mpr z b4
      · exact a0.mpr z b0
      · exact b7 (ew.trans z)
  | r + 1, hr => by
    have ihP := F_part hq r (by omega)
    have ihE := F_expr hq (by omega) ihP 4 (by omega)
    intro xs xl e g h x Q d hd he hg hx hz k
    have ew := CS_w hx.1 hz
    have win := hx.1.2.2.1
    have t3 := hx.1.1.2.1.2.2.1
    have t4 := hx.1.1.2.1.2.2.2
    have sl := (hx.2.2 hz).2.1
    refine F_part0 hq (by omega) hx hz (fun v3 v4 w0 a3 a4 a0 => ?_)
    -- a number, or a fact
    have atom : ∀ c : Int, tO T n x.1.2 ≠ 0 → exP (tO T n) (tV T n 32) (tW T n 32 W) (tP T n) (r + 1) x = (tkA x.1, x.2 ++ [c]) → (∃ b, b < e ∧ Rn xs xl b mm_Quarter_addLaw 0 [some (.inr (.inr q)), some (.inl c)] [] h (fun r h' => Rn xs xl e mm_Reader_part 114 [some (.inr (.inr 2)), some (.inr (.inr q)), some (.inl d), some (.inl v3), some (.inl v4), some (.inl w0)] (r.toList ++ []) h' Q)) := by
      intro c on ex
      rw [ex] at k
      have lt := tO_lt (T := T) t4 t3 on
      refine ⟨0, by omega, F_addLaw hq hx (fun _ => by omega) (fun h1 c1 f1 _ => B_Reader_part_114 hq c1.1.1.1 ⟨2, by omega, CEK_stp hq (by omega) c1 hz on (fun h2 c2 f2 => B_Reader_part_118 hq c2.1.1.1 (k h2 ?_ (f1.trans f2)))⟩)⟩
      rw [show g - 1 + 1 = g by omega] at c2
      exact c2
    refine B_Reader_part_36 hq hx.1.1.1 (by omega) ⟨fun b3 => ⟨fun _ => ?_, fun c => by omega⟩, fun b3 => ⟨fun b4 => ⟨fun _ => ⟨by omega, by omega, ?_⟩, fun c => by omega⟩, fun b4 => ⟨fun b0 => ⟨fun _ => ?_, fun c => by omega⟩, fun b0 => ⟨fun b7 => ⟨fun _ => ?_, fun c => by omega⟩, fun b7 => ?_⟩⟩⟩⟩
    · have o2 := a3.mp b3
      have ev := CS_v hx.1 hz (by omega) (by omega)
      have bd := tV_num (T := T) (n := n) (b := 32) t4 t3 o2
      rw [ev, w32_id (by unfold i32; omega)]
      refine atom _ (by omega) ?_
      show (if tO T n x.1.2 = 2 then _ else _) = _
      rw [if_pos o2]
    · have n2 : ¬ tO T n x.1.2 = 2 := fun z => a3.mpr z b3
      have f4 := a4.mp b4
      rw [ew]
      refine atom _ (by rw [tW_o (W := W) (b := 32) (by omega)]; decide) ?_
      show (if tO T n x.1.2 = 2 then _ else if 25 ≤ tW T n 32 W x.1.2 then _ else _) = _
      rw [if_neg n2, if_pos f4]
    · have n2 : ¬ tO T n x.1.2 = 2 := fun z => a3.mpr z b3
      have n4 : ¬ 25 ≤ tW T n 32 W x.1.2 := fun z => a4.mpr z b4
      have f0 := a0.mp b0
      have ex : exP (tO T n) (tV T n 32) (tW T n 32 W) (tP T n) (r + 1) x = (tkS (tO T n) (tV T n 32) (tP T n) 41 (exX (tO T n) (tV T n 32) (tW T n 32 W) (exP (tO T n) (tV T n 32) (tW T n 32 W) (tP T n) r) 4 (tkA x.1, x.2)).1, (exX (tO T n) (tV T n 32) (tW T n 32 W) (exP (tO T n) (tV T n 32) (tW T n 32 W) (tP T n) r) 4 (tkA x.1, x.2)).2) := by
        show (if tO T n x.1.2 = 2 then _ else if 25 ≤ tW T n 32 W x.1.2 then _ else if tO T n x.1.2 = 3 ∧ tV T n 32 x.1.2 = 40 then _ else _) = _
        rw [if_neg n2, if_neg n4, if_pos f0]
      rw [ex] at k
      refine ⟨2, by omega, CEK_stp hq (by omega) hx hz (by omega) (fun h1 c1 f1 => B_Reader_part_130 hq c1.1.1.1 (by omega) ⟨9 + 6 * r, by omega, ihE xs xl _ (g + 1) h1 _ _ 0 (d + 1) (by decide) (by omega) (by omega) (by omega) c1 (by rw [tkA_0 hz]) (fun h2 c2 f2 => ?_)⟩)⟩
      refine B_Reader_part_139 hq c2.1.1.1 ⟨3, by omega, F_takeSign (by omega) c2.1 (fun h3 c3 f3 => B_Reader_part_145 hq c3.1.1 (k h3 ?_ ((f1.trans f2).trans f3.E)))⟩
      refine CEK_fr hq c2 c3 f3 (fun z => ?_)
      generalize exX (tO T n) (tV T n 32) (tW T n 32 W) (exP (tO T n) (tV T n 32) (tW T n 32 W) (tP T n) r) 4 (tkA x.1, x.2) = y at c2 z ⊢
      have yz : y.1.1 = 0 := by
        by_cases yy : y.1.1 = 0
        · exact yy
        · rw [tkS_f yy] at z; exact z
      refine ⟨yz, ?_⟩
      have y2 := (c2.2.2 yz).2
      unfold tkS at z ⊢
      by_cases c : tO T n y.1.2 = 3 ∧ tV T n 32 y.1.2 = 41
      · have lt := tO_lt (T := T) t4 t3 (k := y.1.2) (by omega)
        rw [if_pos c, tkA_0 yz]
        show (y.2.length : Int) + g ≤ ((y.1.2 + 1 : Nat) : Int) ∧ y.1.2 + 1 ≤ 1000
        omega
      · rw [if_neg c] at z
        exact absurd z (tkE_ne hx.1.1.2.1 (by decide))
    · have n2 : ¬ tO T n x.1.2 = 2 := fun z => a3.mpr z b3
      have n4 : ¬ 25 ≤ tW T n 32 W x.1.2 := fun z => a4.mpr z b4
      have n0 : ¬ (tO T n x.1.2 = 3 ∧ tV T n 32 x.1.2 = 40) := fun z => a0.mpr z b0
      have f7 : tW T n 32 W x.1.2 = 22 := ew.symm.trans b7
      have ex : exP (tO T n) (tV T n 32) (tW T n 32 W) (tP T n) (r + 1) x = exA 10004 (exP (tO T n) (tV T n 32) (tW T n 32 W) (tP T n) r (tkA x.1, x.2)) := by
        show (if tO T n x.1.2 = 2 then _ else if 25 ≤ tW T n 32 W x.1.2 then _ else if tO T n x.1.2 = 3 ∧ tV T n 32 x.1.2 = 40 then _ else if tW T n 32 W x.1.2 = 22 then _ else _) = _
        rw [if_neg n2, if_neg n4, if_neg n0, if_pos f7]
      rw [ex] at k
      refine ⟨2, by omega, CEK_stp hq (by omega) hx hz (by rw [tW_o (W := W) (b := 32) (by omega)]; decide) (fun h1 c1 f1 => B_Reader_part_152 hq c1.1.1.1 (by omega) ⟨4 + 6 * r, by omega, ihP xs xl _ (g + 1) h1 _ _ (d + 1) (by omega) (Nat.le_refl _) (by omega) c1 (by rw [tkA_0 hz]) (fun h2 c2 f2 => ?_)⟩)⟩
      refine B_Reader_part_160 hq c2.1.1.1 ⟨0, by omega, F_addLaw hq c2 (fun z => ?_) (fun h3 c3 f3 _ => B_Reader_part_167 hq c3.1.1.1 (k h3 ?_ ((f1.trans f2).trans f3)))⟩
      · have := (c2.2.2 z).2
        omega
      · rw [show g + 1 - 1 = g by omega] at c3
        exact c3
    · have n2 : ¬ tO T n x.1.2 = 2 := fun z => a3.mpr z b3
      have n4 : ¬ 25 ≤ tW T n 32 W x.1.2 := fun z => a4.mpr z b4
      have n0 : ¬ (tO T n x.1.2 = 3 ∧ tV T n 32 x.1.2 = 40) := fun z => a0.mpr z b0
      have n7 : ¬ tW T n 32 W x.1.2 = 22 := fun z => b7 (ew.trans z)
      have ex : exP (tO T n) (tV T n 32) (tW T n 32 W) (tP T n) (r + 1) x = (tkE (tP T n) 1 x.1, x.2) := by
        show (if tO T n x.1.2 = 2 then _ else if 25 ≤ tW T n 32 W x.1.2 then _ else if tO T n x.1.2 = 3 ∧ tV T n 32 x.1.2 = 40 then _ else if tW T n 32 W x.1.2 = 22 then _ else _) = _
        rw [if_neg n2, if_neg n4, if_neg n0, if_neg n7]
      rw [ex] at k
      refine ⟨0, by omega, F_fl hx.1 (by omega) (fun h' c1 f1 => B_Reader_part_66 hq c1.1.1 (k h' ?_ f1.E))⟩
      exact CEK_fr hq hx c1 f1 (fun z => absurd z (tkE_ne hx.1.1.2.1 (by decide)))
end CD
end
section
/-! p3, part b3: the reference reads the law's text -/
section MON
variable {o v w p : Nat → Int} {s : Int × Nat}
theorem tkA_2 : s.2 ≤ (tkA s).2 := by unfold tkA; split <;> simp
theorem tkE_2 {c : Int} : (tkE p c s).2 = s.2 := by unfold tkE; split <;> rfl
theorem tkS_2 {c : Int} : s.2 ≤ (tkS o v p c s).2 := by
  unfold tkS
  split
  · exact tkA_2
  · rw [tkE_2]; exact Nat.le_refl _
theorem exL_mono {f : (Int × Nat) × List Int → (Int × Nat) × List Int} (hf : ∀ x, x.1.2 ≤ (f x).1.2) {lv : Nat} : ∀ (m : Nat) (x : (Int × Nat) × List Int), x.1.2 ≤ (exL o v w f lv m x).1.2
  | 0, x => Nat.le_refl _
  | m + 1, x => by
    unfold exL
    split
    · refine Nat.le_trans (Nat.le_trans (tkA_2 (s := x.1)) (hf (tkA x.1, x.2))) ?_
      exact exL_mono hf m (exA _ (f (tkA x.1, x.2)))
    · exact Nat.le_refl _
theorem exX_mono {P : (Int × Nat) × List Int → (Int × Nat) × List Int} (hf : ∀ x, x.1.2 ≤ (P x).1.2) : ∀ (j : Nat) (x : (Int × Nat) × List Int), x.1.2 ≤ (exX o v w P j x).1.2
  | 0, x => hf x
  | j + 1, x => Nat.le_trans (exX_mono hf j x) (exL_mono (exX_mono hf j) _ _)
theorem exP_mono : ∀ (r : Nat) (x : (Int × Nat) × List Int), x.1.2 ≤ (exP o v w p r x).1.2
  | 0, x => by
    unfold exP
    show x.1.2 ≤ (if exK o v w x.1.2 = true then tkE p 5 x.1 else tkE p 1 x.1).2
    split <;> (rw [tkE_2]; exact Nat.le_refl _)
  | r + 1, x => by
    unfold exP
    split
    · exact tkA_2
    · split
      · exact tkA_2
      · split
        · exact Nat.le_trans (Nat.le_trans tkA_2 (exX_mono (exP_mono r) 4 (tkA x.1, x.2))) tkS_2
        · split
          · exact Nat.le_trans tkA_2 (exP_mono r (tkA x.1, x.2))
          · show x.1.2 ≤ (tkE p 1 x.1).2
            rw [tkE_2]; exact Nat.le_refl _
theorem exL_stop {f : (Int × Nat) × List Int → (Int × Nat) × List Int} {lv : Nat} {x : (Int × Nat) × List Int} (hc : ¬ (x.1.1 = 0 ∧ exO o v w lv x.1.2 ≠ -1)) : ∀ m : Nat, exL o v w f lv m x = x
  | 0 => rfl
  | m + 1 => by unfold exL; rw [if_neg hc]
theorem exL_go {f : (Int × Nat) × List Int → (Int × Nat) × List Int} {lv : Nat} {x : (Int × Nat) × List Int} (hz : x.1.1 = 0) (hc : exO o v w lv x.1.2 ≠ -1) {m : Nat} : exL o v w f lv (m + 1) x = exL o v w f lv m (exA (exO o v w lv x.1.2) (f (tkA x.1, x.2))) := by
  show (if x.1.1 = 0 ∧ exO o v w lv x.1.2 ≠ -1 then _ else x) = _
  rw [if_pos ⟨hz, hc⟩]
end MON
def cdO (c : Int) : Int := if c < 10000 then 1 else if c < 10004 then 2 else if c = 10004 then 3 else if c = 10005 then 9 else if c = 10006 then 10 else if c = 10007 then 7 else if c = 10008 then 8 else if c = 10009 then 4 else if c = 10010 then 5 else 6
def cdA (c : Int) : Int := if c < 10000 then c else if c < 10004 then c - 10000 else 0
/-- the reference's codes so far -/
def LRK (h : LH) (L : List Int) : Prop := rd h 182 13 = L.length ∧ ∀ i : Nat, i < L.length → rd h 189 (1100 + i) = cdO (L.getD i 0) ∧ rd h 190 (1100 + i) = cdA (L.getD i 0)
def muLK (a i : Int) : Prop := (a = 182 ∧ (i = 7 ∨ i = 8 ∨ i = 13)) ∨ ((a = 189 ∨ a = 190) ∧ 1100 ≤ i)
def frLK (h h' : LH) : Prop := ∀ a i, ¬ muLK a i → rd h' a i = rd h a i
theorem frLK.refl {h : LH} : frLK h h := fun _ _ _ => rfl
theorem frLK.trans {h h1 h2 : LH} (a : frLK h h1) (b : frLK h1 h2) : frLK h h2 := fun x i hn => (b x i hn).trans (a x i hn)
theorem frT.L {h h' : LH} (f : frT h h') : frLK h h' := fun a i hn => f a i (fun z => hn (by unfold muTK at z; unfold muLK; omega))
theorem RF_fl {h h' : LH} (hF : RF h) (hf : frLK h h') : RF h' := by
  intro a j c hv he
  by_cases z : muLK a j
  · exfalso
    rcases z with ⟨rfl, z⟩ | ⟨rfl | rfl, z⟩
    · have key : (hav 182 (j : Int)).1 ≠ 2 := by
        rcases (show j = 7 ∨ j = 8 ∨ j = 13 by omega) with rfl | rfl | rfl <;> decide +kernel
      rw [he] at key
      exact absurd rfl key
    · rw [hA_op] at he
      injection he with h1
      exact absurd h1 (by decide)
    · rw [hA_arg] at he
      injection he with h1
      exact absurd h1 (by decide)
  · rw [hf a j z]
    exact hF a j c hv he
def REK (T : Int → Int) (n : Int) (V : Int → Int) (m : Nat) (g : Int) (h : LH) (x : (Int × Nat) × List Int) : Prop := RSK T n V m h x.1 ∧ 0 ≤ rd h 182 13 ∧ rd h 182 13 + g ≤ x.1.2 ∧ x.1.2 ≤ 1000 ∧ (x.1.1 = 0 → LRK h x.2)
section CE
variable {xs : Nat → Int} {xl e : Nat} {h : LH} {Q : Option LV → LH → Prop} {v1 v2 v3 : Int} {T : Int → Int} {n : Int} {V : Int → Int} {m : Nat} {s : Int × Nat} {x : (Int × Nat) × List Int} {g : Int}
theorem REK_fr {h' : LH} {s' : Int × Nat} {g' : Int} (hx : REK T n V m g h x) (hs : RSK T n V m h' s') (hf : frT h h') (hk : (x.1.2 : Int) + (g' - g) ≤ s'.2) (hk2 : s'.2 ≤ 1000) (h0 : s'.1 = 0 → x.1.1 = 0) : REK T n V m g' h' (s', x.2) := by
  obtain ⟨c1, c2, c3, c4, c5⟩ := hx
  have e13 : rd h' 182 13 = rd h 182 13 := hf _ _ (by unfold muTK; omega)
  refine ⟨hs, by rw [e13]; exact c2, by rw [e13]; show rd h 182 13 + g' ≤ (s'.2 : Int); omega, hk2, fun hz => ?_⟩
  obtain ⟨l1, l2⟩ := c5 (h0 hz)
  refine ⟨e13.trans l1, fun i hi => ?_⟩
  rw [hf _ _ (by unfold muTK; omega), hf _ _ (by unfold muTK; omega)]
  exact l2 i hi
theorem REK_adv (hx : REK T n V m g h x) (hz : x.1.1 = 0) (ho : tO T n x.1.2 ≠ 0) : REK T n V m (g + 1) (wr h 182 7 (rd h 182 7 + 1)) (tkA x.1, x.2) := by
  have lt := RS_lt hx.1 hz ho
  have m1 := hx.1.1.2.2.2.2.1
  refine REK_fr hx (RS_adv hx.1 hz ho) fr7 ?_ ?_ (fun _ => hz)
  · rw [tkA_0 hz]; show (x.1.2 : Int) + (g + 1 - g) ≤ ((x.1.2 + 1 : Nat) : Int); omega
  · rw [tkA_0 hz]; show x.1.2 + 1 ≤ 1000; omega
theorem REK_advT {h' : LH} (hx : REK T n V m g h x) (hz : x.1.1 = 0) (ho : tO T n x.1.2 ≠ 0) (hs : RSK T n V m h' (tkA x.1)) (hf : frT h h') : REK T n V m (g + 1) h' (tkA x.1, x.2) := by
  have lt := RS_lt hx.1 hz ho
  have m1 := hx.1.1.2.2.2.2.1
  refine REK_fr hx hs hf ?_ ?_ (fun _ => hz)
  · rw [tkA_0 hz]; show (x.1.2 : Int) + (g + 1 - g) ≤ ((x.1.2 + 1 : Nat) : Int); omega
  · rw [tkA_0 hz]; show x.1.2 + 1 ≤ 1000; omega
theorem REK_same {h' : LH} (hx : REK T n V m g h x) (hs : RSK T n V m h' x.1) (hf : frT h h') : REK T n V m g h' x := REK_fr hx hs hf (by omega) hx.2.2.2.1 (fun z => z)
theorem G_emit (hg : 0 ≤ g) (hx : REK T n V m g h x) {c : Int} (e1 : v1 = cdO c) (e2 : v2 = cdA c) (k : ∀ h', REK T n V m (g - 1) h' (exA c x) → frLK h h' → Q none h') : Rn xs xl e mm_emit 0 [some (.inr (.inr 182)), some (.inl v1), some (.inl v2)] [] h Q := by
  obtain ⟨c1, c2, c3, c4, c5⟩ := hx
  refine B_emit_0 c1.1.1 ⟨by omega, by omega, by omega, by omega, by omega, ?_⟩
  have f1 : frLK h (wr (wr (wr h 189 (rd h 182 13 + 1100) v1) 190 (rd h 182 13 + 1100) v2) 182 13 (rd h 182 13 + 1)) := by
    intro a i hn
    unfold muLK at hn
    rw [rd_wr, if_neg (fun z => hn (by omega)), rd_wr, if_neg (fun z => hn (by omega)), rd_wr, if_neg (fun z => hn (by omega))]
  have e7 : rd (wr (wr (wr h 189 (rd h 182 13 + 1100) v1) 190 (rd h 182 13 + 1100) v2) 182 13 (rd h 182 13 + 1)) 182 7 = rd h 182 7 := (rdw_nei (by decide)).trans ((rdw_ne (by decide)).trans (rdw_ne (by decide)))
  have e8 : rd (wr (wr (wr h 189 (rd h 182 13 + 1100) v1) 190 (rd h 182 13 + 1100) v2) 182 13 (rd h 182 13 + 1)) 182 8 = rd h 182 8 := (rdw_nei (by decide)).trans ((rdw_ne (by decide)).trans (rdw_ne (by decide)))
  have r1 : RSK T n V m (wr (wr (wr h 189 (rd h 182 13 + 1100) v1) 190 (rd h 182 13 + 1100) v2) 182 13 (rd h 182 13 + 1)) x.1 := by
    refine ⟨RXK_fr c1.1 (RF_fl c1.1.1 f1) (fun a i ha => f1 a i (by unfold muLK; omega)), e8.trans c1.2.1, c1.2.2.1, by rw [e7]; exact c1.2.2.2.1, by rw [e7]; exact c1.2.2.2.2⟩
  refine k _ ⟨r1, by rw [rdw_eq]; omega, by rw [rdw_eq]; show rd h 182 13 + 1 + (g - 1) ≤ (x.1.2 : Int); omega, c4, fun hz => ?_⟩ f1
  obtain ⟨l1, l2⟩ := c5 hz
  refine ⟨?_, fun i hi => ?_⟩
  · rw [rdw_eq, l1]
    show _ = (((x.2 ++ [c]).length : Nat) : Int)
    rw [List.length_append, List.length_singleton]
    omega
  · have hi' := hi
    change i < (x.2 ++ [c]).length at hi'
    show _ = cdO ((x.2 ++ [c]).getD i 0) ∧ _ = cdA ((x.2 ++ [c]).getD i 0)
    have a1 : rd (wr (wr (wr h 189 (rd h 182 13 + 1100) v1) 190 (rd h 182 13 + 1100) v2) 182 13 (rd h 182 13 + 1)) 189 (1100 + i) = rd (wr h 189 (rd h 182 13 + 1100) v1) 189 (1100 + i) := (rdw_ne (by decide)).trans (rdw_ne (by decide))
    have a2 : rd (wr (wr (wr h 189 (rd h 182 13 + 1100) v1) 190 (rd h 182 13 + 1100) v2) 182 13 (rd h 182 13 + 1)) 190 (1100 + i) = rd (wr (wr h 189 (rd h 182 13 + 1100) v1) 190 (rd h 182 13 + 1100) v2) 190 (1100 + i) := rdw_ne (by decide)
    rw [getD_app hi', a1, a2]
    rw [List.length_append, List.length_singleton] at hi'
    by_cases z2 : i < x.2.length
    · rw [if_pos z2, rdw_nei (by omega), rdw_nei (by omega), rdw_ne (by decide)]; exact l2 i z2
    · rw [if_neg z2, show (1100 : Int) + i = rd h 182 13 + 1100 by omega, rdw_eq, rdw_eq]; exact ⟨e1, e2⟩
end CE
def PartR (T : Int → Int) (n : Int) (V : Int → Int) (m : Nat) (r : Nat) : Prop := ∀ (xs : Nat → Int) (xl e : Nat) (g : Int) (h : LH) (x : (Int × Nat) × List Int) (Q : Option LV → LH → Prop) (d : Int), d = 5 - (r : Int) → 3 + 6 * r ≤ e → 0 ≤ g → REK T n V m g h x → x.1.1 = 0 → (∀ h', REK T n V m g h' (exP (tO T n) (tV T n 37) (tW T n 37 V) (tP T n) r x) → frLK h h' → Q none h') → Rn xs xl e mm_takePart 0 [some (.inr (.inr 182)), some (.inl d), none, none] [] h Q
section CF
variable {T : Int → Int} {n : Int} {V : Int → Int} {m : Nat} {r : Nat} {xs : Nat → Int} {xl : Nat}
theorem exO3 {k : Nat} : exO (tO T n) (tV T n 37) (tW T n 37 V) 3 k = if tO T n k = 3 ∧ tV T n 37 k = 42 then 10011 else -1 := by
  unfold exO
  rw [if_neg (by decide), if_neg (by decide), if_neg (by decide)]
theorem G_products (hP : PartR T n V m r) {e : Nat} {g : Int} {h : LH} {x : (Int × Nat) × List Int} {Q : Option LV → LH → Prop} {d : Int} (hd : d = 5 - (r : Int)) (he : 4 + 6 * r ≤ e) (hg : 0 ≤ g) (hx : REK T n V m g h x) (hz : x.1.1 = 0) (k : ∀ h', REK T n V m g h' (exX (tO T n) (tV T n 37) (tW T n 37 V) (exP (tO T n) (tV T n 37) (tW T n 37 V) (tP T n) r) 1 x) → frLK h h' → Q none h') :
    Rn xs xl e mm_products 0 [some (.inr (.inr 182)), some (.inl d)] [] h Q := by
  have loop : ∀ (c : Nat) (h1 : LH) (y : (Int × Nat) × List Int), REK T n V m g h1 y → frLK h h1 → (y.1.1 = 0 → 1000 ≤ y.1.2 + c) → (∀ h', REK T n V m g h' (exL (tO T n) (tV T n 37) (tW T n 37 V) (exP (tO T n) (tV T n 37) (tW T n 37 V) (tP T n) r) 3 c y) → frLK h h' → Q none h') → Rn xs xl e mm_products 5 [some (.inr (.inr 182)), some (.inl d)] [] h1 Q := by
    intro c
    induction c with
    | zero =>
      intro h1 y hy f1 hc kk
      refine B_products_5 hy.1.1.1 ⟨1, by omega, G_hasSign (by omega) hy.1 (fun h2 yz o3 ev s2 f2 => ?_) (fun h2 no s2 f2 => ?_)⟩
      · have lt := tO_lt (T := T) (n := n) (k := y.1.2) hy.1.1.2.2.2.2.2.2.1 hy.1.1.2.2.2.2.2.1 (by omega)
        have := hc yz
        omega
      · exact B_products_11_0 s2.1.1 (kk h2 (REK_same hy s2 f2) (f1.trans f2.L))
    | succ c ic =>
      intro h1 y hy f1 hc kk
      refine B_products_5 hy.1.1.1 ⟨1, by omega, G_hasSign (by omega) hy.1 (fun h2 yz o3 ev s2 f2 => ?_) (fun h2 no s2 f2 => ?_)⟩
      · have eo : exO (tO T n) (tV T n 37) (tW T n 37 V) 3 y.1.2 = 10011 := by rw [exO3, if_pos ⟨o3, ev⟩]
        have y2 := REK_advT hy yz (by omega) s2 f2
        rw [exL_go yz (by rw [eo]; decide), eo] at kk
        refine B_products_11_1 s2.1.1 ⟨3 + 6 * r, by omega, hP xs xl _ (g + 1) h2 _ _ d hd (Nat.le_refl _) (by omega) y2 (by rw [tkA_0 yz]) (fun h3 c3 f3 => ?_)⟩
        refine B_products_19 c3.1.1.1 ⟨0, by omega, G_emit (by omega) c3 (c := 10011) rfl rfl (fun h4 c4 f4 => ?_)⟩
        rw [show g + 1 - 1 = g by omega] at c4
        refine B_products_26 c4.1.1.1 (ic h4 _ c4 (((f1.trans f2.L).trans f3).trans f4) (fun z => ?_) kk)
        have mo := exP_mono (o := tO T n) (v := tV T n 37) (w := tW T n 37 V) (p := tP T n) r (tkA y.1, y.2)
        rw [tkA_0 yz] at mo
        have := hc yz
        change 1000 ≤ (exP (tO T n) (tV T n 37) (tW T n 37 V) (tP T n) r (tkA y.1, y.2)).1.2 + c
        rw [tkA_0 yz]
        have mo' : y.1.2 + 1 ≤ (exP (tO T n) (tV T n 37) (tW T n 37 V) (tP T n) r ((0, y.1.2 + 1), y.2)).1.2 := mo
        omega
      · rw [exL_stop (fun z => by rw [exO3, if_neg (no z.1)] at z; exact z.2 rfl)] at kk
        exact B_products_11_0 s2.1.1 (kk h2 (REK_same hy s2 f2) (f1.trans f2.L))
  refine B_products_0 hx.1.1.1 ⟨3 + 6 * r, by omega, hP xs xl _ g h x _ d hd (Nat.le_refl _) hg hx hz (fun h1 c1 f1 => loop 1000 h1 _ c1 f1 (fun _ => by omega) k)⟩
end CF
end
section
/-! p3, part b4: the reference reads the law's text: sums, tests, all, parts -/
section CG
variable {T : Int → Int} {n : Int} {V : Int → Int} {m : Nat} {r : Nat} {xs : Nat → Int} {xl : Nat}
theorem exO2 {k : Nat} : exO (tO T n) (tV T n 37) (tW T n 37 V) 2 k = if tO T n k = 3 ∧ tV T n 37 k = 43 then 10009 else if tO T n k = 3 ∧ tV T n 37 k = 45 then 10010 else -1 := by
  unfold exO
  rw [if_neg (by decide), if_neg (by decide), if_pos rfl]
theorem exO1 {k : Nat} : exO (tO T n) (tV T n 37) (tW T n 37 V) 1 k = if tO T n k = 3 ∧ tV T n 37 k = 60 then 10007 else if tO T n k = 3 ∧ tV T n 37 k = 61 then 10008 else -1 := by
  unfold exO
  rw [if_neg (by decide), if_pos rfl]
theorem exO0 {k : Nat} : exO (tO T n) (tV T n 37) (tW T n 37 V) 0 k = if tW T n 37 V k = 23 then 10005 else if tW T n 37 V k = 24 then 10006 else -1 := by
  unfold exO
  rw [if_pos rfl]
theorem on_mono {j : Nat} {y : (Int × Nat) × List Int} (yz : y.1.1 = 0) {c : Nat} (hc : 1000 ≤ y.1.2 + (c + 1)) : 1000 ≤ (exX (tO T n) (tV T n 37) (tW T n 37 V) (exP (tO T n) (tV T n 37) (tW T n 37 V) (tP T n) r) j (tkA y.1, y.2)).1.2 + c := by
  have mo := exX_mono (o := tO T n) (v := tV T n 37) (w := tW T n 37 V) (exP_mono (o := tO T n) (v := tV T n 37) (w := tW T n 37 V) (p := tP T n) r) j (tkA y.1, y.2)
  have e : (tkA y.1).2 = y.1.2 + 1 := by rw [tkA_0 yz]
  have mo' : (tkA y.1).2 ≤ (exX (tO T n) (tV T n 37) (tW T n 37 V) (exP (tO T n) (tV T n 37) (tW T n 37 V) (tP T n) r) j (tkA y.1, y.2)).1.2 := mo
  omega
theorem G_sums (hP : PartR T n V m r) {e : Nat} {g : Int} {h : LH} {x : (Int × Nat) × List Int} {Q : Option LV → LH → Prop} {d : Int} (hd : d = 5 - (r : Int)) (he : 5 + 6 * r ≤ e) (hg : 0 ≤ g) (hx : REK T n V m g h x) (hz : x.1.1 = 0) (k : ∀ h', REK T n V m g h' (exX (tO T n) (tV T n 37) (tW T n 37 V) (exP (tO T n) (tV T n 37) (tW T n 37 V) (tP T n) r) 2 x) → frLK h h' → Q none h') :
    Rn xs xl e mm_sums 0 [some (.inr (.inr 182)), some (.inl d), none] [] h Q := by
  have loop : ∀ (c : Nat) (h1 : LH) (y : (Int × Nat) × List Int) (o2 : Option LV), nL o2 → REK T n V m g h1 y → frLK h h1 → (y.1.1 = 0 → 1000 ≤ y.1.2 + c) → (∀ h', REK T n V m g h' (exL (tO T n) (tV T n 37) (tW T n 37 V) (exX (tO T n) (tV T n 37) (tW T n 37 V) (exP (tO T n) (tV T n 37) (tW T n 37 V) (tP T n) r) 1) 2 c y) → frLK h h' → Q none h') → Rn xs xl e mm_sums 5 [some (.inr (.inr 182)), some (.inl d), o2] [] h1 Q := by
    intro c
    induction c with
    | zero =>
      intro h1 y o2 no2 hy f1 hc kk
      have dead : y.1.1 = 0 → tO T n y.1.2 ≠ 0 → False := fun yz ho => by
        have lt := tO_lt (T := T) (n := n) (k := y.1.2) hy.1.1.2.2.2.2.2.2.1 hy.1.1.2.2.2.2.2.1 ho
        have := hc yz
        omega
      exact B_sums_5 no2 hy.1.1.1 ⟨0, by omega, G_isSign hy.1 (fun yz o3 _ => (dead yz (by omega)).elim) (fun _ => B_sums_11_0 no2 hy.1.1.1 ⟨0, by omega, G_isSign hy.1 (fun yz o3 _ => (dead yz (by omega)).elim) (fun _ => B_sums_20_0 no2 hy.1.1.1 (kk h1 hy f1))⟩)⟩
    | succ c ic =>
      intro h1 y o2 no2 hy f1 hc kk
      have a7 := hy.1.2.2.2.1
      have body : ∀ w0 code : Int, (w0 = 1 ∧ code = 10009) ∨ (w0 = 0 ∧ code = 10010) → y.1.1 = 0 → tO T n y.1.2 = 3 → exO (tO T n) (tV T n 37) (tW T n 37 V) 2 y.1.2 = code → Rn xs xl e mm_sums 29 [some (.inr (.inr 182)), some (.inl d), o2] [.inl w0] h1 Q := by
        intro w0 code hw yz o3 eo
        rw [exL_go yz (by rw [eo]; omega), eo] at kk
        refine B_sums_29 no2 hy.1.1.1 ⟨by omega, 4 + 6 * r, by omega, G_products hP hd (Nat.le_refl _) (by omega) (REK_adv hy yz (by omega)) (by rw [tkA_0 yz]) (fun h3 c3 f3 => ?_)⟩
        have fin : ∀ op : Int, op = cdO code → Rn xs xl 0 mm_emit 0 [some (.inr (.inr 182)), some (.inl op), some (.inl 0)] [] h3 (fun r h' => Rn xs xl e mm_sums 59 [some (.inr (.inr 182)), some (.inl d), some (.inl w0)] (r.toList ++ []) h' Q) := by
          intro op eop
          refine G_emit (by omega) c3 (c := code) eop (by rcases hw with ⟨_, rfl⟩ | ⟨_, rfl⟩ <;> rfl) (fun h4 c4 f4 => ?_)
          rw [show g + 1 - 1 = g by omega] at c4
          exact B_sums_59 c4.1.1.1 (ic h4 _ _ nL_i c4 (((f1.trans fr7.L).trans f3).trans f4) (fun _ => on_mono yz (hc yz)) kk)
        refine B_sums_45 c3.1.1.1 ⟨fun z => ⟨0, by omega, fin 5 ?_⟩, fun z => ⟨0, by omega, fin 4 ?_⟩⟩
        · rcases hw with ⟨z1, rfl⟩ | ⟨z1, rfl⟩
          · omega
          · rfl
        · rcases hw with ⟨z1, rfl⟩ | ⟨z1, rfl⟩
          · rfl
          · omega
      refine B_sums_5 no2 hy.1.1.1 ⟨0, by omega, G_isSign hy.1 (fun yz o3 ev => ?_) (fun n1 => ?_)⟩
      · exact B_sums_11_1 no2 hy.1.1.1 ⟨0, by omega, G_isSign hy.1 (fun _ _ _ => body 1 10009 (Or.inl ⟨rfl, rfl⟩) yz o3 (by rw [exO2, if_pos ⟨o3, ev⟩])) (fun no => absurd ⟨o3, ev⟩ (no yz))⟩
      · refine B_sums_11_0 no2 hy.1.1.1 ⟨0, by omega, G_isSign hy.1 (fun yz o3 ev => ?_) (fun n2 => ?_)⟩
        · exact B_sums_20_1 no2 hy.1.1.1 ⟨0, by omega, G_isSign hy.1 (fun _ o3' ev' => absurd ⟨o3', ev'⟩ (n1 yz)) (fun _ => body 0 10010 (Or.inr ⟨rfl, rfl⟩) yz o3 (by rw [exO2, if_neg (n1 yz), if_pos ⟨o3, ev⟩]))⟩
        · rw [exL_stop (fun z => by rw [exO2, if_neg (n1 z.1), if_neg (n2 z.1)] at z; exact z.2 rfl)] at kk
          exact B_sums_20_0 no2 hy.1.1.1 (kk h1 hy f1)
  exact B_sums_0 hx.1.1.1 ⟨4 + 6 * r, by omega, G_products hP hd (Nat.le_refl _) hg hx hz (fun h1 c1 f1 => loop 1000 h1 _ none nL_n c1 f1 (fun _ => by omega) k)⟩
theorem G_test (hP : PartR T n V m r) {e : Nat} {g : Int} {h : LH} {x : (Int × Nat) × List Int} {Q : Option LV → LH → Prop} {d : Int} (hd : d = 5 - (r : Int)) (he : 6 + 6 * r ≤ e) (hg : 0 ≤ g) (hx : REK T n V m g h x) (hz : x.1.1 = 0) (k : ∀ h', REK T n V m g h' (exX (tO T n) (tV T n 37) (tW T n 37 V) (exP (tO T n) (tV T n 37) (tW T n 37 V) (tP T n) r) 3 x) → frLK h h' → Q none h') :
    Rn xs xl e mm_test 0 [some (.inr (.inr 182)), some (.inl d), none] [] h Q := by
  refine B_test_0 hx.1.1.1 ⟨5 + 6 * r, by omega, G_sums hP hd (Nat.le_refl _) hg hx hz (fun h1 hy f1 => ?_)⟩
  have kk : ∀ h', REK T n V m g h' (exL (tO T n) (tV T n 37) (tW T n 37 V) (exX (tO T n) (tV T n 37) (tW T n 37 V) (exP (tO T n) (tV T n 37) (tW T n 37 V) (tP T n) r) 2) 1 1 (exX (tO T n) (tV T n 37) (tW T n 37 V) (exP (tO T n) (tV T n 37) (tW T n 37 V) (tP T n) r) 2 x)) → frLK h h' → Q none h' := k
  clear k
  generalize exX (tO T n) (tV T n 37) (tW T n 37 V) (exP (tO T n) (tV T n 37) (tW T n 37 V) (tP T n) r) 2 x = y at hy kk
  have body : ∀ (h2 : LH) (w0 code : Int), (w0 = 1 ∧ code = 10007) ∨ (w0 = 0 ∧ code = 10008) → y.1.1 = 0 → exO (tO T n) (tV T n 37) (tW T n 37 V) 1 y.1.2 = code → REK T n V m (g + 1) h2 (tkA y.1, y.2) → frLK h h2 → Rn xs xl (5 + 6 * r) mm_sums 0 [some (.inr (.inr 182)), some (.inl d), none] [] h2 (fun r h' => Rn xs xl e mm_test 35 [some (.inr (.inr 182)), some (.inl d), some (.inl w0)] (r.toList ++ []) h' Q) := by
    intro h2 w0 code hw yz eo y2 f2
    rw [exL_go yz (by rw [eo]; omega), eo] at kk
    refine G_sums hP hd (Nat.le_refl _) (by omega) y2 (by rw [tkA_0 yz]) (fun h3 c3 f3 => ?_)
    have fin : ∀ op : Int, op = cdO code → Rn xs xl 0 mm_emit 0 [some (.inr (.inr 182)), some (.inl op), some (.inl 0)] [] h3 (fun r h' => Rn xs xl e mm_test 51 [some (.inr (.inr 182)), some (.inl d), some (.inl w0)] (r.toList ++ []) h' Q) := by
      intro op eop
      refine G_emit (by omega) c3 (c := code) eop (by rcases hw with ⟨_, rfl⟩ | ⟨_, rfl⟩ <;> rfl) (fun h4 c4 f4 => ?_)
      rw [show g + 1 - 1 = g by omega] at c4
      exact B_test_51 c4.1.1.1 (kk h4 c4 ((f2.trans f3).trans f4))
    refine B_test_35 c3.1.1.1 ⟨fun z => ⟨0, by omega, fin 8 ?_⟩, fun z => ⟨0, by omega, fin 7 ?_⟩⟩
    · rcases hw with ⟨z1, rfl⟩ | ⟨z1, rfl⟩
      · omega
      · rfl
    · rcases hw with ⟨z1, rfl⟩ | ⟨z1, rfl⟩
      · rfl
      · omega
  refine B_test_5 hy.1.1.1 ⟨0, by omega, G_isSign hy.1 (fun yz o3 ev => ?_) (fun n1 => ?_)⟩
  · refine B_test_11 hy.1.1.1 ⟨1, by omega, G_hasSign (by omega) hy.1 (fun h2 _ _ _ s2 f2 => ?_) (fun h2 no _ _ => absurd ⟨o3, ev⟩ (no yz))⟩
    exact B_test_18_1 s2.1.1 ⟨5 + 6 * r, by omega, body h2 1 10007 (Or.inl ⟨rfl, rfl⟩) yz (by rw [exO1, if_pos ⟨o3, ev⟩]) (REK_advT hy yz (by omega) s2 f2) (f1.trans f2.L)⟩
  · refine B_test_11 hy.1.1.1 ⟨1, by omega, G_hasSign (by omega) hy.1 (fun h2 yz o3 ev _ _ => absurd ⟨o3, ev⟩ (n1 yz)) (fun h2 _ s2 f2 => ?_)⟩
    have y2 := REK_same hy s2 f2
    refine B_test_18_0 s2.1.1 ⟨1, by omega, G_hasSign (by omega) s2 (fun h3 yz o3 ev s3 f3 => ?_) (fun h3 n2 s3 f3 => ?_)⟩
    · exact B_test_27_1 s3.1.1 ⟨5 + 6 * r, by omega, body h3 0 10008 (Or.inr ⟨rfl, rfl⟩) yz (by rw [exO1, if_neg (n1 yz), if_pos ⟨o3, ev⟩]) (REK_advT y2 yz (by omega) s3 f3) ((f1.trans f2.L).trans f3.L)⟩
    · rw [exL_stop (fun z => by rw [exO1, if_neg (n1 z.1), if_neg (n2 z.1)] at z; exact z.2 rfl)] at kk
      exact B_test_27_0 s3.1.1 (kk h3 (REK_same y2 s3 f3) ((f1.trans f2.L).trans f3.L))
theorem G_all (hP : PartR T n V m r) {e : Nat} {g : Int} {h : LH} {x : (Int × Nat) × List Int} {Q : Option LV → LH → Prop} {d : Int} (hd : d = 5 - (r : Int)) (he : 7 + 6 * r ≤ e) (hg : 0 ≤ g) (hx : REK T n V m g h x) (hz : x.1.1 = 0) (k : ∀ h', REK T n V m g h' (exX (tO T n) (tV T n 37) (tW T n 37 V) (exP (tO T n) (tV T n 37) (tW T n 37 V) (tP T n) r) 4 x) → frLK h h' → Q none h') :
    Rn xs xl e mm_all 0 [some (.inr (.inr 182)), some (.inl d), none] [] h Q := by
  have loop : ∀ (c : Nat) (h1 : LH) (y : (Int × Nat) × List Int) (o2 : Option LV), nL o2 → REK T n V m g h1 y → frLK h h1 → (y.1.1 = 0 → 1000 ≤ y.1.2 + c) → (∀ h', REK T n V m g h' (exL (tO T n) (tV T n 37) (tW T n 37 V) (exX (tO T n) (tV T n 37) (tW T n 37 V) (exP (tO T n) (tV T n 37) (tW T n 37 V) (tP T n) r) 3) 0 c y) → frLK h h' → Q none h') → Rn xs xl e mm_all 5 [some (.inr (.inr 182)), some (.inl d), o2] [] h1 Q := by
    intro c
    induction c with
    | zero =>
      intro h1 y o2 no2 hy f1 hc kk
      have dead : ∀ z : Int, 0 ≤ z → y.1.1 = 0 → tW T n 37 V y.1.2 = z → False := fun z z0 yz ez => by
        have o1 := tW_o (T := T) (n := n) (b := 37) (W := V) (k := y.1.2) (by omega)
        have lt := tO_lt (T := T) (n := n) (k := y.1.2) hy.1.1.2.2.2.2.2.2.1 hy.1.1.2.2.2.2.2.1 (by omega)
        have := hc yz
        omega
      exact B_all_5 no2 hy.1.1.1 ⟨0, by omega, G_isWord hy.1 (by omega) (fun yz ew => (dead 23 (by decide) yz ew).elim) (fun _ => B_all_11_0 no2 hy.1.1.1 ⟨0, by omega, G_isWord hy.1 (by omega) (fun yz ew => (dead 24 (by decide) yz ew).elim) (fun _ => B_all_20_0 no2 hy.1.1.1 (kk h1 hy f1))⟩)⟩
    | succ c ic =>
      intro h1 y o2 no2 hy f1 hc kk
      have a7 := hy.1.2.2.2.1
      have body : ∀ w0 code : Int, (w0 = 1 ∧ code = 10005) ∨ (w0 = 0 ∧ code = 10006) → y.1.1 = 0 → tO T n y.1.2 = 1 → exO (tO T n) (tV T n 37) (tW T n 37 V) 0 y.1.2 = code → Rn xs xl e mm_all 29 [some (.inr (.inr 182)), some (.inl d), o2] [.inl w0] h1 Q := by
        intro w0 code hw yz o3 eo
        rw [exL_go yz (by rw [eo]; omega), eo] at kk
        refine B_all_29 no2 hy.1.1.1 ⟨by omega, 6 + 6 * r, by omega, G_test hP hd (Nat.le_refl _) (by omega) (REK_adv hy yz (by omega)) (by rw [tkA_0 yz]) (fun h3 c3 f3 => ?_)⟩
        have fin : ∀ op : Int, op = cdO code → Rn xs xl 0 mm_emit 0 [some (.inr (.inr 182)), some (.inl op), some (.inl 0)] [] h3 (fun r h' => Rn xs xl e mm_all 61 [some (.inr (.inr 182)), some (.inl d), some (.inl w0)] (r.toList ++ []) h' Q) := by
          intro op eop
          refine G_emit (by omega) c3 (c := code) eop (by rcases hw with ⟨_, rfl⟩ | ⟨_, rfl⟩ <;> rfl) (fun h4 c4 f4 => ?_)
          rw [show g + 1 - 1 = g by omega] at c4
          exact B_all_61 c4.1.1.1 (ic h4 _ _ nL_i c4 (((f1.trans fr7.L).trans f3).trans f4) (fun _ => on_mono yz (hc yz)) kk)
        refine B_all_45 c3.1.1.1 ⟨fun z => ⟨0, by omega, fin 10 ?_⟩, fun z => ⟨0, by omega, fin 9 ?_⟩⟩
        · rcases hw with ⟨z1, rfl⟩ | ⟨z1, rfl⟩
          · omega
          · rfl
        · rcases hw with ⟨z1, rfl⟩ | ⟨z1, rfl⟩
          · rfl
          · omega
      refine B_all_5 no2 hy.1.1.1 ⟨0, by omega, G_isWord hy.1 (by omega) (fun yz ew => ?_) (fun n1 => ?_)⟩
      · have o1 := tW_o (T := T) (n := n) (b := 37) (W := V) (k := y.1.2) (by omega)
        exact B_all_11_1 no2 hy.1.1.1 ⟨0, by omega, G_isWord hy.1 (by omega) (fun _ _ => body 1 10005 (Or.inl ⟨rfl, rfl⟩) yz o1 (by rw [exO0, if_pos ew])) (fun no => absurd ew (no yz))⟩
      · refine B_all_11_0 no2 hy.1.1.1 ⟨0, by omega, G_isWord hy.1 (by omega) (fun yz ew => ?_) (fun n2 => ?_)⟩
        · have o1 := tW_o (T := T) (n := n) (b := 37) (W := V) (k := y.1.2) (by omega)
          exact B_all_20_1 no2 hy.1.1.1 ⟨0, by omega, G_isWord hy.1 (by omega) (fun _ ew' => absurd ew' (n1 yz)) (fun _ => body 0 10006 (Or.inr ⟨rfl, rfl⟩) yz o1 (by rw [exO0, if_neg (n1 yz), if_pos ew]))⟩
        · rw [exL_stop (fun z => by rw [exO0, if_neg (n1 z.1), if_neg (n2 z.1)] at z; exact z.2 rfl)] at kk
          exact B_all_20_0 no2 hy.1.1.1 (kk h1 hy f1)
  exact B_all_0 hx.1.1.1 ⟨6 + 6 * r, by omega, G_test hP hd (Nat.le_refl _) hg hx hz (fun h1 c1 f1 => loop 1000 h1 _ none nL_n c1 f1 (fun _ => by omega) k)⟩
end CG
end
section
/-! p3, part b5: the reference's parts -/
section CH
variable {T : Int → Int} {n : Int} {V : Int → Int} {m : Nat} {xs : Nat → Int} {xl : Nat}
theorem G_part0 {e : Nat} {g : Int} {h : LH} {x : (Int × Nat) × List Int} {Q : Option LV → LH → Prop} {d : Int} (he : 2 ≤ e) (hx : REK T n V m g h x) (hz : x.1.1 = 0)
    (k69 : exK (tO T n) (tV T n 37) (tW T n 37 V) x.1.2 = true → ∀ v2 w0 : Int, (v2 ≠ 0 ↔ tO T n x.1.2 = 2) → (25 ≤ tW T n 37 V x.1.2 → w0 = tW T n 37 V x.1.2 - 25) → Rn xs xl e mm_takePart 69 [some (.inr (.inr 182)), some (.inl d), some (.inl v2), some (.inl w0)] [] h Q)
    (kbad : ¬ exK (tO T n) (tV T n 37) (tW T n 37 V) x.1.2 = true → ∀ h', REK T n V m g h' (tkE (tP T n) 1 x.1, x.2) → frLK h h' → Q none h') :
    Rn xs xl e mm_takePart 0 [some (.inr (.inr 182)), some (.inl d), none, none] [] h Q := by
  have hF := hx.1.1.1
  have a7 := hx.1.2.2.2.1
  have e8 := hx.1.2.1
  have eo := RS_o hx.1 hz
  have win := tW_in (T := T) (n := n) (b := 37) (W := V) x.1.2
  have okd : ∀ (z : tO T n x.1.2 = 2 ∨ 25 ≤ tW T n 37 V x.1.2 ∨ (tO T n x.1.2 = 3 ∧ tV T n 37 x.1.2 = 40) ∨ tW T n 37 V x.1.2 = 22), exK (tO T n) (tV T n 37) (tW T n 37 V) x.1.2 = true := by
    intro z; unfold exK; rw [decide_eq_true_iff]; exact z
  have st : ∀ v2 : Int, (v2 ≠ 0 ↔ tO T n x.1.2 = 2) → (∃ c, c < e ∧ Rn xs xl c mm_wordHere 0 [some (.inr (.inr 182)), some (.inl 25), some (.inl 4), none, none] [] h (fun r h' => Rn xs xl e mm_takePart 34 [some (.inr (.inr 182)), some (.inl d), some (.inl v2), none] (r.toList ++ []) h' Q)) := by
    intro v2 a2
    refine ⟨1, by omega, G_wordHere (by omega) hx.1 (by omega) ?_⟩
    have hw : 25 ≤ tW T n 37 V x.1.2 → whr (tW T n 37 V) x.1 25 4 = tW T n 37 V x.1.2 - 25 := by
      intro z; unfold whr; rw [if_pos ⟨hz, z, by omega⟩]
    have hn : ¬ 25 ≤ tW T n 37 V x.1.2 → whr (tW T n 37 V) x.1 25 4 = -1 := by
      intro z; unfold whr; rw [if_neg (fun y => z y.2.1)]
    refine B_takePart_34 hF ⟨fun p => k69 (okd ?_) v2 _ a2 hw, fun p => ⟨fun z => k69 (okd (Or.inl (a2.mp z))) v2 _ a2 hw, fun z => ⟨0, by omega, G_isSign hx.1 (fun _ o3 ev => B_takePart_49_1 hF (k69 (okd (Or.inr (Or.inr (Or.inl ⟨o3, ev⟩)))) v2 _ a2 hw)) (fun ns => B_takePart_49_0 hF ⟨0, by omega, G_isWord hx.1 (by omega) (fun _ ew => B_takePart_58_1 hF (k69 (okd (Or.inr (Or.inr (Or.inr ew)))) v2 _ a2 hw)) (fun nw => B_takePart_58_0 hF ⟨0, by omega, G_wrong hx.1 (by omega) (fun h' c1 f1 => B_takePart_66 c1.1.1 (B_takePart_79 c1.1.1 ⟨fun c => ?_, fun _ => kbad ?_ h' (REK_fr hx c1 f1 ?_ ?_ (fun _ => hz)) f1.L⟩))⟩)⟩)⟩⟩⟩
    · by_cases c : 25 ≤ tW T n 37 V x.1.2
      · exact Or.inr (Or.inl c)
      · rw [hn c] at p; omega
    · have h1 := tkE_ne' hx.1 (v1 := 1) (by decide)
      have h2 := c1.2.1
      have h3 := c1.2.2.1
      omega
    · unfold exK
      rw [decide_eq_true_iff]
      rintro (y | y | y | y)
      · exact a2.mpr y z
      · rw [hw y] at p; omega
      · exact ns hz y
      · exact nw hz y
    · rw [tkE_2]; omega
    · rw [tkE_2]; exact hx.2.2.2.1
  refine B_takePart_0 hF ⟨fun _ => ⟨by omega, fun c => st 0 ?_, fun c => st 1 ?_⟩, fun c => by omega⟩
  · rw [← eo]; omega
  · rw [← eo]; omega
theorem G_part : ∀ r : Nat, r ≤ 5 → PartR T n V m r
  | 0, _ => by
    intro xs xl e g h x Q d hd he hg hx hz k
    have hF := hx.1.1.1
    refine G_part0 (by omega) hx hz (fun ok v2 w0 _ _ => ?_) (fun no h' c1 f1 => k h' ?_ f1)
    · refine B_takePart_69 hF ⟨fun c => by omega, fun _ => ⟨0, by omega, G_wrong hx.1 (by omega) (fun h' c1 f1 => B_takePart_79 c1.1.1 ⟨fun c => ?_, fun _ => k h' ?_ f1.L⟩)⟩⟩
      · have h1 := tkE_ne' hx.1 (v1 := 5) (by decide)
        have h2 := c1.2.1
        have h3 := c1.2.2.1
        omega
      · unfold exP
        rw [if_pos ok]
        exact REK_fr hx c1 f1 (by rw [tkE_2]; omega) (by rw [tkE_2]; exact hx.2.2.2.1) (fun _ => hz)
    · unfold exP
      rw [if_neg no]
      exact c1
  | r + 1, hr => by
    have ihP := G_part r (by omega)
    intro xs xl e g h x Q d hd he hg hx hz k
    have hF := hx.1.1.1
    have e8 := hx.1.2.1
    have t4 := hx.1.1.2.2.2.2.2.2.1
    have t3 := hx.1.1.2.2.2.2.2.1
    have win := tW_in (T := T) (n := n) (b := 37) (W := V) x.1.2
    refine G_part0 (by omega) hx hz (fun ok v2 w0 a2 aw => ?_) (fun no h' c1 f1 => k h' ?_ f1)
    · unfold exK at ok
      rw [decide_eq_true_iff] at ok
      refine B_takePart_69 hF ⟨fun _ => B_takePart_79 hF ⟨fun _ => ⟨1, by omega, G_hasWord (by omega) hx.1 (by omega) (fun h2 s2 f2 => ?_)⟩, fun c => by omega⟩, fun c => by omega⟩
      by_cases b : tkB (tW T n 37 V) 22 x.1 = true
      · rw [if_pos b] at s2 ⊢
        have b' := b
        unfold tkB at b'
        rw [decide_eq_true_iff] at b'
        have o1 := tW_o (T := T) (n := n) (b := 37) (W := V) (k := x.1.2) (by omega)
        have ex : exP (tO T n) (tV T n 37) (tW T n 37 V) (tP T n) (r + 1) x = exA 10004 (exP (tO T n) (tV T n 37) (tW T n 37 V) (tP T n) r (tkA x.1, x.2)) := by
          show (if tO T n x.1.2 = 2 then _ else if 25 ≤ tW T n 37 V x.1.2 then _ else if tO T n x.1.2 = 3 ∧ tV T n 37 x.1.2 = 40 then _ else if tW T n 37 V x.1.2 = 22 then _ else _) = _
          rw [if_neg (by omega), if_neg (by omega), if_neg (fun z => by omega), if_pos b'.2]
        rw [ex] at k
        refine B_takePart_93_1 s2.1.1 ⟨by omega, 3 + 6 * r, by omega, ihP xs xl _ (g + 1) h2 _ _ (d + 1) (by omega) (Nat.le_refl _) (by omega) (REK_advT hx hz (by omega) s2 f2) (by rw [tkA_0 hz]) (fun h3 c3 f3 => ?_)⟩
        refine B_takePart_103 c3.1.1.1 ⟨0, by omega, G_emit (by omega) c3 (c := 10004) rfl rfl (fun h4 c4 f4 => ?_)⟩
        rw [show g + 1 - 1 = g by omega] at c4
        exact B_takePart_109 c4.1.1.1 (k h4 c4 ((f2.L.trans f3).trans f4))
      · rw [if_neg b] at s2 ⊢
        have n22 : ¬ tW T n 37 V x.1.2 = 22 := by
          intro z
          apply b
          unfold tkB
          rw [decide_eq_true_iff]
          exact ⟨hz, z⟩
        have x2 := REK_same hx s2 f2
        refine B_takePart_93_0 s2.1.1 ⟨1, by omega, G_hasSign (by omega) s2 (fun h3 _ o3 ev s3 f3 => ?_) (fun h3 ns s3 f3 => ?_)⟩
        · have w1 : tW T n 37 V x.1.2 = -1 := by unfold tW; rw [if_neg (by omega)]
          have ex : exP (tO T n) (tV T n 37) (tW T n 37 V) (tP T n) (r + 1) x = (tkS (tO T n) (tV T n 37) (tP T n) 41 (exX (tO T n) (tV T n 37) (tW T n 37 V) (exP (tO T n) (tV T n 37) (tW T n 37 V) (tP T n) r) 4 (tkA x.1, x.2)).1, (exX (tO T n) (tV T n 37) (tW T n 37 V) (exP (tO T n) (tV T n 37) (tW T n 37 V) (tP T n) r) 4 (tkA x.1, x.2)).2) := by
            show (if tO T n x.1.2 = 2 then _ else if 25 ≤ tW T n 37 V x.1.2 then _ else if tO T n x.1.2 = 3 ∧ tV T n 37 x.1.2 = 40 then _ else _) = _
            rw [if_neg (by omega), if_neg (by omega), if_pos ⟨o3, ev⟩]
          rw [ex] at k
          refine B_takePart_118_1 s3.1.1 ⟨by omega, 7 + 6 * r, by omega, G_all ihP (d := d + 1) (by omega) (Nat.le_refl _) (by omega) (REK_advT x2 hz (by omega) s3 f3) (by rw [tkA_0 hz]) (fun h4 c4 f4 => ?_)⟩
          generalize exX (tO T n) (tV T n 37) (tW T n 37 V) (exP (tO T n) (tV T n 37) (tW T n 37 V) (tP T n) r) 4 (tkA x.1, x.2) = y at c4 k
          refine B_takePart_128 c4.1.1.1 ⟨1, by omega, G_takeSign (by omega) c4.1 (fun h5 c5 f5 => B_takePart_134 c5.1.1 (k h5 (REK_fr c4 c5 f5 ?_ ?_ (fun z => ?_)) (((f2.L.trans f3.L).trans f4).trans f5.L)))⟩
          · have := tkS_2 (o := tO T n) (v := tV T n 37) (p := tP T n) (s := y.1) (c := 41)
            omega
          · unfold tkS
            split
            · next q =>
              have lt := tO_lt (T := T) (n := n) (k := y.1.2) t4 t3 (by omega)
              unfold tkA
              split
              · show y.1.2 + 1 ≤ 1000; omega
              · exact c4.2.2.2.1
            · rw [tkE_2]; exact c4.2.2.2.1
          · by_cases yy : y.1.1 = 0
            · exact yy
            · rw [tkS_f yy] at z; exact z
        · have ns' := ns hz
          have x3 := REK_same x2 s3 f3
          have a7 := s3.2.2.2.1
          have atom : ∀ (op ar c : Int), op = cdO c → ar = cdA c → tO T n x.1.2 ≠ 0 → exP (tO T n) (tV T n 37) (tW T n 37 V) (tP T n) (r + 1) x = (tkA x.1, x.2 ++ [c]) → (∃ b, b < e ∧ Rn xs xl b mm_emit 0 [some (.inr (.inr 182)), some (.inl op), some (.inl ar)] [] h3 (fun r h' => Rn xs xl e mm_takePart 168 [some (.inr (.inr 182)), some (.inl d), some (.inl v2), some (.inl w0)] (r.toList ++ []) h' Q)) := by
            intro op ar c e1 e2 on ex
            rw [ex] at k
            refine ⟨0, by omega, G_emit hg x3 (c := c) e1 e2 (fun h4 c4 f4 => B_takePart_168 c4.1.1.1 ⟨?_, k _ ?_ (((f2.L.trans f3.L).trans f4).trans fr7.L)⟩)⟩
            · have := c4.1.2.2.2.1
              omega
            · have := REK_adv c4 hz on
              rw [show g - 1 + 1 = g by omega] at this
              exact this
          refine B_takePart_118_0 s3.1.1 ⟨fun z => ⟨fun _ => ?_, fun y => absurd z y⟩, fun z => ⟨fun y => absurd y z, fun _ => ⟨by omega, ?_⟩⟩⟩
          · have n2 : ¬ tO T n x.1.2 = 2 := fun y => a2.mpr y z
            have w25 : 25 ≤ tW T n 37 V x.1.2 := by
              rcases ok with y | y | y | y
              · exact absurd y n2
              · exact y
              · exact absurd y ns'
              · exact absurd y n22
            have ew0 := aw w25
            refine atom 2 w0 (tW T n 37 V x.1.2 + 9975) ?_ ?_ (by rw [tW_o (W := V) (b := 37) (by omega)]; decide) ?_
            · unfold cdO; rw [if_neg (by omega), if_pos (by omega)]
            · unfold cdA; rw [if_neg (by omega), if_pos (by omega), ew0]; omega
            · show (if tO T n x.1.2 = 2 then _ else if 25 ≤ tW T n 37 V x.1.2 then _ else _) = _
              rw [if_neg n2, if_pos w25]
          · have o2 := a2.mp z
            have ev := RS_v s3 hz (by omega) (by omega)
            have bd := tV_num (T := T) (n := n) (b := 37) t4 t3 o2
            rw [ev, w32_id (by unfold i32; omega)]
            refine atom 1 _ (tV T n 37 x.1.2) ?_ ?_ (by omega) ?_
            · unfold cdO; rw [if_pos (by omega)]
            · unfold cdA; rw [if_pos (by omega)]
            · show (if tO T n x.1.2 = 2 then _ else _) = _
              rw [if_pos o2]
    · have no' := no
      unfold exK at no'
      rw [decide_eq_true_iff] at no'
      have ex : exP (tO T n) (tV T n 37) (tW T n 37 V) (tP T n) (r + 1) x = (tkE (tP T n) 1 x.1, x.2) := by
        show (if tO T n x.1.2 = 2 then _ else if 25 ≤ tW T n 37 V x.1.2 then _ else if tO T n x.1.2 = 3 ∧ tV T n 37 x.1.2 = 40 then _ else if tW T n 37 V x.1.2 = 22 then _ else _) = _
        rw [if_neg (fun z => no' (Or.inl z)), if_neg (fun z => no' (Or.inr (Or.inl z))), if_neg (fun z => no' (Or.inr (Or.inr (Or.inl z)))), if_neg (fun z => no' (Or.inr (Or.inr (Or.inr z))))]
      rw [ex]
      exact c1
end CH
end
section
/-! p3, part b6: base 32 and base 37 say the same -/
def SameW (W V : Int → Int) : Prop := ∀ i : Nat, i < 29 → ∃ (U : Int → Int) (m : Nat), (∀ r : Int, 0 ≤ r → r < 0 + m → 97 ≤ U r ∧ U r ≤ 122) ∧ W i = enc U 32 0 m ∧ V i = enc U 37 0 m
section BA
variable {T : Int → Int} {n : Int} {W V : Int → Int}
theorem tV_b {k : Nat} {b b' : Int} (h : tO T n k ≠ 1) : tV T n b k = tV T n b' k := by unfold tV; rw [if_neg h, if_neg h]
theorem tk_let {k : Nat} (h1 : n ≤ 1000) (h2 : 0 ≤ n) (ho : tO T n k = 1) : ∀ r : Int, tP T n k ≤ r → r < tP T n k + tN T n k → 97 ≤ T r ∧ T r ≤ 122 := by
  have pin := tP_in (T := T) h1 h2 k
  have s0 := tS_in (T := T) h1 h2 k
  have pn : tP T n k < n := by
    rcases Int.lt_or_le (tP T n k) n with z | z
    · exact z
    · have := tO_0.mpr z; omega
  by_cases c1 : isLt (T (tP T n k)) = true
  · obtain ⟨e1, e2⟩ := tk_w pn c1
    have fo := fw_ok (T := T) (n := n) (P := isLt) (p := tP T n k) (by omega) h1
    intro r r0 r1
    exact isLt_iff.mp (fo.2.1 r r0 (by unfold tN at r1; rw [e1] at r1; omega)).2
  by_cases c2 : isDg (T (tP T n k)) = true
  · have := (tk_n pn c1 c2).2
    split at this <;> omega
  · have := (tk_s pn c1 c2).2
    split at this <;> omega
theorem tV_same {j k : Nat} (h1 : n ≤ 1000) (h2 : 0 ≤ n) (hj : tO T n j = 1) (hk : tO T n k = 1) : tV T n 32 j = tV T n 32 k ↔ tV T n 37 j = tV T n 37 k := by
  unfold tV
  rw [if_pos hj, if_pos hk, if_pos hj, if_pos hk]
  exact enc_iff (tk_let h1 h2 hj) (tk_let h1 h2 hk)
theorem wl_same {v v' : Int} : ∀ m : Nat, (∀ i : Nat, i < m → (W i = v ↔ V i = v')) → wl W v m = wl V v' m
  | 0, _ => rfl
  | m + 1, h => by
    have ih := wl_same m (fun i hi => h i (by omega))
    unfold wl
    by_cases c : W m = v
    · rw [if_pos c, if_pos ((h m (by omega)).mp c)]
    · rw [if_neg c, if_neg (fun z => c ((h m (by omega)).mpr z)), ih]
theorem tW_b (h1 : n ≤ 1000) (h2 : 0 ≤ n) (hw : SameW W V) (k : Nat) : tW T n 32 W k = tW T n 37 V k := by
  unfold tW
  by_cases ho : tO T n k = 1
  · rw [if_pos ho, if_pos ho]
    refine wl_same 29 (fun i hi => ?_)
    obtain ⟨U, m, u1, u2, u3⟩ := hw i hi
    rw [u2, u3]
    unfold tV
    rw [if_pos ho, if_pos ho]
    exact enc_iff u1 (tk_let h1 h2 ho)
  · rw [if_neg ho, if_neg ho]
theorem tkS_b {c : Int} : tkS (tO T n) (tV T n 32) (tP T n) c = tkS (tO T n) (tV T n 37) (tP T n) c := by
  funext s
  unfold tkS
  by_cases o3 : tO T n s.2 = 3
  · rw [tV_b (b := 32) (b' := 37) (k := s.2) (by omega)]
  · rw [if_neg (fun z => o3 z.1), if_neg (fun z => o3 z.1)]
theorem tkN_b {a b : Int} : tkN (tO T n) (tV T n 32) (tP T n) a b = tkN (tO T n) (tV T n 37) (tP T n) a b := by
  funext s
  unfold tkN
  by_cases o3 : tO T n s.2 = 2
  · rw [tV_b (b := 32) (b' := 37) (k := s.2) (by omega)]
  · rw [if_neg o3, if_neg o3]
theorem tkR_b {a b : Int} : tkR (tO T n) (tV T n 32) (tP T n) a b = tkR (tO T n) (tV T n 37) (tP T n) a b := by
  funext s
  unfold tkR
  rw [tkN_b]
  by_cases o3 : tO T n s.2 = 2
  · rw [tV_b (b := 32) (b' := 37) (k := s.2) (by omega)]
  · rw [if_neg (fun z => o3 z.1), if_neg (fun z => o3 z.1)]
theorem key_b {k : Nat} (c : Int) : (tO T n k = 3 ∧ tV T n 32 k = c) = (tO T n k = 3 ∧ tV T n 37 k = c) := by
  by_cases o3 : tO T n k = 3
  · rw [tV_b (b := 32) (b' := 37) (k := k) (by omega)]
  · exact propext ⟨fun z => absurd z.1 o3, fun z => absurd z.1 o3⟩
theorem exO_b (hW : tW T n 32 W = tW T n 37 V) {lv : Nat} : exO (tO T n) (tV T n 32) (tW T n 32 W) lv = exO (tO T n) (tV T n 37) (tW T n 37 V) lv := by
  funext k
  unfold exO
  simp only [hW, key_b]
theorem exL_b (hW : tW T n 32 W = tW T n 37 V) {f : (Int × Nat) × List Int → (Int × Nat) × List Int} {lv : Nat} : ∀ (m : Nat) (x : (Int × Nat) × List Int), exL (tO T n) (tV T n 32) (tW T n 32 W) f lv m x = exL (tO T n) (tV T n 37) (tW T n 37 V) f lv m x
  | 0, _ => rfl
  | m + 1, x => by
    unfold exL
    rw [exO_b hW, exL_b hW m]
theorem exX_b (hW : tW T n 32 W = tW T n 37 V) {P : (Int × Nat) × List Int → (Int × Nat) × List Int} : ∀ j : Nat, exX (tO T n) (tV T n 32) (tW T n 32 W) P j = exX (tO T n) (tV T n 37) (tW T n 37 V) P j
  | 0 => rfl
  | j + 1 => by
    funext x
    show exL (tO T n) (tV T n 32) (tW T n 32 W) _ (3 - j) _ _ = exL (tO T n) (tV T n 37) (tW T n 37 V) _ (3 - j) _ _
    rw [exX_b hW j, exL_b hW]
theorem exP_b (hW : tW T n 32 W = tW T n 37 V) : ∀ r : Nat, exP (tO T n) (tV T n 32) (tW T n 32 W) (tP T n) r = exP (tO T n) (tV T n 37) (tW T n 37 V) (tP T n) r
  | 0 => by
    funext x
    unfold exP exK
    simp only [hW, key_b]
  | r + 1 => by
    funext x
    unfold exP
    rw [exP_b hW r, exX_b hW, tkS_b, hW]
    by_cases o1 : tO T n x.1.2 = 1
    · rw [if_neg (show ¬ tO T n x.1.2 = 2 by omega), if_neg (show ¬ tO T n x.1.2 = 2 by omega), if_neg (show ¬ (tO T n x.1.2 = 3 ∧ tV T n 32 x.1.2 = 40) by omega), if_neg (show ¬ (tO T n x.1.2 = 3 ∧ tV T n 37 x.1.2 = 40) by omega)]
    · rw [tV_b (b := 32) (b' := 37) o1]
end BA
end
section
/-! p3, part b7: the reference's names -/
theorem any_ix {N : List Nat} {P : Nat → Bool} : N.any P = true ↔ ∃ i : Nat, i < N.length ∧ P (N.getD i 0) = true := by
  rw [List.any_eq_true]
  constructor
  · rintro ⟨x, hx, hp⟩
    obtain ⟨i, hi, e⟩ := List.mem_iff_getElem.mp hx
    refine ⟨i, hi, ?_⟩
    rw [List.getD_eq_getElem?_getD, List.getElem?_eq_getElem hi]
    show P N[i] = true
    rw [e]; exact hp
  · rintro ⟨i, hi, hp⟩
    rw [List.getD_eq_getElem?_getD, List.getElem?_eq_getElem hi] at hp
    exact ⟨N[i], List.getElem_mem hi, hp⟩
/-- the reference's names so far, as tokens -/
def NRK (T : Int → Int) (n : Int) (h : LH) (N : List Nat) : Prop := rd h 182 19 = N.length ∧ ∀ i : Nat, i < N.length → rd h 192 i = tV T n 37 (N.getD i 0) ∧ 0 ≤ rd h 194 i
section CI
variable {xs : Nat → Int} {xl e : Nat} {h : LH} {Q : Option LV → LH → Prop} {v1 v2 v3 : Int} {T : Int → Int} {n : Int} {V : Int → Int} {m : Nat} {s : Int × Nat} {N : List Nat}
theorem G_find (hs : RSK T n V m h s) (hz : s.1 = 0) (ho : tO T n s.2 = 1) (hN : NRK T n h N) (hl : N.length ≤ 20) (k : ∀ r : Int, (0 ≤ r ↔ N.any (fun j => decide (tV T n 37 j = tV T n 37 s.2)) = true) → Q (some (.inl r)) h) : Rn xs xl e mm_find 0 [some (.inr (.inr 182)), some (.inl 1), none] [] h Q := by
  have hF := hs.1.1
  have a7 := hs.2.2.2.1
  have ev := RS_v hs hz (by omega) (by omega)
  have loop : ∀ (d b : Nat), N.length - b ≤ d → b ≤ N.length → (∀ i : Nat, i < b → ¬ tV T n 37 (N.getD i 0) = tV T n 37 s.2) → Rn xs xl e mm_find 2 [some (.inr (.inr 182)), some (.inl 1), some (.inl (b : Int))] [] h Q := by
    intro d
    induction d with
    | zero =>
      intro b hd hb no
      refine B_find_2 hF ⟨fun c => absurd c (by decide), fun _ => ⟨fun _ => k (-1) ⟨fun c => by omega, fun c => ?_⟩, fun c => ?_⟩⟩
      · obtain ⟨i, i1, i2⟩ := any_ix.mp c
        exact absurd (of_decide_eq_true i2) (no i (by omega))
      · have := hN.1; omega
    | succ d ih =>
      intro b hd hb no
      refine B_find_2 hF ⟨fun c => absurd c (by decide), fun _ => ⟨fun _ => k (-1) ⟨fun c => by omega, fun c => ?_⟩, fun c => ⟨fun y => absurd y (by decide), fun _ => ⟨?_, by omega, fun c2 => ⟨by omega, ?_⟩, fun c2 => ⟨fun y => absurd y (by decide), fun _ => ⟨?_, k _ ?_⟩⟩⟩⟩⟩⟩
      · obtain ⟨i, i1, i2⟩ := any_ix.mp c
        have := hN.1
        exact absurd (of_decide_eq_true i2) (no i (by omega))
      · have := hN.1; omega
      · have l := hN.1
        have := ih (b + 1) (by omega) (by omega) (fun i hi => ?_)
        · rw [show ((b + 1 : Nat) : Int) = (b : Int) + 1 by omega] at this
          exact this
        · by_cases eb : i = b
          · rw [eb]
            intro z
            apply c2
            rw [lcmp0, (hN.2 b (by omega)).1, ev]
            exact z
          · exact no i (by omega)
      · have := hN.1; omega
      · have l := hN.1
        have q := hN.2 b (by omega)
        refine ⟨fun _ => any_ix.mpr ⟨b, by omega, decide_eq_true ?_⟩, fun _ => q.2⟩
        rw [lcmp0, q.1, ev] at c2
        exact c2
  exact B_find_0 hF (loop N.length 0 (by omega) (by omega) (fun i hi => by omega))
def muNK (a i : Int) : Prop := (a = 182 ∧ (i = 7 ∨ i = 8 ∨ i = 19)) ∨ a = 192 ∨ a = 194
theorem hav_N {a : Int} (ha : a = 192 ∨ a = 194) (i : Int) : (hav a i).1 ≠ 2 := by
  have key : ∀ L : List AV, (∀ q ∈ L, q.1 ≠ 2) → ∀ j : Nat, (L.getD j top0).1 ≠ 2 := by
    intro L hL j
    rw [List.getD_eq_getElem?_getD]
    rcases Nat.lt_or_ge j L.length with z | z
    · rw [List.getElem?_eq_getElem z]
      exact hL _ (List.getElem_mem z)
    · rw [List.getElem?_eq_none z]
      decide
  unfold hav
  rcases ha with rfl | rfl
  · split
    · next L hL =>
      refine key L ?_ _
      have : (RGL[(192 : Int).toNat]?).all (fun L => L.all (fun q => decide (q.1 ≠ 2))) = true := by decide +kernel
      rw [hL] at this
      intro q hq
      exact of_decide_eq_true (List.all_eq_true.mp this q hq)
    · decide
  · split
    · next L hL =>
      refine key L ?_ _
      have : (RGL[(194 : Int).toNat]?).all (fun L => L.all (fun q => decide (q.1 ≠ 2))) = true := by decide +kernel
      rw [hL] at this
      intro q hq
      exact of_decide_eq_true (List.all_eq_true.mp this q hq)
    · decide
theorem RF_fn {h' : LH} (hF : RF h) (hf : ∀ a i, ¬ muNK a i → rd h' a i = rd h a i) : RF h' := by
  intro a j c hv he
  by_cases z : muNK a j
  · exfalso
    rcases z with ⟨rfl, z⟩ | z | z
    · have key : (hav 182 (j : Int)).1 ≠ 2 := by
        rcases (show j = 7 ∨ j = 8 ∨ j = 19 by omega) with rfl | rfl | rfl <;> decide +kernel
      rw [he] at key
      exact absurd rfl key
    · have key := hav_N (Or.inl z) (j : Int)
      rw [he] at key
      exact absurd rfl key
    · have key := hav_N (Or.inr z) (j : Int)
      rw [he] at key
      exact absurd rfl key
  · rw [hf a j z]
    exact hF a j c hv he
end CI
end
section
/-! p3, part b8: the reference reads a name -/
def frNK (h h' : LH) : Prop := ∀ a i, ¬ muNK a i → rd h' a i = rd h a i
theorem frNK.trans {h h1 h2 : LH} (a : frNK h h1) (b : frNK h1 h2) : frNK h h2 := fun x i hn => (b x i hn).trans (a x i hn)
theorem frT.N {h h' : LH} (f : frT h h') : frNK h h' := fun a i hn => f a i (fun z => hn (by unfold muTK at z; unfold muNK; omega))
section CJ
variable {xs : Nat → Int} {xl e : Nat} {h : LH} {Q : Option LV → LH → Prop} {v1 v2 v3 : Int} {T : Int → Int} {n : Int} {V : Int → Int} {m : Nat} {s : Int × Nat} {N : List Nat}
theorem NRK_T {h' : LH} (hN : NRK T n h N) (hf : frT h h') : NRK T n h' N := by
  refine ⟨(hf _ _ (by unfold muTK; omega)).trans hN.1, fun i hi => ?_⟩
  rw [hf _ _ (by unfold muTK; omega), hf _ _ (by unfold muTK; omega)]
  exact hN.2 i hi
theorem getD_appN {L : List Nat} {c : Nat} {i : Nat} (hi : i < (L ++ [c]).length) : (L ++ [c]).getD i 0 = if i < L.length then L.getD i 0 else c := by
  rw [List.length_append, List.length_singleton] at hi
  by_cases z : i < L.length
  · rw [if_pos z, List.getD_eq_getElem?_getD, List.getElem?_append_left z, List.getD_eq_getElem?_getD]
  · rw [if_neg z, List.getD_eq_getElem?_getD, List.getElem?_append_right (by omega), show i - L.length = 0 by omega]
    rfl
theorem G_readName (he : 3 ≤ e) (hs : RSK T n V m h s) (hz : s.1 = 0) (ho : tO T n s.2 ≠ 0) (hN : NRK T n h N) (hl : N.length < 20) (hw : 0 ≤ v1)
    (k : ∀ h', RSK T n V m h' (tkM (tO T n) (tV T n 37) (tW T n 37 V) (tP T n) N (tkA s)) → ((tkM (tO T n) (tV T n 37) (tW T n 37 V) (tP T n) N (tkA s)).1 = 0 → NRK T n h' (N ++ [s.2 + 1])) → frNK h h' → Q none h') :
    Rn xs xl e mm_readName 0 [some (.inr (.inr 182)), some (.inl v1)] [] h Q := by
  have a7 := hs.2.2.2.1
  have h1s := RS_adv hs hz ho
  have hN1 : NRK T n (wr h 182 7 (rd h 182 7 + 1)) N := NRK_T hN fr7
  have f1 : frNK h (wr h 182 7 (rd h 182 7 + 1)) := fr7.N
  have z1 : (tkA s).1 = 0 := by rw [tkA_0 hz]
  have k2 : (tkA s).2 = s.2 + 1 := by rw [tkA_0 hz]
  refine B_readName_0 hs.1.1 ⟨by omega, 2, by omega, ?_⟩
  generalize wr h 182 7 (rd h 182 7 + 1) = g at h1s hN1 f1 ⊢
  rw [← k2] at k
  generalize tkA s = t at h1s z1 k ⊢
  have bad : ∀ {c : Int}, 1 ≤ c → tkM (tO T n) (tV T n 37) (tW T n 37 V) (tP T n) N t = tkE (tP T n) c t → ∀ h', RSK T n V m h' (tkE (tP T n) c t) → frT g h' → Rn xs xl e mm_readName 38 [some (.inr (.inr 182)), some (.inl v1)] [] h' Q := by
    intro c hc em h' c1 f2
    have ne := tkE_ne' h1s hc
    refine B_readName_38 c1.1.1 ⟨fun _ => k h' (by rw [em]; exact c1) (fun q => absurd (by rw [← em]; exact q) ne) (f1.trans f2.N), fun q => absurd (c1.2.1.symm.trans q) ne⟩
  refine G_isName (by omega) h1s (fun _ nm => ?_) (fun no => ?_)
  · have nm' := nm
    unfold isNm at nm'
    rw [decide_eq_true_iff] at nm'
    refine B_readName_14_1 h1s.1.1 ⟨0, by omega, G_find h1s z1 nm'.1 hN1 (by omega) (fun r hr => B_readName_30 h1s.1.1 ⟨fun c => ?_, fun c => ⟨0, by omega, G_wrong h1s (by omega) (fun h' c1 f2 => bad (by decide) ?_ h' c1 f2)⟩⟩)⟩
    · have na : ¬ N.any (fun j => decide (tV T n 37 j = tV T n 37 t.2)) = true := fun q => by have := hr.mpr q; omega
      have em : tkM (tO T n) (tV T n 37) (tW T n 37 V) (tP T n) N t = tkA t := by unfold tkM; rw [if_pos nm, if_neg na]
      rw [em] at k
      have b7 := h1s.2.2.2.1
      have l19 := hN1.1
      have e8 := h1s.2.1
      have ev := RS_v h1s z1 (by omega) (by omega)
      refine B_readName_38 h1s.1.1 ⟨fun q => absurd (e8.trans z1) q, fun _ => ⟨by omega, by omega, by omega, by omega, by omega, ?_⟩⟩
      have fr : frNK g (wr (wr (wr (wr g 192 (rd g 182 19) (rd g 186 (rd g 182 7))) 194 (rd g 182 19) v1) 182 19 (rd g 182 19 + 1)) 182 7 (rd g 182 7 + 1)) := by
        intro a i hn
        unfold muNK at hn
        rw [rd_wr, if_neg (fun z => hn (by omega)), rd_wr, if_neg (fun z => hn (by omega)), rd_wr, if_neg (fun z => hn (by omega)), rd_wr, if_neg (fun z => hn (by omega))]
      obtain ⟨p1, p2⟩ := h1s.2.2.2.2 z1
      have lt := RS_lt h1s z1 (by omega)
      have m1 := h1s.1.2.2.2.2.1
      refine k _ ⟨RXK_fr h1s.1 (RF_fn h1s.1.1 fr) (fun a i ha => fr a i (by unfold muNK; omega)), ?_, ?_, ?_, fun _ => ⟨?_, ?_⟩⟩ (fun _ => ⟨?_, fun i hi => ?_⟩) (f1.trans fr)
      · rw [tkA_0 z1]; exact ((rdw_nei (by decide)).trans ((rdw_nei (by decide)).trans ((rdw_ne (by decide)).trans (rdw_ne (by decide))))).trans (e8.trans z1)
      · rw [tkA_0 z1]; show (0 : Int) ≤ 0; decide
      · rw [rdw_eq]; omega
      · rw [tkA_0 z1, rdw_eq, p1]; show (t.2 : Int) + 1 = ((t.2 + 1 : Nat) : Int); omega
      · rw [tkA_0 z1]; show t.2 + 1 ≤ m; omega
      · rw [rdw_nei (by decide), rdw_eq, l19, List.length_append, List.length_singleton]; omega
      · have hi' := hi
        rw [List.length_append, List.length_singleton] at hi'
        have a1 : rd (wr (wr (wr (wr g 192 (rd g 182 19) (rd g 186 (rd g 182 7))) 194 (rd g 182 19) v1) 182 19 (rd g 182 19 + 1)) 182 7 (rd g 182 7 + 1)) 192 i = rd (wr g 192 (rd g 182 19) (rd g 186 (rd g 182 7))) 192 i := (rdw_ne (by decide)).trans ((rdw_ne (by decide)).trans (rdw_ne (by decide)))
        have a2 : rd (wr (wr (wr (wr g 192 (rd g 182 19) (rd g 186 (rd g 182 7))) 194 (rd g 182 19) v1) 182 19 (rd g 182 19 + 1)) 182 7 (rd g 182 7 + 1)) 194 i = rd (wr (wr g 192 (rd g 182 19) (rd g 186 (rd g 182 7))) 194 (rd g 182 19) v1) 194 i := (rdw_ne (by decide)).trans (rdw_ne (by decide))
        rw [getD_appN hi, a1, a2]
        by_cases z : i < N.length
        · rw [if_pos z, rdw_nei (by omega), rdw_nei (by omega), rdw_ne (by decide)]; exact hN1.2 i z
        · rw [if_neg z, show (i : Int) = rd g 182 19 by omega, rdw_eq, rdw_eq]; exact ⟨ev, hw⟩
    · unfold tkM
      rw [if_pos nm, if_pos (hr.mp c)]
  · refine B_readName_14_0 h1s.1.1 ⟨0, by omega, G_wrong h1s (by omega) (fun h' c1 f2 => B_readName_22 c1.1.1 (bad (by decide) ?_ h' c1 f2))⟩
    unfold tkM
    rw [if_neg (no z1)]
end CJ
end
section
/-! p3, part b9: the reference's rooms, numbers behind words -/
section CK
variable {xs : Nat → Int} {xl e : Nat} {h : LH} {Q : Option LV → LH → Prop} {v1 v2 v3 : Int} {T : Int → Int} {n : Int} {V : Int → Int} {m : Nat} {s : Int × Nat}
theorem G_takeAfter (he : 3 ≤ e) (hs : RSK T n V m h s) (hw : 0 ≤ v1 ∧ v1 < 29) (hx : i32 v2 ∧ i32 v3) (k : ∀ h' r, RSK T n V m h' (tkN (tO T n) (tV T n 37) (tP T n) v2 v3 (tkW (tW T n 37 V) (tP T n) v1 s)) → frT h h' → ((tkN (tO T n) (tV T n 37) (tP T n) v2 v3 (tkW (tW T n 37 V) (tP T n) v1 s)).1 = 0 → r = tV T n 37 (tkW (tW T n 37 V) (tP T n) v1 s).2 ∧ v2 ≤ r ∧ r ≤ v3) → ((tkN (tO T n) (tV T n 37) (tP T n) v2 v3 (tkW (tW T n 37 V) (tP T n) v1 s)).1 ≠ 0 → r = 0) → Q (some (.inl r)) h') :
    Rn xs xl e mm_takeAfter 0 [some (.inr (.inr 182)), some (.inl v1), some (.inl v2), some (.inl v3)] [] h Q :=
  B_takeAfter_0 hs.1.1 ⟨2, by omega, G_takeWord (by omega) hs hw (fun h1 c1 f1 => B_takeAfter_5 c1.1.1 ⟨1, by omega, G_takeNumber (by omega) c1 hx (fun h2 r c2 f2 r1 r2 => B_takeAfter_11 c2.1.1 (k h2 r c2 (f1.trans f2) r1 r2))⟩)⟩
theorem G_takeRoom (he : 2 ≤ e) (hs : RSK T n V m h s) {R : Int} (hR : rd h 188 150 = R) (hr : 0 ≤ R ∧ R ≤ 10) (k : ∀ h' r, RSK T n V m h' (tkN (tO T n) (tV T n 37) (tP T n) 0 (R - 1) s) → frT h h' → ((tkN (tO T n) (tV T n 37) (tP T n) 0 (R - 1) s).1 = 0 → r = tV T n 37 s.2 ∧ 0 ≤ r ∧ r ≤ R - 1) → ((tkN (tO T n) (tV T n 37) (tP T n) 0 (R - 1) s).1 ≠ 0 → r = 0) → Q (some (.inl r)) h') :
    Rn xs xl e mm_takeRoom 0 [some (.inr (.inr 182))] [] h Q := by
  refine B_takeRoom_0 hs.1.1 ⟨by omega, 1, by omega, ?_⟩
  rw [hR]
  exact G_takeNumber (by omega) hs ⟨by unfold i32; omega, by unfold i32; omega⟩ (fun h2 r c2 f2 r1 r2 => B_takeRoom_15 c2.1.1 (k h2 r c2 f2 r1 r2))
end CK
end
section
/-! p3, part c0: a line of a person, as the reference reads it -/
section PSL
variable (o v w p : Nat → Int)
def psA (N : List Nat) (s : Int × Nat) : Int × Nat := tkM o v w p N (tkA s)
def psB (N : List Nat) (s : Int × Nat) : Int × Nat := tkW w p 8 (tkF w p 18 (psA o v w p N s))
def psC (R : Int) (N : List Nat) (s : Int × Nat) : Int × Nat := tkW w p 9 (tkN o v p 0 (R - 1) (psB o v w p N s))
def psD (R : Int) (N : List Nat) (s : Int × Nat) : Int × Nat := tkW w p 10 (tkN o v p 0 (R - 1) (psC o v w p R N s))
def psL (R : Int) (N : List Nat) (s : Int × Nat) : Int × Nat := tkN o v p 1 24 (psD o v w p R N s)
end PSL
section PSM
variable {o v w p : Nat → Int} {s : Int × Nat}
theorem tkW_z {c : Int} (h : (tkW w p c s).1 = 0) : s.1 = 0 := by
  by_cases z : s.1 = 0
  · exact z
  · rw [tkW_f z] at h; exact h
theorem tkN_z {a b : Int} (h : (tkN o v p a b s).1 = 0) : s.1 = 0 := by
  by_cases z : s.1 = 0
  · exact z
  · rw [tkN_f z] at h; exact h
theorem tkF_z {c : Int} (h : (tkF w p c s).1 = 0) : s.1 = 0 := by
  by_cases z : s.1 = 0
  · exact z
  · rw [tkF_f z] at h; exact h
end PSM
theorem hav_188 (i : Int) : (hav 188 i).1 ≠ 2 := by
  have key : ∀ L : List AV, (∀ q ∈ L, q.1 ≠ 2) → ∀ j : Nat, (L.getD j top0).1 ≠ 2 := by
    intro L hL j
    rw [List.getD_eq_getElem?_getD]
    rcases Nat.lt_or_ge j L.length with z | z
    · rw [List.getElem?_eq_getElem z]
      exact hL _ (List.getElem_mem z)
    · rw [List.getElem?_eq_none z]
      decide
  unfold hav
  split
  · next L hL =>
    refine key L ?_ _
    have : (RGL[(188 : Int).toNat]?).all (fun L => L.all (fun q => decide (q.1 ≠ 2))) = true := by decide +kernel
    rw [hL] at this
    intro q hq
    exact of_decide_eq_true (List.all_eq_true.mp this q hq)
  · decide
section CL
variable {xs : Nat → Int} {xl e : Nat} {h : LH} {Q : Option LV → LH → Prop} {v1 v2 v3 : Int} {T : Int → Int} {n : Int} {V : Int → Int} {m : Nat} {s : Int × Nat} {N : List Nat}
theorem RF_w188 {i v : Int} (hF : RF h) : RF (wr h 188 i v) := by
  intro a j c hv he
  by_cases z : a = 188 ∧ (j : Int) = i
  · have key := hav_188 (j : Int)
    rw [← z.1, he] at key
    exact absurd rfl key
  · rw [rd_wr, if_neg (fun q => z ⟨q.1.symm, q.2.symm⟩)]
    exact hF a j c hv he
theorem RSK_w {i v : Int} (hs : RSK T n V m h s) : RSK T n V m (wr h 188 i v) s := by
  have e7 : rd (wr h 188 i v) 182 7 = rd h 182 7 := rdw_ne (by decide)
  have e8 : rd (wr h 188 i v) 182 8 = rd h 182 8 := rdw_ne (by decide)
  exact ⟨RXK_fr hs.1 (RF_w188 hs.1.1) (fun a j ha => rdw_ne (by omega)), e8.trans hs.2.1, hs.2.2.1, by rw [e7]; exact hs.2.2.2.1, by rw [e7]; exact hs.2.2.2.2⟩
def muP (P a i : Int) : Prop := muNK a i ∨ (a = 188 ∧ (i = 152 ∨ (266 + 4 * P ≤ i ∧ i ≤ 269 + 4 * P)))
def frPK (P : Int) (h h' : LH) : Prop := ∀ a i, ¬ muP P a i → rd h' a i = rd h a i
theorem G_readPerson (he : 4 ≤ e) (hs : RSK T n V m h s) (hz : s.1 = 0) (ho : tO T n s.2 ≠ 0) (hN : NRK T n h N) (hl : N.length < 20) {R P : Int} (hR : rd h 188 150 = R) (hr : 0 ≤ R ∧ R ≤ 10) (hP : rd h 188 152 = P) (hp : 0 ≤ P ∧ P < 6)
    (k : ∀ h', RSK T n V m h' (psL (tO T n) (tV T n 37) (tW T n 37 V) (tP T n) R N s) → ((psL (tO T n) (tV T n 37) (tW T n 37 V) (tP T n) R N s).1 = 0 → NRK T n h' (N ++ [s.2 + 1]) ∧ rd h' 188 152 = P + 1 ∧ rd h' 188 (266 + 4 * P) = tW T n 37 V (psA (tO T n) (tV T n 37) (tW T n 37 V) (tP T n) N s).2 - 18 ∧ rd h' 188 (267 + 4 * P) = tV T n 37 (psB (tO T n) (tV T n 37) (tW T n 37 V) (tP T n) N s).2 ∧ rd h' 188 (268 + 4 * P) = tV T n 37 (psC (tO T n) (tV T n 37) (tW T n 37 V) (tP T n) R N s).2 ∧ rd h' 188 (269 + 4 * P) = tV T n 37 (psD (tO T n) (tV T n 37) (tW T n 37 V) (tP T n) R N s).2) → frPK P h h' → Q none h') :
    Rn xs xl e mm_readPerson 0 [some (.inr (.inr 182)), none, none] [] h Q := by
  refine B_readPerson_0 hs.1.1 ⟨fun _ => ⟨by omega, 3, by omega, ?_⟩, fun c => by omega⟩
  rw [hP]
  refine G_readName (by omega) hs hz ho hN hl (by omega) (fun h1 s1 n1 f1 => ?_)
  refine B_readPerson_29 s1.1.1 ⟨by omega, by omega, 2, by omega, G_takeSort (by omega) s1 (fun h2 r2 s2 f2 q2 _ _ => ?_)⟩
  refine B_readPerson_46 s2.1.1 ⟨by omega, 2, by omega, G_takeWord (by omega) (RSK_w s2) (by omega) (fun h3 s3 f3 => ?_)⟩
  have b3 : ∀ i, rd h3 188 i = rd (wr h1 188 (4 * P + 266) r2) 188 i := by
    intro i
    rw [f3 _ _ (by unfold muTK; omega), rd_wr, rd_wr, f2 _ _ (by unfold muTK; omega)]
  have b1 : ∀ i, rd h1 188 i = rd h 188 i := fun i => f1 _ _ (by unfold muNK; omega)
  have R3 : rd h3 188 150 = R := by rw [b3, rdw_nei (by omega), b1, hR]
  refine B_readPerson_53 s3.1.1 ⟨by omega, 2, by omega, G_takeRoom (by omega) s3 R3 hr (fun h4 r4 s4 f4 q4 _ => ?_)⟩
  refine B_readPerson_64 s4.1.1 ⟨by omega, 2, by omega, G_takeWord (by omega) (RSK_w s4) (by omega) (fun h5 s5 f5 => ?_)⟩
  have b5 : ∀ i, rd h5 188 i = rd (wr h3 188 (4 * P + 266 + 1) r4) 188 i := by
    intro i
    rw [f5 _ _ (by unfold muTK; omega), rd_wr, rd_wr, f4 _ _ (by unfold muTK; omega)]
  have R5 : rd h5 188 150 = R := by rw [b5, rdw_nei (by omega), R3]
  refine B_readPerson_71 s5.1.1 ⟨by omega, 2, by omega, G_takeRoom (by omega) s5 R5 hr (fun h6 r6 s6 f6 q6 _ => ?_)⟩
  refine B_readPerson_82 s6.1.1 ⟨by omega, by omega, 3, by omega, G_takeAfter (by omega) (RSK_w s6) (by omega) ⟨by unfold i32; omega, by unfold i32; omega⟩ (fun h7 r7 s7 f7 q7 _ => ?_)⟩
  have b7 : ∀ i, rd h7 188 i = rd (wr h5 188 (4 * P + 266 + 2) r6) 188 i := by
    intro i
    rw [f7 _ _ (by unfold muTK; omega), rd_wr, rd_wr, f6 _ _ (by unfold muTK; omega)]
  have P7 : rd h7 188 152 = P := by rw [b7, rdw_nei (by omega), b5, rdw_nei (by omega), b3, rdw_nei (by omega), b1, hP]
  have P8 : rd (wr h7 188 (4 * P + 266 + 3) r7) 188 152 = P := by rw [rdw_nei (by omega), P7]
  refine B_readPerson_99 s7.1.1 ⟨by omega, by omega, ?_⟩
  rw [P8]
  refine k _ (RSK_w (RSK_w s7)) (fun z => ?_) (fun a i hn => ?_)
  · have z7 : (psD (tO T n) (tV T n 37) (tW T n 37 V) (tP T n) R N s).1 = 0 := tkN_z z
    have z6 := tkW_z z7
    have z5 := tkN_z z6
    have z4 := tkW_z z5
    have z3 := tkN_z z4
    have z2 := tkW_z z3
    have z1 := tkF_z z2
    have nn := n1 z1
    refine ⟨⟨?_, fun i hi => ?_⟩, rdw_eq, ?_, ?_, ?_, ?_⟩
    · rw [rdw_ne (by decide), rdw_ne (by decide), f7 _ _ (by unfold muTK; omega), rdw_ne (by decide), f6 _ _ (by unfold muTK; omega), f5 _ _ (by unfold muTK; omega), rdw_ne (by decide), f4 _ _ (by unfold muTK; omega), f3 _ _ (by unfold muTK; omega), rdw_ne (by decide), f2 _ _ (by unfold muTK; omega)]
      exact nn.1
    · have same : ∀ a, a = 192 ∨ a = 194 → ∀ j, rd (wr (wr h7 188 (4 * P + 266 + 3) r7) 188 152 (P + 1)) a j = rd h1 a j := by
        intro a ha j
        rw [rdw_ne (by omega), rdw_ne (by omega), f7 _ _ (by unfold muTK; omega), rdw_ne (by omega), f6 _ _ (by unfold muTK; omega), f5 _ _ (by unfold muTK; omega), rdw_ne (by omega), f4 _ _ (by unfold muTK; omega), f3 _ _ (by unfold muTK; omega), rdw_ne (by omega), f2 _ _ (by unfold muTK; omega)]
      rw [same 192 (Or.inl rfl), same 194 (Or.inr rfl)]
      exact nn.2 i hi
    · rw [rdw_nei (by omega), rdw_nei (by omega), b7, rdw_nei (by omega), b5, rdw_nei (by omega), b3, show 266 + 4 * P = 4 * P + 266 by omega, rdw_eq]
      exact q2 z2
    · rw [rdw_nei (by omega), rdw_nei (by omega), b7, rdw_nei (by omega), b5, show 267 + 4 * P = 4 * P + 266 + 1 by omega, rdw_eq]
      exact (q4 z4).1
    · rw [rdw_nei (by omega), rdw_nei (by omega), b7, show 268 + 4 * P = 4 * P + 266 + 2 by omega, rdw_eq]
      exact (q6 z6).1
    · rw [rdw_nei (by omega), show 269 + 4 * P = 4 * P + 266 + 3 by omega, rdw_eq]
      exact (q7 z).1
  · unfold muP at hn
    have hn1 : ¬ muNK a i := fun z => hn (Or.inl z)
    have hn2 : ¬ muTK a i := fun z => hn1 (by unfold muTK at z; unfold muNK; omega)
    rw [rd_wr, if_neg (fun z => hn (Or.inr (by omega))), rd_wr, if_neg (fun z => hn (Or.inr (by omega))), f7 _ _ hn2, rd_wr, if_neg (fun z => hn (Or.inr (by omega))), f6 _ _ hn2, f5 _ _ hn2, rd_wr, if_neg (fun z => hn (Or.inr (by omega))), f4 _ _ hn2, f3 _ _ hn2, rd_wr, if_neg (fun z => hn (Or.inr (by omega))), f2 _ _ hn2, f1 _ _ hn1]
end CL
end
section
/-! p3, part c1: the line of the law, as the reference reads it -/
section CM
variable {xs : Nat → Int} {xl e : Nat} {h : LH} {Q : Option LV → LH → Prop} {T : Int → Int} {n : Int} {V : Int → Int} {m : Nat} {s : Int × Nat}
def muLL (a i : Int) : Prop := muLK a i ∨ (a = 188 ∧ i = 153)
theorem G_readLet (he : 38 ≤ e) (hs : RSK T n V m h s) (hz : s.1 = 0)
    (k1 : ¬ tW T n 37 V s.2 = 11 → ∀ h', RSK T n V m h' (tkE (tP T n) 1 s) → frT h h' → Q none h')
    (k2 : tW T n 37 V s.2 = 11 → 0 ≤ rd h 188 153 → ∀ h', RSK T n V m h' (tkE (tP T n) 3 s) → frT h h' → Q none h')
    (h13 : rd h 188 153 < 0 → rd h 182 13 = 0)
    (k3 : tW T n 37 V s.2 = 11 → rd h 188 153 < 0 → ∀ h', RSK T n V m h' (exX (tO T n) (tV T n 37) (tW T n 37 V) (exP (tO T n) (tV T n 37) (tW T n 37 V) (tP T n) 5) 4 (tkA s, [])).1 → rd h' 188 153 = 0 → ((exX (tO T n) (tV T n 37) (tW T n 37 V) (exP (tO T n) (tV T n 37) (tW T n 37 V) (tP T n) 5) 4 (tkA s, [])).1.1 = 0 → rd h' 182 13 = (exX (tO T n) (tV T n 37) (tW T n 37 V) (exP (tO T n) (tV T n 37) (tW T n 37 V) (tP T n) 5) 4 (tkA s, [])).2.length + 1 ∧ rd h' 189 (1100 + ((exX (tO T n) (tV T n 37) (tW T n 37 V) (exP (tO T n) (tV T n 37) (tW T n 37 V) (tP T n) 5) 4 (tkA s, [])).2.length : Int)) = 0 ∧ ∀ i : Nat, i < (exX (tO T n) (tV T n 37) (tW T n 37 V) (exP (tO T n) (tV T n 37) (tW T n 37 V) (tP T n) 5) 4 (tkA s, [])).2.length → rd h' 189 (1100 + i) = cdO ((exX (tO T n) (tV T n 37) (tW T n 37 V) (exP (tO T n) (tV T n 37) (tW T n 37 V) (tP T n) 5) 4 (tkA s, [])).2.getD i 0) ∧ rd h' 190 (1100 + i) = cdA ((exX (tO T n) (tV T n 37) (tW T n 37 V) (exP (tO T n) (tV T n 37) (tW T n 37 V) (tP T n) 5) 4 (tkA s, [])).2.getD i 0)) → (∀ a i, ¬ muLL a i → rd h' a i = rd h a i) → Q none h') :
    Rn xs xl e mm_readLet 0 [some (.inr (.inr 182))] [] h Q := by
  have a7 := hs.2.2.2.1
  have bad : ∀ {c : Int}, 1 ≤ c → (∀ h', RSK T n V m h' (tkE (tP T n) c s) → frT h h' → Q none h') → ∀ h', RSK T n V m h' (tkE (tP T n) c s) → frT h h' → Rn xs xl e mm_readLet 33 [some (.inr (.inr 182))] [] h' Q := by
    intro c hc kk h' c1 f1
    have ne := tkE_ne' hs hc
    have p0 := c1.2.2.1
    have p1 := c1.2.1
    exact B_readLet_33 c1.1.1 ⟨fun q => by omega, fun _ => kk h' c1 f1⟩
  refine B_readLet_0 hs.1.1 ⟨0, by omega, G_isWord hs (by omega) (fun _ ew => ?_) (fun no => ?_)⟩
  · refine B_readLet_6_1 hs.1.1 ⟨fun c => ?_, fun c => ⟨0, by omega, G_wrong hs (by omega) (fun h' c1 f1 => bad (by decide) (k2 ew c) h' c1 f1)⟩⟩
    have e13 := h13 c
    have o1 := tW_o (T := T) (n := n) (b := 37) (W := V) (k := s.2) (by omega)
    have e8 := hs.2.1
    have lt := RS_lt hs hz (by omega)
    have m1 := hs.1.2.2.2.2.1
    have x0 : REK T n V m 0 h (s, []) := ⟨hs, by omega, by show rd h 182 13 + 0 ≤ (s.2 : Int); omega, by show s.2 ≤ 1000; omega, fun _ => ⟨e13, fun i hi => absurd hi (Nat.not_lt_zero i)⟩⟩
    have x1 := REK_adv x0 hz (by show tO T n s.2 ≠ 0; omega)
    have x2 : REK T n V m 1 (wr (wr h 182 7 (rd h 182 7 + 1)) 188 153 (rd h 182 13)) (tkA s, []) := by
      obtain ⟨c1, c2, c3, c4, c5⟩ := x1
      have q13 : rd (wr (wr h 182 7 (rd h 182 7 + 1)) 188 153 (rd h 182 13)) 182 13 = rd (wr h 182 7 (rd h 182 7 + 1)) 182 13 := rdw_ne (by decide)
      refine ⟨RSK_w c1, by rw [q13]; exact c2, by rw [q13]; exact c3, c4, fun z => ⟨q13.trans (c5 z).1, fun i hi => absurd hi (Nat.not_lt_zero i)⟩⟩
    refine B_readLet_33 hs.1.1 ⟨fun _ => ⟨by omega, 37, by omega, G_all (G_part 5 (by omega)) (d := 0) (by decide) (by omega) (by decide) x2 (by show (tkA s).1 = 0; rw [tkA_0 hz]) (fun h2 c2 f2 => ?_)⟩, fun q => by omega⟩
    have k3' := k3 ew c
    clear k1 k2 k3
    generalize exX (tO T n) (tV T n 37) (tW T n 37 V) (exP (tO T n) (tV T n 37) (tW T n 37 V) (tP T n) 5) 4 (tkA s, []) = y at c2 k3'
    obtain ⟨r1, r2, r3, r4, r5⟩ := c2
    refine B_readLet_68 r1.1.1 ⟨0, by omega, B_emit_0 r1.1.1 ⟨by omega, by omega, by omega, by omega, by omega, ?_⟩⟩
    have f3 : frLK h2 (wr (wr (wr h2 189 (rd h2 182 13 + 1100) 0) 190 (rd h2 182 13 + 1100) 0) 182 13 (rd h2 182 13 + 1)) := by
      intro a i hn
      unfold muLK at hn
      rw [rd_wr, if_neg (fun z => hn (by omega)), rd_wr, if_neg (fun z => hn (by omega)), rd_wr, if_neg (fun z => hn (by omega))]
    have e7 : rd (wr (wr (wr h2 189 (rd h2 182 13 + 1100) 0) 190 (rd h2 182 13 + 1100) 0) 182 13 (rd h2 182 13 + 1)) 182 7 = rd h2 182 7 := (rdw_nei (by decide)).trans ((rdw_ne (by decide)).trans (rdw_ne (by decide)))
    have e8' : rd (wr (wr (wr h2 189 (rd h2 182 13 + 1100) 0) 190 (rd h2 182 13 + 1100) 0) 182 13 (rd h2 182 13 + 1)) 182 8 = rd h2 182 8 := (rdw_nei (by decide)).trans ((rdw_ne (by decide)).trans (rdw_ne (by decide)))
    have s3 : RSK T n V m (wr (wr (wr h2 189 (rd h2 182 13 + 1100) 0) 190 (rd h2 182 13 + 1100) 0) 182 13 (rd h2 182 13 + 1)) y.1 := ⟨RXK_fr r1.1 (RF_fl r1.1.1 f3) (fun a i ha => f3 a i (by unfold muLK; omega)), e8'.trans r1.2.1, r1.2.2.1, by rw [e7]; exact r1.2.2.2.1, by rw [e7]; exact r1.2.2.2.2⟩
    refine B_readLet_74 s3.1.1 (k3' _ s3 ?_ (fun z => ?_) (fun a i hn => ?_))
    · rw [f3 _ _ (by unfold muLK; omega), f2 _ _ (by unfold muLK; omega), rdw_eq, e13]
    · obtain ⟨l1, l2⟩ := r5 z
      refine ⟨by rw [rdw_eq, l1], ?_, fun i hi => ?_⟩
      · rw [rdw_ne (by decide), rdw_ne (by decide), show (1100 : Int) + (y.2.length : Int) = rd h2 182 13 + 1100 by omega, rdw_eq]
      · have a1 : rd (wr (wr (wr h2 189 (rd h2 182 13 + 1100) 0) 190 (rd h2 182 13 + 1100) 0) 182 13 (rd h2 182 13 + 1)) 189 (1100 + i) = rd h2 189 (1100 + i) := (rdw_ne (by decide)).trans ((rdw_ne (by decide)).trans (rdw_nei (by omega)))
        have a2 : rd (wr (wr (wr h2 189 (rd h2 182 13 + 1100) 0) 190 (rd h2 182 13 + 1100) 0) 182 13 (rd h2 182 13 + 1)) 190 (1100 + i) = rd h2 190 (1100 + i) := (rdw_ne (by decide)).trans ((rdw_nei (by omega)).trans (rdw_ne (by decide)))
        rw [a1, a2]
        exact l2 i hi
    · unfold muLL at hn
      have n1 : ¬ muLK a i := fun z => hn (Or.inl z)
      rw [f3 a i n1, f2 a i n1, rd_wr, if_neg (fun z => hn (Or.inr (by omega))), rd_wr, if_neg (fun z => n1 (by unfold muLK; omega))]
  · exact B_readLet_6_0 hs.1.1 ⟨0, by omega, G_wrong hs (by omega) (fun h' c1 f1 => B_readLet_14 c1.1.1 (bad (by decide) (k1 (no hz)) h' c1 f1))⟩
end CM
end
section
/-! p3, part c2: a line of a door, token by token -/
section DSL
variable (o v w p : Nat → Int) (R : Int) (N : List Nat) (s : Int × Nat)
/-- a number behind a word, if the word stands there -/
def opN (c a b : Int) (s : Int × Nat) : Int × Nat := if tkB w c s = true then tkN o v p a b (tkA s) else s
def opV (c d : Int) (s : Int × Nat) : Int := if tkB w c s = true then v (tkA s).2 else d
/-- a sort behind 'for' -/
def opS (s : Int × Nat) : Int × Nat := if tkB w 4 s = true then tkF w p 18 (tkA s) else s
def opT (s : Int × Nat) : Int := if tkB w 4 s = true then w (tkA s).2 - 18 else -1
/-- hours -/
def opE (s : Int × Nat) : Int × Nat := if tkB w 3 s = true then tkW w p 2 (tkN o v p 0 23 (tkA s)) else s
def opF (s : Int × Nat) : Int × Nat := if tkB w 3 s = true then tkN o v p (v (tkA s).2 + 1) 24 (opE o v w p s) else s
def opC (s : Int × Nat) : Int := if tkB w 3 s = true then v (opE o v w p s).2 else 24
/-- all that may stand behind a door's kind -/
def opL (s : Int × Nat) : Int × Nat := opN o v w p 6 0 9 (opN o v w p 5 1 9 (opS w p (opF o v w p s)))
def drA : Int × Nat := tkM o v w p N (tkA s)
def drB : Int × Nat := tkW w p 2 (tkN o v p 0 (R - 1) (drA o v w p N s))
def drC : Int × Nat := tkR o v p (v (drA o v w p N s).2) R (drB o v w p R N s)
def drD : Int × Nat := tkF w p 14 (drC o v w p R N s)
def drL : Int × Nat := opL o v w p (drD o v w p R N s)
end DSL
section DSM
variable {o v w p : Nat → Int} {R : Int} {N : List Nat} {s : Int × Nat}
theorem tkA_z (h : (tkA s).1 = 0) : s.1 = 0 := by
  by_cases z : s.1 = 0
  · exact z
  · rw [tkA_f z] at h; exact h
theorem tkR_z {a b : Int} (h : (tkR o v p a b s).1 = 0) : s.1 = 0 := by
  by_cases z : s.1 = 0
  · exact z
  · rw [tkR_f z] at h; exact h
theorem tkB_f {c : Int} (h : s.1 ≠ 0) : ¬ tkB w c s = true := by
  unfold tkB
  rw [decide_eq_true_iff]
  exact fun z => h z.1
theorem opN_f {c a b : Int} (h : s.1 ≠ 0) : opN o v w p c a b s = s := by unfold opN; rw [if_neg (tkB_f h)]
theorem opS_f (h : s.1 ≠ 0) : opS w p s = s := by unfold opS; rw [if_neg (tkB_f h)]
theorem opE_f (h : s.1 ≠ 0) : opE o v w p s = s := by unfold opE; rw [if_neg (tkB_f h)]
theorem opF_f (h : s.1 ≠ 0) : opF o v w p s = s := by unfold opF; rw [if_neg (tkB_f h)]
theorem opL_f (h : s.1 ≠ 0) : opL o v w p s = s := by unfold opL; rw [opF_f h, opS_f h, opN_f h, opN_f h]
theorem opN_z {c a b : Int} (h : (opN o v w p c a b s).1 = 0) : s.1 = 0 := by
  by_cases z : s.1 = 0
  · exact z
  · rw [opN_f z] at h; exact h
theorem opS_z (h : (opS w p s).1 = 0) : s.1 = 0 := by
  by_cases z : s.1 = 0
  · exact z
  · rw [opS_f z] at h; exact h
theorem opF_z (h : (opF o v w p s).1 = 0) : s.1 = 0 := by
  by_cases z : s.1 = 0
  · exact z
  · rw [opF_f z] at h; exact h
end DSM
end
