/-! LM, by program (wip/p2/hand.py): p3: rows of the class's reader, the law -/
def mm_Quarter_addLaw : LM_M := (⟨"OneSided$Quarter", "addLaw", "(I)V"⟩, prog_8_method_3_code, 2, none, 6, 2, 0, 692, 690, 691)
def mm_Reader_expression : LM_M := (⟨"OneSided$Reader", "expression", "(LOneSided$Quarter;II)V"⟩, prog_9_method_9_code, 6, none, 7, 4, 0, 684, 683, 1000019)
def mm_Reader_part : LM_M := (⟨"OneSided$Reader", "part", "(LOneSided$Quarter;I)V"⟩, prog_9_method_11_code, 6, none, 7, 3, 0, 688, 687, 1000020)
theorem dd_Quarter_addLaw_0 : decode mm_Quarter_addLaw.2.1 0 = .ok (.aload_n 0, 1) := by decide +kernel
theorem dd_Quarter_addLaw_1 : decode mm_Quarter_addLaw.2.1 1 = .ok (.getfield 48, 3) := by decide +kernel
theorem fd_6_48 : fld 6 48 = some (6, 6) := by decide +kernel
theorem dd_Quarter_addLaw_4 : decode mm_Quarter_addLaw.2.1 4 = .ok (.sipush 1000, 3) := by decide +kernel
theorem dd_Quarter_addLaw_7 : decode mm_Quarter_addLaw.2.1 7 = .ok (.if_icmp .ge (23), 3) := by decide +kernel
theorem dd_Quarter_addLaw_30 : decode mm_Quarter_addLaw.2.1 30 = .ok (.return_, 1) := by decide +kernel
theorem dd_Quarter_addLaw_10 : decode mm_Quarter_addLaw.2.1 10 = .ok (.aload_n 0, 1) := by decide +kernel
theorem dd_Quarter_addLaw_11 : decode mm_Quarter_addLaw.2.1 11 = .ok (.getfield 27, 3) := by decide +kernel
theorem fd_6_27 : fld 6 27 = some (6, 5) := by decide +kernel
theorem dd_Quarter_addLaw_14 : decode mm_Quarter_addLaw.2.1 14 = .ok (.aload_n 0, 1) := by decide +kernel
theorem dd_Quarter_addLaw_15 : decode mm_Quarter_addLaw.2.1 15 = .ok (.getfield 48, 3) := by decide +kernel
theorem dd_Quarter_addLaw_18 : decode mm_Quarter_addLaw.2.1 18 = .ok (.iload_n 1, 1) := by decide +kernel
theorem dd_Quarter_addLaw_19 : decode mm_Quarter_addLaw.2.1 19 = .ok (.iastore, 1) := by decide +kernel
theorem dd_Quarter_addLaw_20 : decode mm_Quarter_addLaw.2.1 20 = .ok (.aload_n 0, 1) := by decide +kernel
theorem dd_Quarter_addLaw_21 : decode mm_Quarter_addLaw.2.1 21 = .ok (.dup, 1) := by decide +kernel
theorem dd_Quarter_addLaw_22 : decode mm_Quarter_addLaw.2.1 22 = .ok (.getfield 48, 3) := by decide +kernel
theorem dd_Quarter_addLaw_25 : decode mm_Quarter_addLaw.2.1 25 = .ok (.iconst 1, 1) := by decide +kernel
theorem dd_Quarter_addLaw_26 : decode mm_Quarter_addLaw.2.1 26 = .ok (.iadd, 1) := by decide +kernel
theorem dd_Quarter_addLaw_27 : decode mm_Quarter_addLaw.2.1 27 = .ok (.putfield 48, 3) := by decide +kernel
theorem fn_6_6 : fin 6 6 = false := by decide +kernel
theorem dd_Reader_expression_0 : decode mm_Reader_expression.2.1 0 = .ok (.iload_n 2, 1) := by decide +kernel
theorem dd_Reader_expression_1 : decode mm_Reader_expression.2.1 1 = .ok (.iconst 4, 1) := by decide +kernel
theorem dd_Reader_expression_2 : decode mm_Reader_expression.2.1 2 = .ok (.if_icmp .lt (10), 3) := by decide +kernel
theorem dd_Reader_expression_12 : decode mm_Reader_expression.2.1 12 = .ok (.aload_n 0, 1) := by decide +kernel
theorem dd_Reader_expression_13 : decode mm_Reader_expression.2.1 13 = .ok (.aload_n 1, 1) := by decide +kernel
theorem dd_Reader_expression_14 : decode mm_Reader_expression.2.1 14 = .ok (.iload_n 2, 1) := by decide +kernel
theorem dd_Reader_expression_15 : decode mm_Reader_expression.2.1 15 = .ok (.iconst 1, 1) := by decide +kernel
theorem dd_Reader_expression_16 : decode mm_Reader_expression.2.1 16 = .ok (.iadd, 1) := by decide +kernel
theorem dd_Reader_expression_17 : decode mm_Reader_expression.2.1 17 = .ok (.iload_n 3, 1) := by decide +kernel
theorem dd_Reader_expression_18 : decode mm_Reader_expression.2.1 18 = .ok (.invokevirtual 170, 3) := by decide +kernel
theorem cw_7_170 : cwOk 7 170 0 40 4 6 7 = true := by decide +kernel
theorem mt_Reader_expression : MTB 40 = some mm_Reader_expression := rfl
theorem dd_Reader_expression_5 : decode mm_Reader_expression.2.1 5 = .ok (.aload_n 0, 1) := by decide +kernel
theorem dd_Reader_expression_6 : decode mm_Reader_expression.2.1 6 = .ok (.aload_n 1, 1) := by decide +kernel
theorem dd_Reader_expression_7 : decode mm_Reader_expression.2.1 7 = .ok (.iload_n 3, 1) := by decide +kernel
theorem dd_Reader_expression_8 : decode mm_Reader_expression.2.1 8 = .ok (.invokevirtual 191, 3) := by decide +kernel
theorem cw_7_191 : cwOk 7 191 0 41 3 6 7 = true := by decide +kernel
theorem mt_Reader_part : MTB 41 = some mm_Reader_part := rfl
theorem dd_Reader_expression_11 : decode mm_Reader_expression.2.1 11 = .ok (.return_, 1) := by decide +kernel
theorem dd_Reader_expression_21 : decode mm_Reader_expression.2.1 21 = .ok (.iconst 0, 1) := by decide +kernel
theorem dd_Reader_expression_22 : decode mm_Reader_expression.2.1 22 = .ok (.istore 4, 2) := by decide +kernel
theorem dd_Reader_expression_24 : decode mm_Reader_expression.2.1 24 = .ok (.iload 4, 2) := by decide +kernel
theorem dd_Reader_expression_26 : decode mm_Reader_expression.2.1 26 = .ok (.sipush 1000, 3) := by decide +kernel
theorem dd_Reader_expression_29 : decode mm_Reader_expression.2.1 29 = .ok (.if_icmp .ge (55), 3) := by decide +kernel
theorem dd_Reader_expression_84 : decode mm_Reader_expression.2.1 84 = .ok (.return_, 1) := by decide +kernel
theorem dd_Reader_expression_32 : decode mm_Reader_expression.2.1 32 = .ok (.aload_n 0, 1) := by decide +kernel
theorem dd_Reader_expression_33 : decode mm_Reader_expression.2.1 33 = .ok (.getfield 61, 3) := by decide +kernel
theorem dd_Reader_expression_36 : decode mm_Reader_expression.2.1 36 = .ok (.ifCond .ne (48), 3) := by decide +kernel
theorem dd_Reader_expression_39 : decode mm_Reader_expression.2.1 39 = .ok (.aload_n 0, 1) := by decide +kernel
theorem dd_Reader_expression_40 : decode mm_Reader_expression.2.1 40 = .ok (.iload_n 2, 1) := by decide +kernel
theorem dd_Reader_expression_41 : decode mm_Reader_expression.2.1 41 = .ok (.invokevirtual 195, 3) := by decide +kernel
theorem cw_7_195 : cwOk 7 195 0 43 2 2 7 = true := by decide +kernel
theorem mt_Reader_operatorOf : MTB 43 = some mm_Reader_operatorOf := rfl
theorem dd_Reader_expression_44 : decode mm_Reader_expression.2.1 44 = .ok (.istore 5, 2) := by decide +kernel
theorem dd_Reader_expression_46 : decode mm_Reader_expression.2.1 46 = .ok (.iload 5, 2) := by decide +kernel
theorem dd_Reader_expression_48 : decode mm_Reader_expression.2.1 48 = .ok (.iconst (-1), 1) := by decide +kernel
theorem dd_Reader_expression_49 : decode mm_Reader_expression.2.1 49 = .ok (.if_icmp .ne (4), 3) := by decide +kernel
theorem dd_Reader_expression_53 : decode mm_Reader_expression.2.1 53 = .ok (.aload_n 0, 1) := by decide +kernel
theorem dd_Reader_expression_54 : decode mm_Reader_expression.2.1 54 = .ok (.invokevirtual 99, 3) := by decide +kernel
theorem dd_Reader_expression_52 : decode mm_Reader_expression.2.1 52 = .ok (.return_, 1) := by decide +kernel
theorem dd_Reader_expression_57 : decode mm_Reader_expression.2.1 57 = .ok (.aload_n 0, 1) := by decide +kernel
theorem dd_Reader_expression_58 : decode mm_Reader_expression.2.1 58 = .ok (.aload_n 1, 1) := by decide +kernel
theorem dd_Reader_expression_59 : decode mm_Reader_expression.2.1 59 = .ok (.iload_n 2, 1) := by decide +kernel
theorem dd_Reader_expression_60 : decode mm_Reader_expression.2.1 60 = .ok (.iconst 1, 1) := by decide +kernel
theorem dd_Reader_expression_61 : decode mm_Reader_expression.2.1 61 = .ok (.iadd, 1) := by decide +kernel
theorem dd_Reader_expression_62 : decode mm_Reader_expression.2.1 62 = .ok (.iload_n 3, 1) := by decide +kernel
theorem dd_Reader_expression_63 : decode mm_Reader_expression.2.1 63 = .ok (.invokevirtual 170, 3) := by decide +kernel
theorem dd_Reader_expression_66 : decode mm_Reader_expression.2.1 66 = .ok (.aload_n 1, 1) := by decide +kernel
theorem dd_Reader_expression_67 : decode mm_Reader_expression.2.1 67 = .ok (.iload 5, 2) := by decide +kernel
theorem dd_Reader_expression_69 : decode mm_Reader_expression.2.1 69 = .ok (.invokevirtual 198, 3) := by decide +kernel
theorem cw_7_198 : cwOk 7 198 0 42 2 2 6 = true := by decide +kernel
theorem mt_Quarter_addLaw : MTB 42 = some mm_Quarter_addLaw := rfl
theorem dd_Reader_expression_72 : decode mm_Reader_expression.2.1 72 = .ok (.iload_n 2, 1) := by decide +kernel
theorem dd_Reader_expression_73 : decode mm_Reader_expression.2.1 73 = .ok (.iconst 1, 1) := by decide +kernel
theorem dd_Reader_expression_74 : decode mm_Reader_expression.2.1 74 = .ok (.if_icmp .ne (4), 3) := by decide +kernel
theorem dd_Reader_expression_78 : decode mm_Reader_expression.2.1 78 = .ok (.iinc 4 1, 3) := by decide +kernel
theorem dd_Reader_expression_81 : decode mm_Reader_expression.2.1 81 = .ok (.goto (-57), 3) := by decide +kernel
theorem dd_Reader_expression_77 : decode mm_Reader_expression.2.1 77 = .ok (.return_, 1) := by decide +kernel
theorem dd_Reader_part_0 : decode mm_Reader_part.2.1 0 = .ok (.aload_n 0, 1) := by decide +kernel
theorem dd_Reader_part_1 : decode mm_Reader_part.2.1 1 = .ok (.getfield 64, 3) := by decide +kernel
theorem dd_Reader_part_4 : decode mm_Reader_part.2.1 4 = .ok (.iconst 3, 1) := by decide +kernel
theorem dd_Reader_part_5 : decode mm_Reader_part.2.1 5 = .ok (.if_icmp .ne (7), 3) := by decide +kernel
theorem dd_Reader_part_12 : decode mm_Reader_part.2.1 12 = .ok (.iconst 0, 1) := by decide +kernel
theorem dd_Reader_part_13 : decode mm_Reader_part.2.1 13 = .ok (.istore_n 3, 1) := by decide +kernel
theorem dd_Reader_part_14 : decode mm_Reader_part.2.1 14 = .ok (.aload_n 0, 1) := by decide +kernel
theorem dd_Reader_part_15 : decode mm_Reader_part.2.1 15 = .ok (.getfield 67, 3) := by decide +kernel
theorem dd_Reader_part_18 : decode mm_Reader_part.2.1 18 = .ok (.bipush 25, 2) := by decide +kernel
theorem dd_Reader_part_20 : decode mm_Reader_part.2.1 20 = .ok (.if_icmp .lt (7), 3) := by decide +kernel
theorem dd_Reader_part_27 : decode mm_Reader_part.2.1 27 = .ok (.iconst 0, 1) := by decide +kernel
theorem dd_Reader_part_28 : decode mm_Reader_part.2.1 28 = .ok (.istore 4, 2) := by decide +kernel
theorem dd_Reader_part_30 : decode mm_Reader_part.2.1 30 = .ok (.aload_n 0, 1) := by decide +kernel
theorem dd_Reader_part_31 : decode mm_Reader_part.2.1 31 = .ok (.bipush 40, 2) := by decide +kernel
theorem dd_Reader_part_33 : decode mm_Reader_part.2.1 33 = .ok (.invokevirtual 201, 3) := by decide +kernel
theorem dd_Reader_part_23 : decode mm_Reader_part.2.1 23 = .ok (.iconst 1, 1) := by decide +kernel
theorem dd_Reader_part_24 : decode mm_Reader_part.2.1 24 = .ok (.goto 4, 3) := by decide +kernel
theorem dd_Reader_part_8 : decode mm_Reader_part.2.1 8 = .ok (.iconst 1, 1) := by decide +kernel
theorem dd_Reader_part_9 : decode mm_Reader_part.2.1 9 = .ok (.goto 4, 3) := by decide +kernel
theorem dd_Reader_part_36 : decode mm_Reader_part.2.1 36 = .ok (.istore 5, 2) := by decide +kernel
theorem dd_Reader_part_38 : decode mm_Reader_part.2.1 38 = .ok (.iload_n 3, 1) := by decide +kernel
theorem dd_Reader_part_39 : decode mm_Reader_part.2.1 39 = .ok (.ifCond .ne (28), 3) := by decide +kernel
theorem dd_Reader_part_67 : decode mm_Reader_part.2.1 67 = .ok (.iload_n 2, 1) := by decide +kernel
theorem dd_Reader_part_68 : decode mm_Reader_part.2.1 68 = .ok (.iconst 5, 1) := by decide +kernel
theorem dd_Reader_part_69 : decode mm_Reader_part.2.1 69 = .ok (.if_icmp .lt (9), 3) := by decide +kernel
theorem dd_Reader_part_78 : decode mm_Reader_part.2.1 78 = .ok (.iload_n 3, 1) := by decide +kernel
theorem dd_Reader_part_79 : decode mm_Reader_part.2.1 79 = .ok (.ifCond .ne (8), 3) := by decide +kernel
theorem dd_Reader_part_87 : decode mm_Reader_part.2.1 87 = .ok (.aload_n 1, 1) := by decide +kernel
theorem dd_Reader_part_88 : decode mm_Reader_part.2.1 88 = .ok (.iload_n 3, 1) := by decide +kernel
theorem dd_Reader_part_89 : decode mm_Reader_part.2.1 89 = .ok (.ifCond .eq (11), 3) := by decide +kernel
theorem dd_Reader_part_92 : decode mm_Reader_part.2.1 92 = .ok (.aload_n 0, 1) := by decide +kernel
theorem dd_Reader_part_93 : decode mm_Reader_part.2.1 93 = .ok (.getfield 174, 3) := by decide +kernel
theorem dd_Reader_part_96 : decode mm_Reader_part.2.1 96 = .ok (.l2i, 1) := by decide +kernel
theorem dd_Reader_part_97 : decode mm_Reader_part.2.1 97 = .ok (.goto 14, 3) := by decide +kernel
theorem dd_Reader_part_111 : decode mm_Reader_part.2.1 111 = .ok (.invokevirtual 198, 3) := by decide +kernel
theorem dd_Reader_part_72 : decode mm_Reader_part.2.1 72 = .ok (.aload_n 0, 1) := by decide +kernel
theorem dd_Reader_part_73 : decode mm_Reader_part.2.1 73 = .ok (.iconst 5, 1) := by decide +kernel
theorem dd_Reader_part_74 : decode mm_Reader_part.2.1 74 = .ok (.invokevirtual 80, 3) := by decide +kernel
theorem dd_Reader_part_42 : decode mm_Reader_part.2.1 42 = .ok (.iload 4, 2) := by decide +kernel
theorem dd_Reader_part_44 : decode mm_Reader_part.2.1 44 = .ok (.ifCond .ne (23), 3) := by decide +kernel
theorem dd_Reader_part_82 : decode mm_Reader_part.2.1 82 = .ok (.iload 4, 2) := by decide +kernel
theorem dd_Reader_part_84 : decode mm_Reader_part.2.1 84 = .ok (.ifCond .eq (37), 3) := by decide +kernel
theorem dd_Reader_part_100 : decode mm_Reader_part.2.1 100 = .ok (.sipush 10000, 3) := by decide +kernel
theorem dd_Reader_part_103 : decode mm_Reader_part.2.1 103 = .ok (.aload_n 0, 1) := by decide +kernel
theorem dd_Reader_part_104 : decode mm_Reader_part.2.1 104 = .ok (.getfield 67, 3) := by decide +kernel
theorem dd_Reader_part_107 : decode mm_Reader_part.2.1 107 = .ok (.iadd, 1) := by decide +kernel
theorem dd_Reader_part_108 : decode mm_Reader_part.2.1 108 = .ok (.bipush 25, 2) := by decide +kernel
theorem dd_Reader_part_110 : decode mm_Reader_part.2.1 110 = .ok (.isub, 1) := by decide +kernel
theorem dd_Reader_part_47 : decode mm_Reader_part.2.1 47 = .ok (.iload 5, 2) := by decide +kernel
theorem dd_Reader_part_49 : decode mm_Reader_part.2.1 49 = .ok (.ifCond .ne (18), 3) := by decide +kernel
theorem dd_Reader_part_121 : decode mm_Reader_part.2.1 121 = .ok (.iload 5, 2) := by decide +kernel
theorem dd_Reader_part_123 : decode mm_Reader_part.2.1 123 = .ok (.ifCond .eq (25), 3) := by decide +kernel
theorem dd_Reader_part_126 : decode mm_Reader_part.2.1 126 = .ok (.aload_n 0, 1) := by decide +kernel
theorem dd_Reader_part_127 : decode mm_Reader_part.2.1 127 = .ok (.invokevirtual 99, 3) := by decide +kernel
theorem dd_Reader_part_52 : decode mm_Reader_part.2.1 52 = .ok (.aload_n 0, 1) := by decide +kernel
theorem dd_Reader_part_53 : decode mm_Reader_part.2.1 53 = .ok (.getfield 67, 3) := by decide +kernel
theorem dd_Reader_part_56 : decode mm_Reader_part.2.1 56 = .ok (.bipush 22, 2) := by decide +kernel
theorem dd_Reader_part_58 : decode mm_Reader_part.2.1 58 = .ok (.if_icmp .eq (9), 3) := by decide +kernel
theorem dd_Reader_part_148 : decode mm_Reader_part.2.1 148 = .ok (.aload_n 0, 1) := by decide +kernel
theorem dd_Reader_part_149 : decode mm_Reader_part.2.1 149 = .ok (.invokevirtual 99, 3) := by decide +kernel
theorem dd_Reader_part_61 : decode mm_Reader_part.2.1 61 = .ok (.aload_n 0, 1) := by decide +kernel
theorem dd_Reader_part_62 : decode mm_Reader_part.2.1 62 = .ok (.iconst 1, 1) := by decide +kernel
theorem dd_Reader_part_63 : decode mm_Reader_part.2.1 63 = .ok (.invokevirtual 80, 3) := by decide +kernel
theorem dd_Reader_part_66 : decode mm_Reader_part.2.1 66 = .ok (.return_, 1) := by decide +kernel
theorem dd_Reader_part_77 : decode mm_Reader_part.2.1 77 = .ok (.return_, 1) := by decide +kernel
theorem dd_Reader_part_114 : decode mm_Reader_part.2.1 114 = .ok (.aload_n 0, 1) := by decide +kernel
theorem dd_Reader_part_115 : decode mm_Reader_part.2.1 115 = .ok (.invokevirtual 99, 3) := by decide +kernel
theorem dd_Reader_part_118 : decode mm_Reader_part.2.1 118 = .ok (.goto 49, 3) := by decide +kernel
theorem dd_Reader_part_167 : decode mm_Reader_part.2.1 167 = .ok (.return_, 1) := by decide +kernel
theorem dd_Reader_part_130 : decode mm_Reader_part.2.1 130 = .ok (.aload_n 0, 1) := by decide +kernel
theorem dd_Reader_part_131 : decode mm_Reader_part.2.1 131 = .ok (.aload_n 1, 1) := by decide +kernel
theorem dd_Reader_part_132 : decode mm_Reader_part.2.1 132 = .ok (.iconst 0, 1) := by decide +kernel
theorem dd_Reader_part_133 : decode mm_Reader_part.2.1 133 = .ok (.iload_n 2, 1) := by decide +kernel
theorem dd_Reader_part_134 : decode mm_Reader_part.2.1 134 = .ok (.iconst 1, 1) := by decide +kernel
theorem dd_Reader_part_135 : decode mm_Reader_part.2.1 135 = .ok (.iadd, 1) := by decide +kernel
theorem dd_Reader_part_136 : decode mm_Reader_part.2.1 136 = .ok (.invokevirtual 170, 3) := by decide +kernel
theorem dd_Reader_part_139 : decode mm_Reader_part.2.1 139 = .ok (.aload_n 0, 1) := by decide +kernel
theorem dd_Reader_part_140 : decode mm_Reader_part.2.1 140 = .ok (.bipush 41, 2) := by decide +kernel
theorem dd_Reader_part_142 : decode mm_Reader_part.2.1 142 = .ok (.invokevirtual 57, 3) := by decide +kernel
theorem dd_Reader_part_145 : decode mm_Reader_part.2.1 145 = .ok (.goto 22, 3) := by decide +kernel
theorem dd_Reader_part_152 : decode mm_Reader_part.2.1 152 = .ok (.aload_n 0, 1) := by decide +kernel
theorem dd_Reader_part_153 : decode mm_Reader_part.2.1 153 = .ok (.aload_n 1, 1) := by decide +kernel
theorem dd_Reader_part_154 : decode mm_Reader_part.2.1 154 = .ok (.iload_n 2, 1) := by decide +kernel
theorem dd_Reader_part_155 : decode mm_Reader_part.2.1 155 = .ok (.iconst 1, 1) := by decide +kernel
theorem dd_Reader_part_156 : decode mm_Reader_part.2.1 156 = .ok (.iadd, 1) := by decide +kernel
theorem dd_Reader_part_157 : decode mm_Reader_part.2.1 157 = .ok (.invokevirtual 191, 3) := by decide +kernel
theorem dd_Reader_part_160 : decode mm_Reader_part.2.1 160 = .ok (.aload_n 1, 1) := by decide +kernel
theorem dd_Reader_part_161 : decode mm_Reader_part.2.1 161 = .ok (.sipush 10004, 3) := by decide +kernel
theorem dd_Reader_part_164 : decode mm_Reader_part.2.1 164 = .ok (.invokevirtual 198, 3) := by decide +kernel
theorem rq_law {h : LH} {q : Int} (hF : RF h) (hq : q = 5 ∨ q = 32) : rd h q ((5 : Nat) : Int) = q + 3 := by
  rcases hq with rfl | rfl
  · exact hF 5 5 8 (by decide +kernel) (by decide +kernel)
  · exact hF 32 5 35 (by decide +kernel) (by decide +kernel)
theorem ia_lq {q : Int} (hq : q = 5 ∨ q = 32) : isA NC (q + 3) 1 = true := by
  rcases hq with rfl | rfl <;> decide +kernel
theorem la_lq {q : Int} (hq : q = 5 ∨ q = 32) : (lay (q + 3).toNat).2.2 = 1000 := by
  rcases hq with rfl | rfl <;> decide +kernel
theorem B_Quarter_addLaw_0 {xs : Nat → Int} {xl e : Nat} {h : LH} {Q : Option LV → LH → Prop} {v1 : Int} {q : Int} (hq : q = 5 ∨ q = 32) (hF : RF h)
    (k : (1000 ≤ (rd h q 6) →
        Q none h) ∧
      ((rd h q 6) < 1000 →
        (0 ≤ (rd h q 6) ∧ (rd h q 6) < 1000) ∧
        (-2147483648 ≤ (rd h q 6) + 1 ∧ (rd h q 6) + 1 ≤ 2147483647) ∧
        Q none (wr (wr h (q + 3) (rd h q 6) v1) q 6 ((rd h q 6) + 1)))) :
    Rn xs xl e mm_Quarter_addLaw 0 [some (.inr (.inr q)), some (.inl v1)] [] h Q := by
  refine R_ld (v := .inr (.inr q)) dd_Quarter_addLaw_0 rfl rfl rfl rfl ?_
  refine R_gf (v := .inl (rd h q 6)) dd_Quarter_addLaw_1 fd_6_48 (io_q hq) rfl rfl ?_
  refine R_si dd_Quarter_addLaw_4 (by decide) rfl ?_
  refine R_icmp dd_Quarter_addLaw_7 rfl rfl (fun (c3 : 1000 ≤ (rd h q 6)) => ?_) (fun (c3 : (rd h q 6) < 1000) => ?_)
  · replace k := k.1 c3
    exact R_vret dd_Quarter_addLaw_30 rfl k
  · replace k := k.2 c3
    refine R_ld (v := .inr (.inr q)) dd_Quarter_addLaw_10 rfl rfl rfl rfl ?_
    refine R_gf (v := .inr (.inr (q + 3))) dd_Quarter_addLaw_11 fd_6_27 (io_q hq) (congrArg (fun z : Int => (Sum.inr (Sum.inr z) : LV)) (rq_law hF hq)) rfl ?_
    refine R_ld (v := .inr (.inr q)) dd_Quarter_addLaw_14 rfl rfl rfl rfl ?_
    refine R_gf (v := .inl (rd h q 6)) dd_Quarter_addLaw_15 fd_6_48 (io_q hq) rfl rfl ?_
    refine R_ld (v := .inl v1) dd_Quarter_addLaw_18 rfl rfl rfl rfl ?_
    obtain ⟨s1, k⟩ := k
    refine R_iast (n := 1000) dd_Quarter_addLaw_19 (ia_lq hq) (la_lq hq) s1 rfl ?_
    refine R_ld (v := .inr (.inr q)) dd_Quarter_addLaw_20 rfl rfl rfl rfl ?_
    refine R_A dd_Quarter_addLaw_21 rfl rfl rfl rfl ?_
    refine R_gf (v := .inl (rd h q 6)) dd_Quarter_addLaw_22 fd_6_48 (io_q hq) (congrArg (fun z : Int => (Sum.inl z : LV)) (rdw_ne (by omega))) rfl ?_
    refine R_ic dd_Quarter_addLaw_25 (by decide) rfl ?_
    obtain ⟨s2, k⟩ := k
    refine R_iadd (c := (rd h q 6) + 1) dd_Quarter_addLaw_26 (by omega) s2 rfl ?_
    refine R_pf (z := ((rd h q 6) + 1)) dd_Quarter_addLaw_27 fd_6_48 (io_q hq) fn_6_6 rfl rfl ?_
    exact R_vret dd_Quarter_addLaw_30 rfl k
theorem B_Reader_expression_0 {xs : Nat → Int} {xl e : Nat} {h : LH} {Q : Option LV → LH → Prop} {v2 v3 : Int} {q : Int} (hq : q = 5 ∨ q = 32) (hF : RF h)
    (k : (v2 < 4 →
        (-2147483648 ≤ v2 + 1 ∧ v2 + 1 ≤ 2147483647) ∧
        (∃ c, c < e ∧ Rn xs xl c mm_Reader_expression 0 [some (.inr (.inr 2)), some (.inr (.inr q)), some (.inl (v2 + 1)), some (.inl v3), none, none] [] h (fun r h' => Rn xs xl e mm_Reader_expression 21 [some (.inr (.inr 2)), some (.inr (.inr q)), some (.inl v2), some (.inl v3), none, none] (r.toList ++ []) h' Q))) ∧
      (4 ≤ v2 →
        (∃ c, c < e ∧ Rn xs xl c mm_Reader_part 0 [some (.inr (.inr 2)), some (.inr (.inr q)), some (.inl v3), none, none, none] [] h (fun r h' => Rn xs xl e mm_Reader_expression 11 [some (.inr (.inr 2)), some (.inr (.inr q)), some (.inl v2), some (.inl v3), none, none] (r.toList ++ []) h' Q)))) :
    Rn xs xl e mm_Reader_expression 0 [some (.inr (.inr 2)), some (.inr (.inr q)), some (.inl v2), some (.inl v3), none, none] [] h Q := by
  refine R_ld (v := .inl v2) dd_Reader_expression_0 rfl rfl rfl rfl ?_
  refine R_ic dd_Reader_expression_1 (by decide) rfl ?_
  refine R_icmp dd_Reader_expression_2 rfl rfl (fun (c4 : v2 < 4) => ?_) (fun (c4 : 4 ≤ v2) => ?_)
  · replace k := k.1 c4
    refine R_ld (v := .inr (.inr 2)) dd_Reader_expression_12 rfl rfl rfl rfl ?_
    refine R_ld (v := .inr (.inr q)) dd_Reader_expression_13 rfl rfl rfl rfl ?_
    refine R_ld (v := .inl v2) dd_Reader_expression_14 rfl rfl rfl rfl ?_
    refine R_ic dd_Reader_expression_15 (by decide) rfl ?_
    obtain ⟨s1, k⟩ := k
    refine R_iadd (c := v2 + 1) dd_Reader_expression_16 (by omega) s1 rfl ?_
    refine R_ld (v := .inl v3) dd_Reader_expression_17 rfl rfl rfl rfl ?_
    obtain ⟨c, hc, k⟩ := k
    exact R_call (as := [.inr (.inr 2), .inr (.inr q), .inl (v2 + 1), .inl v3]) (rest := []) (M' := mm_Reader_expression) (ls0 := [some (.inr (.inr 2)), some (.inr (.inr q)), some (.inl (v2 + 1)), some (.inl v3), none, none]) dd_Reader_expression_18 rfl rfl (cw_v cw_7_170 io_2 rfl rfl (Nat.le_of_ble_eq_true rfl) (Nat.le_of_ble_eq_true rfl)) mt_Reader_expression rfl hc rfl k
  · replace k := k.2 c4
    refine R_ld (v := .inr (.inr 2)) dd_Reader_expression_5 rfl rfl rfl rfl ?_
    refine R_ld (v := .inr (.inr q)) dd_Reader_expression_6 rfl rfl rfl rfl ?_
    refine R_ld (v := .inl v3) dd_Reader_expression_7 rfl rfl rfl rfl ?_
    obtain ⟨c, hc, k⟩ := k
    exact R_call (as := [.inr (.inr 2), .inr (.inr q), .inl v3]) (rest := []) (M' := mm_Reader_part) (ls0 := [some (.inr (.inr 2)), some (.inr (.inr q)), some (.inl v3), none, none, none]) dd_Reader_expression_8 rfl rfl (cw_v cw_7_191 io_2 rfl rfl (Nat.le_of_ble_eq_true rfl) (Nat.le_of_ble_eq_true rfl)) mt_Reader_part rfl hc rfl k
theorem B_Reader_expression_11 {xs : Nat → Int} {xl e : Nat} {h : LH} {Q : Option LV → LH → Prop} {v2 v3 : Int} {q : Int} (hq : q = 5 ∨ q = 32) (hF : RF h)
    (k : Q none h) :
    Rn xs xl e mm_Reader_expression 11 [some (.inr (.inr 2)), some (.inr (.inr q)), some (.inl v2), some (.inl v3), none, none] [] h Q := by
  exact R_vret dd_Reader_expression_11 rfl k
theorem B_Reader_expression_21 {xs : Nat → Int} {xl e : Nat} {h : LH} {Q : Option LV → LH → Prop} {v2 v3 : Int} {q : Int} (hq : q = 5 ∨ q = 32) (hF : RF h)
    (k : Rn xs xl e mm_Reader_expression 24 [some (.inr (.inr 2)), some (.inr (.inr q)), some (.inl v2), some (.inl v3), some (.inl 0), none] [] h Q) :
    Rn xs xl e mm_Reader_expression 21 [some (.inr (.inr 2)), some (.inr (.inr q)), some (.inl v2), some (.inl v3), none, none] [] h Q := by
  refine R_ic dd_Reader_expression_21 (by decide) rfl ?_
  refine R_st (ls' := [some (.inr (.inr 2)), some (.inr (.inr q)), some (.inl v2), some (.inl v3), some (.inl 0), none]) dd_Reader_expression_22 rfl rfl rfl (Nat.le_of_ble_eq_true rfl) rfl rfl ?_
  exact k
theorem B_Reader_expression_24 {xs : Nat → Int} {xl e : Nat} {h : LH} {Q : Option LV → LH → Prop} {v2 v3 v4 : Int} {q : Int} (hq : q = 5 ∨ q = 32) {o5 : Option LV} (hF : RF h) (r_v4 : 0 ≤ v4 ∧ v4 ≤ 1000)
    (k : (1000 ≤ v4 →
        Q none h) ∧
      (v4 < 1000 →
        ((rd h 2 8) ≠ 0 →
          Q none h) ∧
        ((rd h 2 8) = 0 →
          (∃ c, c < e ∧ Rn xs xl c mm_Reader_operatorOf 0 [some (.inr (.inr 2)), some (.inl v2)] [] h (fun r h' => Rn xs xl e mm_Reader_expression 44 [some (.inr (.inr 2)), some (.inr (.inr q)), some (.inl v2), some (.inl v3), some (.inl v4), o5] (r.toList ++ []) h' Q))))) :
    Rn xs xl e mm_Reader_expression 24 [some (.inr (.inr 2)), some (.inr (.inr q)), some (.inl v2), some (.inl v3), some (.inl v4), o5] [] h Q := by
  refine R_ld (v := .inl v4) dd_Reader_expression_24 rfl rfl rfl rfl ?_
  refine R_si dd_Reader_expression_26 (by decide) rfl ?_
  refine R_icmp dd_Reader_expression_29 rfl rfl (fun (c2 : 1000 ≤ v4) => ?_) (fun (c2 : v4 < 1000) => ?_)
  · replace k := k.1 c2
    exact R_vret dd_Reader_expression_84 rfl k
  · replace k := k.2 c2
    refine R_ld (v := .inr (.inr 2)) dd_Reader_expression_32 rfl rfl rfl rfl ?_
    refine R_gf (v := .inl (rd h 2 8)) dd_Reader_expression_33 fd_7_61 io_2 (congrArg (fun z : Int => (Sum.inl z : LV)) (rfl)) rfl ?_
    refine R_if dd_Reader_expression_36 rfl rfl (fun (c3 : (rd h 2 8) ≠ 0) => ?_) (fun (c3 : (rd h 2 8) = 0) => ?_)
    · replace k := k.1 c3
      exact R_vret dd_Reader_expression_84 rfl k
    · replace k := k.2 c3
      refine R_ld (v := .inr (.inr 2)) dd_Reader_expression_39 rfl rfl rfl rfl ?_
      refine R_ld (v := .inl v2) dd_Reader_expression_40 rfl rfl rfl rfl ?_
      obtain ⟨c, hc, k⟩ := k
      exact R_call (as := [.inr (.inr 2), .inl v2]) (rest := []) (M' := mm_Reader_operatorOf) (ls0 := [some (.inr (.inr 2)), some (.inl v2)]) dd_Reader_expression_41 rfl rfl (cw_v cw_7_195 io_2 rfl rfl (Nat.le_of_ble_eq_true rfl) (Nat.le_of_ble_eq_true rfl)) mt_Reader_operatorOf rfl hc rfl k
theorem B_Reader_expression_44 {xs : Nat → Int} {xl e : Nat} {h : LH} {Q : Option LV → LH → Prop} {v2 v3 v4 w0 : Int} {q : Int} (hq : q = 5 ∨ q = 32) {o5 : Option LV} (hF : RF h)
    (k : (w0 ≠ (-1) →
        (∃ c, c < e ∧ Rn xs xl c mm_Reader_step 0 [some (.inr (.inr 2)), none] [] h (fun r h' => Rn xs xl e mm_Reader_expression 57 [some (.inr (.inr 2)), some (.inr (.inr q)), some (.inl v2), some (.inl v3), some (.inl v4), some (.inl w0)] (r.toList ++ []) h' Q))) ∧
      (w0 = (-1) →
        Q none h)) :
    Rn xs xl e mm_Reader_expression 44 [some (.inr (.inr 2)), some (.inr (.inr q)), some (.inl v2), some (.inl v3), some (.inl v4), o5] [.inl w0] h Q := by
  refine R_st (ls' := [some (.inr (.inr 2)), some (.inr (.inr q)), some (.inl v2), some (.inl v3), some (.inl v4), some (.inl w0)]) dd_Reader_expression_44 rfl rfl rfl (Nat.le_of_ble_eq_true rfl) rfl rfl ?_
  refine R_ld (v := .inl w0) dd_Reader_expression_46 rfl rfl rfl rfl ?_
  refine R_ic dd_Reader_expression_48 (by decide) rfl ?_
  refine R_icmp dd_Reader_expression_49 rfl rfl (fun (c2 : w0 ≠ (-1)) => ?_) (fun (c2 : w0 = (-1)) => ?_)
  · replace k := k.1 c2
    refine R_ld (v := .inr (.inr 2)) dd_Reader_expression_53 rfl rfl rfl rfl ?_
    obtain ⟨c, hc, k⟩ := k
    exact R_call (as := [.inr (.inr 2)]) (rest := []) (M' := mm_Reader_step) (ls0 := [some (.inr (.inr 2)), none]) dd_Reader_expression_54 rfl rfl (cw_v cw_7_99 io_2 rfl rfl (Nat.le_of_ble_eq_true rfl) (Nat.le_of_ble_eq_true rfl)) mt_Reader_step rfl hc rfl k
  · replace k := k.2 c2
    exact R_vret dd_Reader_expression_52 rfl k
theorem B_Reader_expression_57 {xs : Nat → Int} {xl e : Nat} {h : LH} {Q : Option LV → LH → Prop} {v2 v3 v4 v5 : Int} {q : Int} (hq : q = 5 ∨ q = 32) (hF : RF h)
    (k : (-2147483648 ≤ v2 + 1 ∧ v2 + 1 ≤ 2147483647) ∧
      (∃ c, c < e ∧ Rn xs xl c mm_Reader_expression 0 [some (.inr (.inr 2)), some (.inr (.inr q)), some (.inl (v2 + 1)), some (.inl v3), none, none] [] h (fun r h' => Rn xs xl e mm_Reader_expression 66 [some (.inr (.inr 2)), some (.inr (.inr q)), some (.inl v2), some (.inl v3), some (.inl v4), some (.inl v5)] (r.toList ++ []) h' Q))) :
    Rn xs xl e mm_Reader_expression 57 [some (.inr (.inr 2)), some (.inr (.inr q)), some (.inl v2), some (.inl v3), some (.inl v4), some (.inl v5)] [] h Q := by
  refine R_ld (v := .inr (.inr 2)) dd_Reader_expression_57 rfl rfl rfl rfl ?_
  refine R_ld (v := .inr (.inr q)) dd_Reader_expression_58 rfl rfl rfl rfl ?_
  refine R_ld (v := .inl v2) dd_Reader_expression_59 rfl rfl rfl rfl ?_
  refine R_ic dd_Reader_expression_60 (by decide) rfl ?_
  obtain ⟨s1, k⟩ := k
  refine R_iadd (c := v2 + 1) dd_Reader_expression_61 (by omega) s1 rfl ?_
  refine R_ld (v := .inl v3) dd_Reader_expression_62 rfl rfl rfl rfl ?_
  obtain ⟨c, hc, k⟩ := k
  exact R_call (as := [.inr (.inr 2), .inr (.inr q), .inl (v2 + 1), .inl v3]) (rest := []) (M' := mm_Reader_expression) (ls0 := [some (.inr (.inr 2)), some (.inr (.inr q)), some (.inl (v2 + 1)), some (.inl v3), none, none]) dd_Reader_expression_63 rfl rfl (cw_v cw_7_170 io_2 rfl rfl (Nat.le_of_ble_eq_true rfl) (Nat.le_of_ble_eq_true rfl)) mt_Reader_expression rfl hc rfl k
theorem B_Reader_expression_66 {xs : Nat → Int} {xl e : Nat} {h : LH} {Q : Option LV → LH → Prop} {v2 v3 v4 v5 : Int} {q : Int} (hq : q = 5 ∨ q = 32) (hF : RF h)
    (k : (∃ c, c < e ∧ Rn xs xl c mm_Quarter_addLaw 0 [some (.inr (.inr q)), some (.inl v5)] [] h (fun r h' => Rn xs xl e mm_Reader_expression 72 [some (.inr (.inr 2)), some (.inr (.inr q)), some (.inl v2), some (.inl v3), some (.inl v4), some (.inl v5)] (r.toList ++ []) h' Q))) :
    Rn xs xl e mm_Reader_expression 66 [some (.inr (.inr 2)), some (.inr (.inr q)), some (.inl v2), some (.inl v3), some (.inl v4), some (.inl v5)] [] h Q := by
  refine R_ld (v := .inr (.inr q)) dd_Reader_expression_66 rfl rfl rfl rfl ?_
  refine R_ld (v := .inl v5) dd_Reader_expression_67 rfl rfl rfl rfl ?_
  obtain ⟨c, hc, k⟩ := k
  exact R_call (as := [.inr (.inr q), .inl v5]) (rest := []) (M' := mm_Quarter_addLaw) (ls0 := [some (.inr (.inr q)), some (.inl v5)]) dd_Reader_expression_69 rfl rfl (cw_v cw_7_198 (io_q hq) rfl rfl (Nat.le_of_ble_eq_true rfl) (Nat.le_of_ble_eq_true rfl)) mt_Quarter_addLaw rfl hc rfl k
theorem B_Reader_expression_72 {xs : Nat → Int} {xl e : Nat} {h : LH} {Q : Option LV → LH → Prop} {v2 v3 v4 v5 : Int} {q : Int} (hq : q = 5 ∨ q = 32) (hF : RF h) (r_v4 : 0 ≤ v4 ∧ v4 ≤ 999)
    (k : (v2 ≠ 1 →
        Rn xs xl e mm_Reader_expression 24 [some (.inr (.inr 2)), some (.inr (.inr q)), some (.inl v2), some (.inl v3), some (.inl (v4 + 1)), some (.inl v5)] [] h Q) ∧
      (v2 = 1 →
        Q none h)) :
    Rn xs xl e mm_Reader_expression 72 [some (.inr (.inr 2)), some (.inr (.inr q)), some (.inl v2), some (.inl v3), some (.inl v4), some (.inl v5)] [] h Q := by
  refine R_ld (v := .inl v2) dd_Reader_expression_72 rfl rfl rfl rfl ?_
  refine R_ic dd_Reader_expression_73 (by decide) rfl ?_
  refine R_icmp dd_Reader_expression_74 rfl rfl (fun (c1 : v2 ≠ 1) => ?_) (fun (c1 : v2 = 1) => ?_)
  · replace k := k.1 c1
    refine R_inc (y := v4 + 1) (ls' := [some (.inr (.inr 2)), some (.inr (.inr q)), some (.inl v2), some (.inl v3), some (.inl (v4 + 1)), some (.inl v5)]) dd_Reader_expression_78 rfl (by decide) (by omega) (by omega) rfl rfl ?_
    refine R_goto dd_Reader_expression_81 rfl ?_
    exact k
  · replace k := k.2 c1
    exact R_vret dd_Reader_expression_77 rfl k
theorem B_Reader_part_0 {xs : Nat → Int} {xl e : Nat} {h : LH} {Q : Option LV → LH → Prop} {v2 : Int} {q : Int} (hq : q = 5 ∨ q = 32) (hF : RF h)
    (k : ((rd h 2 3) ≠ 3 →
        ((rd h 2 7) < 25 →
          (∃ c, c < e ∧ Rn xs xl c mm_Reader_isSign 0 [some (.inr (.inr 2)), some (.inl 40)] [] h (fun r h' => Rn xs xl e mm_Reader_part 36 [some (.inr (.inr 2)), some (.inr (.inr q)), some (.inl v2), some (.inl 0), some (.inl 0), none] (r.toList ++ []) h' Q))) ∧
        (25 ≤ (rd h 2 7) →
          (∃ c, c < e ∧ Rn xs xl c mm_Reader_isSign 0 [some (.inr (.inr 2)), some (.inl 40)] [] h (fun r h' => Rn xs xl e mm_Reader_part 36 [some (.inr (.inr 2)), some (.inr (.inr q)), some (.inl v2), some (.inl 0), some (.inl 1), none] (r.toList ++ []) h' Q)))) ∧
      ((rd h 2 3) = 3 →
        ((rd h 2 7) < 25 →
          (∃ c, c < e ∧ Rn xs xl c mm_Reader_isSign 0 [some (.inr (.inr 2)), some (.inl 40)] [] h (fun r h' => Rn xs xl e mm_Reader_part 36 [some (.inr (.inr 2)), some (.inr (.inr q)), some (.inl v2), some (.inl 1), some (.inl 0), none] (r.toList ++ []) h' Q))) ∧
        (25 ≤ (rd h 2 7) →
          (∃ c, c < e ∧ Rn xs xl c mm_Reader_isSign 0 [some (.inr (.inr 2)), some (.inl 40)] [] h (fun r h' => Rn xs xl e mm_Reader_part 36 [some (.inr (.inr 2)), some (.inr (.inr q)), some (.inl v2), some (.inl 1), some (.inl 1), none] (r.toList ++ []) h' Q))))) :
    Rn xs xl e mm_Reader_part 0 [some (.inr (.inr 2)), some (.inr (.inr q)), some (.inl v2), none, none, none] [] h Q := by
  refine R_ld (v := .inr (.inr 2)) dd_Reader_part_0 rfl rfl rfl rfl ?_
  refine R_gf (v := .inl (rd h 2 3)) dd_Reader_part_1 fd_7_64 io_2 (congrArg (fun z : Int => (Sum.inl z : LV)) (rfl)) rfl ?_
  refine R_ic dd_Reader_part_4 (by decide) rfl ?_
  refine R_icmp dd_Reader_part_5 rfl rfl (fun (c5 : (rd h 2 3) ≠ 3) => ?_) (fun (c5 : (rd h 2 3) = 3) => ?_)
  · replace k := k.1 c5
    refine R_ic dd_Reader_part_12 (by decide) rfl ?_
    refine R_st (ls' := [some (.inr (.inr 2)), some (.inr (.inr q)), some (.inl v2), some (.inl 0), none, none]) dd_Reader_part_13 rfl rfl rfl (Nat.le_of_ble_eq_true rfl) rfl rfl ?_
    refine R_ld (v := .inr (.inr 2)) dd_Reader_part_14 rfl rfl rfl rfl ?_
    refine R_gf (v := .inl (rd h 2 7)) dd_Reader_part_15 fd_7_67 io_2 (congrArg (fun z : Int => (Sum.inl z : LV)) (rfl)) rfl ?_
    refine R_bi dd_Reader_part_18 (by decide) rfl ?_
    refine R_icmp dd_Reader_part_20 rfl rfl (fun (c6 : (rd h 2 7) < 25) => ?_) (fun (c6 : 25 ≤ (rd h 2 7)) => ?_)
    · replace k := k.1 c6
      refine R_ic dd_Reader_part_27 (by decide) rfl ?_
      refine R_st (ls' := [some (.inr (.inr 2)), some (.inr (.inr q)), some (.inl v2), some (.inl 0), some (.inl 0), none]) dd_Reader_part_28 rfl rfl rfl (Nat.le_of_ble_eq_true rfl) rfl rfl ?_
      refine R_ld (v := .inr (.inr 2)) dd_Reader_part_30 rfl rfl rfl rfl ?_
      refine R_bi dd_Reader_part_31 (by decide) rfl ?_
      obtain ⟨c, hc, k⟩ := k
      exact R_call (as := [.inr (.inr 2), .inl 40]) (rest := []) (M' := mm_Reader_isSign) (ls0 := [some (.inr (.inr 2)), some (.inl 40)]) dd_Reader_part_33 rfl rfl (cw_v cw_7_201 io_2 rfl rfl (Nat.le_of_ble_eq_true rfl) (Nat.le_of_ble_eq_true rfl)) mt_Reader_isSign rfl hc rfl k
    · replace k := k.2 c6
      refine R_ic dd_Reader_part_23 (by decide) rfl ?_
      refine R_goto dd_Reader_part_24 rfl ?_
      refine R_st (ls' := [some (.inr (.inr 2)), some (.inr (.inr q)), some (.inl v2), some (.inl 0), some (.inl 1), none]) dd_Reader_part_28 rfl rfl rfl (Nat.le_of_ble_eq_true rfl) rfl rfl ?_
      refine R_ld (v := .inr (.inr 2)) dd_Reader_part_30 rfl rfl rfl rfl ?_
      refine R_bi dd_Reader_part_31 (by decide) rfl ?_
      obtain ⟨c, hc, k⟩ := k
      exact R_call (as := [.inr (.inr 2), .inl 40]) (rest := []) (M' := mm_Reader_isSign) (ls0 := [some (.inr (.inr 2)), some (.inl 40)]) dd_Reader_part_33 rfl rfl (cw_v cw_7_201 io_2 rfl rfl (Nat.le_of_ble_eq_true rfl) (Nat.le_of_ble_eq_true rfl)) mt_Reader_isSign rfl hc rfl k
  · replace k := k.2 c5
    refine R_ic dd_Reader_part_8 (by decide) rfl ?_
    refine R_goto dd_Reader_part_9 rfl ?_
    refine R_st (ls' := [some (.inr (.inr 2)), some (.inr (.inr q)), some (.inl v2), some (.inl 1), none, none]) dd_Reader_part_13 rfl rfl rfl (Nat.le_of_ble_eq_true rfl) rfl rfl ?_
    refine R_ld (v := .inr (.inr 2)) dd_Reader_part_14 rfl rfl rfl rfl ?_
    refine R_gf (v := .inl (rd h 2 7)) dd_Reader_part_15 fd_7_67 io_2 (congrArg (fun z : Int => (Sum.inl z : LV)) (rfl)) rfl ?_
    refine R_bi dd_Reader_part_18 (by decide) rfl ?_
    refine R_icmp dd_Reader_part_20 rfl rfl (fun (c7 : (rd h 2 7) < 25) => ?_) (fun (c7 : 25 ≤ (rd h 2 7)) => ?_)
    · replace k := k.1 c7
      refine R_ic dd_Reader_part_27 (by decide) rfl ?_
      refine R_st (ls' := [some (.inr (.inr 2)), some (.inr (.inr q)), some (.inl v2), some (.inl 1), some (.inl 0), none]) dd_Reader_part_28 rfl rfl rfl (Nat.le_of_ble_eq_true rfl) rfl rfl ?_
      refine R_ld (v := .inr (.inr 2)) dd_Reader_part_30 rfl rfl rfl rfl ?_
      refine R_bi dd_Reader_part_31 (by decide) rfl ?_
      obtain ⟨c, hc, k⟩ := k
      exact R_call (as := [.inr (.inr 2), .inl 40]) (rest := []) (M' := mm_Reader_isSign) (ls0 := [some (.inr (.inr 2)), some (.inl 40)]) dd_Reader_part_33 rfl rfl (cw_v cw_7_201 io_2 rfl rfl (Nat.le_of_ble_eq_true rfl) (Nat.le_of_ble_eq_true rfl)) mt_Reader_isSign rfl hc rfl k
    · replace k := k.2 c7
      refine R_ic dd_Reader_part_23 (by decide) rfl ?_
      refine R_goto dd_Reader_part_24 rfl ?_
      refine R_st (ls' := [some (.inr (.inr 2)), some (.inr (.inr q)), some (.inl v2), some (.inl 1), some (.inl 1), none]) dd_Reader_part_28 rfl rfl rfl (Nat.le_of_ble_eq_true rfl) rfl rfl ?_
      refine R_ld (v := .inr (.inr 2)) dd_Reader_part_30 rfl rfl rfl rfl ?_
      refine R_bi dd_Reader_part_31 (by decide) rfl ?_
      obtain ⟨c, hc, k⟩ := k
      exact R_call (as := [.inr (.inr 2), .inl 40]) (rest := []) (M' := mm_Reader_isSign) (ls0 := [some (.inr (.inr 2)), some (.inl 40)]) dd_Reader_part_33 rfl rfl (cw_v cw_7_201 io_2 rfl rfl (Nat.le_of_ble_eq_true rfl) (Nat.le_of_ble_eq_true rfl)) mt_Reader_isSign rfl hc rfl k
theorem B_Reader_part_36 {xs : Nat → Int} {xl e : Nat} {h : LH} {Q : Option LV → LH → Prop} {v2 v3 v4 w0 : Int} {q : Int} (hq : q = 5 ∨ q = 32) (hF : RF h) (r_v2 : 0 ≤ v2 ∧ v2 ≤ 5)
    (k : (v3 ≠ 0 →
        (v2 < 5 →
          (∃ c, c < e ∧ Rn xs xl c mm_Quarter_addLaw 0 [some (.inr (.inr q)), some (.inl (w32 (rd h 2 6)))] [] h (fun r h' => Rn xs xl e mm_Reader_part 114 [some (.inr (.inr 2)), some (.inr (.inr q)), some (.inl v2), some (.inl v3), some (.inl v4), some (.inl w0)] (r.toList ++ []) h' Q))) ∧
        (5 ≤ v2 →
          (∃ c, c < e ∧ Rn xs xl c mm_Reader_fail 0 [some (.inr (.inr 2)), some (.inl 5)] [] h (fun r h' => Rn xs xl e mm_Reader_part 77 [some (.inr (.inr 2)), some (.inr (.inr q)), some (.inl v2), some (.inl v3), some (.inl v4), some (.inl w0)] (r.toList ++ []) h' Q)))) ∧
      (v3 = 0 →
        (v4 ≠ 0 →
          (v2 < 5 →
            (-2147483648 ≤ (rd h 2 7) + 10000 ∧ (rd h 2 7) + 10000 ≤ 2147483647) ∧
            (-2147483648 ≤ (rd h 2 7) + 9975 ∧ (rd h 2 7) + 9975 ≤ 2147483647) ∧
            (∃ c, c < e ∧ Rn xs xl c mm_Quarter_addLaw 0 [some (.inr (.inr q)), some (.inl ((rd h 2 7) + 9975))] [] h (fun r h' => Rn xs xl e mm_Reader_part 114 [some (.inr (.inr 2)), some (.inr (.inr q)), some (.inl v2), some (.inl v3), some (.inl v4), some (.inl w0)] (r.toList ++ []) h' Q))) ∧
          (5 ≤ v2 →
            (∃ c, c < e ∧ Rn xs xl c mm_Reader_fail 0 [some (.inr (.inr 2)), some (.inl 5)] [] h (fun r h' => Rn xs xl e mm_Reader_part 77 [some (.inr (.inr 2)), some (.inr (.inr q)), some (.inl v2), some (.inl v3), some (.inl v4), some (.inl w0)] (r.toList ++ []) h' Q)))) ∧
        (v4 = 0 →
          (w0 ≠ 0 →
            (v2 < 5 →
              (∃ c, c < e ∧ Rn xs xl c mm_Reader_step 0 [some (.inr (.inr 2)), none] [] h (fun r h' => Rn xs xl e mm_Reader_part 130 [some (.inr (.inr 2)), some (.inr (.inr q)), some (.inl v2), some (.inl v3), some (.inl v4), some (.inl w0)] (r.toList ++ []) h' Q))) ∧
            (5 ≤ v2 →
              (∃ c, c < e ∧ Rn xs xl c mm_Reader_fail 0 [some (.inr (.inr 2)), some (.inl 5)] [] h (fun r h' => Rn xs xl e mm_Reader_part 77 [some (.inr (.inr 2)), some (.inr (.inr q)), some (.inl v2), some (.inl v3), some (.inl v4), some (.inl w0)] (r.toList ++ []) h' Q)))) ∧
          (w0 = 0 →
            ((rd h 2 7) = 22 →
              (v2 < 5 →
                (∃ c, c < e ∧ Rn xs xl c mm_Reader_step 0 [some (.inr (.inr 2)), none] [] h (fun r h' => Rn xs xl e mm_Reader_part 152 [some (.inr (.inr 2)), some (.inr (.inr q)), some (.inl v2), some (.inl v3), some (.inl v4), some (.inl w0)] (r.toList ++ []) h' Q))) ∧
              (5 ≤ v2 →
                (∃ c, c < e ∧ Rn xs xl c mm_Reader_fail 0 [some (.inr (.inr 2)), some (.inl 5)] [] h (fun r h' => Rn xs xl e mm_Reader_part 77 [some (.inr (.inr 2)), some (.inr (.inr q)), some (.inl v2), some (.inl v3), some (.inl v4), some (.inl w0)] (r.toList ++ []) h' Q)))) ∧
            ((rd h 2 7) ≠ 22 →
              (∃ c, c < e ∧ Rn xs xl c mm_Reader_fail 0 [some (.inr (.inr 2)), some (.inl 1)] [] h (fun r h' => Rn xs xl e mm_Reader_part 66 [some (.inr (.inr 2)), some (.inr (.inr q)), some (.inl v2), some (.inl v3), some (.inl v4), some (.inl w0)] (r.toList ++ []) h' Q))))))) :
    Rn xs xl e mm_Reader_part 36 [some (.inr (.inr 2)), some (.inr (.inr q)), some (.inl v2), some (.inl v3), some (.inl v4), none] [.inl w0] h Q := by
  refine R_st (ls' := [some (.inr (.inr 2)), some (.inr (.inr q)), some (.inl v2), some (.inl v3), some (.inl v4), some (.inl w0)]) dd_Reader_part_36 rfl rfl rfl (Nat.le_of_ble_eq_true rfl) rfl rfl ?_
  refine R_ld (v := .inl v3) dd_Reader_part_38 rfl rfl rfl rfl ?_
  refine R_if dd_Reader_part_39 rfl rfl (fun (c12 : v3 ≠ 0) => ?_) (fun (c12 : v3 = 0) => ?_)
  · replace k := k.1 c12
    refine R_ld (v := .inl v2) dd_Reader_part_67 rfl rfl rfl rfl ?_
    refine R_ic dd_Reader_part_68 (by decide) rfl ?_
    refine R_icmp dd_Reader_part_69 rfl rfl (fun (c13 : v2 < 5) => ?_) (fun (c13 : 5 ≤ v2) => ?_)
    · replace k := k.1 c13
      refine R_ld (v := .inl v3) dd_Reader_part_78 rfl rfl rfl rfl ?_
      refine R_if dd_Reader_part_79 rfl rfl (fun (c14 : v3 ≠ 0) => ?_) (fun (c14 : v3 = 0) => ?_)
      · skip
        refine R_ld (v := .inr (.inr q)) dd_Reader_part_87 rfl rfl rfl rfl ?_
        refine R_ld (v := .inl v3) dd_Reader_part_88 rfl rfl rfl rfl ?_
        refine R_if dd_Reader_part_89 rfl rfl (fun (c15 : v3 = 0) => ?_) (fun (c15 : v3 ≠ 0) => ?_)
        · exact absurd c15 (by omega)
        · skip
          refine R_ld (v := .inr (.inr 2)) dd_Reader_part_92 rfl rfl rfl rfl ?_
          refine R_gf (v := .inr (.inl (rd h 2 6))) dd_Reader_part_93 fd_7_174 io_2 (congrArg (fun z : Int => (Sum.inr (Sum.inl z) : LV)) (rfl)) rfl ?_
          refine R_A dd_Reader_part_96 rfl rfl rfl rfl ?_
          refine R_goto dd_Reader_part_97 rfl ?_
          obtain ⟨c, hc, k⟩ := k
          exact R_call (as := [.inr (.inr q), .inl (w32 (rd h 2 6))]) (rest := []) (M' := mm_Quarter_addLaw) (ls0 := [some (.inr (.inr q)), some (.inl (w32 (rd h 2 6)))]) dd_Reader_part_111 rfl rfl (cw_v cw_7_198 (io_q hq) rfl rfl (Nat.le_of_ble_eq_true rfl) (Nat.le_of_ble_eq_true rfl)) mt_Quarter_addLaw rfl hc rfl k
      · exact absurd c14 (by omega)
    · replace k := k.2 c13
      refine R_ld (v := .inr (.inr 2)) dd_Reader_part_72 rfl rfl rfl rfl ?_
      refine R_ic dd_Reader_part_73 (by decide) rfl ?_
      obtain ⟨c, hc, k⟩ := k
      exact R_call (as := [.inr (.inr 2), .inl 5]) (rest := []) (M' := mm_Reader_fail) (ls0 := [some (.inr (.inr 2)), some (.inl 5)]) dd_Reader_part_74 rfl rfl (cw_v cw_7_80 io_2 rfl rfl (Nat.le_of_ble_eq_true rfl) (Nat.le_of_ble_eq_true rfl)) mt_Reader_fail rfl hc rfl k
  · replace k := k.2 c12
    refine R_ld (v := .inl v4) dd_Reader_part_42 rfl rfl rfl rfl ?_
    refine R_if dd_Reader_part_44 rfl rfl (fun (c16 : v4 ≠ 0) => ?_) (fun (c16 : v4 = 0) => ?_)
    · replace k := k.1 c16
      refine R_ld (v := .inl v2) dd_Reader_part_67 rfl rfl rfl rfl ?_
      refine R_ic dd_Reader_part_68 (by decide) rfl ?_
      refine R_icmp dd_Reader_part_69 rfl rfl (fun (c17 : v2 < 5) => ?_) (fun (c17 : 5 ≤ v2) => ?_)
      · replace k := k.1 c17
        refine R_ld (v := .inl v3) dd_Reader_part_78 rfl rfl rfl rfl ?_
        refine R_if dd_Reader_part_79 rfl rfl (fun (c18 : v3 ≠ 0) => ?_) (fun (c18 : v3 = 0) => ?_)
        · exact absurd c18 (by omega)
        · skip
          refine R_ld (v := .inl v4) dd_Reader_part_82 rfl rfl rfl rfl ?_
          refine R_if dd_Reader_part_84 rfl rfl (fun (c19 : v4 = 0) => ?_) (fun (c19 : v4 ≠ 0) => ?_)
          · exact absurd c19 (by omega)
          · skip
            refine R_ld (v := .inr (.inr q)) dd_Reader_part_87 rfl rfl rfl rfl ?_
            refine R_ld (v := .inl v3) dd_Reader_part_88 rfl rfl rfl rfl ?_
            refine R_if dd_Reader_part_89 rfl rfl (fun (c20 : v3 = 0) => ?_) (fun (c20 : v3 ≠ 0) => ?_)
            · skip
              refine R_si dd_Reader_part_100 (by decide) rfl ?_
              refine R_ld (v := .inr (.inr 2)) dd_Reader_part_103 rfl rfl rfl rfl ?_
              refine R_gf (v := .inl (rd h 2 7)) dd_Reader_part_104 fd_7_67 io_2 (congrArg (fun z : Int => (Sum.inl z : LV)) (rfl)) rfl ?_
              obtain ⟨s3, k⟩ := k
              refine R_iadd (c := (rd h 2 7) + 10000) dd_Reader_part_107 (by omega) s3 rfl ?_
              refine R_bi dd_Reader_part_108 (by decide) rfl ?_
              obtain ⟨s4, k⟩ := k
              refine R_isub (c := (rd h 2 7) + 9975) dd_Reader_part_110 (by omega) s4 rfl ?_
              obtain ⟨c, hc, k⟩ := k
              exact R_call (as := [.inr (.inr q), .inl ((rd h 2 7) + 9975)]) (rest := []) (M' := mm_Quarter_addLaw) (ls0 := [some (.inr (.inr q)), some (.inl ((rd h 2 7) + 9975))]) dd_Reader_part_111 rfl rfl (cw_v cw_7_198 (io_q hq) rfl rfl (Nat.le_of_ble_eq_true rfl) (Nat.le_of_ble_eq_true rfl)) mt_Quarter_addLaw rfl hc rfl k
            · exact absurd c20 (by omega)
      · replace k := k.2 c17
        refine R_ld (v := .inr (.inr 2)) dd_Reader_part_72 rfl rfl rfl rfl ?_
        refine R_ic dd_Reader_part_73 (by decide) rfl ?_
        obtain ⟨c, hc, k⟩ := k
        exact R_call (as := [.inr (.inr 2), .inl 5]) (rest := []) (M' := mm_Reader_fail) (ls0 := [some (.inr (.inr 2)), some (.inl 5)]) dd_Reader_part_74 rfl rfl (cw_v cw_7_80 io_2 rfl rfl (Nat.le_of_ble_eq_true rfl) (Nat.le_of_ble_eq_true rfl)) mt_Reader_fail rfl hc rfl k
    · replace k := k.2 c16
      refine R_ld (v := .inl w0) dd_Reader_part_47 rfl rfl rfl rfl ?_
      refine R_if dd_Reader_part_49 rfl rfl (fun (c21 : w0 ≠ 0) => ?_) (fun (c21 : w0 = 0) => ?_)
      · replace k := k.1 c21
        refine R_ld (v := .inl v2) dd_Reader_part_67 rfl rfl rfl rfl ?_
        refine R_ic dd_Reader_part_68 (by decide) rfl ?_
        refine R_icmp dd_Reader_part_69 rfl rfl (fun (c22 : v2 < 5) => ?_) (fun (c22 : 5 ≤ v2) => ?_)
        · replace k := k.1 c22
          refine R_ld (v := .inl v3) dd_Reader_part_78 rfl rfl rfl rfl ?_
          refine R_if dd_Reader_part_79 rfl rfl (fun (c23 : v3 ≠ 0) => ?_) (fun (c23 : v3 = 0) => ?_)
          · exact absurd c23 (by omega)
          · skip
            refine R_ld (v := .inl v4) dd_Reader_part_82 rfl rfl rfl rfl ?_
            refine R_if dd_Reader_part_84 rfl rfl (fun (c24 : v4 = 0) => ?_) (fun (c24 : v4 ≠ 0) => ?_)
            · skip
              refine R_ld (v := .inl w0) dd_Reader_part_121 rfl rfl rfl rfl ?_
              refine R_if dd_Reader_part_123 rfl rfl (fun (c25 : w0 = 0) => ?_) (fun (c25 : w0 ≠ 0) => ?_)
              · exact absurd c25 (by omega)
              · skip
                refine R_ld (v := .inr (.inr 2)) dd_Reader_part_126 rfl rfl rfl rfl ?_
                obtain ⟨c, hc, k⟩ := k
                exact R_call (as := [.inr (.inr 2)]) (rest := []) (M' := mm_Reader_step) (ls0 := [some (.inr (.inr 2)), none]) dd_Reader_part_127 rfl rfl (cw_v cw_7_99 io_2 rfl rfl (Nat.le_of_ble_eq_true rfl) (Nat.le_of_ble_eq_true rfl)) mt_Reader_step rfl hc rfl k
            · exact absurd c24 (by omega)
        · replace k := k.2 c22
          refine R_ld (v := .inr (.inr 2)) dd_Reader_part_72 rfl rfl rfl rfl ?_
          refine R_ic dd_Reader_part_73 (by decide) rfl ?_
          obtain ⟨c, hc, k⟩ := k
          exact R_call (as := [.inr (.inr 2), .inl 5]) (rest := []) (M' := mm_Reader_fail) (ls0 := [some (.inr (.inr 2)), some (.inl 5)]) dd_Reader_part_74 rfl rfl (cw_v cw_7_80 io_2 rfl rfl (Nat.le_of_ble_eq_true rfl) (Nat.le_of_ble_eq_true rfl)) mt_Reader_fail rfl hc rfl k
      · replace k := k.2 c21
        refine R_ld (v := .inr (.inr 2)) dd_Reader_part_52 rfl rfl rfl rfl ?_
        refine R_gf (v := .inl (rd h 2 7)) dd_Reader_part_53 fd_7_67 io_2 (congrArg (fun z : Int => (Sum.inl z : LV)) (rfl)) rfl ?_
        refine R_bi dd_Reader_part_56 (by decide) rfl ?_
        refine R_icmp dd_Reader_part_58 rfl rfl (fun (c26 : (rd h 2 7) = 22) => ?_) (fun (c26 : (rd h 2 7) ≠ 22) => ?_)
        · replace k := k.1 c26
          refine R_ld (v := .inl v2) dd_Reader_part_67 rfl rfl rfl rfl ?_
          refine R_ic dd_Reader_part_68 (by decide) rfl ?_
          refine R_icmp dd_Reader_part_69 rfl rfl (fun (c27 : v2 < 5) => ?_) (fun (c27 : 5 ≤ v2) => ?_)
          · replace k := k.1 c27
            refine R_ld (v := .inl v3) dd_Reader_part_78 rfl rfl rfl rfl ?_
            refine R_if dd_Reader_part_79 rfl rfl (fun (c28 : v3 ≠ 0) => ?_) (fun (c28 : v3 = 0) => ?_)
            · exact absurd c28 (by omega)
            · skip
              refine R_ld (v := .inl v4) dd_Reader_part_82 rfl rfl rfl rfl ?_
              refine R_if dd_Reader_part_84 rfl rfl (fun (c29 : v4 = 0) => ?_) (fun (c29 : v4 ≠ 0) => ?_)
              · skip
                refine R_ld (v := .inl w0) dd_Reader_part_121 rfl rfl rfl rfl ?_
                refine R_if dd_Reader_part_123 rfl rfl (fun (c30 : w0 = 0) => ?_) (fun (c30 : w0 ≠ 0) => ?_)
                · skip
                  refine R_ld (v := .inr (.inr 2)) dd_Reader_part_148 rfl rfl rfl rfl ?_
                  obtain ⟨c, hc, k⟩ := k
                  exact R_call (as := [.inr (.inr 2)]) (rest := []) (M' := mm_Reader_step) (ls0 := [some (.inr (.inr 2)), none]) dd_Reader_part_149 rfl rfl (cw_v cw_7_99 io_2 rfl rfl (Nat.le_of_ble_eq_true rfl) (Nat.le_of_ble_eq_true rfl)) mt_Reader_step rfl hc rfl k
                · exact absurd c30 (by omega)
              · exact absurd c29 (by omega)
          · replace k := k.2 c27
            refine R_ld (v := .inr (.inr 2)) dd_Reader_part_72 rfl rfl rfl rfl ?_
            refine R_ic dd_Reader_part_73 (by decide) rfl ?_
            obtain ⟨c, hc, k⟩ := k
            exact R_call (as := [.inr (.inr 2), .inl 5]) (rest := []) (M' := mm_Reader_fail) (ls0 := [some (.inr (.inr 2)), some (.inl 5)]) dd_Reader_part_74 rfl rfl (cw_v cw_7_80 io_2 rfl rfl (Nat.le_of_ble_eq_true rfl) (Nat.le_of_ble_eq_true rfl)) mt_Reader_fail rfl hc rfl k
        · replace k := k.2 c26
          refine R_ld (v := .inr (.inr 2)) dd_Reader_part_61 rfl rfl rfl rfl ?_
          refine R_ic dd_Reader_part_62 (by decide) rfl ?_
          obtain ⟨c, hc, k⟩ := k
          exact R_call (as := [.inr (.inr 2), .inl 1]) (rest := []) (M' := mm_Reader_fail) (ls0 := [some (.inr (.inr 2)), some (.inl 1)]) dd_Reader_part_63 rfl rfl (cw_v cw_7_80 io_2 rfl rfl (Nat.le_of_ble_eq_true rfl) (Nat.le_of_ble_eq_true rfl)) mt_Reader_fail rfl hc rfl k
theorem B_Reader_part_66 {xs : Nat → Int} {xl e : Nat} {h : LH} {Q : Option LV → LH → Prop} {v2 v3 v4 v5 : Int} {q : Int} (hq : q = 5 ∨ q = 32) (hF : RF h)
    (k : Q none h) :
    Rn xs xl e mm_Reader_part 66 [some (.inr (.inr 2)), some (.inr (.inr q)), some (.inl v2), some (.inl v3), some (.inl v4), some (.inl v5)] [] h Q := by
  exact R_vret dd_Reader_part_66 rfl k
theorem B_Reader_part_77 {xs : Nat → Int} {xl e : Nat} {h : LH} {Q : Option LV → LH → Prop} {v2 v3 v4 v5 : Int} {q : Int} (hq : q = 5 ∨ q = 32) (hF : RF h)
    (k : Q none h) :
    Rn xs xl e mm_Reader_part 77 [some (.inr (.inr 2)), some (.inr (.inr q)), some (.inl v2), some (.inl v3), some (.inl v4), some (.inl v5)] [] h Q := by
  exact R_vret dd_Reader_part_77 rfl k
theorem B_Reader_part_114 {xs : Nat → Int} {xl e : Nat} {h : LH} {Q : Option LV → LH → Prop} {v2 v3 v4 v5 : Int} {q : Int} (hq : q = 5 ∨ q = 32) (hF : RF h)
    (k : (∃ c, c < e ∧ Rn xs xl c mm_Reader_step 0 [some (.inr (.inr 2)), none] [] h (fun r h' => Rn xs xl e mm_Reader_part 118 [some (.inr (.inr 2)), some (.inr (.inr q)), some (.inl v2), some (.inl v3), some (.inl v4), some (.inl v5)] (r.toList ++ []) h' Q))) :
    Rn xs xl e mm_Reader_part 114 [some (.inr (.inr 2)), some (.inr (.inr q)), some (.inl v2), some (.inl v3), some (.inl v4), some (.inl v5)] [] h Q := by
  refine R_ld (v := .inr (.inr 2)) dd_Reader_part_114 rfl rfl rfl rfl ?_
  obtain ⟨c, hc, k⟩ := k
  exact R_call (as := [.inr (.inr 2)]) (rest := []) (M' := mm_Reader_step) (ls0 := [some (.inr (.inr 2)), none]) dd_Reader_part_115 rfl rfl (cw_v cw_7_99 io_2 rfl rfl (Nat.le_of_ble_eq_true rfl) (Nat.le_of_ble_eq_true rfl)) mt_Reader_step rfl hc rfl k
theorem B_Reader_part_118 {xs : Nat → Int} {xl e : Nat} {h : LH} {Q : Option LV → LH → Prop} {v2 v3 v4 v5 : Int} {q : Int} (hq : q = 5 ∨ q = 32) (hF : RF h)
    (k : Q none h) :
    Rn xs xl e mm_Reader_part 118 [some (.inr (.inr 2)), some (.inr (.inr q)), some (.inl v2), some (.inl v3), some (.inl v4), some (.inl v5)] [] h Q := by
  refine R_goto dd_Reader_part_118 rfl ?_
  exact R_vret dd_Reader_part_167 rfl k
theorem B_Reader_part_130 {xs : Nat → Int} {xl e : Nat} {h : LH} {Q : Option LV → LH → Prop} {v2 v3 v4 v5 : Int} {q : Int} (hq : q = 5 ∨ q = 32) (hF : RF h) (r_v2 : 0 ≤ v2 ∧ v2 ≤ 5)
    (k : (∃ c, c < e ∧ Rn xs xl c mm_Reader_expression 0 [some (.inr (.inr 2)), some (.inr (.inr q)), some (.inl 0), some (.inl (v2 + 1)), none, none] [] h (fun r h' => Rn xs xl e mm_Reader_part 139 [some (.inr (.inr 2)), some (.inr (.inr q)), some (.inl v2), some (.inl v3), some (.inl v4), some (.inl v5)] (r.toList ++ []) h' Q))) :
    Rn xs xl e mm_Reader_part 130 [some (.inr (.inr 2)), some (.inr (.inr q)), some (.inl v2), some (.inl v3), some (.inl v4), some (.inl v5)] [] h Q := by
  refine R_ld (v := .inr (.inr 2)) dd_Reader_part_130 rfl rfl rfl rfl ?_
  refine R_ld (v := .inr (.inr q)) dd_Reader_part_131 rfl rfl rfl rfl ?_
  refine R_ic dd_Reader_part_132 (by decide) rfl ?_
  refine R_ld (v := .inl v2) dd_Reader_part_133 rfl rfl rfl rfl ?_
  refine R_ic dd_Reader_part_134 (by decide) rfl ?_
  refine R_iadd (c := v2 + 1) dd_Reader_part_135 (by omega) (by omega) rfl ?_
  obtain ⟨c, hc, k⟩ := k
  exact R_call (as := [.inr (.inr 2), .inr (.inr q), .inl 0, .inl (v2 + 1)]) (rest := []) (M' := mm_Reader_expression) (ls0 := [some (.inr (.inr 2)), some (.inr (.inr q)), some (.inl 0), some (.inl (v2 + 1)), none, none]) dd_Reader_part_136 rfl rfl (cw_v cw_7_170 io_2 rfl rfl (Nat.le_of_ble_eq_true rfl) (Nat.le_of_ble_eq_true rfl)) mt_Reader_expression rfl hc rfl k
theorem B_Reader_part_139 {xs : Nat → Int} {xl e : Nat} {h : LH} {Q : Option LV → LH → Prop} {v2 v3 v4 v5 : Int} {q : Int} (hq : q = 5 ∨ q = 32) (hF : RF h)
    (k : (∃ c, c < e ∧ Rn xs xl c mm_Reader_takeSign 0 [some (.inr (.inr 2)), some (.inl 41)] [] h (fun r h' => Rn xs xl e mm_Reader_part 145 [some (.inr (.inr 2)), some (.inr (.inr q)), some (.inl v2), some (.inl v3), some (.inl v4), some (.inl v5)] (r.toList ++ []) h' Q))) :
    Rn xs xl e mm_Reader_part 139 [some (.inr (.inr 2)), some (.inr (.inr q)), some (.inl v2), some (.inl v3), some (.inl v4), some (.inl v5)] [] h Q := by
  refine R_ld (v := .inr (.inr 2)) dd_Reader_part_139 rfl rfl rfl rfl ?_
  refine R_bi dd_Reader_part_140 (by decide) rfl ?_
  obtain ⟨c, hc, k⟩ := k
  exact R_call (as := [.inr (.inr 2), .inl 41]) (rest := []) (M' := mm_Reader_takeSign) (ls0 := [some (.inr (.inr 2)), some (.inl 41)]) dd_Reader_part_142 rfl rfl (cw_v cw_7_57 io_2 rfl rfl (Nat.le_of_ble_eq_true rfl) (Nat.le_of_ble_eq_true rfl)) mt_Reader_takeSign rfl hc rfl k
theorem B_Reader_part_145 {xs : Nat → Int} {xl e : Nat} {h : LH} {Q : Option LV → LH → Prop} {v2 v3 v4 v5 : Int} {q : Int} (hq : q = 5 ∨ q = 32) (hF : RF h)
    (k : Q none h) :
    Rn xs xl e mm_Reader_part 145 [some (.inr (.inr 2)), some (.inr (.inr q)), some (.inl v2), some (.inl v3), some (.inl v4), some (.inl v5)] [] h Q := by
  refine R_goto dd_Reader_part_145 rfl ?_
  exact R_vret dd_Reader_part_167 rfl k
theorem B_Reader_part_152 {xs : Nat → Int} {xl e : Nat} {h : LH} {Q : Option LV → LH → Prop} {v2 v3 v4 v5 : Int} {q : Int} (hq : q = 5 ∨ q = 32) (hF : RF h) (r_v2 : 0 ≤ v2 ∧ v2 ≤ 5)
    (k : (∃ c, c < e ∧ Rn xs xl c mm_Reader_part 0 [some (.inr (.inr 2)), some (.inr (.inr q)), some (.inl (v2 + 1)), none, none, none] [] h (fun r h' => Rn xs xl e mm_Reader_part 160 [some (.inr (.inr 2)), some (.inr (.inr q)), some (.inl v2), some (.inl v3), some (.inl v4), some (.inl v5)] (r.toList ++ []) h' Q))) :
    Rn xs xl e mm_Reader_part 152 [some (.inr (.inr 2)), some (.inr (.inr q)), some (.inl v2), some (.inl v3), some (.inl v4), some (.inl v5)] [] h Q := by
  refine R_ld (v := .inr (.inr 2)) dd_Reader_part_152 rfl rfl rfl rfl ?_
  refine R_ld (v := .inr (.inr q)) dd_Reader_part_153 rfl rfl rfl rfl ?_
  refine R_ld (v := .inl v2) dd_Reader_part_154 rfl rfl rfl rfl ?_
  refine R_ic dd_Reader_part_155 (by decide) rfl ?_
  refine R_iadd (c := v2 + 1) dd_Reader_part_156 (by omega) (by omega) rfl ?_
  obtain ⟨c, hc, k⟩ := k
  exact R_call (as := [.inr (.inr 2), .inr (.inr q), .inl (v2 + 1)]) (rest := []) (M' := mm_Reader_part) (ls0 := [some (.inr (.inr 2)), some (.inr (.inr q)), some (.inl (v2 + 1)), none, none, none]) dd_Reader_part_157 rfl rfl (cw_v cw_7_191 io_2 rfl rfl (Nat.le_of_ble_eq_true rfl) (Nat.le_of_ble_eq_true rfl)) mt_Reader_part rfl hc rfl k
theorem B_Reader_part_160 {xs : Nat → Int} {xl e : Nat} {h : LH} {Q : Option LV → LH → Prop} {v2 v3 v4 v5 : Int} {q : Int} (hq : q = 5 ∨ q = 32) (hF : RF h)
    (k : (∃ c, c < e ∧ Rn xs xl c mm_Quarter_addLaw 0 [some (.inr (.inr q)), some (.inl 10004)] [] h (fun r h' => Rn xs xl e mm_Reader_part 167 [some (.inr (.inr 2)), some (.inr (.inr q)), some (.inl v2), some (.inl v3), some (.inl v4), some (.inl v5)] (r.toList ++ []) h' Q))) :
    Rn xs xl e mm_Reader_part 160 [some (.inr (.inr 2)), some (.inr (.inr q)), some (.inl v2), some (.inl v3), some (.inl v4), some (.inl v5)] [] h Q := by
  refine R_ld (v := .inr (.inr q)) dd_Reader_part_160 rfl rfl rfl rfl ?_
  refine R_si dd_Reader_part_161 (by decide) rfl ?_
  obtain ⟨c, hc, k⟩ := k
  exact R_call (as := [.inr (.inr q), .inl 10004]) (rest := []) (M' := mm_Quarter_addLaw) (ls0 := [some (.inr (.inr q)), some (.inl 10004)]) dd_Reader_part_164 rfl rfl (cw_v cw_7_198 (io_q hq) rfl rfl (Nat.le_of_ble_eq_true rfl) (Nat.le_of_ble_eq_true rfl)) mt_Quarter_addLaw rfl hc rfl k
theorem B_Reader_part_167 {xs : Nat → Int} {xl e : Nat} {h : LH} {Q : Option LV → LH → Prop} {v2 v3 v4 v5 : Int} {q : Int} (hq : q = 5 ∨ q = 32) (hF : RF h)
    (k : Q none h) :
    Rn xs xl e mm_Reader_part 167 [some (.inr (.inr 2)), some (.inr (.inr q)), some (.inl v2), some (.inl v3), some (.inl v4), some (.inl v5)] [] h Q := by
  exact R_vret dd_Reader_part_167 rfl k
