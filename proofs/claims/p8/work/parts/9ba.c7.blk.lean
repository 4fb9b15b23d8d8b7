/-! LM, by program (wip/p2/hand.py): p3: rows of the class's person and let lines, readQuarter -/
def mm_Reader_personLine : LM_M := (⟨"OneSided$Reader", "personLine", "(LOneSided$Quarter;)V"⟩, prog_9_method_6_code, 3, none, 7, 2, 0, 676, 675, 1000017)
def mm_Reader_letLine : LM_M := (⟨"OneSided$Reader", "letLine", "(LOneSided$Quarter;)V"⟩, prog_9_method_7_code, 2, none, 7, 2, 0, 680, 679, 1000018)
def mm_Reader_readQuarter : LM_M := (⟨"OneSided$Reader", "readQuarter", "(LOneSided$Quarter;)I"⟩, prog_9_method_3_code, 3, (some .int), 7, 2, 0, 587, 585, 586)
def mm_Quarter_clear : LM_M := (⟨"OneSided$Quarter", "clear", "()V"⟩, prog_8_method_2_code, 1, none, 6, 1, 0, 620, 618, 619)
theorem dd_Reader_personLine_0 : decode mm_Reader_personLine.2.1 0 = .ok (.aload_n 1, 1) := by decide +kernel
theorem dd_Reader_personLine_1 : decode mm_Reader_personLine.2.1 1 = .ok (.getfield 145, 3) := by decide +kernel
theorem fd_7_145 : fld 7 145 = some (6, 4) := by decide +kernel
theorem dd_Reader_personLine_4 : decode mm_Reader_personLine.2.1 4 = .ok (.bipush 6, 2) := by decide +kernel
theorem dd_Reader_personLine_6 : decode mm_Reader_personLine.2.1 6 = .ok (.if_icmp .lt (9), 3) := by decide +kernel
theorem dd_Reader_personLine_15 : decode mm_Reader_personLine.2.1 15 = .ok (.aload_n 1, 1) := by decide +kernel
theorem dd_Reader_personLine_16 : decode mm_Reader_personLine.2.1 16 = .ok (.getfield 148, 3) := by decide +kernel
theorem fd_7_148 : fld 7 148 = some (6, 3) := by decide +kernel
theorem dd_Reader_personLine_19 : decode mm_Reader_personLine.2.1 19 = .ok (.aload_n 1, 1) := by decide +kernel
theorem dd_Reader_personLine_20 : decode mm_Reader_personLine.2.1 20 = .ok (.getfield 145, 3) := by decide +kernel
theorem dd_Reader_personLine_23 : decode mm_Reader_personLine.2.1 23 = .ok (.aaload, 1) := by decide +kernel
theorem dd_Reader_personLine_24 : decode mm_Reader_personLine.2.1 24 = .ok (.astore_n 2, 1) := by decide +kernel
theorem dd_Reader_personLine_25 : decode mm_Reader_personLine.2.1 25 = .ok (.aload_n 0, 1) := by decide +kernel
theorem dd_Reader_personLine_26 : decode mm_Reader_personLine.2.1 26 = .ok (.invokevirtual 99, 3) := by decide +kernel
theorem dd_Reader_personLine_9 : decode mm_Reader_personLine.2.1 9 = .ok (.aload_n 0, 1) := by decide +kernel
theorem dd_Reader_personLine_10 : decode mm_Reader_personLine.2.1 10 = .ok (.iconst 5, 1) := by decide +kernel
theorem dd_Reader_personLine_11 : decode mm_Reader_personLine.2.1 11 = .ok (.invokevirtual 80, 3) := by decide +kernel
theorem dd_Reader_personLine_14 : decode mm_Reader_personLine.2.1 14 = .ok (.return_, 1) := by decide +kernel
theorem dd_Reader_personLine_29 : decode mm_Reader_personLine.2.1 29 = .ok (.aload_n 2, 1) := by decide +kernel
theorem dd_Reader_personLine_30 : decode mm_Reader_personLine.2.1 30 = .ok (.aload_n 0, 1) := by decide +kernel
theorem dd_Reader_personLine_31 : decode mm_Reader_personLine.2.1 31 = .ok (.aload_n 1, 1) := by decide +kernel
theorem dd_Reader_personLine_32 : decode mm_Reader_personLine.2.1 32 = .ok (.invokevirtual 102, 3) := by decide +kernel
theorem dd_Reader_personLine_35 : decode mm_Reader_personLine.2.1 35 = .ok (.putfield 152, 3) := by decide +kernel
theorem fd_7_152 : fld 7 152 = some (4, 0) := by decide +kernel
theorem fn_4_0 : fin 4 0 = false := by decide +kernel
theorem dd_Reader_personLine_38 : decode mm_Reader_personLine.2.1 38 = .ok (.aload_n 2, 1) := by decide +kernel
theorem dd_Reader_personLine_39 : decode mm_Reader_personLine.2.1 39 = .ok (.aload_n 0, 1) := by decide +kernel
theorem dd_Reader_personLine_40 : decode mm_Reader_personLine.2.1 40 = .ok (.bipush 18, 2) := by decide +kernel
theorem dd_Reader_personLine_42 : decode mm_Reader_personLine.2.1 42 = .ok (.invokevirtual 121, 3) := by decide +kernel
theorem dd_Reader_personLine_45 : decode mm_Reader_personLine.2.1 45 = .ok (.putfield 155, 3) := by decide +kernel
theorem fd_7_155 : fld 7 155 = some (4, 1) := by decide +kernel
theorem fn_4_1 : fin 4 1 = false := by decide +kernel
theorem dd_Reader_personLine_48 : decode mm_Reader_personLine.2.1 48 = .ok (.aload_n 0, 1) := by decide +kernel
theorem dd_Reader_personLine_49 : decode mm_Reader_personLine.2.1 49 = .ok (.bipush 8, 2) := by decide +kernel
theorem dd_Reader_personLine_51 : decode mm_Reader_personLine.2.1 51 = .ok (.invokevirtual 46, 3) := by decide +kernel
theorem dd_Reader_personLine_54 : decode mm_Reader_personLine.2.1 54 = .ok (.aload_n 2, 1) := by decide +kernel
theorem dd_Reader_personLine_55 : decode mm_Reader_personLine.2.1 55 = .ok (.aload_n 0, 1) := by decide +kernel
theorem dd_Reader_personLine_56 : decode mm_Reader_personLine.2.1 56 = .ok (.iconst 0, 1) := by decide +kernel
theorem dd_Reader_personLine_57 : decode mm_Reader_personLine.2.1 57 = .ok (.aload_n 1, 1) := by decide +kernel
theorem dd_Reader_personLine_58 : decode mm_Reader_personLine.2.1 58 = .ok (.getfield 54, 3) := by decide +kernel
theorem dd_Reader_personLine_61 : decode mm_Reader_personLine.2.1 61 = .ok (.iconst 1, 1) := by decide +kernel
theorem dd_Reader_personLine_62 : decode mm_Reader_personLine.2.1 62 = .ok (.isub, 1) := by decide +kernel
theorem dd_Reader_personLine_63 : decode mm_Reader_personLine.2.1 63 = .ok (.invokevirtual 50, 3) := by decide +kernel
theorem dd_Reader_personLine_66 : decode mm_Reader_personLine.2.1 66 = .ok (.putfield 158, 3) := by decide +kernel
theorem fd_7_158 : fld 7 158 = some (4, 2) := by decide +kernel
theorem fn_4_2 : fin 4 2 = false := by decide +kernel
theorem dd_Reader_personLine_69 : decode mm_Reader_personLine.2.1 69 = .ok (.aload_n 0, 1) := by decide +kernel
theorem dd_Reader_personLine_70 : decode mm_Reader_personLine.2.1 70 = .ok (.bipush 9, 2) := by decide +kernel
theorem dd_Reader_personLine_72 : decode mm_Reader_personLine.2.1 72 = .ok (.invokevirtual 46, 3) := by decide +kernel
theorem dd_Reader_personLine_75 : decode mm_Reader_personLine.2.1 75 = .ok (.aload_n 2, 1) := by decide +kernel
theorem dd_Reader_personLine_76 : decode mm_Reader_personLine.2.1 76 = .ok (.aload_n 0, 1) := by decide +kernel
theorem dd_Reader_personLine_77 : decode mm_Reader_personLine.2.1 77 = .ok (.iconst 0, 1) := by decide +kernel
theorem dd_Reader_personLine_78 : decode mm_Reader_personLine.2.1 78 = .ok (.aload_n 1, 1) := by decide +kernel
theorem dd_Reader_personLine_79 : decode mm_Reader_personLine.2.1 79 = .ok (.getfield 54, 3) := by decide +kernel
theorem dd_Reader_personLine_82 : decode mm_Reader_personLine.2.1 82 = .ok (.iconst 1, 1) := by decide +kernel
theorem dd_Reader_personLine_83 : decode mm_Reader_personLine.2.1 83 = .ok (.isub, 1) := by decide +kernel
theorem dd_Reader_personLine_84 : decode mm_Reader_personLine.2.1 84 = .ok (.invokevirtual 50, 3) := by decide +kernel
theorem dd_Reader_personLine_87 : decode mm_Reader_personLine.2.1 87 = .ok (.putfield 161, 3) := by decide +kernel
theorem fd_7_161 : fld 7 161 = some (4, 3) := by decide +kernel
theorem fn_4_3 : fin 4 3 = false := by decide +kernel
theorem dd_Reader_personLine_90 : decode mm_Reader_personLine.2.1 90 = .ok (.aload_n 0, 1) := by decide +kernel
theorem dd_Reader_personLine_91 : decode mm_Reader_personLine.2.1 91 = .ok (.bipush 10, 2) := by decide +kernel
theorem dd_Reader_personLine_93 : decode mm_Reader_personLine.2.1 93 = .ok (.invokevirtual 46, 3) := by decide +kernel
theorem dd_Reader_personLine_96 : decode mm_Reader_personLine.2.1 96 = .ok (.aload_n 2, 1) := by decide +kernel
theorem dd_Reader_personLine_97 : decode mm_Reader_personLine.2.1 97 = .ok (.aload_n 0, 1) := by decide +kernel
theorem dd_Reader_personLine_98 : decode mm_Reader_personLine.2.1 98 = .ok (.iconst 1, 1) := by decide +kernel
theorem dd_Reader_personLine_99 : decode mm_Reader_personLine.2.1 99 = .ok (.bipush 24, 2) := by decide +kernel
theorem dd_Reader_personLine_101 : decode mm_Reader_personLine.2.1 101 = .ok (.invokevirtual 50, 3) := by decide +kernel
theorem dd_Reader_personLine_104 : decode mm_Reader_personLine.2.1 104 = .ok (.putfield 164, 3) := by decide +kernel
theorem fd_7_164 : fld 7 164 = some (4, 4) := by decide +kernel
theorem fn_4_4 : fin 4 4 = false := by decide +kernel
theorem dd_Reader_personLine_107 : decode mm_Reader_personLine.2.1 107 = .ok (.aload_n 0, 1) := by decide +kernel
theorem dd_Reader_personLine_108 : decode mm_Reader_personLine.2.1 108 = .ok (.bipush 59, 2) := by decide +kernel
theorem dd_Reader_personLine_110 : decode mm_Reader_personLine.2.1 110 = .ok (.invokevirtual 57, 3) := by decide +kernel
theorem dd_Reader_personLine_113 : decode mm_Reader_personLine.2.1 113 = .ok (.aload_n 1, 1) := by decide +kernel
theorem dd_Reader_personLine_114 : decode mm_Reader_personLine.2.1 114 = .ok (.dup, 1) := by decide +kernel
theorem dd_Reader_personLine_115 : decode mm_Reader_personLine.2.1 115 = .ok (.getfield 145, 3) := by decide +kernel
theorem dd_Reader_personLine_118 : decode mm_Reader_personLine.2.1 118 = .ok (.iconst 1, 1) := by decide +kernel
theorem dd_Reader_personLine_119 : decode mm_Reader_personLine.2.1 119 = .ok (.iadd, 1) := by decide +kernel
theorem dd_Reader_personLine_120 : decode mm_Reader_personLine.2.1 120 = .ok (.putfield 145, 3) := by decide +kernel
theorem fn_6_4 : fin 6 4 = false := by decide +kernel
theorem dd_Reader_personLine_123 : decode mm_Reader_personLine.2.1 123 = .ok (.return_, 1) := by decide +kernel
theorem dd_Reader_letLine_0 : decode mm_Reader_letLine.2.1 0 = .ok (.aload_n 1, 1) := by decide +kernel
theorem dd_Reader_letLine_1 : decode mm_Reader_letLine.2.1 1 = .ok (.getfield 167, 3) := by decide +kernel
theorem fd_7_167 : fld 7 167 = some (6, 6) := by decide +kernel
theorem dd_Reader_letLine_4 : decode mm_Reader_letLine.2.1 4 = .ok (.ifCond .le (9), 3) := by decide +kernel
theorem dd_Reader_letLine_13 : decode mm_Reader_letLine.2.1 13 = .ok (.aload_n 0, 1) := by decide +kernel
theorem dd_Reader_letLine_14 : decode mm_Reader_letLine.2.1 14 = .ok (.invokevirtual 99, 3) := by decide +kernel
theorem dd_Reader_letLine_7 : decode mm_Reader_letLine.2.1 7 = .ok (.aload_n 0, 1) := by decide +kernel
theorem dd_Reader_letLine_8 : decode mm_Reader_letLine.2.1 8 = .ok (.iconst 3, 1) := by decide +kernel
theorem dd_Reader_letLine_9 : decode mm_Reader_letLine.2.1 9 = .ok (.invokevirtual 80, 3) := by decide +kernel
theorem dd_Reader_letLine_12 : decode mm_Reader_letLine.2.1 12 = .ok (.return_, 1) := by decide +kernel
theorem dd_Reader_letLine_17 : decode mm_Reader_letLine.2.1 17 = .ok (.aload_n 0, 1) := by decide +kernel
theorem dd_Reader_letLine_18 : decode mm_Reader_letLine.2.1 18 = .ok (.aload_n 1, 1) := by decide +kernel
theorem dd_Reader_letLine_19 : decode mm_Reader_letLine.2.1 19 = .ok (.iconst 0, 1) := by decide +kernel
theorem dd_Reader_letLine_20 : decode mm_Reader_letLine.2.1 20 = .ok (.iconst 0, 1) := by decide +kernel
theorem dd_Reader_letLine_21 : decode mm_Reader_letLine.2.1 21 = .ok (.invokevirtual 170, 3) := by decide +kernel
theorem dd_Reader_letLine_24 : decode mm_Reader_letLine.2.1 24 = .ok (.aload_n 0, 1) := by decide +kernel
theorem dd_Reader_letLine_25 : decode mm_Reader_letLine.2.1 25 = .ok (.bipush 59, 2) := by decide +kernel
theorem dd_Reader_letLine_27 : decode mm_Reader_letLine.2.1 27 = .ok (.invokevirtual 57, 3) := by decide +kernel
theorem dd_Reader_letLine_30 : decode mm_Reader_letLine.2.1 30 = .ok (.return_, 1) := by decide +kernel
theorem dd_Reader_readQuarter_0 : decode mm_Reader_readQuarter.2.1 0 = .ok (.aload_n 0, 1) := by decide +kernel
theorem dd_Reader_readQuarter_1 : decode mm_Reader_readQuarter.2.1 1 = .ok (.invokevirtual 38, 3) := by decide +kernel
theorem cw_7_38 : cwOk 7 38 0 17 1 1 7 = true := by decide +kernel
theorem mt_Reader_begin : MTB 17 = some mm_Reader_begin := rfl
theorem dd_Reader_readQuarter_4 : decode mm_Reader_readQuarter.2.1 4 = .ok (.aload_n 1, 1) := by decide +kernel
theorem dd_Reader_readQuarter_5 : decode mm_Reader_readQuarter.2.1 5 = .ok (.invokevirtual 41, 3) := by decide +kernel
theorem cw_7_41 : cwOk 7 41 0 24 1 1 6 = true := by decide +kernel
theorem mt_Quarter_clear : MTB 24 = some mm_Quarter_clear := rfl
theorem dd_Quarter_clear_0 : decode mm_Quarter_clear.2.1 0 = .ok (.aload_n 0, 1) := by decide +kernel
theorem dd_Quarter_clear_1 : decode mm_Quarter_clear.2.1 1 = .ok (.iconst 2, 1) := by decide +kernel
theorem dd_Quarter_clear_2 : decode mm_Quarter_clear.2.1 2 = .ok (.putfield 9, 3) := by decide +kernel
theorem fd_6_9 : fld 6 9 = some (6, 0) := by decide +kernel
theorem fn_6_0 : fin 6 0 = false := by decide +kernel
theorem dd_Quarter_clear_5 : decode mm_Quarter_clear.2.1 5 = .ok (.aload_n 0, 1) := by decide +kernel
theorem dd_Quarter_clear_6 : decode mm_Quarter_clear.2.1 6 = .ok (.iconst 0, 1) := by decide +kernel
theorem dd_Quarter_clear_7 : decode mm_Quarter_clear.2.1 7 = .ok (.putfield 42, 3) := by decide +kernel
theorem dd_Quarter_clear_10 : decode mm_Quarter_clear.2.1 10 = .ok (.aload_n 0, 1) := by decide +kernel
theorem dd_Quarter_clear_11 : decode mm_Quarter_clear.2.1 11 = .ok (.iconst 0, 1) := by decide +kernel
theorem dd_Quarter_clear_12 : decode mm_Quarter_clear.2.1 12 = .ok (.putfield 45, 3) := by decide +kernel
theorem dd_Quarter_clear_15 : decode mm_Quarter_clear.2.1 15 = .ok (.aload_n 0, 1) := by decide +kernel
theorem dd_Quarter_clear_16 : decode mm_Quarter_clear.2.1 16 = .ok (.iconst 0, 1) := by decide +kernel
theorem dd_Quarter_clear_17 : decode mm_Quarter_clear.2.1 17 = .ok (.putfield 48, 3) := by decide +kernel
theorem dd_Quarter_clear_20 : decode mm_Quarter_clear.2.1 20 = .ok (.return_, 1) := by decide +kernel
theorem dd_Reader_readQuarter_8 : decode mm_Reader_readQuarter.2.1 8 = .ok (.aload_n 0, 1) := by decide +kernel
theorem dd_Reader_readQuarter_9 : decode mm_Reader_readQuarter.2.1 9 = .ok (.iconst 0, 1) := by decide +kernel
theorem dd_Reader_readQuarter_10 : decode mm_Reader_readQuarter.2.1 10 = .ok (.invokevirtual 46, 3) := by decide +kernel
theorem dd_Reader_readQuarter_13 : decode mm_Reader_readQuarter.2.1 13 = .ok (.aload_n 1, 1) := by decide +kernel
theorem dd_Reader_readQuarter_14 : decode mm_Reader_readQuarter.2.1 14 = .ok (.aload_n 0, 1) := by decide +kernel
theorem dd_Reader_readQuarter_15 : decode mm_Reader_readQuarter.2.1 15 = .ok (.iconst 2, 1) := by decide +kernel
theorem dd_Reader_readQuarter_16 : decode mm_Reader_readQuarter.2.1 16 = .ok (.bipush 10, 2) := by decide +kernel
theorem dd_Reader_readQuarter_18 : decode mm_Reader_readQuarter.2.1 18 = .ok (.invokevirtual 50, 3) := by decide +kernel
theorem dd_Reader_readQuarter_21 : decode mm_Reader_readQuarter.2.1 21 = .ok (.putfield 54, 3) := by decide +kernel
theorem dd_Reader_readQuarter_24 : decode mm_Reader_readQuarter.2.1 24 = .ok (.aload_n 0, 1) := by decide +kernel
theorem dd_Reader_readQuarter_25 : decode mm_Reader_readQuarter.2.1 25 = .ok (.bipush 59, 2) := by decide +kernel
theorem dd_Reader_readQuarter_27 : decode mm_Reader_readQuarter.2.1 27 = .ok (.invokevirtual 57, 3) := by decide +kernel
theorem dd_Reader_readQuarter_30 : decode mm_Reader_readQuarter.2.1 30 = .ok (.iconst 0, 1) := by decide +kernel
theorem dd_Reader_readQuarter_31 : decode mm_Reader_readQuarter.2.1 31 = .ok (.istore_n 2, 1) := by decide +kernel
theorem dd_Reader_readQuarter_32 : decode mm_Reader_readQuarter.2.1 32 = .ok (.iload_n 2, 1) := by decide +kernel
theorem dd_Reader_readQuarter_33 : decode mm_Reader_readQuarter.2.1 33 = .ok (.sipush 1000, 3) := by decide +kernel
theorem dd_Reader_readQuarter_36 : decode mm_Reader_readQuarter.2.1 36 = .ok (.if_icmp .ge (91), 3) := by decide +kernel
theorem dd_Reader_readQuarter_39 : decode mm_Reader_readQuarter.2.1 39 = .ok (.aload_n 0, 1) := by decide +kernel
theorem dd_Reader_readQuarter_40 : decode mm_Reader_readQuarter.2.1 40 = .ok (.getfield 61, 3) := by decide +kernel
theorem dd_Reader_readQuarter_43 : decode mm_Reader_readQuarter.2.1 43 = .ok (.ifCond .ne (84), 3) := by decide +kernel
theorem dd_Reader_readQuarter_46 : decode mm_Reader_readQuarter.2.1 46 = .ok (.aload_n 0, 1) := by decide +kernel
theorem dd_Reader_readQuarter_47 : decode mm_Reader_readQuarter.2.1 47 = .ok (.getfield 64, 3) := by decide +kernel
theorem dd_Reader_readQuarter_50 : decode mm_Reader_readQuarter.2.1 50 = .ok (.ifCond .eq (77), 3) := by decide +kernel
theorem dd_Reader_readQuarter_53 : decode mm_Reader_readQuarter.2.1 53 = .ok (.aload_n 0, 1) := by decide +kernel
theorem dd_Reader_readQuarter_54 : decode mm_Reader_readQuarter.2.1 54 = .ok (.getfield 67, 3) := by decide +kernel
theorem dd_Reader_readQuarter_57 : decode mm_Reader_readQuarter.2.1 57 = .ok (.lookupswitch (59) #[(1, 35), (7, 43), (11, 51)], 35) := by decide +kernel
theorem dd_Reader_readQuarter_92 : decode mm_Reader_readQuarter.2.1 92 = .ok (.aload_n 0, 1) := by decide +kernel
theorem dd_Reader_readQuarter_93 : decode mm_Reader_readQuarter.2.1 93 = .ok (.aload_n 1, 1) := by decide +kernel
theorem dd_Reader_readQuarter_94 : decode mm_Reader_readQuarter.2.1 94 = .ok (.invokevirtual 70, 3) := by decide +kernel
theorem cw_7_70 : cwOk 7 70 0 30 2 4 7 = true := by decide +kernel
theorem mt_Reader_doorLine : MTB 30 = some mm_Reader_doorLine := rfl
theorem dd_Reader_readQuarter_100 : decode mm_Reader_readQuarter.2.1 100 = .ok (.aload_n 0, 1) := by decide +kernel
theorem dd_Reader_readQuarter_101 : decode mm_Reader_readQuarter.2.1 101 = .ok (.aload_n 1, 1) := by decide +kernel
theorem dd_Reader_readQuarter_102 : decode mm_Reader_readQuarter.2.1 102 = .ok (.invokevirtual 74, 3) := by decide +kernel
theorem cw_7_74 : cwOk 7 74 0 38 2 3 7 = true := by decide +kernel
theorem mt_Reader_personLine : MTB 38 = some mm_Reader_personLine := rfl
theorem dd_Reader_readQuarter_108 : decode mm_Reader_readQuarter.2.1 108 = .ok (.aload_n 0, 1) := by decide +kernel
theorem dd_Reader_readQuarter_109 : decode mm_Reader_readQuarter.2.1 109 = .ok (.aload_n 1, 1) := by decide +kernel
theorem dd_Reader_readQuarter_110 : decode mm_Reader_readQuarter.2.1 110 = .ok (.invokevirtual 77, 3) := by decide +kernel
theorem cw_7_77 : cwOk 7 77 0 39 2 2 7 = true := by decide +kernel
theorem mt_Reader_letLine : MTB 39 = some mm_Reader_letLine := rfl
theorem dd_Reader_readQuarter_116 : decode mm_Reader_readQuarter.2.1 116 = .ok (.aload_n 0, 1) := by decide +kernel
theorem dd_Reader_readQuarter_117 : decode mm_Reader_readQuarter.2.1 117 = .ok (.iconst 1, 1) := by decide +kernel
theorem dd_Reader_readQuarter_118 : decode mm_Reader_readQuarter.2.1 118 = .ok (.invokevirtual 80, 3) := by decide +kernel
theorem dd_Reader_readQuarter_97 : decode mm_Reader_readQuarter.2.1 97 = .ok (.goto 24, 3) := by decide +kernel
theorem dd_Reader_readQuarter_105 : decode mm_Reader_readQuarter.2.1 105 = .ok (.goto 16, 3) := by decide +kernel
theorem dd_Reader_readQuarter_113 : decode mm_Reader_readQuarter.2.1 113 = .ok (.goto 8, 3) := by decide +kernel
theorem dd_Reader_readQuarter_121 : decode mm_Reader_readQuarter.2.1 121 = .ok (.iinc 2 1, 3) := by decide +kernel
theorem dd_Reader_readQuarter_124 : decode mm_Reader_readQuarter.2.1 124 = .ok (.goto (-92), 3) := by decide +kernel
theorem dd_Reader_readQuarter_127 : decode mm_Reader_readQuarter.2.1 127 = .ok (.aload_n 0, 1) := by decide +kernel
theorem dd_Reader_readQuarter_128 : decode mm_Reader_readQuarter.2.1 128 = .ok (.iconst 0, 1) := by decide +kernel
theorem dd_Reader_readQuarter_129 : decode mm_Reader_readQuarter.2.1 129 = .ok (.putfield 35, 3) := by decide +kernel
theorem dd_Reader_readQuarter_132 : decode mm_Reader_readQuarter.2.1 132 = .ok (.aload_n 0, 1) := by decide +kernel
theorem dd_Reader_readQuarter_133 : decode mm_Reader_readQuarter.2.1 133 = .ok (.getfield 61, 3) := by decide +kernel
theorem dd_Reader_readQuarter_136 : decode mm_Reader_readQuarter.2.1 136 = .ok (.ireturn, 1) := by decide +kernel
theorem B_Reader_personLine_0 {xs : Nat → Int} {xl e : Nat} {h : LH} {Q : Option LV → LH → Prop} {q : Int} (hq : q = 5 ∨ q = 32) (hF : RF h) (hP : PT h)
    (k : ((rd h q 4) < 6 →
        (0 ≤ (rd h q 4) ∧ (rd h q 4) < 6) ∧
        (∃ c, c < e ∧ Rn xs xl c mm_Reader_step 0 [some (.inr (.inr 2)), none] [] h (fun r h' => Rn xs xl e mm_Reader_personLine 29 [some (.inr (.inr 2)), some (.inr (.inr q)), some (.inr (.inr (q + 21 + (rd h q 4))))] (r.toList ++ []) h' Q))) ∧
      (6 ≤ (rd h q 4) →
        (∃ c, c < e ∧ Rn xs xl c mm_Reader_fail 0 [some (.inr (.inr 2)), some (.inl 5)] [] h (fun r h' => Rn xs xl e mm_Reader_personLine 14 [some (.inr (.inr 2)), some (.inr (.inr q)), none] (r.toList ++ []) h' Q)))) :
    Rn xs xl e mm_Reader_personLine 0 [some (.inr (.inr 2)), some (.inr (.inr q)), none] [] h Q := by
  refine R_ld (v := .inr (.inr q)) dd_Reader_personLine_0 rfl rfl rfl rfl ?_
  refine R_gf (v := .inl (rd h q 4)) dd_Reader_personLine_1 fd_7_145 (io_q hq) (congrArg (fun z : Int => (Sum.inl z : LV)) (rfl)) rfl ?_
  refine R_bi dd_Reader_personLine_4 (by decide) rfl ?_
  refine R_icmp dd_Reader_personLine_6 rfl rfl (fun (c4 : (rd h q 4) < 6) => ?_) (fun (c4 : 6 ≤ (rd h q 4)) => ?_)
  · replace k := k.1 c4
    refine R_ld (v := .inr (.inr q)) dd_Reader_personLine_15 rfl rfl rfl rfl ?_
    refine R_gf (v := .inr (.inr (q + 2))) dd_Reader_personLine_16 fd_7_148 (io_q hq) (congrArg (fun z : Int => (Sum.inr (Sum.inr z) : LV)) (rq_ppl hF hq)) rfl ?_
    refine R_ld (v := .inr (.inr q)) dd_Reader_personLine_19 rfl rfl rfl rfl ?_
    refine R_gf (v := .inl (rd h q 4)) dd_Reader_personLine_20 fd_7_145 (io_q hq) (congrArg (fun z : Int => (Sum.inl z : LV)) (rfl)) rfl ?_
    obtain ⟨s1, k⟩ := k
    refine R_aald (v := (q + 21 + (rd h q 4))) (n := 6) dd_Reader_personLine_23 (ia_pq hq) (la_pq hq) s1 (rq_p hP hq s1) rfl ?_
    refine R_st (ls' := [some (.inr (.inr 2)), some (.inr (.inr q)), some (.inr (.inr (q + 21 + (rd h q 4))))]) dd_Reader_personLine_24 rfl rfl rfl (Nat.le_of_ble_eq_true rfl) rfl rfl ?_
    refine R_ld (v := .inr (.inr 2)) dd_Reader_personLine_25 rfl rfl rfl rfl ?_
    obtain ⟨c, hc, k⟩ := k
    exact R_call (as := [.inr (.inr 2)]) (rest := []) (M' := mm_Reader_step) (ls0 := [some (.inr (.inr 2)), none]) dd_Reader_personLine_26 rfl rfl (cw_v cw_7_99 io_2 rfl rfl (Nat.le_of_ble_eq_true rfl) (Nat.le_of_ble_eq_true rfl)) mt_Reader_step rfl hc rfl k
  · replace k := k.2 c4
    refine R_ld (v := .inr (.inr 2)) dd_Reader_personLine_9 rfl rfl rfl rfl ?_
    refine R_ic dd_Reader_personLine_10 (by decide) rfl ?_
    obtain ⟨c, hc, k⟩ := k
    exact R_call (as := [.inr (.inr 2), .inl 5]) (rest := []) (M' := mm_Reader_fail) (ls0 := [some (.inr (.inr 2)), some (.inl 5)]) dd_Reader_personLine_11 rfl rfl (cw_v cw_7_80 io_2 rfl rfl (Nat.le_of_ble_eq_true rfl) (Nat.le_of_ble_eq_true rfl)) mt_Reader_fail rfl hc rfl k
theorem B_Reader_personLine_14 {xs : Nat → Int} {xl e : Nat} {h : LH} {Q : Option LV → LH → Prop} {q : Int} (hq : q = 5 ∨ q = 32) (hF : RF h)
    (k : Q none h) :
    Rn xs xl e mm_Reader_personLine 14 [some (.inr (.inr 2)), some (.inr (.inr q)), none] [] h Q := by
  exact R_vret dd_Reader_personLine_14 rfl k
theorem B_Reader_personLine_29 {xs : Nat → Int} {xl e : Nat} {h : LH} {Q : Option LV → LH → Prop} {q : Int} (hq : q = 5 ∨ q = 32) {p : Int} (hp : q + 21 ≤ p ∧ p ≤ q + 26) (hF : RF h)
    (k : (∃ c, c < e ∧ Rn xs xl c mm_Reader_takeNewName 0 [some (.inr (.inr 2)), some (.inr (.inr q)), none, none] [] h (fun r h' => Rn xs xl e mm_Reader_personLine 35 [some (.inr (.inr 2)), some (.inr (.inr q)), some (.inr (.inr p))] (r.toList ++ [.inr (.inr p)]) h' Q))) :
    Rn xs xl e mm_Reader_personLine 29 [some (.inr (.inr 2)), some (.inr (.inr q)), some (.inr (.inr p))] [] h Q := by
  refine R_ld (v := .inr (.inr p)) dd_Reader_personLine_29 rfl rfl rfl rfl ?_
  refine R_ld (v := .inr (.inr 2)) dd_Reader_personLine_30 rfl rfl rfl rfl ?_
  refine R_ld (v := .inr (.inr q)) dd_Reader_personLine_31 rfl rfl rfl rfl ?_
  obtain ⟨c, hc, k⟩ := k
  exact R_call (as := [.inr (.inr 2), .inr (.inr q)]) (rest := [.inr (.inr p)]) (M' := mm_Reader_takeNewName) (ls0 := [some (.inr (.inr 2)), some (.inr (.inr q)), none, none]) dd_Reader_personLine_32 rfl rfl (cw_v cw_7_102 io_2 rfl rfl (Nat.le_of_ble_eq_true rfl) (Nat.le_of_ble_eq_true rfl)) mt_Reader_takeNewName rfl hc rfl k
theorem B_Reader_personLine_35 {xs : Nat → Int} {xl e : Nat} {h : LH} {Q : Option LV → LH → Prop} {w1 : Int} {q : Int} (hq : q = 5 ∨ q = 32) {p : Int} (hp : q + 21 ≤ p ∧ p ≤ q + 26) (hF : RF h)
    (k : (∃ c, c < e ∧ Rn xs xl c mm_Reader_takeOneOfFour 0 [some (.inr (.inr 2)), some (.inl 18), none] [] (wr h p 0 w1) (fun r h' => Rn xs xl e mm_Reader_personLine 45 [some (.inr (.inr 2)), some (.inr (.inr q)), some (.inr (.inr p))] (r.toList ++ [.inr (.inr p)]) h' Q))) :
    Rn xs xl e mm_Reader_personLine 35 [some (.inr (.inr 2)), some (.inr (.inr q)), some (.inr (.inr p))] [.inr (.inl w1), .inr (.inr p)] h Q := by
  refine R_pf (z := w1) dd_Reader_personLine_35 fd_7_152 (io_p hq hp) fn_4_0 rfl rfl ?_
  refine R_ld (v := .inr (.inr p)) dd_Reader_personLine_38 rfl rfl rfl rfl ?_
  refine R_ld (v := .inr (.inr 2)) dd_Reader_personLine_39 rfl rfl rfl rfl ?_
  refine R_bi dd_Reader_personLine_40 (by decide) rfl ?_
  obtain ⟨c, hc, k⟩ := k
  exact R_call (as := [.inr (.inr 2), .inl 18]) (rest := [.inr (.inr p)]) (M' := mm_Reader_takeOneOfFour) (ls0 := [some (.inr (.inr 2)), some (.inl 18), none]) dd_Reader_personLine_42 rfl rfl (cw_v cw_7_121 io_2 rfl rfl (Nat.le_of_ble_eq_true rfl) (Nat.le_of_ble_eq_true rfl)) mt_Reader_takeOneOfFour rfl hc rfl k
theorem B_Reader_personLine_45 {xs : Nat → Int} {xl e : Nat} {h : LH} {Q : Option LV → LH → Prop} {w1 : Int} {q : Int} (hq : q = 5 ∨ q = 32) {p : Int} (hp : q + 21 ≤ p ∧ p ≤ q + 26) (hF : RF h)
    (k : (∃ c, c < e ∧ Rn xs xl c mm_Reader_takeWord 0 [some (.inr (.inr 2)), some (.inl 8)] [] (wr h p 1 w1) (fun r h' => Rn xs xl e mm_Reader_personLine 54 [some (.inr (.inr 2)), some (.inr (.inr q)), some (.inr (.inr p))] (r.toList ++ []) h' Q))) :
    Rn xs xl e mm_Reader_personLine 45 [some (.inr (.inr 2)), some (.inr (.inr q)), some (.inr (.inr p))] [.inl w1, .inr (.inr p)] h Q := by
  refine R_pf (z := w1) dd_Reader_personLine_45 fd_7_155 (io_p hq hp) fn_4_1 rfl rfl ?_
  refine R_ld (v := .inr (.inr 2)) dd_Reader_personLine_48 rfl rfl rfl rfl ?_
  refine R_bi dd_Reader_personLine_49 (by decide) rfl ?_
  obtain ⟨c, hc, k⟩ := k
  exact R_call (as := [.inr (.inr 2), .inl 8]) (rest := []) (M' := mm_Reader_takeWord) (ls0 := [some (.inr (.inr 2)), some (.inl 8)]) dd_Reader_personLine_51 rfl rfl (cw_v cw_7_46 io_2 rfl rfl (Nat.le_of_ble_eq_true rfl) (Nat.le_of_ble_eq_true rfl)) mt_Reader_takeWord rfl hc rfl k
theorem B_Reader_personLine_54 {xs : Nat → Int} {xl e : Nat} {h : LH} {Q : Option LV → LH → Prop} {q : Int} (hq : q = 5 ∨ q = 32) {p : Int} (hp : q + 21 ≤ p ∧ p ≤ q + 26) (hF : RF h)
    (k : (-2147483648 ≤ (rd h q 0) - 1 ∧ (rd h q 0) - 1 ≤ 2147483647) ∧
      (∃ c, c < e ∧ Rn xs xl c mm_Reader_takeNumber 0 [some (.inr (.inr 2)), some (.inl 0), some (.inl ((rd h q 0) - 1)), none] [] h (fun r h' => Rn xs xl e mm_Reader_personLine 66 [some (.inr (.inr 2)), some (.inr (.inr q)), some (.inr (.inr p))] (r.toList ++ [.inr (.inr p)]) h' Q))) :
    Rn xs xl e mm_Reader_personLine 54 [some (.inr (.inr 2)), some (.inr (.inr q)), some (.inr (.inr p))] [] h Q := by
  refine R_ld (v := .inr (.inr p)) dd_Reader_personLine_54 rfl rfl rfl rfl ?_
  refine R_ld (v := .inr (.inr 2)) dd_Reader_personLine_55 rfl rfl rfl rfl ?_
  refine R_ic dd_Reader_personLine_56 (by decide) rfl ?_
  refine R_ld (v := .inr (.inr q)) dd_Reader_personLine_57 rfl rfl rfl rfl ?_
  refine R_gf (v := .inl (rd h q 0)) dd_Reader_personLine_58 fd_7_54 (io_q hq) (congrArg (fun z : Int => (Sum.inl z : LV)) (rfl)) rfl ?_
  refine R_ic dd_Reader_personLine_61 (by decide) rfl ?_
  obtain ⟨s1, k⟩ := k
  refine R_isub (c := (rd h q 0) - 1) dd_Reader_personLine_62 (by omega) s1 rfl ?_
  obtain ⟨c, hc, k⟩ := k
  exact R_call (as := [.inr (.inr 2), .inl 0, .inl ((rd h q 0) - 1)]) (rest := [.inr (.inr p)]) (M' := mm_Reader_takeNumber) (ls0 := [some (.inr (.inr 2)), some (.inl 0), some (.inl ((rd h q 0) - 1)), none]) dd_Reader_personLine_63 rfl rfl (cw_v cw_7_50 io_2 rfl rfl (Nat.le_of_ble_eq_true rfl) (Nat.le_of_ble_eq_true rfl)) mt_Reader_takeNumber rfl hc rfl k
theorem B_Reader_personLine_66 {xs : Nat → Int} {xl e : Nat} {h : LH} {Q : Option LV → LH → Prop} {w1 : Int} {q : Int} (hq : q = 5 ∨ q = 32) {p : Int} (hp : q + 21 ≤ p ∧ p ≤ q + 26) (hF : RF h)
    (k : (∃ c, c < e ∧ Rn xs xl c mm_Reader_takeWord 0 [some (.inr (.inr 2)), some (.inl 9)] [] (wr h p 2 w1) (fun r h' => Rn xs xl e mm_Reader_personLine 75 [some (.inr (.inr 2)), some (.inr (.inr q)), some (.inr (.inr p))] (r.toList ++ []) h' Q))) :
    Rn xs xl e mm_Reader_personLine 66 [some (.inr (.inr 2)), some (.inr (.inr q)), some (.inr (.inr p))] [.inl w1, .inr (.inr p)] h Q := by
  refine R_pf (z := w1) dd_Reader_personLine_66 fd_7_158 (io_p hq hp) fn_4_2 rfl rfl ?_
  refine R_ld (v := .inr (.inr 2)) dd_Reader_personLine_69 rfl rfl rfl rfl ?_
  refine R_bi dd_Reader_personLine_70 (by decide) rfl ?_
  obtain ⟨c, hc, k⟩ := k
  exact R_call (as := [.inr (.inr 2), .inl 9]) (rest := []) (M' := mm_Reader_takeWord) (ls0 := [some (.inr (.inr 2)), some (.inl 9)]) dd_Reader_personLine_72 rfl rfl (cw_v cw_7_46 io_2 rfl rfl (Nat.le_of_ble_eq_true rfl) (Nat.le_of_ble_eq_true rfl)) mt_Reader_takeWord rfl hc rfl k
theorem B_Reader_personLine_75 {xs : Nat → Int} {xl e : Nat} {h : LH} {Q : Option LV → LH → Prop} {q : Int} (hq : q = 5 ∨ q = 32) {p : Int} (hp : q + 21 ≤ p ∧ p ≤ q + 26) (hF : RF h)
    (k : (-2147483648 ≤ (rd h q 0) - 1 ∧ (rd h q 0) - 1 ≤ 2147483647) ∧
      (∃ c, c < e ∧ Rn xs xl c mm_Reader_takeNumber 0 [some (.inr (.inr 2)), some (.inl 0), some (.inl ((rd h q 0) - 1)), none] [] h (fun r h' => Rn xs xl e mm_Reader_personLine 87 [some (.inr (.inr 2)), some (.inr (.inr q)), some (.inr (.inr p))] (r.toList ++ [.inr (.inr p)]) h' Q))) :
    Rn xs xl e mm_Reader_personLine 75 [some (.inr (.inr 2)), some (.inr (.inr q)), some (.inr (.inr p))] [] h Q := by
  refine R_ld (v := .inr (.inr p)) dd_Reader_personLine_75 rfl rfl rfl rfl ?_
  refine R_ld (v := .inr (.inr 2)) dd_Reader_personLine_76 rfl rfl rfl rfl ?_
  refine R_ic dd_Reader_personLine_77 (by decide) rfl ?_
  refine R_ld (v := .inr (.inr q)) dd_Reader_personLine_78 rfl rfl rfl rfl ?_
  refine R_gf (v := .inl (rd h q 0)) dd_Reader_personLine_79 fd_7_54 (io_q hq) (congrArg (fun z : Int => (Sum.inl z : LV)) (rfl)) rfl ?_
  refine R_ic dd_Reader_personLine_82 (by decide) rfl ?_
  obtain ⟨s1, k⟩ := k
  refine R_isub (c := (rd h q 0) - 1) dd_Reader_personLine_83 (by omega) s1 rfl ?_
  obtain ⟨c, hc, k⟩ := k
  exact R_call (as := [.inr (.inr 2), .inl 0, .inl ((rd h q 0) - 1)]) (rest := [.inr (.inr p)]) (M' := mm_Reader_takeNumber) (ls0 := [some (.inr (.inr 2)), some (.inl 0), some (.inl ((rd h q 0) - 1)), none]) dd_Reader_personLine_84 rfl rfl (cw_v cw_7_50 io_2 rfl rfl (Nat.le_of_ble_eq_true rfl) (Nat.le_of_ble_eq_true rfl)) mt_Reader_takeNumber rfl hc rfl k
theorem B_Reader_personLine_87 {xs : Nat → Int} {xl e : Nat} {h : LH} {Q : Option LV → LH → Prop} {w1 : Int} {q : Int} (hq : q = 5 ∨ q = 32) {p : Int} (hp : q + 21 ≤ p ∧ p ≤ q + 26) (hF : RF h)
    (k : (∃ c, c < e ∧ Rn xs xl c mm_Reader_takeWord 0 [some (.inr (.inr 2)), some (.inl 10)] [] (wr h p 3 w1) (fun r h' => Rn xs xl e mm_Reader_personLine 96 [some (.inr (.inr 2)), some (.inr (.inr q)), some (.inr (.inr p))] (r.toList ++ []) h' Q))) :
    Rn xs xl e mm_Reader_personLine 87 [some (.inr (.inr 2)), some (.inr (.inr q)), some (.inr (.inr p))] [.inl w1, .inr (.inr p)] h Q := by
  refine R_pf (z := w1) dd_Reader_personLine_87 fd_7_161 (io_p hq hp) fn_4_3 rfl rfl ?_
  refine R_ld (v := .inr (.inr 2)) dd_Reader_personLine_90 rfl rfl rfl rfl ?_
  refine R_bi dd_Reader_personLine_91 (by decide) rfl ?_
  obtain ⟨c, hc, k⟩ := k
  exact R_call (as := [.inr (.inr 2), .inl 10]) (rest := []) (M' := mm_Reader_takeWord) (ls0 := [some (.inr (.inr 2)), some (.inl 10)]) dd_Reader_personLine_93 rfl rfl (cw_v cw_7_46 io_2 rfl rfl (Nat.le_of_ble_eq_true rfl) (Nat.le_of_ble_eq_true rfl)) mt_Reader_takeWord rfl hc rfl k
theorem B_Reader_personLine_96 {xs : Nat → Int} {xl e : Nat} {h : LH} {Q : Option LV → LH → Prop} {q : Int} (hq : q = 5 ∨ q = 32) {p : Int} (hp : q + 21 ≤ p ∧ p ≤ q + 26) (hF : RF h)
    (k : (∃ c, c < e ∧ Rn xs xl c mm_Reader_takeNumber 0 [some (.inr (.inr 2)), some (.inl 1), some (.inl 24), none] [] h (fun r h' => Rn xs xl e mm_Reader_personLine 104 [some (.inr (.inr 2)), some (.inr (.inr q)), some (.inr (.inr p))] (r.toList ++ [.inr (.inr p)]) h' Q))) :
    Rn xs xl e mm_Reader_personLine 96 [some (.inr (.inr 2)), some (.inr (.inr q)), some (.inr (.inr p))] [] h Q := by
  refine R_ld (v := .inr (.inr p)) dd_Reader_personLine_96 rfl rfl rfl rfl ?_
  refine R_ld (v := .inr (.inr 2)) dd_Reader_personLine_97 rfl rfl rfl rfl ?_
  refine R_ic dd_Reader_personLine_98 (by decide) rfl ?_
  refine R_bi dd_Reader_personLine_99 (by decide) rfl ?_
  obtain ⟨c, hc, k⟩ := k
  exact R_call (as := [.inr (.inr 2), .inl 1, .inl 24]) (rest := [.inr (.inr p)]) (M' := mm_Reader_takeNumber) (ls0 := [some (.inr (.inr 2)), some (.inl 1), some (.inl 24), none]) dd_Reader_personLine_101 rfl rfl (cw_v cw_7_50 io_2 rfl rfl (Nat.le_of_ble_eq_true rfl) (Nat.le_of_ble_eq_true rfl)) mt_Reader_takeNumber rfl hc rfl k
theorem B_Reader_personLine_104 {xs : Nat → Int} {xl e : Nat} {h : LH} {Q : Option LV → LH → Prop} {w1 : Int} {q : Int} (hq : q = 5 ∨ q = 32) {p : Int} (hp : q + 21 ≤ p ∧ p ≤ q + 26) (hF : RF h)
    (k : (∃ c, c < e ∧ Rn xs xl c mm_Reader_takeSign 0 [some (.inr (.inr 2)), some (.inl 59)] [] (wr h p 4 w1) (fun r h' => Rn xs xl e mm_Reader_personLine 113 [some (.inr (.inr 2)), some (.inr (.inr q)), some (.inr (.inr p))] (r.toList ++ []) h' Q))) :
    Rn xs xl e mm_Reader_personLine 104 [some (.inr (.inr 2)), some (.inr (.inr q)), some (.inr (.inr p))] [.inl w1, .inr (.inr p)] h Q := by
  refine R_pf (z := w1) dd_Reader_personLine_104 fd_7_164 (io_p hq hp) fn_4_4 rfl rfl ?_
  refine R_ld (v := .inr (.inr 2)) dd_Reader_personLine_107 rfl rfl rfl rfl ?_
  refine R_bi dd_Reader_personLine_108 (by decide) rfl ?_
  obtain ⟨c, hc, k⟩ := k
  exact R_call (as := [.inr (.inr 2), .inl 59]) (rest := []) (M' := mm_Reader_takeSign) (ls0 := [some (.inr (.inr 2)), some (.inl 59)]) dd_Reader_personLine_110 rfl rfl (cw_v cw_7_57 io_2 rfl rfl (Nat.le_of_ble_eq_true rfl) (Nat.le_of_ble_eq_true rfl)) mt_Reader_takeSign rfl hc rfl k
theorem B_Reader_personLine_113 {xs : Nat → Int} {xl e : Nat} {h : LH} {Q : Option LV → LH → Prop} {q : Int} (hq : q = 5 ∨ q = 32) {p : Int} (hp : q + 21 ≤ p ∧ p ≤ q + 26) (hF : RF h)
    (k : (-2147483648 ≤ (rd h q 4) + 1 ∧ (rd h q 4) + 1 ≤ 2147483647) ∧
      Q none (wr h q 4 ((rd h q 4) + 1))) :
    Rn xs xl e mm_Reader_personLine 113 [some (.inr (.inr 2)), some (.inr (.inr q)), some (.inr (.inr p))] [] h Q := by
  refine R_ld (v := .inr (.inr q)) dd_Reader_personLine_113 rfl rfl rfl rfl ?_
  refine R_A dd_Reader_personLine_114 rfl rfl rfl rfl ?_
  refine R_gf (v := .inl (rd h q 4)) dd_Reader_personLine_115 fd_7_145 (io_q hq) (congrArg (fun z : Int => (Sum.inl z : LV)) (rfl)) rfl ?_
  refine R_ic dd_Reader_personLine_118 (by decide) rfl ?_
  obtain ⟨s1, k⟩ := k
  refine R_iadd (c := (rd h q 4) + 1) dd_Reader_personLine_119 (by omega) s1 rfl ?_
  refine R_pf (z := ((rd h q 4) + 1)) dd_Reader_personLine_120 fd_7_145 (io_q hq) fn_6_4 rfl rfl ?_
  exact R_vret dd_Reader_personLine_123 rfl k
theorem B_Reader_letLine_0 {xs : Nat → Int} {xl e : Nat} {h : LH} {Q : Option LV → LH → Prop} {q : Int} (hq : q = 5 ∨ q = 32) (hF : RF h)
    (k : ((rd h q 6) ≤ 0 →
        (∃ c, c < e ∧ Rn xs xl c mm_Reader_step 0 [some (.inr (.inr 2)), none] [] h (fun r h' => Rn xs xl e mm_Reader_letLine 17 [some (.inr (.inr 2)), some (.inr (.inr q))] (r.toList ++ []) h' Q))) ∧
      (0 < (rd h q 6) →
        (∃ c, c < e ∧ Rn xs xl c mm_Reader_fail 0 [some (.inr (.inr 2)), some (.inl 3)] [] h (fun r h' => Rn xs xl e mm_Reader_letLine 12 [some (.inr (.inr 2)), some (.inr (.inr q))] (r.toList ++ []) h' Q)))) :
    Rn xs xl e mm_Reader_letLine 0 [some (.inr (.inr 2)), some (.inr (.inr q))] [] h Q := by
  refine R_ld (v := .inr (.inr q)) dd_Reader_letLine_0 rfl rfl rfl rfl ?_
  refine R_gf (v := .inl (rd h q 6)) dd_Reader_letLine_1 fd_7_167 (io_q hq) (congrArg (fun z : Int => (Sum.inl z : LV)) (rfl)) rfl ?_
  refine R_if dd_Reader_letLine_4 rfl rfl (fun (c3 : (rd h q 6) ≤ 0) => ?_) (fun (c3 : 0 < (rd h q 6)) => ?_)
  · replace k := k.1 c3
    refine R_ld (v := .inr (.inr 2)) dd_Reader_letLine_13 rfl rfl rfl rfl ?_
    obtain ⟨c, hc, k⟩ := k
    exact R_call (as := [.inr (.inr 2)]) (rest := []) (M' := mm_Reader_step) (ls0 := [some (.inr (.inr 2)), none]) dd_Reader_letLine_14 rfl rfl (cw_v cw_7_99 io_2 rfl rfl (Nat.le_of_ble_eq_true rfl) (Nat.le_of_ble_eq_true rfl)) mt_Reader_step rfl hc rfl k
  · replace k := k.2 c3
    refine R_ld (v := .inr (.inr 2)) dd_Reader_letLine_7 rfl rfl rfl rfl ?_
    refine R_ic dd_Reader_letLine_8 (by decide) rfl ?_
    obtain ⟨c, hc, k⟩ := k
    exact R_call (as := [.inr (.inr 2), .inl 3]) (rest := []) (M' := mm_Reader_fail) (ls0 := [some (.inr (.inr 2)), some (.inl 3)]) dd_Reader_letLine_9 rfl rfl (cw_v cw_7_80 io_2 rfl rfl (Nat.le_of_ble_eq_true rfl) (Nat.le_of_ble_eq_true rfl)) mt_Reader_fail rfl hc rfl k
theorem B_Reader_letLine_12 {xs : Nat → Int} {xl e : Nat} {h : LH} {Q : Option LV → LH → Prop} {q : Int} (hq : q = 5 ∨ q = 32) (hF : RF h)
    (k : Q none h) :
    Rn xs xl e mm_Reader_letLine 12 [some (.inr (.inr 2)), some (.inr (.inr q))] [] h Q := by
  exact R_vret dd_Reader_letLine_12 rfl k
theorem B_Reader_letLine_17 {xs : Nat → Int} {xl e : Nat} {h : LH} {Q : Option LV → LH → Prop} {q : Int} (hq : q = 5 ∨ q = 32) (hF : RF h)
    (k : (∃ c, c < e ∧ Rn xs xl c mm_Reader_expression 0 [some (.inr (.inr 2)), some (.inr (.inr q)), some (.inl 0), some (.inl 0), none, none] [] h (fun r h' => Rn xs xl e mm_Reader_letLine 24 [some (.inr (.inr 2)), some (.inr (.inr q))] (r.toList ++ []) h' Q))) :
    Rn xs xl e mm_Reader_letLine 17 [some (.inr (.inr 2)), some (.inr (.inr q))] [] h Q := by
  refine R_ld (v := .inr (.inr 2)) dd_Reader_letLine_17 rfl rfl rfl rfl ?_
  refine R_ld (v := .inr (.inr q)) dd_Reader_letLine_18 rfl rfl rfl rfl ?_
  refine R_ic dd_Reader_letLine_19 (by decide) rfl ?_
  refine R_ic dd_Reader_letLine_20 (by decide) rfl ?_
  obtain ⟨c, hc, k⟩ := k
  exact R_call (as := [.inr (.inr 2), .inr (.inr q), .inl 0, .inl 0]) (rest := []) (M' := mm_Reader_expression) (ls0 := [some (.inr (.inr 2)), some (.inr (.inr q)), some (.inl 0), some (.inl 0), none, none]) dd_Reader_letLine_21 rfl rfl (cw_v cw_7_170 io_2 rfl rfl (Nat.le_of_ble_eq_true rfl) (Nat.le_of_ble_eq_true rfl)) mt_Reader_expression rfl hc rfl k
theorem B_Reader_letLine_24 {xs : Nat → Int} {xl e : Nat} {h : LH} {Q : Option LV → LH → Prop} {q : Int} (hq : q = 5 ∨ q = 32) (hF : RF h)
    (k : (∃ c, c < e ∧ Rn xs xl c mm_Reader_takeSign 0 [some (.inr (.inr 2)), some (.inl 59)] [] h (fun r h' => Rn xs xl e mm_Reader_letLine 30 [some (.inr (.inr 2)), some (.inr (.inr q))] (r.toList ++ []) h' Q))) :
    Rn xs xl e mm_Reader_letLine 24 [some (.inr (.inr 2)), some (.inr (.inr q))] [] h Q := by
  refine R_ld (v := .inr (.inr 2)) dd_Reader_letLine_24 rfl rfl rfl rfl ?_
  refine R_bi dd_Reader_letLine_25 (by decide) rfl ?_
  obtain ⟨c, hc, k⟩ := k
  exact R_call (as := [.inr (.inr 2), .inl 59]) (rest := []) (M' := mm_Reader_takeSign) (ls0 := [some (.inr (.inr 2)), some (.inl 59)]) dd_Reader_letLine_27 rfl rfl (cw_v cw_7_57 io_2 rfl rfl (Nat.le_of_ble_eq_true rfl) (Nat.le_of_ble_eq_true rfl)) mt_Reader_takeSign rfl hc rfl k
theorem B_Reader_letLine_30 {xs : Nat → Int} {xl e : Nat} {h : LH} {Q : Option LV → LH → Prop} {q : Int} (hq : q = 5 ∨ q = 32) (hF : RF h)
    (k : Q none h) :
    Rn xs xl e mm_Reader_letLine 30 [some (.inr (.inr 2)), some (.inr (.inr q))] [] h Q := by
  exact R_vret dd_Reader_letLine_30 rfl k
theorem B_Reader_readQuarter_0 {xs : Nat → Int} {xl e : Nat} {h : LH} {Q : Option LV → LH → Prop} {q : Int} (hq : q = 5 ∨ q = 32) (hF : RF h)
    (k : (∃ c, c < e ∧ Rn xs xl c mm_Reader_begin 0 [some (.inr (.inr 2))] [] h (fun r h' => Rn xs xl e mm_Reader_readQuarter 4 [some (.inr (.inr 2)), some (.inr (.inr q)), none] (r.toList ++ []) h' Q))) :
    Rn xs xl e mm_Reader_readQuarter 0 [some (.inr (.inr 2)), some (.inr (.inr q)), none] [] h Q := by
  refine R_ld (v := .inr (.inr 2)) dd_Reader_readQuarter_0 rfl rfl rfl rfl ?_
  obtain ⟨c, hc, k⟩ := k
  exact R_call (as := [.inr (.inr 2)]) (rest := []) (M' := mm_Reader_begin) (ls0 := [some (.inr (.inr 2))]) dd_Reader_readQuarter_1 rfl rfl (cw_v cw_7_38 io_2 rfl rfl (Nat.le_of_ble_eq_true rfl) (Nat.le_of_ble_eq_true rfl)) mt_Reader_begin rfl hc rfl k
theorem B_Reader_readQuarter_4 {xs : Nat → Int} {xl e : Nat} {h : LH} {Q : Option LV → LH → Prop} {q : Int} (hq : q = 5 ∨ q = 32) (hF : RF h) (he : 1 ≤ e)
    (k : (∃ c, c < e ∧ Rn xs xl c mm_Reader_takeWord 0 [some (.inr (.inr 2)), some (.inl 0)] [] (wr (wr (wr (wr h q 0 2) q 2 0) q 4 0) q 6 0) (fun r h' => Rn xs xl e mm_Reader_readQuarter 13 [some (.inr (.inr 2)), some (.inr (.inr q)), none] (r.toList ++ []) h' Q))) :
    Rn xs xl e mm_Reader_readQuarter 4 [some (.inr (.inr 2)), some (.inr (.inr q)), none] [] h Q := by
  refine R_ld (v := .inr (.inr q)) dd_Reader_readQuarter_4 rfl rfl rfl rfl ?_
  refine R_call (as := [.inr (.inr q)]) (rest := []) (M' := mm_Quarter_clear) (ls0 := [some (.inr (.inr q))]) dd_Reader_readQuarter_5 rfl rfl (cw_v cw_7_41 (io_q hq) rfl rfl (Nat.le_of_ble_eq_true rfl) (Nat.le_of_ble_eq_true rfl)) mt_Quarter_clear rfl (c := e - 1) (by omega) rfl ?_
  refine R_ld (v := .inr (.inr q)) dd_Quarter_clear_0 rfl rfl rfl rfl ?_
  refine R_ic dd_Quarter_clear_1 (by decide) rfl ?_
  refine R_pf (z := 2) dd_Quarter_clear_2 fd_6_9 (io_q hq) fn_6_0 rfl rfl ?_
  refine R_ld (v := .inr (.inr q)) dd_Quarter_clear_5 rfl rfl rfl rfl ?_
  refine R_ic dd_Quarter_clear_6 (by decide) rfl ?_
  refine R_pf (z := 0) dd_Quarter_clear_7 fd_6_42 (io_q hq) fn_6_2 rfl rfl ?_
  refine R_ld (v := .inr (.inr q)) dd_Quarter_clear_10 rfl rfl rfl rfl ?_
  refine R_ic dd_Quarter_clear_11 (by decide) rfl ?_
  refine R_pf (z := 0) dd_Quarter_clear_12 fd_6_45 (io_q hq) fn_6_4 rfl rfl ?_
  refine R_ld (v := .inr (.inr q)) dd_Quarter_clear_15 rfl rfl rfl rfl ?_
  refine R_ic dd_Quarter_clear_16 (by decide) rfl ?_
  refine R_pf (z := 0) dd_Quarter_clear_17 fd_6_48 (io_q hq) fn_6_6 rfl rfl ?_
  refine R_vret dd_Quarter_clear_20 rfl ?_
  change Rn xs xl e mm_Reader_readQuarter 8 [some (.inr (.inr 2)), some (.inr (.inr q)), none] [] (wr (wr (wr (wr h q 0 2) q 2 0) q 4 0) q 6 0) _
  refine R_ld (v := .inr (.inr 2)) dd_Reader_readQuarter_8 rfl rfl rfl rfl ?_
  refine R_ic dd_Reader_readQuarter_9 (by decide) rfl ?_
  obtain ⟨c, hc, k⟩ := k
  exact R_call (as := [.inr (.inr 2), .inl 0]) (rest := []) (M' := mm_Reader_takeWord) (ls0 := [some (.inr (.inr 2)), some (.inl 0)]) dd_Reader_readQuarter_10 rfl rfl (cw_v cw_7_46 io_2 rfl rfl (Nat.le_of_ble_eq_true rfl) (Nat.le_of_ble_eq_true rfl)) mt_Reader_takeWord rfl hc rfl k
theorem B_Reader_readQuarter_13 {xs : Nat → Int} {xl e : Nat} {h : LH} {Q : Option LV → LH → Prop} {q : Int} (hq : q = 5 ∨ q = 32) (hF : RF h)
    (k : (∃ c, c < e ∧ Rn xs xl c mm_Reader_takeNumber 0 [some (.inr (.inr 2)), some (.inl 2), some (.inl 10), none] [] h (fun r h' => Rn xs xl e mm_Reader_readQuarter 21 [some (.inr (.inr 2)), some (.inr (.inr q)), none] (r.toList ++ [.inr (.inr q)]) h' Q))) :
    Rn xs xl e mm_Reader_readQuarter 13 [some (.inr (.inr 2)), some (.inr (.inr q)), none] [] h Q := by
  refine R_ld (v := .inr (.inr q)) dd_Reader_readQuarter_13 rfl rfl rfl rfl ?_
  refine R_ld (v := .inr (.inr 2)) dd_Reader_readQuarter_14 rfl rfl rfl rfl ?_
  refine R_ic dd_Reader_readQuarter_15 (by decide) rfl ?_
  refine R_bi dd_Reader_readQuarter_16 (by decide) rfl ?_
  obtain ⟨c, hc, k⟩ := k
  exact R_call (as := [.inr (.inr 2), .inl 2, .inl 10]) (rest := [.inr (.inr q)]) (M' := mm_Reader_takeNumber) (ls0 := [some (.inr (.inr 2)), some (.inl 2), some (.inl 10), none]) dd_Reader_readQuarter_18 rfl rfl (cw_v cw_7_50 io_2 rfl rfl (Nat.le_of_ble_eq_true rfl) (Nat.le_of_ble_eq_true rfl)) mt_Reader_takeNumber rfl hc rfl k
theorem B_Reader_readQuarter_21 {xs : Nat → Int} {xl e : Nat} {h : LH} {Q : Option LV → LH → Prop} {w1 : Int} {q : Int} (hq : q = 5 ∨ q = 32) (hF : RF h)
    (k : (∃ c, c < e ∧ Rn xs xl c mm_Reader_takeSign 0 [some (.inr (.inr 2)), some (.inl 59)] [] (wr h q 0 w1) (fun r h' => Rn xs xl e mm_Reader_readQuarter 30 [some (.inr (.inr 2)), some (.inr (.inr q)), none] (r.toList ++ []) h' Q))) :
    Rn xs xl e mm_Reader_readQuarter 21 [some (.inr (.inr 2)), some (.inr (.inr q)), none] [.inl w1, .inr (.inr q)] h Q := by
  refine R_pf (z := w1) dd_Reader_readQuarter_21 fd_7_54 (io_q hq) fn_6_0 rfl rfl ?_
  refine R_ld (v := .inr (.inr 2)) dd_Reader_readQuarter_24 rfl rfl rfl rfl ?_
  refine R_bi dd_Reader_readQuarter_25 (by decide) rfl ?_
  obtain ⟨c, hc, k⟩ := k
  exact R_call (as := [.inr (.inr 2), .inl 59]) (rest := []) (M' := mm_Reader_takeSign) (ls0 := [some (.inr (.inr 2)), some (.inl 59)]) dd_Reader_readQuarter_27 rfl rfl (cw_v cw_7_57 io_2 rfl rfl (Nat.le_of_ble_eq_true rfl) (Nat.le_of_ble_eq_true rfl)) mt_Reader_takeSign rfl hc rfl k
theorem B_Reader_readQuarter_30 {xs : Nat → Int} {xl e : Nat} {h : LH} {Q : Option LV → LH → Prop} {q : Int} (hq : q = 5 ∨ q = 32) (hF : RF h)
    (k : Rn xs xl e mm_Reader_readQuarter 32 [some (.inr (.inr 2)), some (.inr (.inr q)), some (.inl 0)] [] h Q) :
    Rn xs xl e mm_Reader_readQuarter 30 [some (.inr (.inr 2)), some (.inr (.inr q)), none] [] h Q := by
  refine R_ic dd_Reader_readQuarter_30 (by decide) rfl ?_
  refine R_st (ls' := [some (.inr (.inr 2)), some (.inr (.inr q)), some (.inl 0)]) dd_Reader_readQuarter_31 rfl rfl rfl (Nat.le_of_ble_eq_true rfl) rfl rfl ?_
  exact k
theorem B_Reader_readQuarter_32 {xs : Nat → Int} {xl e : Nat} {h : LH} {Q : Option LV → LH → Prop} {v2 : Int} {q : Int} (hq : q = 5 ∨ q = 32) (hF : RF h) (r_v2 : 0 ≤ v2 ∧ v2 ≤ 1000)
    (k : (1000 ≤ v2 →
        Rn xs xl e mm_Reader_readQuarter 127 [some (.inr (.inr 2)), some (.inr (.inr q)), some (.inl v2)] [] h Q) ∧
      (v2 < 1000 →
        ((rd h 2 8) ≠ 0 →
          Rn xs xl e mm_Reader_readQuarter 127 [some (.inr (.inr 2)), some (.inr (.inr q)), some (.inl v2)] [] h Q) ∧
        ((rd h 2 8) = 0 →
          ((rd h 2 3) = 0 →
            Rn xs xl e mm_Reader_readQuarter 127 [some (.inr (.inr 2)), some (.inr (.inr q)), some (.inl v2)] [] h Q) ∧
          ((rd h 2 3) ≠ 0 →
            ((rd h 2 7) = 1 →
              (∃ c, c < e ∧ Rn xs xl c mm_Reader_doorLine 0 [some (.inr (.inr 2)), some (.inr (.inr q)), none, none] [] h (fun r h' => Rn xs xl e mm_Reader_readQuarter 97 [some (.inr (.inr 2)), some (.inr (.inr q)), some (.inl v2)] (r.toList ++ []) h' Q))) ∧
            ((rd h 2 7) = 7 →
              (∃ c, c < e ∧ Rn xs xl c mm_Reader_personLine 0 [some (.inr (.inr 2)), some (.inr (.inr q)), none] [] h (fun r h' => Rn xs xl e mm_Reader_readQuarter 105 [some (.inr (.inr 2)), some (.inr (.inr q)), some (.inl v2)] (r.toList ++ []) h' Q))) ∧
            ((rd h 2 7) = 11 →
              (∃ c, c < e ∧ Rn xs xl c mm_Reader_letLine 0 [some (.inr (.inr 2)), some (.inr (.inr q))] [] h (fun r h' => Rn xs xl e mm_Reader_readQuarter 113 [some (.inr (.inr 2)), some (.inr (.inr q)), some (.inl v2)] (r.toList ++ []) h' Q))) ∧
            ((rd h 2 7) ≠ 1 ∧ (rd h 2 7) ≠ 7 ∧ (rd h 2 7) ≠ 11 →
              (∃ c, c < e ∧ Rn xs xl c mm_Reader_fail 0 [some (.inr (.inr 2)), some (.inl 1)] [] h (fun r h' => Rn xs xl e mm_Reader_readQuarter 121 [some (.inr (.inr 2)), some (.inr (.inr q)), some (.inl v2)] (r.toList ++ []) h' Q))))))) :
    Rn xs xl e mm_Reader_readQuarter 32 [some (.inr (.inr 2)), some (.inr (.inr q)), some (.inl v2)] [] h Q := by
  refine R_ld (v := .inl v2) dd_Reader_readQuarter_32 rfl rfl rfl rfl ?_
  refine R_si dd_Reader_readQuarter_33 (by decide) rfl ?_
  refine R_icmp dd_Reader_readQuarter_36 rfl rfl (fun (c5 : 1000 ≤ v2) => ?_) (fun (c5 : v2 < 1000) => ?_)
  · replace k := k.1 c5
    exact k
  · replace k := k.2 c5
    refine R_ld (v := .inr (.inr 2)) dd_Reader_readQuarter_39 rfl rfl rfl rfl ?_
    refine R_gf (v := .inl (rd h 2 8)) dd_Reader_readQuarter_40 fd_7_61 io_2 (congrArg (fun z : Int => (Sum.inl z : LV)) (rfl)) rfl ?_
    refine R_if dd_Reader_readQuarter_43 rfl rfl (fun (c6 : (rd h 2 8) ≠ 0) => ?_) (fun (c6 : (rd h 2 8) = 0) => ?_)
    · replace k := k.1 c6
      exact k
    · replace k := k.2 c6
      refine R_ld (v := .inr (.inr 2)) dd_Reader_readQuarter_46 rfl rfl rfl rfl ?_
      refine R_gf (v := .inl (rd h 2 3)) dd_Reader_readQuarter_47 fd_7_64 io_2 (congrArg (fun z : Int => (Sum.inl z : LV)) (rfl)) rfl ?_
      refine R_if dd_Reader_readQuarter_50 rfl rfl (fun (c7 : (rd h 2 3) = 0) => ?_) (fun (c7 : (rd h 2 3) ≠ 0) => ?_)
      · replace k := k.1 c7
        exact k
      · replace k := k.2 c7
        refine R_ld (v := .inr (.inr 2)) dd_Reader_readQuarter_53 rfl rfl rfl rfl ?_
        refine R_gf (v := .inl (rd h 2 7)) dd_Reader_readQuarter_54 fd_7_67 io_2 (congrArg (fun z : Int => (Sum.inl z : LV)) (rfl)) rfl ?_
        rcases (show ((rd h 2 7) = 1) ∨ ((rd h 2 7) = 7) ∨ ((rd h 2 7) = 11) ∨ ((rd h 2 7) ≠ 1 ∧ (rd h 2 7) ≠ 7 ∧ (rd h 2 7) ≠ 11) by omega) with c8 | c8 | c8 | c8
        · replace k := k.1 c8
          refine R_lsj (v := 1) (f := 35) dd_Reader_readQuarter_57 c8 rfl (by decide) rfl ?_
          refine R_ld (v := .inr (.inr 2)) dd_Reader_readQuarter_92 rfl rfl rfl rfl ?_
          refine R_ld (v := .inr (.inr q)) dd_Reader_readQuarter_93 rfl rfl rfl rfl ?_
          obtain ⟨c, hc, k⟩ := k
          exact R_call (as := [.inr (.inr 2), .inr (.inr q)]) (rest := []) (M' := mm_Reader_doorLine) (ls0 := [some (.inr (.inr 2)), some (.inr (.inr q)), none, none]) dd_Reader_readQuarter_94 rfl rfl (cw_v cw_7_70 io_2 rfl rfl (Nat.le_of_ble_eq_true rfl) (Nat.le_of_ble_eq_true rfl)) mt_Reader_doorLine rfl hc rfl k
        · replace k := k.2.1 c8
          refine R_lsj (v := 7) (f := 43) dd_Reader_readQuarter_57 c8 rfl (by decide) rfl ?_
          refine R_ld (v := .inr (.inr 2)) dd_Reader_readQuarter_100 rfl rfl rfl rfl ?_
          refine R_ld (v := .inr (.inr q)) dd_Reader_readQuarter_101 rfl rfl rfl rfl ?_
          obtain ⟨c, hc, k⟩ := k
          exact R_call (as := [.inr (.inr 2), .inr (.inr q)]) (rest := []) (M' := mm_Reader_personLine) (ls0 := [some (.inr (.inr 2)), some (.inr (.inr q)), none]) dd_Reader_readQuarter_102 rfl rfl (cw_v cw_7_74 io_2 rfl rfl (Nat.le_of_ble_eq_true rfl) (Nat.le_of_ble_eq_true rfl)) mt_Reader_personLine rfl hc rfl k
        · replace k := k.2.2.1 c8
          refine R_lsj (v := 11) (f := 51) dd_Reader_readQuarter_57 c8 rfl (by decide) rfl ?_
          refine R_ld (v := .inr (.inr 2)) dd_Reader_readQuarter_108 rfl rfl rfl rfl ?_
          refine R_ld (v := .inr (.inr q)) dd_Reader_readQuarter_109 rfl rfl rfl rfl ?_
          obtain ⟨c, hc, k⟩ := k
          exact R_call (as := [.inr (.inr 2), .inr (.inr q)]) (rest := []) (M' := mm_Reader_letLine) (ls0 := [some (.inr (.inr 2)), some (.inr (.inr q))]) dd_Reader_readQuarter_110 rfl rfl (cw_v cw_7_77 io_2 rfl rfl (Nat.le_of_ble_eq_true rfl) (Nat.le_of_ble_eq_true rfl)) mt_Reader_letLine rfl hc rfl k
        · replace k := k.2.2.2 c8
          refine R_lsd3 dd_Reader_readQuarter_57 c8 rfl rfl ?_
          refine R_ld (v := .inr (.inr 2)) dd_Reader_readQuarter_116 rfl rfl rfl rfl ?_
          refine R_ic dd_Reader_readQuarter_117 (by decide) rfl ?_
          obtain ⟨c, hc, k⟩ := k
          exact R_call (as := [.inr (.inr 2), .inl 1]) (rest := []) (M' := mm_Reader_fail) (ls0 := [some (.inr (.inr 2)), some (.inl 1)]) dd_Reader_readQuarter_118 rfl rfl (cw_v cw_7_80 io_2 rfl rfl (Nat.le_of_ble_eq_true rfl) (Nat.le_of_ble_eq_true rfl)) mt_Reader_fail rfl hc rfl k
theorem B_Reader_readQuarter_97 {xs : Nat → Int} {xl e : Nat} {h : LH} {Q : Option LV → LH → Prop} {v2 : Int} {q : Int} (hq : q = 5 ∨ q = 32) (hF : RF h)
    (k : Rn xs xl e mm_Reader_readQuarter 121 [some (.inr (.inr 2)), some (.inr (.inr q)), some (.inl v2)] [] h Q) :
    Rn xs xl e mm_Reader_readQuarter 97 [some (.inr (.inr 2)), some (.inr (.inr q)), some (.inl v2)] [] h Q := by
  refine R_goto dd_Reader_readQuarter_97 rfl ?_
  exact k
theorem B_Reader_readQuarter_105 {xs : Nat → Int} {xl e : Nat} {h : LH} {Q : Option LV → LH → Prop} {v2 : Int} {q : Int} (hq : q = 5 ∨ q = 32) (hF : RF h)
    (k : Rn xs xl e mm_Reader_readQuarter 121 [some (.inr (.inr 2)), some (.inr (.inr q)), some (.inl v2)] [] h Q) :
    Rn xs xl e mm_Reader_readQuarter 105 [some (.inr (.inr 2)), some (.inr (.inr q)), some (.inl v2)] [] h Q := by
  refine R_goto dd_Reader_readQuarter_105 rfl ?_
  exact k
theorem B_Reader_readQuarter_113 {xs : Nat → Int} {xl e : Nat} {h : LH} {Q : Option LV → LH → Prop} {v2 : Int} {q : Int} (hq : q = 5 ∨ q = 32) (hF : RF h)
    (k : Rn xs xl e mm_Reader_readQuarter 121 [some (.inr (.inr 2)), some (.inr (.inr q)), some (.inl v2)] [] h Q) :
    Rn xs xl e mm_Reader_readQuarter 113 [some (.inr (.inr 2)), some (.inr (.inr q)), some (.inl v2)] [] h Q := by
  refine R_goto dd_Reader_readQuarter_113 rfl ?_
  exact k
theorem B_Reader_readQuarter_121 {xs : Nat → Int} {xl e : Nat} {h : LH} {Q : Option LV → LH → Prop} {v2 : Int} {q : Int} (hq : q = 5 ∨ q = 32) (hF : RF h) (r_v2 : 0 ≤ v2 ∧ v2 ≤ 999)
    (k : Rn xs xl e mm_Reader_readQuarter 32 [some (.inr (.inr 2)), some (.inr (.inr q)), some (.inl (v2 + 1))] [] h Q) :
    Rn xs xl e mm_Reader_readQuarter 121 [some (.inr (.inr 2)), some (.inr (.inr q)), some (.inl v2)] [] h Q := by
  refine R_inc (y := v2 + 1) (ls' := [some (.inr (.inr 2)), some (.inr (.inr q)), some (.inl (v2 + 1))]) dd_Reader_readQuarter_121 rfl (by decide) (by omega) (by omega) rfl rfl ?_
  refine R_goto dd_Reader_readQuarter_124 rfl ?_
  exact k
theorem B_Reader_readQuarter_127 {xs : Nat → Int} {xl e : Nat} {h : LH} {Q : Option LV → LH → Prop} {v2 : Int} {q : Int} (hq : q = 5 ∨ q = 32) (hF : RF h)
    (k : Q (some (.inl (rd h 2 8))) (wr h 2 0 0)) :
    Rn xs xl e mm_Reader_readQuarter 127 [some (.inr (.inr 2)), some (.inr (.inr q)), some (.inl v2)] [] h Q := by
  refine R_ld (v := .inr (.inr 2)) dd_Reader_readQuarter_127 rfl rfl rfl rfl ?_
  refine R_ic dd_Reader_readQuarter_128 (by decide) rfl ?_
  refine R_pf (z := 0) dd_Reader_readQuarter_129 fd_7_35 io_2 fn_7_0 rfl rfl ?_
  refine R_ld (v := .inr (.inr 2)) dd_Reader_readQuarter_132 rfl rfl rfl rfl ?_
  refine R_gf (v := .inl (rd h 2 8)) dd_Reader_readQuarter_133 fd_7_61 io_2 (congrArg (fun z : Int => (Sum.inl z : LV)) (rdw_nei (by omega))) rfl ?_
  exact R_iret dd_Reader_readQuarter_136 rfl k
