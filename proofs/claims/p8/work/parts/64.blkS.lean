/-! LM, by program (wip/p2/hand.py): rows of keeps, undo, mark, goes -/
def mm_keeps : LM_M := (⟨"OneSidedModel", "keeps", "()V"⟩, prog_14_method_45_code, 2, none, 12, 1, 0, 1625, 1624, 1000105)
def mm_undo : LM_M := (⟨"OneSidedModel", "undo", "()Z"⟩, prog_14_method_66_code, 1, (some .boolean), 12, 1, 0, 1641, 1639, 1640)
def mm_mark : LM_M := (⟨"OneSidedModel", "mark", "(IZ)Z"⟩, prog_14_method_109_code, 4, (some .boolean), 12, 3, 0, 1817, 1815, 1816)
def mm_goes : LM_M := (⟨"OneSidedModel", "goes", "(III)I"⟩, prog_14_method_61_code, 5, (some .int), 12, 4, 0, 1621, 1620, 1000104)
theorem dd_keeps_0 : decode mm_keeps.2.1 0 = .ok (.aload_n 0, 1) := by decide +kernel
theorem dd_keeps_1 : decode mm_keeps.2.1 1 = .ok (.getfield 322, 3) := by decide +kernel
theorem dd_keeps_4 : decode mm_keeps.2.1 4 = .ok (.bipush 16, 2) := by decide +kernel
theorem dd_keeps_6 : decode mm_keeps.2.1 6 = .ok (.if_icmp .ne (47), 3) := by decide +kernel
theorem dd_keeps_9 : decode mm_keeps.2.1 9 = .ok (.iconst 1, 1) := by decide +kernel
theorem dd_keeps_10 : decode mm_keeps.2.1 10 = .ok (.istore_n 1, 1) := by decide +kernel
theorem dd_keeps_11 : decode mm_keeps.2.1 11 = .ok (.iload_n 1, 1) := by decide +kernel
theorem dd_keeps_12 : decode mm_keeps.2.1 12 = .ok (.bipush 16, 2) := by decide +kernel
theorem dd_keeps_14 : decode mm_keeps.2.1 14 = .ok (.if_icmp .ge (29), 3) := by decide +kernel
theorem dd_keeps_43 : decode mm_keeps.2.1 43 = .ok (.aload_n 0, 1) := by decide +kernel
theorem dd_keeps_44 : decode mm_keeps.2.1 44 = .ok (.dup, 1) := by decide +kernel
theorem dd_keeps_45 : decode mm_keeps.2.1 45 = .ok (.getfield 322, 3) := by decide +kernel
theorem dd_keeps_48 : decode mm_keeps.2.1 48 = .ok (.iconst 1, 1) := by decide +kernel
theorem dd_keeps_49 : decode mm_keeps.2.1 49 = .ok (.isub, 1) := by decide +kernel
theorem dd_keeps_50 : decode mm_keeps.2.1 50 = .ok (.putfield 322, 3) := by decide +kernel
theorem dd_keeps_17 : decode mm_keeps.2.1 17 = .ok (.aload_n 0, 1) := by decide +kernel
theorem dd_keeps_18 : decode mm_keeps.2.1 18 = .ok (.bipush 70, 2) := by decide +kernel
theorem dd_keeps_20 : decode mm_keeps.2.1 20 = .ok (.iconst 5, 1) := by decide +kernel
theorem dd_keeps_21 : decode mm_keeps.2.1 21 = .ok (.iload_n 1, 1) := by decide +kernel
theorem dd_keeps_22 : decode mm_keeps.2.1 22 = .ok (.iadd, 1) := by decide +kernel
theorem dd_keeps_23 : decode mm_keeps.2.1 23 = .ok (.imul, 1) := by decide +kernel
theorem dd_keeps_24 : decode mm_keeps.2.1 24 = .ok (.bipush 70, 2) := by decide +kernel
theorem dd_keeps_26 : decode mm_keeps.2.1 26 = .ok (.iconst 5, 1) := by decide +kernel
theorem dd_keeps_27 : decode mm_keeps.2.1 27 = .ok (.iload_n 1, 1) := by decide +kernel
theorem dd_keeps_28 : decode mm_keeps.2.1 28 = .ok (.iadd, 1) := by decide +kernel
theorem dd_keeps_29 : decode mm_keeps.2.1 29 = .ok (.iconst 1, 1) := by decide +kernel
theorem dd_keeps_30 : decode mm_keeps.2.1 30 = .ok (.isub, 1) := by decide +kernel
theorem dd_keeps_31 : decode mm_keeps.2.1 31 = .ok (.imul, 1) := by decide +kernel
theorem dd_keeps_32 : decode mm_keeps.2.1 32 = .ok (.bipush 34, 2) := by decide +kernel
theorem dd_keeps_34 : decode mm_keeps.2.1 34 = .ok (.invokevirtual 328, 3) := by decide +kernel
theorem cw_12_328 : cwOk 12 328 0 213 4 5 12 = true := by decide +kernel
theorem mt_copies : MTB 213 = some mm_copies := rfl
theorem dd_keeps_37 : decode mm_keeps.2.1 37 = .ok (.iinc 1 1, 3) := by decide +kernel
theorem dd_keeps_40 : decode mm_keeps.2.1 40 = .ok (.goto (-29), 3) := by decide +kernel
theorem dd_keeps_53 : decode mm_keeps.2.1 53 = .ok (.aload_n 0, 1) := by decide +kernel
theorem dd_keeps_54 : decode mm_keeps.2.1 54 = .ok (.iconst 0, 1) := by decide +kernel
theorem dd_keeps_55 : decode mm_keeps.2.1 55 = .ok (.bipush 70, 2) := by decide +kernel
theorem dd_keeps_57 : decode mm_keeps.2.1 57 = .ok (.iconst 5, 1) := by decide +kernel
theorem dd_keeps_58 : decode mm_keeps.2.1 58 = .ok (.aload_n 0, 1) := by decide +kernel
theorem dd_keeps_59 : decode mm_keeps.2.1 59 = .ok (.getfield 322, 3) := by decide +kernel
theorem dd_keeps_62 : decode mm_keeps.2.1 62 = .ok (.iadd, 1) := by decide +kernel
theorem dd_keeps_63 : decode mm_keeps.2.1 63 = .ok (.imul, 1) := by decide +kernel
theorem dd_keeps_64 : decode mm_keeps.2.1 64 = .ok (.bipush 34, 2) := by decide +kernel
theorem dd_keeps_66 : decode mm_keeps.2.1 66 = .ok (.invokevirtual 328, 3) := by decide +kernel
theorem dd_keeps_69 : decode mm_keeps.2.1 69 = .ok (.aload_n 0, 1) := by decide +kernel
theorem dd_keeps_70 : decode mm_keeps.2.1 70 = .ok (.dup, 1) := by decide +kernel
theorem dd_keeps_71 : decode mm_keeps.2.1 71 = .ok (.getfield 322, 3) := by decide +kernel
theorem dd_keeps_74 : decode mm_keeps.2.1 74 = .ok (.iconst 1, 1) := by decide +kernel
theorem dd_keeps_75 : decode mm_keeps.2.1 75 = .ok (.iadd, 1) := by decide +kernel
theorem dd_keeps_76 : decode mm_keeps.2.1 76 = .ok (.putfield 322, 3) := by decide +kernel
theorem dd_keeps_79 : decode mm_keeps.2.1 79 = .ok (.return_, 1) := by decide +kernel
theorem dd_undo_0 : decode mm_undo.2.1 0 = .ok (.aload_n 0, 1) := by decide +kernel
theorem dd_undo_1 : decode mm_undo.2.1 1 = .ok (.iconst 0, 1) := by decide +kernel
theorem dd_undo_2 : decode mm_undo.2.1 2 = .ok (.putfield 1, 3) := by decide +kernel
theorem dd_undo_5 : decode mm_undo.2.1 5 = .ok (.aload_n 0, 1) := by decide +kernel
theorem dd_undo_6 : decode mm_undo.2.1 6 = .ok (.getfield 322, 3) := by decide +kernel
theorem dd_undo_9 : decode mm_undo.2.1 9 = .ok (.ifCond .ne (5), 3) := by decide +kernel
theorem dd_undo_14 : decode mm_undo.2.1 14 = .ok (.aload_n 0, 1) := by decide +kernel
theorem dd_undo_15 : decode mm_undo.2.1 15 = .ok (.dup, 1) := by decide +kernel
theorem dd_undo_16 : decode mm_undo.2.1 16 = .ok (.getfield 322, 3) := by decide +kernel
theorem dd_undo_19 : decode mm_undo.2.1 19 = .ok (.iconst 1, 1) := by decide +kernel
theorem dd_undo_20 : decode mm_undo.2.1 20 = .ok (.isub, 1) := by decide +kernel
theorem dd_undo_21 : decode mm_undo.2.1 21 = .ok (.putfield 322, 3) := by decide +kernel
theorem dd_undo_24 : decode mm_undo.2.1 24 = .ok (.aload_n 0, 1) := by decide +kernel
theorem dd_undo_25 : decode mm_undo.2.1 25 = .ok (.bipush 70, 2) := by decide +kernel
theorem dd_undo_27 : decode mm_undo.2.1 27 = .ok (.iconst 5, 1) := by decide +kernel
theorem dd_undo_28 : decode mm_undo.2.1 28 = .ok (.aload_n 0, 1) := by decide +kernel
theorem dd_undo_29 : decode mm_undo.2.1 29 = .ok (.getfield 322, 3) := by decide +kernel
theorem dd_undo_32 : decode mm_undo.2.1 32 = .ok (.iadd, 1) := by decide +kernel
theorem dd_undo_33 : decode mm_undo.2.1 33 = .ok (.imul, 1) := by decide +kernel
theorem dd_undo_34 : decode mm_undo.2.1 34 = .ok (.iconst 0, 1) := by decide +kernel
theorem dd_undo_35 : decode mm_undo.2.1 35 = .ok (.bipush 34, 2) := by decide +kernel
theorem dd_undo_37 : decode mm_undo.2.1 37 = .ok (.invokevirtual 328, 3) := by decide +kernel
theorem dd_undo_12 : decode mm_undo.2.1 12 = .ok (.iconst 0, 1) := by decide +kernel
theorem dd_undo_13 : decode mm_undo.2.1 13 = .ok (.ireturn, 1) := by decide +kernel
theorem dd_undo_40 : decode mm_undo.2.1 40 = .ok (.iconst 1, 1) := by decide +kernel
theorem dd_undo_41 : decode mm_undo.2.1 41 = .ok (.ireturn, 1) := by decide +kernel
theorem dd_mark_0 : decode mm_mark.2.1 0 = .ok (.aload_n 0, 1) := by decide +kernel
theorem dd_mark_1 : decode mm_mark.2.1 1 = .ok (.iconst 0, 1) := by decide +kernel
theorem dd_mark_2 : decode mm_mark.2.1 2 = .ok (.putfield 1, 3) := by decide +kernel
theorem dd_mark_5 : decode mm_mark.2.1 5 = .ok (.iload_n 1, 1) := by decide +kernel
theorem dd_mark_6 : decode mm_mark.2.1 6 = .ok (.iconst 0, 1) := by decide +kernel
theorem dd_mark_7 : decode mm_mark.2.1 7 = .ok (.iconst 3, 1) := by decide +kernel
theorem dd_mark_8 : decode mm_mark.2.1 8 = .ok (.invokestatic 297, 3) := by decide +kernel
theorem dd_mark_11 : decode mm_mark.2.1 11 = .ok (.ifCond .eq (16), 3) := by decide +kernel
theorem dd_mark_27 : decode mm_mark.2.1 27 = .ok (.iconst 0, 1) := by decide +kernel
theorem dd_mark_28 : decode mm_mark.2.1 28 = .ok (.ireturn, 1) := by decide +kernel
theorem dd_mark_14 : decode mm_mark.2.1 14 = .ok (.iload_n 2, 1) := by decide +kernel
theorem dd_mark_15 : decode mm_mark.2.1 15 = .ok (.ifCond .eq (14), 3) := by decide +kernel
theorem dd_mark_29 : decode mm_mark.2.1 29 = .ok (.aload_n 0, 1) := by decide +kernel
theorem dd_mark_30 : decode mm_mark.2.1 30 = .ok (.getfield 128, 3) := by decide +kernel
theorem dd_mark_33 : decode mm_mark.2.1 33 = .ok (.iload_n 1, 1) := by decide +kernel
theorem dd_mark_34 : decode mm_mark.2.1 34 = .ok (.iconst 1, 1) := by decide +kernel
theorem dd_mark_35 : decode mm_mark.2.1 35 = .ok (.bastore, 1) := by decide +kernel
theorem dd_mark_36 : decode mm_mark.2.1 36 = .ok (.aload_n 0, 1) := by decide +kernel
theorem dd_mark_37 : decode mm_mark.2.1 37 = .ok (.iload_n 2, 1) := by decide +kernel
theorem dd_mark_38 : decode mm_mark.2.1 38 = .ok (.ifCond .eq (12), 3) := by decide +kernel
theorem dd_mark_50 : decode mm_mark.2.1 50 = .ok (.iconst 0, 1) := by decide +kernel
theorem dd_mark_51 : decode mm_mark.2.1 51 = .ok (.iload_n 2, 1) := by decide +kernel
theorem dd_mark_52 : decode mm_mark.2.1 52 = .ok (.ifCond .eq (7), 3) := by decide +kernel
theorem dd_mark_59 : decode mm_mark.2.1 59 = .ok (.bipush 70, 2) := by decide +kernel
theorem dd_mark_61 : decode mm_mark.2.1 61 = .ok (.iconst 1, 1) := by decide +kernel
theorem dd_mark_62 : decode mm_mark.2.1 62 = .ok (.iload_n 1, 1) := by decide +kernel
theorem dd_mark_63 : decode mm_mark.2.1 63 = .ok (.iadd, 1) := by decide +kernel
theorem dd_mark_64 : decode mm_mark.2.1 64 = .ok (.imul, 1) := by decide +kernel
theorem dd_mark_65 : decode mm_mark.2.1 65 = .ok (.bipush 70, 2) := by decide +kernel
theorem dd_mark_67 : decode mm_mark.2.1 67 = .ok (.invokevirtual 328, 3) := by decide +kernel
theorem dd_mark_18 : decode mm_mark.2.1 18 = .ok (.aload_n 0, 1) := by decide +kernel
theorem dd_mark_19 : decode mm_mark.2.1 19 = .ok (.getfield 128, 3) := by decide +kernel
theorem dd_mark_22 : decode mm_mark.2.1 22 = .ok (.iload_n 1, 1) := by decide +kernel
theorem dd_mark_23 : decode mm_mark.2.1 23 = .ok (.baload, 1) := by decide +kernel
theorem dd_mark_24 : decode mm_mark.2.1 24 = .ok (.ifCond .ne (5), 3) := by decide +kernel
theorem dd_mark_41 : decode mm_mark.2.1 41 = .ok (.bipush 70, 2) := by decide +kernel
theorem dd_mark_43 : decode mm_mark.2.1 43 = .ok (.iconst 1, 1) := by decide +kernel
theorem dd_mark_44 : decode mm_mark.2.1 44 = .ok (.iload_n 1, 1) := by decide +kernel
theorem dd_mark_45 : decode mm_mark.2.1 45 = .ok (.iadd, 1) := by decide +kernel
theorem dd_mark_46 : decode mm_mark.2.1 46 = .ok (.imul, 1) := by decide +kernel
theorem dd_mark_47 : decode mm_mark.2.1 47 = .ok (.goto 4, 3) := by decide +kernel
theorem dd_mark_55 : decode mm_mark.2.1 55 = .ok (.iconst 0, 1) := by decide +kernel
theorem dd_mark_56 : decode mm_mark.2.1 56 = .ok (.goto 9, 3) := by decide +kernel
theorem dd_mark_70 : decode mm_mark.2.1 70 = .ok (.iconst 0, 1) := by decide +kernel
theorem dd_mark_71 : decode mm_mark.2.1 71 = .ok (.istore_n 3, 1) := by decide +kernel
theorem dd_mark_72 : decode mm_mark.2.1 72 = .ok (.iload_n 3, 1) := by decide +kernel
theorem dd_mark_73 : decode mm_mark.2.1 73 = .ok (.bipush 50, 2) := by decide +kernel
theorem dd_mark_75 : decode mm_mark.2.1 75 = .ok (.if_icmp .ge (50), 3) := by decide +kernel
theorem dd_mark_125 : decode mm_mark.2.1 125 = .ok (.aload_n 0, 1) := by decide +kernel
theorem dd_mark_126 : decode mm_mark.2.1 126 = .ok (.iload_n 2, 1) := by decide +kernel
theorem dd_mark_127 : decode mm_mark.2.1 127 = .ok (.ifCond .eq (7), 3) := by decide +kernel
theorem dd_mark_134 : decode mm_mark.2.1 134 = .ok (.aload_n 0, 1) := by decide +kernel
theorem dd_mark_135 : decode mm_mark.2.1 135 = .ok (.getfield 322, 3) := by decide +kernel
theorem dd_mark_138 : decode mm_mark.2.1 138 = .ok (.putfield 322, 3) := by decide +kernel
theorem dd_mark_141 : decode mm_mark.2.1 141 = .ok (.iconst 1, 1) := by decide +kernel
theorem dd_mark_142 : decode mm_mark.2.1 142 = .ok (.ireturn, 1) := by decide +kernel
theorem dd_mark_130 : decode mm_mark.2.1 130 = .ok (.iconst 0, 1) := by decide +kernel
theorem dd_mark_131 : decode mm_mark.2.1 131 = .ok (.goto 7, 3) := by decide +kernel
theorem dd_mark_78 : decode mm_mark.2.1 78 = .ok (.iload_n 2, 1) := by decide +kernel
theorem dd_mark_79 : decode mm_mark.2.1 79 = .ok (.ifCond .eq (23), 3) := by decide +kernel
theorem dd_mark_102 : decode mm_mark.2.1 102 = .ok (.aload_n 0, 1) := by decide +kernel
theorem dd_mark_103 : decode mm_mark.2.1 103 = .ok (.getfield 132, 3) := by decide +kernel
theorem fd_12_132 : fld 12 132 = some (12, 27) := by decide +kernel
theorem rf_182_27 {h : LH} (hF : RF h) : rd h 182 27 = 200 := hF 182 27 200 (by decide +kernel) (by decide +kernel)
theorem dd_mark_106 : decode mm_mark.2.1 106 = .ok (.bipush 50, 2) := by decide +kernel
theorem dd_mark_108 : decode mm_mark.2.1 108 = .ok (.iload_n 1, 1) := by decide +kernel
theorem dd_mark_109 : decode mm_mark.2.1 109 = .ok (.imul, 1) := by decide +kernel
theorem dd_mark_110 : decode mm_mark.2.1 110 = .ok (.iload_n 3, 1) := by decide +kernel
theorem dd_mark_111 : decode mm_mark.2.1 111 = .ok (.iadd, 1) := by decide +kernel
theorem dd_mark_112 : decode mm_mark.2.1 112 = .ok (.aload_n 0, 1) := by decide +kernel
theorem dd_mark_113 : decode mm_mark.2.1 113 = .ok (.getfield 116, 3) := by decide +kernel
theorem dd_mark_116 : decode mm_mark.2.1 116 = .ok (.iload_n 3, 1) := by decide +kernel
theorem dd_mark_117 : decode mm_mark.2.1 117 = .ok (.iaload, 1) := by decide +kernel
theorem dd_mark_118 : decode mm_mark.2.1 118 = .ok (.iastore, 1) := by decide +kernel
theorem ia_200 : isA NC 200 1 = true := by decide +kernel
theorem la_200 : (lay (200 : Int).toNat).2.2 = 200 := by decide +kernel
theorem dd_mark_119 : decode mm_mark.2.1 119 = .ok (.iinc 3 1, 3) := by decide +kernel
theorem dd_mark_122 : decode mm_mark.2.1 122 = .ok (.goto (-50), 3) := by decide +kernel
theorem dd_mark_82 : decode mm_mark.2.1 82 = .ok (.aload_n 0, 1) := by decide +kernel
theorem dd_mark_83 : decode mm_mark.2.1 83 = .ok (.getfield 116, 3) := by decide +kernel
theorem dd_mark_86 : decode mm_mark.2.1 86 = .ok (.iload_n 3, 1) := by decide +kernel
theorem dd_mark_87 : decode mm_mark.2.1 87 = .ok (.aload_n 0, 1) := by decide +kernel
theorem dd_mark_88 : decode mm_mark.2.1 88 = .ok (.getfield 132, 3) := by decide +kernel
theorem dd_mark_91 : decode mm_mark.2.1 91 = .ok (.bipush 50, 2) := by decide +kernel
theorem dd_mark_93 : decode mm_mark.2.1 93 = .ok (.iload_n 1, 1) := by decide +kernel
theorem dd_mark_94 : decode mm_mark.2.1 94 = .ok (.imul, 1) := by decide +kernel
theorem dd_mark_95 : decode mm_mark.2.1 95 = .ok (.iload_n 3, 1) := by decide +kernel
theorem dd_mark_96 : decode mm_mark.2.1 96 = .ok (.iadd, 1) := by decide +kernel
theorem dd_mark_97 : decode mm_mark.2.1 97 = .ok (.iaload, 1) := by decide +kernel
theorem dd_mark_98 : decode mm_mark.2.1 98 = .ok (.iastore, 1) := by decide +kernel
theorem dd_mark_99 : decode mm_mark.2.1 99 = .ok (.goto 20, 3) := by decide +kernel
theorem dd_goes_0 : decode mm_goes.2.1 0 = .ok (.aload_n 0, 1) := by decide +kernel
theorem dd_goes_1 : decode mm_goes.2.1 1 = .ok (.getfield 125, 3) := by decide +kernel
theorem dd_goes_4 : decode mm_goes.2.1 4 = .ok (.iload_n 1, 1) := by decide +kernel
theorem dd_goes_5 : decode mm_goes.2.1 5 = .ok (.bipush 14, 2) := by decide +kernel
theorem dd_goes_7 : decode mm_goes.2.1 7 = .ok (.iadd, 1) := by decide +kernel
theorem dd_goes_8 : decode mm_goes.2.1 8 = .ok (.iload_n 2, 1) := by decide +kernel
theorem dd_goes_9 : decode mm_goes.2.1 9 = .ok (.iadd, 1) := by decide +kernel
theorem dd_goes_10 : decode mm_goes.2.1 10 = .ok (.iaload, 1) := by decide +kernel
theorem dd_goes_11 : decode mm_goes.2.1 11 = .ok (.iconst 1, 1) := by decide +kernel
theorem dd_goes_12 : decode mm_goes.2.1 12 = .ok (.if_icmp .eq (24), 3) := by decide +kernel
theorem dd_goes_36 : decode mm_goes.2.1 36 = .ok (.iconst (-1), 1) := by decide +kernel
theorem dd_goes_37 : decode mm_goes.2.1 37 = .ok (.goto 33, 3) := by decide +kernel
theorem dd_goes_15 : decode mm_goes.2.1 15 = .ok (.aload_n 0, 1) := by decide +kernel
theorem dd_goes_16 : decode mm_goes.2.1 16 = .ok (.getfield 125, 3) := by decide +kernel
theorem dd_goes_19 : decode mm_goes.2.1 19 = .ok (.iload_n 1, 1) := by decide +kernel
theorem dd_goes_20 : decode mm_goes.2.1 20 = .ok (.bipush 20, 2) := by decide +kernel
theorem dd_goes_22 : decode mm_goes.2.1 22 = .ok (.iadd, 1) := by decide +kernel
theorem dd_goes_23 : decode mm_goes.2.1 23 = .ok (.iload_n 3, 1) := by decide +kernel
theorem dd_goes_24 : decode mm_goes.2.1 24 = .ok (.iadd, 1) := by decide +kernel
theorem dd_goes_25 : decode mm_goes.2.1 25 = .ok (.iaload, 1) := by decide +kernel
theorem dd_goes_26 : decode mm_goes.2.1 26 = .ok (.aload_n 0, 1) := by decide +kernel
theorem dd_goes_27 : decode mm_goes.2.1 27 = .ok (.iload_n 3, 1) := by decide +kernel
theorem dd_goes_28 : decode mm_goes.2.1 28 = .ok (.bipush 6, 2) := by decide +kernel
theorem dd_goes_30 : decode mm_goes.2.1 30 = .ok (.invokevirtual 347, 3) := by decide +kernel
theorem dd_goes_33 : decode mm_goes.2.1 33 = .ok (.if_icmp .lt (7), 3) := by decide +kernel
theorem dd_goes_40 : decode mm_goes.2.1 40 = .ok (.aload_n 0, 1) := by decide +kernel
theorem dd_goes_41 : decode mm_goes.2.1 41 = .ok (.iload_n 1, 1) := by decide +kernel
theorem dd_goes_42 : decode mm_goes.2.1 42 = .ok (.iload_n 3, 1) := by decide +kernel
theorem dd_goes_43 : decode mm_goes.2.1 43 = .ok (.aload_n 0, 1) := by decide +kernel
theorem dd_goes_44 : decode mm_goes.2.1 44 = .ok (.iload_n 2, 1) := by decide +kernel
theorem dd_goes_45 : decode mm_goes.2.1 45 = .ok (.iconst 0, 1) := by decide +kernel
theorem dd_goes_46 : decode mm_goes.2.1 46 = .ok (.invokevirtual 325, 3) := by decide +kernel
theorem dd_goes_49 : decode mm_goes.2.1 49 = .ok (.aload_n 0, 1) := by decide +kernel
theorem dd_goes_50 : decode mm_goes.2.1 50 = .ok (.getfield 125, 3) := by decide +kernel
theorem dd_goes_53 : decode mm_goes.2.1 53 = .ok (.iload_n 1, 1) := by decide +kernel
theorem dd_goes_54 : decode mm_goes.2.1 54 = .ok (.iconst 2, 1) := by decide +kernel
theorem dd_goes_55 : decode mm_goes.2.1 55 = .ok (.iadd, 1) := by decide +kernel
theorem dd_goes_56 : decode mm_goes.2.1 56 = .ok (.iload_n 2, 1) := by decide +kernel
theorem dd_goes_57 : decode mm_goes.2.1 57 = .ok (.iadd, 1) := by decide +kernel
theorem dd_goes_58 : decode mm_goes.2.1 58 = .ok (.iaload, 1) := by decide +kernel
theorem dd_goes_59 : decode mm_goes.2.1 59 = .ok (.aload_n 0, 1) := by decide +kernel
theorem dd_goes_60 : decode mm_goes.2.1 60 = .ok (.getfield 125, 3) := by decide +kernel
theorem dd_goes_63 : decode mm_goes.2.1 63 = .ok (.iload_n 1, 1) := by decide +kernel
theorem dd_goes_64 : decode mm_goes.2.1 64 = .ok (.iconst 0, 1) := by decide +kernel
theorem dd_goes_65 : decode mm_goes.2.1 65 = .ok (.iadd, 1) := by decide +kernel
theorem dd_goes_66 : decode mm_goes.2.1 66 = .ok (.iaload, 1) := by decide +kernel
theorem dd_goes_67 : decode mm_goes.2.1 67 = .ok (.invokevirtual 373, 3) := by decide +kernel
theorem dd_goes_70 : decode mm_goes.2.1 70 = .ok (.istore 4, 2) := by decide +kernel
theorem dd_goes_72 : decode mm_goes.2.1 72 = .ok (.iload 4, 2) := by decide +kernel
theorem dd_goes_74 : decode mm_goes.2.1 74 = .ok (.ifCond .lt (79), 3) := by decide +kernel
theorem dd_goes_153 : decode mm_goes.2.1 153 = .ok (.iload 4, 2) := by decide +kernel
theorem dd_goes_155 : decode mm_goes.2.1 155 = .ok (.ireturn, 1) := by decide +kernel
theorem dd_goes_77 : decode mm_goes.2.1 77 = .ok (.aload_n 0, 1) := by decide +kernel
theorem dd_goes_78 : decode mm_goes.2.1 78 = .ok (.getfield 125, 3) := by decide +kernel
theorem dd_goes_81 : decode mm_goes.2.1 81 = .ok (.iload_n 1, 1) := by decide +kernel
theorem dd_goes_82 : decode mm_goes.2.1 82 = .ok (.iconst 2, 1) := by decide +kernel
theorem dd_goes_83 : decode mm_goes.2.1 83 = .ok (.iadd, 1) := by decide +kernel
theorem dd_goes_84 : decode mm_goes.2.1 84 = .ok (.iload_n 2, 1) := by decide +kernel
theorem dd_goes_85 : decode mm_goes.2.1 85 = .ok (.iadd, 1) := by decide +kernel
theorem dd_goes_86 : decode mm_goes.2.1 86 = .ok (.iload 4, 2) := by decide +kernel
theorem dd_goes_88 : decode mm_goes.2.1 88 = .ok (.iastore, 1) := by decide +kernel
theorem dd_goes_89 : decode mm_goes.2.1 89 = .ok (.aload_n 0, 1) := by decide +kernel
theorem dd_goes_90 : decode mm_goes.2.1 90 = .ok (.getfield 125, 3) := by decide +kernel
theorem dd_goes_93 : decode mm_goes.2.1 93 = .ok (.iload_n 1, 1) := by decide +kernel
theorem dd_goes_94 : decode mm_goes.2.1 94 = .ok (.bipush 14, 2) := by decide +kernel
theorem dd_goes_96 : decode mm_goes.2.1 96 = .ok (.iadd, 1) := by decide +kernel
theorem dd_goes_97 : decode mm_goes.2.1 97 = .ok (.iload_n 2, 1) := by decide +kernel
theorem dd_goes_98 : decode mm_goes.2.1 98 = .ok (.iadd, 1) := by decide +kernel
theorem dd_goes_99 : decode mm_goes.2.1 99 = .ok (.iconst 1, 1) := by decide +kernel
theorem dd_goes_100 : decode mm_goes.2.1 100 = .ok (.iastore, 1) := by decide +kernel
theorem dd_goes_101 : decode mm_goes.2.1 101 = .ok (.aload_n 0, 1) := by decide +kernel
theorem dd_goes_102 : decode mm_goes.2.1 102 = .ok (.getfield 125, 3) := by decide +kernel
theorem dd_goes_105 : decode mm_goes.2.1 105 = .ok (.iload_n 1, 1) := by decide +kernel
theorem dd_goes_106 : decode mm_goes.2.1 106 = .ok (.bipush 20, 2) := by decide +kernel
theorem dd_goes_108 : decode mm_goes.2.1 108 = .ok (.iadd, 1) := by decide +kernel
theorem dd_goes_109 : decode mm_goes.2.1 109 = .ok (.iload_n 3, 1) := by decide +kernel
theorem dd_goes_110 : decode mm_goes.2.1 110 = .ok (.iadd, 1) := by decide +kernel
theorem dd_goes_111 : decode mm_goes.2.1 111 = .ok (.dup2, 1) := by decide +kernel
theorem dd_goes_112 : decode mm_goes.2.1 112 = .ok (.iaload, 1) := by decide +kernel
theorem dd_goes_113 : decode mm_goes.2.1 113 = .ok (.iconst 1, 1) := by decide +kernel
theorem dd_goes_114 : decode mm_goes.2.1 114 = .ok (.iadd, 1) := by decide +kernel
theorem dd_goes_115 : decode mm_goes.2.1 115 = .ok (.iastore, 1) := by decide +kernel
theorem dd_goes_116 : decode mm_goes.2.1 116 = .ok (.aload_n 0, 1) := by decide +kernel
theorem dd_goes_117 : decode mm_goes.2.1 117 = .ok (.getfield 125, 3) := by decide +kernel
theorem dd_goes_120 : decode mm_goes.2.1 120 = .ok (.iload_n 1, 1) := by decide +kernel
theorem dd_goes_121 : decode mm_goes.2.1 121 = .ok (.bipush 8, 2) := by decide +kernel
theorem dd_goes_123 : decode mm_goes.2.1 123 = .ok (.iadd, 1) := by decide +kernel
theorem dd_goes_124 : decode mm_goes.2.1 124 = .ok (.iload_n 2, 1) := by decide +kernel
theorem dd_goes_125 : decode mm_goes.2.1 125 = .ok (.iadd, 1) := by decide +kernel
theorem dd_goes_126 : decode mm_goes.2.1 126 = .ok (.iload 4, 2) := by decide +kernel
theorem dd_goes_128 : decode mm_goes.2.1 128 = .ok (.aload_n 0, 1) := by decide +kernel
theorem dd_goes_129 : decode mm_goes.2.1 129 = .ok (.iload_n 2, 1) := by decide +kernel
theorem dd_goes_130 : decode mm_goes.2.1 130 = .ok (.iconst 2, 1) := by decide +kernel
theorem dd_goes_131 : decode mm_goes.2.1 131 = .ok (.invokevirtual 325, 3) := by decide +kernel
theorem dd_goes_134 : decode mm_goes.2.1 134 = .ok (.if_icmp .ne (7), 3) := by decide +kernel
theorem dd_goes_141 : decode mm_goes.2.1 141 = .ok (.aload_n 0, 1) := by decide +kernel
theorem dd_goes_142 : decode mm_goes.2.1 142 = .ok (.getfield 125, 3) := by decide +kernel
theorem dd_goes_145 : decode mm_goes.2.1 145 = .ok (.iload_n 1, 1) := by decide +kernel
theorem dd_goes_146 : decode mm_goes.2.1 146 = .ok (.bipush 8, 2) := by decide +kernel
theorem dd_goes_148 : decode mm_goes.2.1 148 = .ok (.iadd, 1) := by decide +kernel
theorem dd_goes_149 : decode mm_goes.2.1 149 = .ok (.iload_n 2, 1) := by decide +kernel
theorem dd_goes_150 : decode mm_goes.2.1 150 = .ok (.iadd, 1) := by decide +kernel
theorem dd_goes_151 : decode mm_goes.2.1 151 = .ok (.iaload, 1) := by decide +kernel
theorem dd_goes_152 : decode mm_goes.2.1 152 = .ok (.iastore, 1) := by decide +kernel
theorem dd_goes_137 : decode mm_goes.2.1 137 = .ok (.iconst 1, 1) := by decide +kernel
theorem dd_goes_138 : decode mm_goes.2.1 138 = .ok (.goto 14, 3) := by decide +kernel
theorem B_keeps_0 {xs : Nat → Int} {xl e : Nat} {h : LH} {Q : Option LV → LH → Prop} (hF : RF h)
    (k : ((rd h 182 25) ≠ 16 →
        Rn xs xl e mm_keeps 53 [some (.inr (.inr 182)), none] [] h Q) ∧
      ((rd h 182 25) = 16 →
        Rn xs xl e mm_keeps 11 [some (.inr (.inr 182)), some (.inl 1)] [] h Q)) :
    Rn xs xl e mm_keeps 0 [some (.inr (.inr 182)), none] [] h Q := by
  refine R_ld (v := .inr (.inr 182)) dd_keeps_0 rfl rfl rfl rfl ?_
  refine R_gf (v := .inl (rd h 182 25)) dd_keeps_1 fd_12_322 io_182 (congrArg (fun z : Int => (Sum.inl z : LV)) (rfl)) rfl ?_
  refine R_bi dd_keeps_4 (by decide) rfl ?_
  refine R_icmp dd_keeps_6 rfl rfl (fun (c1 : (rd h 182 25) ≠ 16) => ?_) (fun (c1 : (rd h 182 25) = 16) => ?_)
  · replace k := k.1 c1
    exact k
  · replace k := k.2 c1
    refine R_ic dd_keeps_9 (by decide) rfl ?_
    refine R_st (ls' := [some (.inr (.inr 182)), some (.inl 1)]) dd_keeps_10 rfl rfl rfl (Nat.le_of_ble_eq_true rfl) rfl rfl ?_
    exact k
theorem B_keeps_11 {xs : Nat → Int} {xl e : Nat} {h : LH} {Q : Option LV → LH → Prop} {v1 : Int} (hF : RF h) (r_v1 : 1 ≤ v1 ∧ v1 ≤ 16)
    (k : (16 ≤ v1 →
        (-2147483648 ≤ (rd h 182 25) - 1 ∧ (rd h 182 25) - 1 ≤ 2147483647) ∧
        Rn xs xl e mm_keeps 53 [some (.inr (.inr 182)), some (.inl v1)] [] (wr h 182 25 ((rd h 182 25) - 1)) Q) ∧
      (v1 < 16 →
        (∃ c, c < e ∧ Rn xs xl c mm_copies 0 [some (.inr (.inr 182)), some (.inl (70 * v1 + 350)), some (.inl (70 * v1 + 280)), some (.inl 34), none] [] h (fun r h' => Rn xs xl e mm_keeps 37 [some (.inr (.inr 182)), some (.inl v1)] (r.toList ++ []) h' Q)))) :
    Rn xs xl e mm_keeps 11 [some (.inr (.inr 182)), some (.inl v1)] [] h Q := by
  refine R_ld (v := .inl v1) dd_keeps_11 rfl rfl rfl rfl ?_
  refine R_bi dd_keeps_12 (by decide) rfl ?_
  refine R_icmp dd_keeps_14 rfl rfl (fun (c3 : 16 ≤ v1) => ?_) (fun (c3 : v1 < 16) => ?_)
  · replace k := k.1 c3
    refine R_ld (v := .inr (.inr 182)) dd_keeps_43 rfl rfl rfl rfl ?_
    refine R_A dd_keeps_44 rfl rfl rfl rfl ?_
    refine R_gf (v := .inl (rd h 182 25)) dd_keeps_45 fd_12_322 io_182 (congrArg (fun z : Int => (Sum.inl z : LV)) (rfl)) rfl ?_
    refine R_ic dd_keeps_48 (by decide) rfl ?_
    obtain ⟨s1, k⟩ := k
    refine R_isub (c := (rd h 182 25) - 1) dd_keeps_49 (by omega) s1 rfl ?_
    refine R_pf (z := ((rd h 182 25) - 1)) dd_keeps_50 fd_12_322 io_182 fn_12_25 rfl rfl ?_
    exact k
  · replace k := k.2 c3
    refine R_ld (v := .inr (.inr 182)) dd_keeps_17 rfl rfl rfl rfl ?_
    refine R_bi dd_keeps_18 (by decide) rfl ?_
    refine R_ic dd_keeps_20 (by decide) rfl ?_
    refine R_ld (v := .inl v1) dd_keeps_21 rfl rfl rfl rfl ?_
    refine R_iadd (c := v1 + 5) dd_keeps_22 (by omega) (by omega) rfl ?_
    refine R_imul (c := 70 * v1 + 350) dd_keeps_23 (by omega) (by omega) rfl ?_
    refine R_bi dd_keeps_24 (by decide) rfl ?_
    refine R_ic dd_keeps_26 (by decide) rfl ?_
    refine R_ld (v := .inl v1) dd_keeps_27 rfl rfl rfl rfl ?_
    refine R_iadd (c := v1 + 5) dd_keeps_28 (by omega) (by omega) rfl ?_
    refine R_ic dd_keeps_29 (by decide) rfl ?_
    refine R_isub (c := v1 + 4) dd_keeps_30 (by omega) (by omega) rfl ?_
    refine R_imul (c := 70 * v1 + 280) dd_keeps_31 (by omega) (by omega) rfl ?_
    refine R_bi dd_keeps_32 (by decide) rfl ?_
    obtain ⟨c, hc, k⟩ := k
    exact R_call (as := [.inr (.inr 182), .inl (70 * v1 + 350), .inl (70 * v1 + 280), .inl 34]) (rest := []) (M' := mm_copies) (ls0 := [some (.inr (.inr 182)), some (.inl (70 * v1 + 350)), some (.inl (70 * v1 + 280)), some (.inl 34), none]) dd_keeps_34 rfl rfl (cw_v cw_12_328 io_182 rfl rfl (Nat.le_of_ble_eq_true rfl) (Nat.le_of_ble_eq_true rfl)) mt_copies rfl hc rfl k
theorem B_keeps_37 {xs : Nat → Int} {xl e : Nat} {h : LH} {Q : Option LV → LH → Prop} {v1 : Int} (hF : RF h) (r_v1 : 1 ≤ v1 ∧ v1 ≤ 15)
    (k : Rn xs xl e mm_keeps 11 [some (.inr (.inr 182)), some (.inl (v1 + 1))] [] h Q) :
    Rn xs xl e mm_keeps 37 [some (.inr (.inr 182)), some (.inl v1)] [] h Q := by
  refine R_inc (y := v1 + 1) (ls' := [some (.inr (.inr 182)), some (.inl (v1 + 1))]) dd_keeps_37 rfl (by decide) (by omega) (by omega) rfl rfl ?_
  refine R_goto dd_keeps_40 rfl ?_
  exact k
theorem B_keeps_43 {xs : Nat → Int} {xl e : Nat} {h : LH} {Q : Option LV → LH → Prop} {v1 : Int} (hF : RF h)
    (k : (-2147483648 ≤ (rd h 182 25) - 1 ∧ (rd h 182 25) - 1 ≤ 2147483647) ∧
      Rn xs xl e mm_keeps 53 [some (.inr (.inr 182)), some (.inl v1)] [] (wr h 182 25 ((rd h 182 25) - 1)) Q) :
    Rn xs xl e mm_keeps 43 [some (.inr (.inr 182)), some (.inl v1)] [] h Q := by
  refine R_ld (v := .inr (.inr 182)) dd_keeps_43 rfl rfl rfl rfl ?_
  refine R_A dd_keeps_44 rfl rfl rfl rfl ?_
  refine R_gf (v := .inl (rd h 182 25)) dd_keeps_45 fd_12_322 io_182 (congrArg (fun z : Int => (Sum.inl z : LV)) (rfl)) rfl ?_
  refine R_ic dd_keeps_48 (by decide) rfl ?_
  obtain ⟨s1, k⟩ := k
  refine R_isub (c := (rd h 182 25) - 1) dd_keeps_49 (by omega) s1 rfl ?_
  refine R_pf (z := ((rd h 182 25) - 1)) dd_keeps_50 fd_12_322 io_182 fn_12_25 rfl rfl ?_
  exact k
theorem B_keeps_53 {xs : Nat → Int} {xl e : Nat} {h : LH} {Q : Option LV → LH → Prop} {o1 : Option LV} (hF : RF h)
    (k : (-2147483648 ≤ (rd h 182 25) + 5 ∧ (rd h 182 25) + 5 ≤ 2147483647) ∧
      (-2147483648 ≤ 70 * (rd h 182 25) + 350 ∧ 70 * (rd h 182 25) + 350 ≤ 2147483647) ∧
      (∃ c, c < e ∧ Rn xs xl c mm_copies 0 [some (.inr (.inr 182)), some (.inl 0), some (.inl (70 * (rd h 182 25) + 350)), some (.inl 34), none] [] h (fun r h' => Rn xs xl e mm_keeps 69 [some (.inr (.inr 182)), o1] (r.toList ++ []) h' Q))) :
    Rn xs xl e mm_keeps 53 [some (.inr (.inr 182)), o1] [] h Q := by
  refine R_ld (v := .inr (.inr 182)) dd_keeps_53 rfl rfl rfl rfl ?_
  refine R_ic dd_keeps_54 (by decide) rfl ?_
  refine R_bi dd_keeps_55 (by decide) rfl ?_
  refine R_ic dd_keeps_57 (by decide) rfl ?_
  refine R_ld (v := .inr (.inr 182)) dd_keeps_58 rfl rfl rfl rfl ?_
  refine R_gf (v := .inl (rd h 182 25)) dd_keeps_59 fd_12_322 io_182 (congrArg (fun z : Int => (Sum.inl z : LV)) (rfl)) rfl ?_
  obtain ⟨s1, k⟩ := k
  refine R_iadd (c := (rd h 182 25) + 5) dd_keeps_62 (by omega) s1 rfl ?_
  obtain ⟨s2, k⟩ := k
  refine R_imul (c := 70 * (rd h 182 25) + 350) dd_keeps_63 (by omega) s2 rfl ?_
  refine R_bi dd_keeps_64 (by decide) rfl ?_
  obtain ⟨c, hc, k⟩ := k
  exact R_call (as := [.inr (.inr 182), .inl 0, .inl (70 * (rd h 182 25) + 350), .inl 34]) (rest := []) (M' := mm_copies) (ls0 := [some (.inr (.inr 182)), some (.inl 0), some (.inl (70 * (rd h 182 25) + 350)), some (.inl 34), none]) dd_keeps_66 rfl rfl (cw_v cw_12_328 io_182 rfl rfl (Nat.le_of_ble_eq_true rfl) (Nat.le_of_ble_eq_true rfl)) mt_copies rfl hc rfl k
theorem B_keeps_69 {xs : Nat → Int} {xl e : Nat} {h : LH} {Q : Option LV → LH → Prop} {o1 : Option LV} (hF : RF h)
    (k : (-2147483648 ≤ (rd h 182 25) + 1 ∧ (rd h 182 25) + 1 ≤ 2147483647) ∧
      Q none (wr h 182 25 ((rd h 182 25) + 1))) :
    Rn xs xl e mm_keeps 69 [some (.inr (.inr 182)), o1] [] h Q := by
  refine R_ld (v := .inr (.inr 182)) dd_keeps_69 rfl rfl rfl rfl ?_
  refine R_A dd_keeps_70 rfl rfl rfl rfl ?_
  refine R_gf (v := .inl (rd h 182 25)) dd_keeps_71 fd_12_322 io_182 (congrArg (fun z : Int => (Sum.inl z : LV)) (rfl)) rfl ?_
  refine R_ic dd_keeps_74 (by decide) rfl ?_
  obtain ⟨s1, k⟩ := k
  refine R_iadd (c := (rd h 182 25) + 1) dd_keeps_75 (by omega) s1 rfl ?_
  refine R_pf (z := ((rd h 182 25) + 1)) dd_keeps_76 fd_12_322 io_182 fn_12_25 rfl rfl ?_
  exact R_vret dd_keeps_79 rfl k
theorem B_undo_0 {xs : Nat → Int} {xl e : Nat} {h : LH} {Q : Option LV → LH → Prop} (hF : RF h)
    (k : ((rd h 182 25) ≠ 0 →
        (-2147483648 ≤ (rd h 182 25) - 1 ∧ (rd h 182 25) - 1 ≤ 2147483647) ∧
        (-2147483648 ≤ ((rd h 182 25) - 1) + 5 ∧ ((rd h 182 25) - 1) + 5 ≤ 2147483647) ∧
        (-2147483648 ≤ 70 * ((rd h 182 25) - 1) + 350 ∧ 70 * ((rd h 182 25) - 1) + 350 ≤ 2147483647) ∧
        (∃ c, c < e ∧ Rn xs xl c mm_copies 0 [some (.inr (.inr 182)), some (.inl (70 * ((rd h 182 25) - 1) + 350)), some (.inl 0), some (.inl 34), none] [] (wr (wr h 182 0 0) 182 25 ((rd h 182 25) - 1)) (fun r h' => Rn xs xl e mm_undo 40 [some (.inr (.inr 182))] (r.toList ++ []) h' Q))) ∧
      ((rd h 182 25) = 0 →
        Q (some (.inl 0)) (wr h 182 0 0))) :
    Rn xs xl e mm_undo 0 [some (.inr (.inr 182))] [] h Q := by
  refine R_ld (v := .inr (.inr 182)) dd_undo_0 rfl rfl rfl rfl ?_
  refine R_ic dd_undo_1 (by decide) rfl ?_
  refine R_pf (z := 0) dd_undo_2 fd_12_1 io_182 fn_12_0 rfl rfl ?_
  refine R_ld (v := .inr (.inr 182)) dd_undo_5 rfl rfl rfl rfl ?_
  refine R_gf (v := .inl (rd h 182 25)) dd_undo_6 fd_12_322 io_182 (congrArg (fun z : Int => (Sum.inl z : LV)) (rdw_nei (by omega))) rfl ?_
  refine R_if dd_undo_9 rfl rfl (fun (c5 : (rd h 182 25) ≠ 0) => ?_) (fun (c5 : (rd h 182 25) = 0) => ?_)
  · replace k := k.1 c5
    refine R_ld (v := .inr (.inr 182)) dd_undo_14 rfl rfl rfl rfl ?_
    refine R_A dd_undo_15 rfl rfl rfl rfl ?_
    refine R_gf (v := .inl (rd h 182 25)) dd_undo_16 fd_12_322 io_182 (congrArg (fun z : Int => (Sum.inl z : LV)) (rdw_nei (by omega))) rfl ?_
    refine R_ic dd_undo_19 (by decide) rfl ?_
    obtain ⟨s1, k⟩ := k
    refine R_isub (c := (rd h 182 25) - 1) dd_undo_20 (by omega) s1 rfl ?_
    refine R_pf (z := ((rd h 182 25) - 1)) dd_undo_21 fd_12_322 io_182 fn_12_25 rfl rfl ?_
    refine R_ld (v := .inr (.inr 182)) dd_undo_24 rfl rfl rfl rfl ?_
    refine R_bi dd_undo_25 (by decide) rfl ?_
    refine R_ic dd_undo_27 (by decide) rfl ?_
    refine R_ld (v := .inr (.inr 182)) dd_undo_28 rfl rfl rfl rfl ?_
    refine R_gf (v := .inl ((rd h 182 25) - 1)) dd_undo_29 fd_12_322 io_182 (congrArg (fun z : Int => (Sum.inl z : LV)) (rdw_eq)) rfl ?_
    obtain ⟨s2, k⟩ := k
    refine R_iadd (c := ((rd h 182 25) - 1) + 5) dd_undo_32 (by omega) s2 rfl ?_
    obtain ⟨s3, k⟩ := k
    refine R_imul (c := 70 * ((rd h 182 25) - 1) + 350) dd_undo_33 (by omega) s3 rfl ?_
    refine R_ic dd_undo_34 (by decide) rfl ?_
    refine R_bi dd_undo_35 (by decide) rfl ?_
    obtain ⟨c, hc, k⟩ := k
    exact R_call (as := [.inr (.inr 182), .inl (70 * ((rd h 182 25) - 1) + 350), .inl 0, .inl 34]) (rest := []) (M' := mm_copies) (ls0 := [some (.inr (.inr 182)), some (.inl (70 * ((rd h 182 25) - 1) + 350)), some (.inl 0), some (.inl 34), none]) dd_undo_37 rfl rfl (cw_v cw_12_328 io_182 rfl rfl (Nat.le_of_ble_eq_true rfl) (Nat.le_of_ble_eq_true rfl)) mt_copies rfl hc rfl k
  · replace k := k.2 c5
    refine R_ic dd_undo_12 (by decide) rfl ?_
    exact R_zret dd_undo_13 rfl (by decide) k
theorem B_undo_40 {xs : Nat → Int} {xl e : Nat} {h : LH} {Q : Option LV → LH → Prop} (hF : RF h)
    (k : Q (some (.inl 1)) h) :
    Rn xs xl e mm_undo 40 [some (.inr (.inr 182))] [] h Q := by
  refine R_ic dd_undo_40 (by decide) rfl ?_
  exact R_zret dd_undo_41 rfl (by decide) k
theorem B_mark_0 {xs : Nat → Int} {xl e : Nat} {h : LH} {Q : Option LV → LH → Prop} {v1 v2 : Int} (hF : RF h) (he : 1 ≤ e)
    (k : (v1 < 0 →
        Q (some (.inl 0)) (wr h 182 0 0)) ∧
      (0 ≤ v1 →
        (3 < v1 →
          Q (some (.inl 0)) (wr h 182 0 0)) ∧
        (v1 ≤ 3 →
          (v2 = 0 →
            (0 ≤ v1 ∧ v1 < 4) ∧
            (-2147483648 ≤ v1 + 1 ∧ v1 + 1 ≤ 2147483647) ∧
            (-2147483648 ≤ 70 * v1 + 70 ∧ 70 * v1 + 70 ≤ 2147483647) ∧
            (∃ c, c < e ∧ Rn xs xl c mm_copies 0 [some (.inr (.inr 182)), some (.inl 0), some (.inl (70 * v1 + 70)), some (.inl 70), none] [] (wr (wr h 182 0 0) 199 v1 1) (fun r h' => Rn xs xl e mm_mark 70 [some (.inr (.inr 182)), some (.inl v1), some (.inl v2), none] (r.toList ++ []) h' Q))) ∧
          (v2 ≠ 0 →
            (0 ≤ v1 ∧ v1 < 4) ∧
            ((rd h 199 v1) ≠ 0 →
              (0 ≤ v1 ∧ v1 < 4) ∧
              (-2147483648 ≤ v1 + 1 ∧ v1 + 1 ≤ 2147483647) ∧
              (-2147483648 ≤ 70 * v1 + 70 ∧ 70 * v1 + 70 ≤ 2147483647) ∧
              (∃ c, c < e ∧ Rn xs xl c mm_copies 0 [some (.inr (.inr 182)), some (.inl (70 * v1 + 70)), some (.inl 0), some (.inl 70), none] [] (wr (wr h 182 0 0) 199 v1 1) (fun r h' => Rn xs xl e mm_mark 70 [some (.inr (.inr 182)), some (.inl v1), some (.inl v2), none] (r.toList ++ []) h' Q))) ∧
            ((rd h 199 v1) = 0 →
              Q (some (.inl 0)) (wr h 182 0 0)))))) :
    Rn xs xl e mm_mark 0 [some (.inr (.inr 182)), some (.inl v1), some (.inl v2), none] [] h Q := by
  refine R_ld (v := .inr (.inr 182)) dd_mark_0 rfl rfl rfl rfl ?_
  refine R_ic dd_mark_1 (by decide) rfl ?_
  refine R_pf (z := 0) dd_mark_2 fd_12_1 io_182 fn_12_0 rfl rfl ?_
  refine R_ld (v := .inl v1) dd_mark_5 rfl rfl rfl rfl ?_
  refine R_ic dd_mark_6 (by decide) rfl ?_
  refine R_ic dd_mark_7 (by decide) rfl ?_
  refine R_call (as := [.inl v1, .inl 0, .inl 3]) (rest := []) (M' := mm_within) (ls0 := [some (.inl v1), some (.inl 0), some (.inl 3)]) dd_mark_8 rfl rfl (cw_s cw_12_297 rfl rfl (Nat.le_of_ble_eq_true rfl) (Nat.le_of_ble_eq_true rfl)) mt_within rfl (c := e - 1) (by omega) rfl ?_
  refine R_ld (v := .inl v1) dd_within_0 rfl rfl rfl rfl ?_
  refine R_ld (v := .inl 0) dd_within_1 rfl rfl rfl rfl ?_
  refine R_icmp dd_within_2 rfl rfl (fun (c10 : v1 < 0) => ?_) (fun (c10 : 0 ≤ v1) => ?_)
  · replace k := k.1 c10
    refine R_ic dd_within_14 (by decide) rfl ?_
    refine R_zret dd_within_15 rfl (by decide) ?_
    change Rn xs xl e mm_mark 11 [some (.inr (.inr 182)), some (.inl v1), some (.inl v2), none] [.inl 0] (wr h 182 0 0) _
    refine R_if dd_mark_11 rfl rfl (fun (c11 : 0 = 0) => ?_) (fun (c11 : 0 ≠ 0) => ?_)
    · skip
      refine R_ic dd_mark_27 (by decide) rfl ?_
      exact R_zret dd_mark_28 rfl (by decide) k
    · exact absurd c11 (by omega)
  · replace k := k.2 c10
    refine R_ld (v := .inl v1) dd_within_5 rfl rfl rfl rfl ?_
    refine R_ld (v := .inl 3) dd_within_6 rfl rfl rfl rfl ?_
    refine R_icmp dd_within_7 rfl rfl (fun (c12 : 3 < v1) => ?_) (fun (c12 : v1 ≤ 3) => ?_)
    · replace k := k.1 c12
      refine R_ic dd_within_14 (by decide) rfl ?_
      refine R_zret dd_within_15 rfl (by decide) ?_
      change Rn xs xl e mm_mark 11 [some (.inr (.inr 182)), some (.inl v1), some (.inl v2), none] [.inl 0] (wr h 182 0 0) _
      refine R_if dd_mark_11 rfl rfl (fun (c13 : 0 = 0) => ?_) (fun (c13 : 0 ≠ 0) => ?_)
      · skip
        refine R_ic dd_mark_27 (by decide) rfl ?_
        exact R_zret dd_mark_28 rfl (by decide) k
      · exact absurd c13 (by omega)
    · replace k := k.2 c12
      refine R_ic dd_within_10 (by decide) rfl ?_
      refine R_goto dd_within_11 rfl ?_
      refine R_zret dd_within_15 rfl (by decide) ?_
      change Rn xs xl e mm_mark 11 [some (.inr (.inr 182)), some (.inl v1), some (.inl v2), none] [.inl 1] (wr h 182 0 0) _
      refine R_if dd_mark_11 rfl rfl (fun (c14 : 1 = 0) => ?_) (fun (c14 : 1 ≠ 0) => ?_)
      · exact absurd c14 (by omega)
      · skip
        refine R_ld (v := .inl v2) dd_mark_14 rfl rfl rfl rfl ?_
        refine R_if dd_mark_15 rfl rfl (fun (c15 : v2 = 0) => ?_) (fun (c15 : v2 ≠ 0) => ?_)
        · replace k := k.1 c15
          refine R_ld (v := .inr (.inr 182)) dd_mark_29 rfl rfl rfl rfl ?_
          refine R_gf (v := .inr (.inr 199)) dd_mark_30 fd_12_128 io_182 (congrArg (fun z : Int => (Sum.inr (Sum.inr z) : LV)) ((rdw_nei (by omega)).trans (rf_182_26 hF))) rfl ?_
          refine R_ld (v := .inl v1) dd_mark_33 rfl rfl rfl rfl ?_
          refine R_ic dd_mark_34 (by decide) rfl ?_
          obtain ⟨s1, k⟩ := k
          refine R_zast (n := 4) dd_mark_35 ia_199 la_199 s1 (by decide) rfl ?_
          refine R_ld (v := .inr (.inr 182)) dd_mark_36 rfl rfl rfl rfl ?_
          refine R_ld (v := .inl v2) dd_mark_37 rfl rfl rfl rfl ?_
          refine R_if dd_mark_38 rfl rfl (fun (c16 : v2 = 0) => ?_) (fun (c16 : v2 ≠ 0) => ?_)
          · skip
            refine R_ic dd_mark_50 (by decide) rfl ?_
            refine R_ld (v := .inl v2) dd_mark_51 rfl rfl rfl rfl ?_
            refine R_if dd_mark_52 rfl rfl (fun (c17 : v2 = 0) => ?_) (fun (c17 : v2 ≠ 0) => ?_)
            · skip
              refine R_bi dd_mark_59 (by decide) rfl ?_
              refine R_ic dd_mark_61 (by decide) rfl ?_
              refine R_ld (v := .inl v1) dd_mark_62 rfl rfl rfl rfl ?_
              obtain ⟨s2, k⟩ := k
              refine R_iadd (c := v1 + 1) dd_mark_63 (by omega) s2 rfl ?_
              obtain ⟨s3, k⟩ := k
              refine R_imul (c := 70 * v1 + 70) dd_mark_64 (by omega) s3 rfl ?_
              refine R_bi dd_mark_65 (by decide) rfl ?_
              obtain ⟨c, hc, k⟩ := k
              exact R_call (as := [.inr (.inr 182), .inl 0, .inl (70 * v1 + 70), .inl 70]) (rest := []) (M' := mm_copies) (ls0 := [some (.inr (.inr 182)), some (.inl 0), some (.inl (70 * v1 + 70)), some (.inl 70), none]) dd_mark_67 rfl rfl (cw_v cw_12_328 io_182 rfl rfl (Nat.le_of_ble_eq_true rfl) (Nat.le_of_ble_eq_true rfl)) mt_copies rfl hc rfl k
            · exact absurd c17 (by omega)
          · exact absurd c16 (by omega)
        · replace k := k.2 c15
          refine R_ld (v := .inr (.inr 182)) dd_mark_18 rfl rfl rfl rfl ?_
          refine R_gf (v := .inr (.inr 199)) dd_mark_19 fd_12_128 io_182 (congrArg (fun z : Int => (Sum.inr (Sum.inr z) : LV)) ((rdw_nei (by omega)).trans (rf_182_26 hF))) rfl ?_
          refine R_ld (v := .inl v1) dd_mark_22 rfl rfl rfl rfl ?_
          obtain ⟨s5, k⟩ := k
          refine R_zald (v := (rd h 199 v1)) (n := 4) dd_mark_23 ia_199 la_199 s5 (rdw_ne (by decide)) rfl ?_
          refine R_if dd_mark_24 rfl rfl (fun (c18 : (rd h 199 v1) ≠ 0) => ?_) (fun (c18 : (rd h 199 v1) = 0) => ?_)
          · replace k := k.1 c18
            refine R_ld (v := .inr (.inr 182)) dd_mark_29 rfl rfl rfl rfl ?_
            refine R_gf (v := .inr (.inr 199)) dd_mark_30 fd_12_128 io_182 (congrArg (fun z : Int => (Sum.inr (Sum.inr z) : LV)) ((rdw_nei (by omega)).trans (rf_182_26 hF))) rfl ?_
            refine R_ld (v := .inl v1) dd_mark_33 rfl rfl rfl rfl ?_
            refine R_ic dd_mark_34 (by decide) rfl ?_
            obtain ⟨s6, k⟩ := k
            refine R_zast (n := 4) dd_mark_35 ia_199 la_199 s6 (by decide) rfl ?_
            refine R_ld (v := .inr (.inr 182)) dd_mark_36 rfl rfl rfl rfl ?_
            refine R_ld (v := .inl v2) dd_mark_37 rfl rfl rfl rfl ?_
            refine R_if dd_mark_38 rfl rfl (fun (c19 : v2 = 0) => ?_) (fun (c19 : v2 ≠ 0) => ?_)
            · exact absurd c19 (by omega)
            · skip
              refine R_bi dd_mark_41 (by decide) rfl ?_
              refine R_ic dd_mark_43 (by decide) rfl ?_
              refine R_ld (v := .inl v1) dd_mark_44 rfl rfl rfl rfl ?_
              obtain ⟨s7, k⟩ := k
              refine R_iadd (c := v1 + 1) dd_mark_45 (by omega) s7 rfl ?_
              obtain ⟨s8, k⟩ := k
              refine R_imul (c := 70 * v1 + 70) dd_mark_46 (by omega) s8 rfl ?_
              refine R_goto dd_mark_47 rfl ?_
              refine R_ld (v := .inl v2) dd_mark_51 rfl rfl rfl rfl ?_
              refine R_if dd_mark_52 rfl rfl (fun (c20 : v2 = 0) => ?_) (fun (c20 : v2 ≠ 0) => ?_)
              · exact absurd c20 (by omega)
              · skip
                refine R_ic dd_mark_55 (by decide) rfl ?_
                refine R_goto dd_mark_56 rfl ?_
                refine R_bi dd_mark_65 (by decide) rfl ?_
                obtain ⟨c, hc, k⟩ := k
                exact R_call (as := [.inr (.inr 182), .inl (70 * v1 + 70), .inl 0, .inl 70]) (rest := []) (M' := mm_copies) (ls0 := [some (.inr (.inr 182)), some (.inl (70 * v1 + 70)), some (.inl 0), some (.inl 70), none]) dd_mark_67 rfl rfl (cw_v cw_12_328 io_182 rfl rfl (Nat.le_of_ble_eq_true rfl) (Nat.le_of_ble_eq_true rfl)) mt_copies rfl hc rfl k
          · replace k := k.2 c18
            refine R_ic dd_mark_27 (by decide) rfl ?_
            exact R_zret dd_mark_28 rfl (by decide) k
theorem B_mark_70 {xs : Nat → Int} {xl e : Nat} {h : LH} {Q : Option LV → LH → Prop} {v1 v2 : Int} (hF : RF h)
    (k : Rn xs xl e mm_mark 72 [some (.inr (.inr 182)), some (.inl v1), some (.inl v2), some (.inl 0)] [] h Q) :
    Rn xs xl e mm_mark 70 [some (.inr (.inr 182)), some (.inl v1), some (.inl v2), none] [] h Q := by
  refine R_ic dd_mark_70 (by decide) rfl ?_
  refine R_st (ls' := [some (.inr (.inr 182)), some (.inl v1), some (.inl v2), some (.inl 0)]) dd_mark_71 rfl rfl rfl (Nat.le_of_ble_eq_true rfl) rfl rfl ?_
  exact k
theorem B_mark_72 {xs : Nat → Int} {xl e : Nat} {h : LH} {Q : Option LV → LH → Prop} {v1 v2 v3 : Int} (hF : RF h) (r_v1 : 0 ≤ v1 ∧ v1 ≤ 3) (r_v3 : 0 ≤ v3 ∧ v3 ≤ 50)
    (k : (50 ≤ v3 →
        (v2 = 0 →
          Q (some (.inl 1)) (wr h 182 25 (rd h 182 25))) ∧
        (v2 ≠ 0 →
          Q (some (.inl 1)) (wr h 182 25 0))) ∧
      (v3 < 50 →
        (v2 = 0 →
          (0 ≤ 50 * v1 + v3 ∧ 50 * v1 + v3 < 200) ∧
          Rn xs xl e mm_mark 72 [some (.inr (.inr 182)), some (.inl v1), some (.inl v2), some (.inl (v3 + 1))] [] (wr h 200 (50 * v1 + v3) (rd h 195 v3)) Q) ∧
        (v2 ≠ 0 →
          (0 ≤ 50 * v1 + v3 ∧ 50 * v1 + v3 < 200) ∧
          Rn xs xl e mm_mark 72 [some (.inr (.inr 182)), some (.inl v1), some (.inl v2), some (.inl (v3 + 1))] [] (wr h 195 v3 (rd h 200 (50 * v1 + v3))) Q))) :
    Rn xs xl e mm_mark 72 [some (.inr (.inr 182)), some (.inl v1), some (.inl v2), some (.inl v3)] [] h Q := by
  refine R_ld (v := .inl v3) dd_mark_72 rfl rfl rfl rfl ?_
  refine R_bi dd_mark_73 (by decide) rfl ?_
  refine R_icmp dd_mark_75 rfl rfl (fun (c3 : 50 ≤ v3) => ?_) (fun (c3 : v3 < 50) => ?_)
  · replace k := k.1 c3
    refine R_ld (v := .inr (.inr 182)) dd_mark_125 rfl rfl rfl rfl ?_
    refine R_ld (v := .inl v2) dd_mark_126 rfl rfl rfl rfl ?_
    refine R_if dd_mark_127 rfl rfl (fun (c4 : v2 = 0) => ?_) (fun (c4 : v2 ≠ 0) => ?_)
    · replace k := k.1 c4
      refine R_ld (v := .inr (.inr 182)) dd_mark_134 rfl rfl rfl rfl ?_
      refine R_gf (v := .inl (rd h 182 25)) dd_mark_135 fd_12_322 io_182 (congrArg (fun z : Int => (Sum.inl z : LV)) (rfl)) rfl ?_
      refine R_pf (z := (rd h 182 25)) dd_mark_138 fd_12_322 io_182 fn_12_25 rfl rfl ?_
      refine R_ic dd_mark_141 (by decide) rfl ?_
      exact R_zret dd_mark_142 rfl (by decide) k
    · replace k := k.2 c4
      refine R_ic dd_mark_130 (by decide) rfl ?_
      refine R_goto dd_mark_131 rfl ?_
      refine R_pf (z := 0) dd_mark_138 fd_12_322 io_182 fn_12_25 rfl rfl ?_
      refine R_ic dd_mark_141 (by decide) rfl ?_
      exact R_zret dd_mark_142 rfl (by decide) k
  · replace k := k.2 c3
    refine R_ld (v := .inl v2) dd_mark_78 rfl rfl rfl rfl ?_
    refine R_if dd_mark_79 rfl rfl (fun (c5 : v2 = 0) => ?_) (fun (c5 : v2 ≠ 0) => ?_)
    · replace k := k.1 c5
      refine R_ld (v := .inr (.inr 182)) dd_mark_102 rfl rfl rfl rfl ?_
      refine R_gf (v := .inr (.inr 200)) dd_mark_103 fd_12_132 io_182 (congrArg (fun z : Int => (Sum.inr (Sum.inr z) : LV)) (rf_182_27 hF)) rfl ?_
      refine R_bi dd_mark_106 (by decide) rfl ?_
      refine R_ld (v := .inl v1) dd_mark_108 rfl rfl rfl rfl ?_
      refine R_imul (c := 50 * v1) dd_mark_109 (by omega) (by omega) rfl ?_
      refine R_ld (v := .inl v3) dd_mark_110 rfl rfl rfl rfl ?_
      refine R_iadd (c := 50 * v1 + v3) dd_mark_111 (by omega) (by omega) rfl ?_
      refine R_ld (v := .inr (.inr 182)) dd_mark_112 rfl rfl rfl rfl ?_
      refine R_gf (v := .inr (.inr 195)) dd_mark_113 fd_12_116 io_182 (congrArg (fun z : Int => (Sum.inr (Sum.inr z) : LV)) (rf_182_20 hF)) rfl ?_
      refine R_ld (v := .inl v3) dd_mark_116 rfl rfl rfl rfl ?_
      refine R_iald (v := (rd h 195 v3)) (n := 100) dd_mark_117 ia_195 la_195 (by omega) (rfl) rfl ?_
      obtain ⟨s1, k⟩ := k
      refine R_iast (n := 200) dd_mark_118 ia_200 la_200 s1 rfl ?_
      refine R_inc (y := v3 + 1) (ls' := [some (.inr (.inr 182)), some (.inl v1), some (.inl v2), some (.inl (v3 + 1))]) dd_mark_119 rfl (by decide) (by omega) (by omega) rfl rfl ?_
      refine R_goto dd_mark_122 rfl ?_
      exact k
    · replace k := k.2 c5
      refine R_ld (v := .inr (.inr 182)) dd_mark_82 rfl rfl rfl rfl ?_
      refine R_gf (v := .inr (.inr 195)) dd_mark_83 fd_12_116 io_182 (congrArg (fun z : Int => (Sum.inr (Sum.inr z) : LV)) (rf_182_20 hF)) rfl ?_
      refine R_ld (v := .inl v3) dd_mark_86 rfl rfl rfl rfl ?_
      refine R_ld (v := .inr (.inr 182)) dd_mark_87 rfl rfl rfl rfl ?_
      refine R_gf (v := .inr (.inr 200)) dd_mark_88 fd_12_132 io_182 (congrArg (fun z : Int => (Sum.inr (Sum.inr z) : LV)) (rf_182_27 hF)) rfl ?_
      refine R_bi dd_mark_91 (by decide) rfl ?_
      refine R_ld (v := .inl v1) dd_mark_93 rfl rfl rfl rfl ?_
      refine R_imul (c := 50 * v1) dd_mark_94 (by omega) (by omega) rfl ?_
      refine R_ld (v := .inl v3) dd_mark_95 rfl rfl rfl rfl ?_
      refine R_iadd (c := 50 * v1 + v3) dd_mark_96 (by omega) (by omega) rfl ?_
      obtain ⟨s2, k⟩ := k
      refine R_iald (v := (rd h 200 (50 * v1 + v3))) (n := 200) dd_mark_97 ia_200 la_200 s2 (rfl) rfl ?_
      refine R_iast (n := 100) dd_mark_98 ia_195 la_195 (by omega) rfl ?_
      refine R_goto dd_mark_99 rfl ?_
      refine R_inc (y := v3 + 1) (ls' := [some (.inr (.inr 182)), some (.inl v1), some (.inl v2), some (.inl (v3 + 1))]) dd_mark_119 rfl (by decide) (by omega) (by omega) rfl rfl ?_
      refine R_goto dd_mark_122 rfl ?_
      exact k
theorem B_goes_0 {xs : Nat → Int} {xl e : Nat} {h : LH} {Q : Option LV → LH → Prop} {v1 v2 v3 : Int} (hF : RF h) (r_v1 : 0 ≤ v1 ∧ v1 ≤ 1540) (r_v2 : 0 ≤ v2 ∧ v2 ≤ 5) (r_v3 : 0 ≤ v3 ∧ v3 ≤ 13) (he : 1 ≤ e)
    (k : ((rd h 198 (v1 + v2 + 14)) = 1 →
        Rn xs xl e mm_goes 70 [some (.inr (.inr 182)), some (.inl v1), some (.inl v2), some (.inl v3), none] [.inl (-1)] h Q) ∧
      ((rd h 198 (v1 + v2 + 14)) ≠ 1 →
        ((rd h 198 (v1 + v3 + 20)) < (rd h 188 (8 * v3 + 10)) →
          (∃ c, c < e ∧ Rn xs xl c mm_leadsNow 0 [some (.inr (.inr 182)), some (.inl v1), some (.inl v3), some (.inl (rd h 188 (4 * v2 + 116))), some (.inl (rd h 198 (v1 + v2 + 2))), some (.inl (rd h 198 v1))] [] h (fun r h' => Rn xs xl e mm_goes 70 [some (.inr (.inr 182)), some (.inl v1), some (.inl v2), some (.inl v3), none] (r.toList ++ []) h' Q))) ∧
        ((rd h 188 (8 * v3 + 10)) ≤ (rd h 198 (v1 + v3 + 20)) →
          Rn xs xl e mm_goes 70 [some (.inr (.inr 182)), some (.inl v1), some (.inl v2), some (.inl v3), none] [.inl (-1)] h Q))) :
    Rn xs xl e mm_goes 0 [some (.inr (.inr 182)), some (.inl v1), some (.inl v2), some (.inl v3), none] [] h Q := by
  refine R_ld (v := .inr (.inr 182)) dd_goes_0 rfl rfl rfl rfl ?_
  refine R_gf (v := .inr (.inr 198)) dd_goes_1 fd_12_125 io_182 (congrArg (fun z : Int => (Sum.inr (Sum.inr z) : LV)) (rf_182_24 hF)) rfl ?_
  refine R_ld (v := .inl v1) dd_goes_4 rfl rfl rfl rfl ?_
  refine R_bi dd_goes_5 (by decide) rfl ?_
  refine R_iadd (c := v1 + 14) dd_goes_7 (by omega) (by omega) rfl ?_
  refine R_ld (v := .inl v2) dd_goes_8 rfl rfl rfl rfl ?_
  refine R_iadd (c := v1 + v2 + 14) dd_goes_9 (by omega) (by omega) rfl ?_
  refine R_iald (v := (rd h 198 (v1 + v2 + 14))) (n := 1610) dd_goes_10 ia_198 la_198 (by omega) (rfl) rfl ?_
  refine R_ic dd_goes_11 (by decide) rfl ?_
  refine R_icmp dd_goes_12 rfl rfl (fun (c2 : (rd h 198 (v1 + v2 + 14)) = 1) => ?_) (fun (c2 : (rd h 198 (v1 + v2 + 14)) ≠ 1) => ?_)
  · replace k := k.1 c2
    refine R_ic dd_goes_36 (by decide) rfl ?_
    refine R_goto dd_goes_37 rfl ?_
    exact k
  · replace k := k.2 c2
    refine R_ld (v := .inr (.inr 182)) dd_goes_15 rfl rfl rfl rfl ?_
    refine R_gf (v := .inr (.inr 198)) dd_goes_16 fd_12_125 io_182 (congrArg (fun z : Int => (Sum.inr (Sum.inr z) : LV)) (rf_182_24 hF)) rfl ?_
    refine R_ld (v := .inl v1) dd_goes_19 rfl rfl rfl rfl ?_
    refine R_bi dd_goes_20 (by decide) rfl ?_
    refine R_iadd (c := v1 + 20) dd_goes_22 (by omega) (by omega) rfl ?_
    refine R_ld (v := .inl v3) dd_goes_23 rfl rfl rfl rfl ?_
    refine R_iadd (c := v1 + v3 + 20) dd_goes_24 (by omega) (by omega) rfl ?_
    refine R_iald (v := (rd h 198 (v1 + v3 + 20))) (n := 1610) dd_goes_25 ia_198 la_198 (by omega) (rfl) rfl ?_
    refine R_ld (v := .inr (.inr 182)) dd_goes_26 rfl rfl rfl rfl ?_
    refine R_ld (v := .inl v3) dd_goes_27 rfl rfl rfl rfl ?_
    refine R_bi dd_goes_28 (by decide) rfl ?_
    refine R_call (as := [.inr (.inr 182), .inl v3, .inl 6]) (rest := [.inl (rd h 198 (v1 + v3 + 20))]) (M' := mm_doorOf) (ls0 := [some (.inr (.inr 182)), some (.inl v3), some (.inl 6)]) dd_goes_30 rfl rfl (cw_v cw_12_347 io_182 rfl rfl (Nat.le_of_ble_eq_true rfl) (Nat.le_of_ble_eq_true rfl)) mt_doorOf rfl (c := e - 1) (by omega) rfl ?_
    refine R_ld (v := .inr (.inr 182)) dd_doorOf_0 rfl rfl rfl rfl ?_
    refine R_gf (v := .inr (.inr 188)) dd_doorOf_1 fd_12_95 io_182 (congrArg (fun z : Int => (Sum.inr (Sum.inr z) : LV)) (rf_182_10 hF)) rfl ?_
    refine R_ic dd_doorOf_4 (by decide) rfl ?_
    refine R_bi dd_doorOf_5 (by decide) rfl ?_
    refine R_ld (v := .inl v3) dd_doorOf_7 rfl rfl rfl rfl ?_
    refine R_imul (c := 8 * v3) dd_doorOf_8 (by omega) (by omega) rfl ?_
    refine R_iadd (c := 8 * v3 + 4) dd_doorOf_9 (by omega) (by omega) rfl ?_
    refine R_ld (v := .inl 6) dd_doorOf_10 rfl rfl rfl rfl ?_
    refine R_iadd (c := 8 * v3 + 10) dd_doorOf_11 (by omega) (by omega) rfl ?_
    refine R_iald (v := (rd h 188 (8 * v3 + 10))) (n := 300) dd_doorOf_12 ia_188 la_188 (by omega) (rfl) rfl ?_
    refine R_iret dd_doorOf_13 rfl ?_
    change Rn xs xl e mm_goes 33 [some (.inr (.inr 182)), some (.inl v1), some (.inl v2), some (.inl v3), none] [.inl (rd h 188 (8 * v3 + 10)), .inl (rd h 198 (v1 + v3 + 20))] h _
    refine R_icmp dd_goes_33 rfl rfl (fun (c3 : (rd h 198 (v1 + v3 + 20)) < (rd h 188 (8 * v3 + 10))) => ?_) (fun (c3 : (rd h 188 (8 * v3 + 10)) ≤ (rd h 198 (v1 + v3 + 20))) => ?_)
    · replace k := k.1 c3
      refine R_ld (v := .inr (.inr 182)) dd_goes_40 rfl rfl rfl rfl ?_
      refine R_ld (v := .inl v1) dd_goes_41 rfl rfl rfl rfl ?_
      refine R_ld (v := .inl v3) dd_goes_42 rfl rfl rfl rfl ?_
      refine R_ld (v := .inr (.inr 182)) dd_goes_43 rfl rfl rfl rfl ?_
      refine R_ld (v := .inl v2) dd_goes_44 rfl rfl rfl rfl ?_
      refine R_ic dd_goes_45 (by decide) rfl ?_
      refine R_call (as := [.inr (.inr 182), .inl v2, .inl 0]) (rest := [.inl v3, .inl v1, .inr (.inr 182)]) (M' := mm_personOf) (ls0 := [some (.inr (.inr 182)), some (.inl v2), some (.inl 0)]) dd_goes_46 rfl rfl (cw_v cw_12_325 io_182 rfl rfl (Nat.le_of_ble_eq_true rfl) (Nat.le_of_ble_eq_true rfl)) mt_personOf rfl (c := e - 1) (by omega) rfl ?_
      refine R_ld (v := .inr (.inr 182)) dd_personOf_0 rfl rfl rfl rfl ?_
      refine R_gf (v := .inr (.inr 188)) dd_personOf_1 fd_12_95 io_182 (congrArg (fun z : Int => (Sum.inr (Sum.inr z) : LV)) (rf_182_10 hF)) rfl ?_
      refine R_bi dd_personOf_4 (by decide) rfl ?_
      refine R_ic dd_personOf_6 (by decide) rfl ?_
      refine R_ld (v := .inl v2) dd_personOf_7 rfl rfl rfl rfl ?_
      refine R_imul (c := 4 * v2) dd_personOf_8 (by omega) (by omega) rfl ?_
      refine R_iadd (c := 4 * v2 + 116) dd_personOf_9 (by omega) (by omega) rfl ?_
      refine R_ld (v := .inl 0) dd_personOf_10 rfl rfl rfl rfl ?_
      refine R_iadd (c := 4 * v2 + 116) dd_personOf_11 (by omega) (by omega) rfl ?_
      refine R_iald (v := (rd h 188 (4 * v2 + 116))) (n := 300) dd_personOf_12 ia_188 la_188 (by omega) (rfl) rfl ?_
      refine R_iret dd_personOf_13 rfl ?_
      change Rn xs xl e mm_goes 49 [some (.inr (.inr 182)), some (.inl v1), some (.inl v2), some (.inl v3), none] [.inl (rd h 188 (4 * v2 + 116)), .inl v3, .inl v1, .inr (.inr 182)] h _
      refine R_ld (v := .inr (.inr 182)) dd_goes_49 rfl rfl rfl rfl ?_
      refine R_gf (v := .inr (.inr 198)) dd_goes_50 fd_12_125 io_182 (congrArg (fun z : Int => (Sum.inr (Sum.inr z) : LV)) (rf_182_24 hF)) rfl ?_
      refine R_ld (v := .inl v1) dd_goes_53 rfl rfl rfl rfl ?_
      refine R_ic dd_goes_54 (by decide) rfl ?_
      refine R_iadd (c := v1 + 2) dd_goes_55 (by omega) (by omega) rfl ?_
      refine R_ld (v := .inl v2) dd_goes_56 rfl rfl rfl rfl ?_
      refine R_iadd (c := v1 + v2 + 2) dd_goes_57 (by omega) (by omega) rfl ?_
      refine R_iald (v := (rd h 198 (v1 + v2 + 2))) (n := 1610) dd_goes_58 ia_198 la_198 (by omega) (rfl) rfl ?_
      refine R_ld (v := .inr (.inr 182)) dd_goes_59 rfl rfl rfl rfl ?_
      refine R_gf (v := .inr (.inr 198)) dd_goes_60 fd_12_125 io_182 (congrArg (fun z : Int => (Sum.inr (Sum.inr z) : LV)) (rf_182_24 hF)) rfl ?_
      refine R_ld (v := .inl v1) dd_goes_63 rfl rfl rfl rfl ?_
      refine R_ic dd_goes_64 (by decide) rfl ?_
      refine R_iadd (c := v1) dd_goes_65 (by omega) (by omega) rfl ?_
      refine R_iald (v := (rd h 198 v1)) (n := 1610) dd_goes_66 ia_198 la_198 (by omega) (rfl) rfl ?_
      obtain ⟨c, hc, k⟩ := k
      exact R_call (as := [.inr (.inr 182), .inl v1, .inl v3, .inl (rd h 188 (4 * v2 + 116)), .inl (rd h 198 (v1 + v2 + 2)), .inl (rd h 198 v1)]) (rest := []) (M' := mm_leadsNow) (ls0 := [some (.inr (.inr 182)), some (.inl v1), some (.inl v3), some (.inl (rd h 188 (4 * v2 + 116))), some (.inl (rd h 198 (v1 + v2 + 2))), some (.inl (rd h 198 v1))]) dd_goes_67 rfl rfl (cw_v cw_12_373 io_182 rfl rfl (Nat.le_of_ble_eq_true rfl) (Nat.le_of_ble_eq_true rfl)) mt_leadsNow rfl hc rfl k
    · replace k := k.2 c3
      refine R_ic dd_goes_36 (by decide) rfl ?_
      refine R_goto dd_goes_37 rfl ?_
      exact k
theorem B_goes_70 {xs : Nat → Int} {xl e : Nat} {h : LH} {Q : Option LV → LH → Prop} {v1 v2 v3 w0 : Int} (hF : RF h) (r_v1 : 0 ≤ v1 ∧ v1 ≤ 1540) (r_v2 : 0 ≤ v2 ∧ v2 ≤ 5) (r_v3 : 0 ≤ v3 ∧ v3 ≤ 13) (r_w0 : -1 ≤ w0 ∧ w0 ≤ 9) (he : 1 ≤ e)
    (k : (w0 < 0 →
        Q (some (.inl w0)) h) ∧
      (0 ≤ w0 →
        (-2147483648 ≤ (rd (wr (wr h 198 (v1 + v2 + 2) w0) 198 (v1 + v2 + 14) 1) 198 (v1 + v3 + 20)) + 1 ∧ (rd (wr (wr h 198 (v1 + v2 + 2) w0) 198 (v1 + v2 + 14) 1) 198 (v1 + v3 + 20)) + 1 ≤ 2147483647) ∧
        (w0 ≠ (rd h 188 (4 * v2 + 118)) →
          Q (some (.inl w0)) (wr (wr (wr (wr h 198 (v1 + v2 + 2) w0) 198 (v1 + v2 + 14) 1) 198 (v1 + v3 + 20) ((rd (wr (wr h 198 (v1 + v2 + 2) w0) 198 (v1 + v2 + 14) 1) 198 (v1 + v3 + 20)) + 1)) 198 (v1 + v2 + 8) (rd (wr (wr (wr h 198 (v1 + v2 + 2) w0) 198 (v1 + v2 + 14) 1) 198 (v1 + v3 + 20) ((rd (wr (wr h 198 (v1 + v2 + 2) w0) 198 (v1 + v2 + 14) 1) 198 (v1 + v3 + 20)) + 1)) 198 (v1 + v2 + 8)))) ∧
        (w0 = (rd h 188 (4 * v2 + 118)) →
          Q (some (.inl w0)) (wr (wr (wr (wr h 198 (v1 + v2 + 2) w0) 198 (v1 + v2 + 14) 1) 198 (v1 + v3 + 20) ((rd (wr (wr h 198 (v1 + v2 + 2) w0) 198 (v1 + v2 + 14) 1) 198 (v1 + v3 + 20)) + 1)) 198 (v1 + v2 + 8) 1)))) :
    Rn xs xl e mm_goes 70 [some (.inr (.inr 182)), some (.inl v1), some (.inl v2), some (.inl v3), none] [.inl w0] h Q := by
  refine R_st (ls' := [some (.inr (.inr 182)), some (.inl v1), some (.inl v2), some (.inl v3), some (.inl w0)]) dd_goes_70 rfl rfl rfl (Nat.le_of_ble_eq_true rfl) rfl rfl ?_
  refine R_ld (v := .inl w0) dd_goes_72 rfl rfl rfl rfl ?_
  refine R_if dd_goes_74 rfl rfl (fun (c2 : w0 < 0) => ?_) (fun (c2 : 0 ≤ w0) => ?_)
  · replace k := k.1 c2
    refine R_ld (v := .inl w0) dd_goes_153 rfl rfl rfl rfl ?_
    exact R_iret dd_goes_155 rfl k
  · replace k := k.2 c2
    refine R_ld (v := .inr (.inr 182)) dd_goes_77 rfl rfl rfl rfl ?_
    refine R_gf (v := .inr (.inr 198)) dd_goes_78 fd_12_125 io_182 (congrArg (fun z : Int => (Sum.inr (Sum.inr z) : LV)) (rf_182_24 hF)) rfl ?_
    refine R_ld (v := .inl v1) dd_goes_81 rfl rfl rfl rfl ?_
    refine R_ic dd_goes_82 (by decide) rfl ?_
    refine R_iadd (c := v1 + 2) dd_goes_83 (by omega) (by omega) rfl ?_
    refine R_ld (v := .inl v2) dd_goes_84 rfl rfl rfl rfl ?_
    refine R_iadd (c := v1 + v2 + 2) dd_goes_85 (by omega) (by omega) rfl ?_
    refine R_ld (v := .inl w0) dd_goes_86 rfl rfl rfl rfl ?_
    refine R_iast (n := 1610) dd_goes_88 ia_198 la_198 (by omega) rfl ?_
    refine R_ld (v := .inr (.inr 182)) dd_goes_89 rfl rfl rfl rfl ?_
    refine R_gf (v := .inr (.inr 198)) dd_goes_90 fd_12_125 io_182 (congrArg (fun z : Int => (Sum.inr (Sum.inr z) : LV)) ((rdw_ne (by decide)).trans (rf_182_24 hF))) rfl ?_
    refine R_ld (v := .inl v1) dd_goes_93 rfl rfl rfl rfl ?_
    refine R_bi dd_goes_94 (by decide) rfl ?_
    refine R_iadd (c := v1 + 14) dd_goes_96 (by omega) (by omega) rfl ?_
    refine R_ld (v := .inl v2) dd_goes_97 rfl rfl rfl rfl ?_
    refine R_iadd (c := v1 + v2 + 14) dd_goes_98 (by omega) (by omega) rfl ?_
    refine R_ic dd_goes_99 (by decide) rfl ?_
    refine R_iast (n := 1610) dd_goes_100 ia_198 la_198 (by omega) rfl ?_
    refine R_ld (v := .inr (.inr 182)) dd_goes_101 rfl rfl rfl rfl ?_
    refine R_gf (v := .inr (.inr 198)) dd_goes_102 fd_12_125 io_182 (congrArg (fun z : Int => (Sum.inr (Sum.inr z) : LV)) ((rdw_ne (by decide)).trans ((rdw_ne (by decide)).trans (rf_182_24 hF)))) rfl ?_
    refine R_ld (v := .inl v1) dd_goes_105 rfl rfl rfl rfl ?_
    refine R_bi dd_goes_106 (by decide) rfl ?_
    refine R_iadd (c := v1 + 20) dd_goes_108 (by omega) (by omega) rfl ?_
    refine R_ld (v := .inl v3) dd_goes_109 rfl rfl rfl rfl ?_
    refine R_iadd (c := v1 + v3 + 20) dd_goes_110 (by omega) (by omega) rfl ?_
    refine R_A dd_goes_111 rfl rfl rfl rfl ?_
    refine R_iald (v := (rd (wr (wr h 198 (v1 + v2 + 2) w0) 198 (v1 + v2 + 14) 1) 198 (v1 + v3 + 20))) (n := 1610) dd_goes_112 ia_198 la_198 (by omega) (rfl) rfl ?_
    refine R_ic dd_goes_113 (by decide) rfl ?_
    obtain ⟨s1, k⟩ := k
    refine R_iadd (c := (rd (wr (wr h 198 (v1 + v2 + 2) w0) 198 (v1 + v2 + 14) 1) 198 (v1 + v3 + 20)) + 1) dd_goes_114 (by omega) s1 rfl ?_
    refine R_iast (n := 1610) dd_goes_115 ia_198 la_198 (by omega) rfl ?_
    refine R_ld (v := .inr (.inr 182)) dd_goes_116 rfl rfl rfl rfl ?_
    refine R_gf (v := .inr (.inr 198)) dd_goes_117 fd_12_125 io_182 (congrArg (fun z : Int => (Sum.inr (Sum.inr z) : LV)) ((rdw_ne (by decide)).trans ((rdw_ne (by decide)).trans ((rdw_ne (by decide)).trans (rf_182_24 hF))))) rfl ?_
    refine R_ld (v := .inl v1) dd_goes_120 rfl rfl rfl rfl ?_
    refine R_bi dd_goes_121 (by decide) rfl ?_
    refine R_iadd (c := v1 + 8) dd_goes_123 (by omega) (by omega) rfl ?_
    refine R_ld (v := .inl v2) dd_goes_124 rfl rfl rfl rfl ?_
    refine R_iadd (c := v1 + v2 + 8) dd_goes_125 (by omega) (by omega) rfl ?_
    refine R_ld (v := .inl w0) dd_goes_126 rfl rfl rfl rfl ?_
    refine R_ld (v := .inr (.inr 182)) dd_goes_128 rfl rfl rfl rfl ?_
    refine R_ld (v := .inl v2) dd_goes_129 rfl rfl rfl rfl ?_
    refine R_ic dd_goes_130 (by decide) rfl ?_
    refine R_call (as := [.inr (.inr 182), .inl v2, .inl 2]) (rest := [.inl w0, .inl (v1 + v2 + 8), .inr (.inr 198)]) (M' := mm_personOf) (ls0 := [some (.inr (.inr 182)), some (.inl v2), some (.inl 2)]) dd_goes_131 rfl rfl (cw_v cw_12_325 io_182 rfl rfl (Nat.le_of_ble_eq_true rfl) (Nat.le_of_ble_eq_true rfl)) mt_personOf rfl (c := e - 1) (by omega) rfl ?_
    refine R_ld (v := .inr (.inr 182)) dd_personOf_0 rfl rfl rfl rfl ?_
    refine R_gf (v := .inr (.inr 188)) dd_personOf_1 fd_12_95 io_182 (congrArg (fun z : Int => (Sum.inr (Sum.inr z) : LV)) ((rdw_ne (by decide)).trans ((rdw_ne (by decide)).trans ((rdw_ne (by decide)).trans (rf_182_10 hF))))) rfl ?_
    refine R_bi dd_personOf_4 (by decide) rfl ?_
    refine R_ic dd_personOf_6 (by decide) rfl ?_
    refine R_ld (v := .inl v2) dd_personOf_7 rfl rfl rfl rfl ?_
    refine R_imul (c := 4 * v2) dd_personOf_8 (by omega) (by omega) rfl ?_
    refine R_iadd (c := 4 * v2 + 116) dd_personOf_9 (by omega) (by omega) rfl ?_
    refine R_ld (v := .inl 2) dd_personOf_10 rfl rfl rfl rfl ?_
    refine R_iadd (c := 4 * v2 + 118) dd_personOf_11 (by omega) (by omega) rfl ?_
    refine R_iald (v := (rd h 188 (4 * v2 + 118))) (n := 300) dd_personOf_12 ia_188 la_188 (by omega) ((rdw_ne (by decide)).trans ((rdw_ne (by decide)).trans (rdw_ne (by decide)))) rfl ?_
    refine R_iret dd_personOf_13 rfl ?_
    change Rn xs xl e mm_goes 134 [some (.inr (.inr 182)), some (.inl v1), some (.inl v2), some (.inl v3), some (.inl w0)] [.inl (rd h 188 (4 * v2 + 118)), .inl w0, .inl (v1 + v2 + 8), .inr (.inr 198)] (wr (wr (wr h 198 (v1 + v2 + 2) w0) 198 (v1 + v2 + 14) 1) 198 (v1 + v3 + 20) ((rd (wr (wr h 198 (v1 + v2 + 2) w0) 198 (v1 + v2 + 14) 1) 198 (v1 + v3 + 20)) + 1)) _
    refine R_icmp dd_goes_134 rfl rfl (fun (c3 : w0 ≠ (rd h 188 (4 * v2 + 118))) => ?_) (fun (c3 : w0 = (rd h 188 (4 * v2 + 118))) => ?_)
    · replace k := k.1 c3
      refine R_ld (v := .inr (.inr 182)) dd_goes_141 rfl rfl rfl rfl ?_
      refine R_gf (v := .inr (.inr 198)) dd_goes_142 fd_12_125 io_182 (congrArg (fun z : Int => (Sum.inr (Sum.inr z) : LV)) ((rdw_ne (by decide)).trans ((rdw_ne (by decide)).trans ((rdw_ne (by decide)).trans (rf_182_24 hF))))) rfl ?_
      refine R_ld (v := .inl v1) dd_goes_145 rfl rfl rfl rfl ?_
      refine R_bi dd_goes_146 (by decide) rfl ?_
      refine R_iadd (c := v1 + 8) dd_goes_148 (by omega) (by omega) rfl ?_
      refine R_ld (v := .inl v2) dd_goes_149 rfl rfl rfl rfl ?_
      refine R_iadd (c := v1 + v2 + 8) dd_goes_150 (by omega) (by omega) rfl ?_
      refine R_iald (v := (rd (wr (wr (wr h 198 (v1 + v2 + 2) w0) 198 (v1 + v2 + 14) 1) 198 (v1 + v3 + 20) ((rd (wr (wr h 198 (v1 + v2 + 2) w0) 198 (v1 + v2 + 14) 1) 198 (v1 + v3 + 20)) + 1)) 198 (v1 + v2 + 8))) (n := 1610) dd_goes_151 ia_198 la_198 (by omega) (rfl) rfl ?_
      refine R_iast (n := 1610) dd_goes_152 ia_198 la_198 (by omega) rfl ?_
      refine R_ld (v := .inl w0) dd_goes_153 rfl rfl rfl rfl ?_
      exact R_iret dd_goes_155 rfl k
    · replace k := k.2 c3
      refine R_ic dd_goes_137 (by decide) rfl ?_
      refine R_goto dd_goes_138 rfl ?_
      refine R_iast (n := 1610) dd_goes_152 ia_198 la_198 (by omega) rfl ?_
      refine R_ld (v := .inl w0) dd_goes_153 rfl rfl rfl rfl ?_
      exact R_iret dd_goes_155 rfl k
