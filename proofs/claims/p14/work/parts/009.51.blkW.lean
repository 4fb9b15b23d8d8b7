/-! LM, by program (wip/p2/hand.py): rows of the law -/
def mm_both : LM_M := (⟨"OneSidedModel", "both", "(III)I"⟩, prog_14_method_41_code, 3, (some .int), 12, 3, 1, 1609, 1608, 0)
def mm_worthAt : LM_M := (⟨"OneSidedModel", "worthAt", "(I)I"⟩, prog_14_method_40_code, 5, (some .int), 12, 2, 0, 1606, 1605, 1000102)
def mm_leadsTo : LM_M := (⟨"OneSidedModel", "leadsTo", "(IIIIII)I"⟩, prog_14_method_56_code, 12, (some .int), 12, 7, 0, 1595, 1594, 1000100)
def mm_doorOf : LM_M := (⟨"OneSidedModel", "doorOf", "(II)I"⟩, prog_14_method_49_code, 3, (some .int), 12, 3, 0, 1563, 1562, 1000094)
def mm_priceOf : LM_M := (⟨"OneSidedModel", "priceOf", "(I)I"⟩, prog_14_method_55_code, 2, (some .int), 12, 2, 0, 1602, 1601, 1000101)
def mm_leadsNow : LM_M := (⟨"OneSidedModel", "leadsNow", "(IIIII)I"⟩, prog_14_method_57_code, 6, (some .int), 12, 6, 0, 1591, 1590, 1000099)
def mm_toOf : LM_M := (⟨"OneSidedModel", "toOf", "(III)I"⟩, prog_14_method_90_code, 4, (some .int), 12, 4, 0, 1753, 1752, 1000122)
theorem dd_both_0 : decode mm_both.2.1 0 = .ok (.iload_n 0, 1) := by decide +kernel
theorem dd_both_1 : decode mm_both.2.1 1 = .ok (.tableswitch (87) (4) (9) #[39, 43, 47, 51, 62, 73], 39) := by decide +kernel
theorem dd_both_40 : decode mm_both.2.1 40 = .ok (.iload_n 1, 1) := by decide +kernel
theorem dd_both_41 : decode mm_both.2.1 41 = .ok (.iload_n 2, 1) := by decide +kernel
theorem dd_both_42 : decode mm_both.2.1 42 = .ok (.iadd, 1) := by decide +kernel
theorem dd_both_43 : decode mm_both.2.1 43 = .ok (.ireturn, 1) := by decide +kernel
theorem dd_both_44 : decode mm_both.2.1 44 = .ok (.iload_n 1, 1) := by decide +kernel
theorem dd_both_45 : decode mm_both.2.1 45 = .ok (.iload_n 2, 1) := by decide +kernel
theorem dd_both_46 : decode mm_both.2.1 46 = .ok (.isub, 1) := by decide +kernel
theorem dd_both_47 : decode mm_both.2.1 47 = .ok (.ireturn, 1) := by decide +kernel
theorem dd_both_48 : decode mm_both.2.1 48 = .ok (.iload_n 1, 1) := by decide +kernel
theorem dd_both_49 : decode mm_both.2.1 49 = .ok (.iload_n 2, 1) := by decide +kernel
theorem dd_both_50 : decode mm_both.2.1 50 = .ok (.imul, 1) := by decide +kernel
theorem dd_both_51 : decode mm_both.2.1 51 = .ok (.ireturn, 1) := by decide +kernel
theorem dd_both_52 : decode mm_both.2.1 52 = .ok (.iload_n 1, 1) := by decide +kernel
theorem dd_both_53 : decode mm_both.2.1 53 = .ok (.iload_n 2, 1) := by decide +kernel
theorem dd_both_54 : decode mm_both.2.1 54 = .ok (.if_icmp .ge (7), 3) := by decide +kernel
theorem dd_both_61 : decode mm_both.2.1 61 = .ok (.iconst 0, 1) := by decide +kernel
theorem dd_both_62 : decode mm_both.2.1 62 = .ok (.ireturn, 1) := by decide +kernel
theorem dd_both_57 : decode mm_both.2.1 57 = .ok (.iconst 1, 1) := by decide +kernel
theorem dd_both_58 : decode mm_both.2.1 58 = .ok (.goto 4, 3) := by decide +kernel
theorem dd_both_63 : decode mm_both.2.1 63 = .ok (.iload_n 1, 1) := by decide +kernel
theorem dd_both_64 : decode mm_both.2.1 64 = .ok (.iload_n 2, 1) := by decide +kernel
theorem dd_both_65 : decode mm_both.2.1 65 = .ok (.if_icmp .ne (7), 3) := by decide +kernel
theorem dd_both_72 : decode mm_both.2.1 72 = .ok (.iconst 0, 1) := by decide +kernel
theorem dd_both_73 : decode mm_both.2.1 73 = .ok (.ireturn, 1) := by decide +kernel
theorem dd_both_68 : decode mm_both.2.1 68 = .ok (.iconst 1, 1) := by decide +kernel
theorem dd_both_69 : decode mm_both.2.1 69 = .ok (.goto 4, 3) := by decide +kernel
theorem dd_both_74 : decode mm_both.2.1 74 = .ok (.iload_n 1, 1) := by decide +kernel
theorem dd_both_75 : decode mm_both.2.1 75 = .ok (.ifCond .eq (11), 3) := by decide +kernel
theorem dd_both_86 : decode mm_both.2.1 86 = .ok (.iconst 0, 1) := by decide +kernel
theorem dd_both_87 : decode mm_both.2.1 87 = .ok (.ireturn, 1) := by decide +kernel
theorem dd_both_78 : decode mm_both.2.1 78 = .ok (.iload_n 2, 1) := by decide +kernel
theorem dd_both_79 : decode mm_both.2.1 79 = .ok (.ifCond .eq (7), 3) := by decide +kernel
theorem dd_both_82 : decode mm_both.2.1 82 = .ok (.iconst 1, 1) := by decide +kernel
theorem dd_both_83 : decode mm_both.2.1 83 = .ok (.goto 4, 3) := by decide +kernel
theorem dd_both_88 : decode mm_both.2.1 88 = .ok (.iload_n 1, 1) := by decide +kernel
theorem dd_both_89 : decode mm_both.2.1 89 = .ok (.ifCond .ne (7), 3) := by decide +kernel
theorem dd_both_96 : decode mm_both.2.1 96 = .ok (.iconst 1, 1) := by decide +kernel
theorem dd_both_97 : decode mm_both.2.1 97 = .ok (.goto 4, 3) := by decide +kernel
theorem dd_both_101 : decode mm_both.2.1 101 = .ok (.ireturn, 1) := by decide +kernel
theorem dd_both_92 : decode mm_both.2.1 92 = .ok (.iload_n 2, 1) := by decide +kernel
theorem dd_both_93 : decode mm_both.2.1 93 = .ok (.ifCond .eq (7), 3) := by decide +kernel
theorem dd_both_100 : decode mm_both.2.1 100 = .ok (.iconst 0, 1) := by decide +kernel
theorem dd_worthAt_0 : decode mm_worthAt.2.1 0 = .ok (.iconst 0, 1) := by decide +kernel
theorem dd_worthAt_1 : decode mm_worthAt.2.1 1 = .ok (.istore_n 2, 1) := by decide +kernel
theorem dd_worthAt_2 : decode mm_worthAt.2.1 2 = .ok (.iload_n 1, 1) := by decide +kernel
theorem dd_worthAt_3 : decode mm_worthAt.2.1 3 = .ok (.istore_n 3, 1) := by decide +kernel
theorem dd_worthAt_4 : decode mm_worthAt.2.1 4 = .ok (.aload_n 0, 1) := by decide +kernel
theorem dd_worthAt_5 : decode mm_worthAt.2.1 5 = .ok (.getfield 98, 3) := by decide +kernel
theorem dd_worthAt_8 : decode mm_worthAt.2.1 8 = .ok (.iload_n 3, 1) := by decide +kernel
theorem dd_worthAt_9 : decode mm_worthAt.2.1 9 = .ok (.iaload, 1) := by decide +kernel
theorem dd_worthAt_10 : decode mm_worthAt.2.1 10 = .ok (.ifCond .eq (130), 3) := by decide +kernel
theorem dd_worthAt_140 : decode mm_worthAt.2.1 140 = .ok (.aload_n 0, 1) := by decide +kernel
theorem dd_worthAt_141 : decode mm_worthAt.2.1 141 = .ok (.getfield 122, 3) := by decide +kernel
theorem fd_12_122 : fld 12 122 = some (12, 23) := by decide +kernel
theorem rf_182_23 {h : LH} (hF : RF h) : rd h 182 23 = 197 := hF 182 23 197 (by decide +kernel) (by decide +kernel)
theorem dd_worthAt_144 : decode mm_worthAt.2.1 144 = .ok (.iconst 0, 1) := by decide +kernel
theorem dd_worthAt_145 : decode mm_worthAt.2.1 145 = .ok (.iaload, 1) := by decide +kernel
theorem ia_197 : isA NC 197 1 = true := by decide +kernel
theorem la_197 : (lay (197 : Int).toNat).2.2 = 1100 := by decide +kernel
theorem dd_worthAt_146 : decode mm_worthAt.2.1 146 = .ok (.ireturn, 1) := by decide +kernel
theorem dd_worthAt_13 : decode mm_worthAt.2.1 13 = .ok (.aload_n 0, 1) := by decide +kernel
theorem dd_worthAt_14 : decode mm_worthAt.2.1 14 = .ok (.getfield 98, 3) := by decide +kernel
theorem dd_worthAt_17 : decode mm_worthAt.2.1 17 = .ok (.iload_n 3, 1) := by decide +kernel
theorem dd_worthAt_18 : decode mm_worthAt.2.1 18 = .ok (.iaload, 1) := by decide +kernel
theorem dd_worthAt_19 : decode mm_worthAt.2.1 19 = .ok (.istore 4, 2) := by decide +kernel
theorem dd_worthAt_21 : decode mm_worthAt.2.1 21 = .ok (.iload 4, 2) := by decide +kernel
theorem dd_worthAt_23 : decode mm_worthAt.2.1 23 = .ok (.iconst 1, 1) := by decide +kernel
theorem dd_worthAt_24 : decode mm_worthAt.2.1 24 = .ok (.if_icmp .eq (9), 3) := by decide +kernel
theorem dd_worthAt_33 : decode mm_worthAt.2.1 33 = .ok (.aload_n 0, 1) := by decide +kernel
theorem dd_worthAt_34 : decode mm_worthAt.2.1 34 = .ok (.getfield 122, 3) := by decide +kernel
theorem dd_worthAt_37 : decode mm_worthAt.2.1 37 = .ok (.iload_n 2, 1) := by decide +kernel
theorem dd_worthAt_38 : decode mm_worthAt.2.1 38 = .ok (.iload 4, 2) := by decide +kernel
theorem dd_worthAt_40 : decode mm_worthAt.2.1 40 = .ok (.iconst 1, 1) := by decide +kernel
theorem dd_worthAt_41 : decode mm_worthAt.2.1 41 = .ok (.if_icmp .ne (12), 3) := by decide +kernel
theorem dd_worthAt_53 : decode mm_worthAt.2.1 53 = .ok (.aload_n 0, 1) := by decide +kernel
theorem dd_worthAt_54 : decode mm_worthAt.2.1 54 = .ok (.getfield 119, 3) := by decide +kernel
theorem fd_12_119 : fld 12 119 = some (12, 22) := by decide +kernel
theorem rf_182_22 {h : LH} (hF : RF h) : rd h 182 22 = 196 := hF 182 22 196 (by decide +kernel) (by decide +kernel)
theorem dd_worthAt_57 : decode mm_worthAt.2.1 57 = .ok (.aload_n 0, 1) := by decide +kernel
theorem dd_worthAt_58 : decode mm_worthAt.2.1 58 = .ok (.getfield 101, 3) := by decide +kernel
theorem dd_worthAt_61 : decode mm_worthAt.2.1 61 = .ok (.iload_n 3, 1) := by decide +kernel
theorem dd_worthAt_62 : decode mm_worthAt.2.1 62 = .ok (.iaload, 1) := by decide +kernel
theorem dd_worthAt_63 : decode mm_worthAt.2.1 63 = .ok (.iaload, 1) := by decide +kernel
theorem ia_196 : isA NC 196 1 = true := by decide +kernel
theorem la_196 : (lay (196 : Int).toNat).2.2 = 4 := by decide +kernel
theorem dd_worthAt_64 : decode mm_worthAt.2.1 64 = .ok (.iastore, 1) := by decide +kernel
theorem dd_worthAt_65 : decode mm_worthAt.2.1 65 = .ok (.iinc 2 1, 3) := by decide +kernel
theorem dd_worthAt_68 : decode mm_worthAt.2.1 68 = .ok (.goto 66, 3) := by decide +kernel
theorem dd_worthAt_134 : decode mm_worthAt.2.1 134 = .ok (.iinc 3 1, 3) := by decide +kernel
theorem dd_worthAt_137 : decode mm_worthAt.2.1 137 = .ok (.goto (-133), 3) := by decide +kernel
theorem dd_worthAt_44 : decode mm_worthAt.2.1 44 = .ok (.aload_n 0, 1) := by decide +kernel
theorem dd_worthAt_45 : decode mm_worthAt.2.1 45 = .ok (.getfield 101, 3) := by decide +kernel
theorem dd_worthAt_48 : decode mm_worthAt.2.1 48 = .ok (.iload_n 3, 1) := by decide +kernel
theorem dd_worthAt_49 : decode mm_worthAt.2.1 49 = .ok (.iaload, 1) := by decide +kernel
theorem dd_worthAt_50 : decode mm_worthAt.2.1 50 = .ok (.goto 14, 3) := by decide +kernel
theorem dd_worthAt_27 : decode mm_worthAt.2.1 27 = .ok (.iload 4, 2) := by decide +kernel
theorem dd_worthAt_29 : decode mm_worthAt.2.1 29 = .ok (.iconst 2, 1) := by decide +kernel
theorem dd_worthAt_30 : decode mm_worthAt.2.1 30 = .ok (.if_icmp .ne (41), 3) := by decide +kernel
theorem dd_worthAt_71 : decode mm_worthAt.2.1 71 = .ok (.iload 4, 2) := by decide +kernel
theorem dd_worthAt_73 : decode mm_worthAt.2.1 73 = .ok (.iconst 3, 1) := by decide +kernel
theorem dd_worthAt_74 : decode mm_worthAt.2.1 74 = .ok (.if_icmp .ne (30), 3) := by decide +kernel
theorem dd_worthAt_104 : decode mm_worthAt.2.1 104 = .ok (.iinc 2 (-1), 3) := by decide +kernel
theorem dd_worthAt_107 : decode mm_worthAt.2.1 107 = .ok (.aload_n 0, 1) := by decide +kernel
theorem dd_worthAt_108 : decode mm_worthAt.2.1 108 = .ok (.getfield 122, 3) := by decide +kernel
theorem dd_worthAt_111 : decode mm_worthAt.2.1 111 = .ok (.iload_n 2, 1) := by decide +kernel
theorem dd_worthAt_112 : decode mm_worthAt.2.1 112 = .ok (.iconst 1, 1) := by decide +kernel
theorem dd_worthAt_113 : decode mm_worthAt.2.1 113 = .ok (.isub, 1) := by decide +kernel
theorem dd_worthAt_114 : decode mm_worthAt.2.1 114 = .ok (.iload 4, 2) := by decide +kernel
theorem dd_worthAt_116 : decode mm_worthAt.2.1 116 = .ok (.aload_n 0, 1) := by decide +kernel
theorem dd_worthAt_117 : decode mm_worthAt.2.1 117 = .ok (.getfield 122, 3) := by decide +kernel
theorem dd_worthAt_120 : decode mm_worthAt.2.1 120 = .ok (.iload_n 2, 1) := by decide +kernel
theorem dd_worthAt_121 : decode mm_worthAt.2.1 121 = .ok (.iconst 1, 1) := by decide +kernel
theorem dd_worthAt_122 : decode mm_worthAt.2.1 122 = .ok (.isub, 1) := by decide +kernel
theorem dd_worthAt_123 : decode mm_worthAt.2.1 123 = .ok (.iaload, 1) := by decide +kernel
theorem dd_worthAt_124 : decode mm_worthAt.2.1 124 = .ok (.aload_n 0, 1) := by decide +kernel
theorem dd_worthAt_125 : decode mm_worthAt.2.1 125 = .ok (.getfield 122, 3) := by decide +kernel
theorem dd_worthAt_128 : decode mm_worthAt.2.1 128 = .ok (.iload_n 2, 1) := by decide +kernel
theorem dd_worthAt_129 : decode mm_worthAt.2.1 129 = .ok (.iaload, 1) := by decide +kernel
theorem dd_worthAt_130 : decode mm_worthAt.2.1 130 = .ok (.invokestatic 316, 3) := by decide +kernel
theorem cw_12_316 : cwOk 12 316 1 211 3 3 12 = true := by decide +kernel
theorem mt_both : MTB 211 = some mm_both := rfl
theorem dd_worthAt_77 : decode mm_worthAt.2.1 77 = .ok (.aload_n 0, 1) := by decide +kernel
theorem dd_worthAt_78 : decode mm_worthAt.2.1 78 = .ok (.getfield 122, 3) := by decide +kernel
theorem dd_worthAt_81 : decode mm_worthAt.2.1 81 = .ok (.iload_n 2, 1) := by decide +kernel
theorem dd_worthAt_82 : decode mm_worthAt.2.1 82 = .ok (.iconst 1, 1) := by decide +kernel
theorem dd_worthAt_83 : decode mm_worthAt.2.1 83 = .ok (.isub, 1) := by decide +kernel
theorem dd_worthAt_84 : decode mm_worthAt.2.1 84 = .ok (.aload_n 0, 1) := by decide +kernel
theorem dd_worthAt_85 : decode mm_worthAt.2.1 85 = .ok (.getfield 122, 3) := by decide +kernel
theorem dd_worthAt_88 : decode mm_worthAt.2.1 88 = .ok (.iload_n 2, 1) := by decide +kernel
theorem dd_worthAt_89 : decode mm_worthAt.2.1 89 = .ok (.iconst 1, 1) := by decide +kernel
theorem dd_worthAt_90 : decode mm_worthAt.2.1 90 = .ok (.isub, 1) := by decide +kernel
theorem dd_worthAt_91 : decode mm_worthAt.2.1 91 = .ok (.iaload, 1) := by decide +kernel
theorem dd_worthAt_92 : decode mm_worthAt.2.1 92 = .ok (.ifCond .ne (7), 3) := by decide +kernel
theorem dd_worthAt_99 : decode mm_worthAt.2.1 99 = .ok (.iconst 0, 1) := by decide +kernel
theorem dd_worthAt_100 : decode mm_worthAt.2.1 100 = .ok (.iastore, 1) := by decide +kernel
theorem dd_worthAt_101 : decode mm_worthAt.2.1 101 = .ok (.goto 33, 3) := by decide +kernel
theorem dd_worthAt_95 : decode mm_worthAt.2.1 95 = .ok (.iconst 1, 1) := by decide +kernel
theorem dd_worthAt_96 : decode mm_worthAt.2.1 96 = .ok (.goto 4, 3) := by decide +kernel
theorem dd_worthAt_133 : decode mm_worthAt.2.1 133 = .ok (.iastore, 1) := by decide +kernel
theorem dd_leadsTo_0 : decode mm_leadsTo.2.1 0 = .ok (.aload_n 0, 1) := by decide +kernel
theorem dd_leadsTo_1 : decode mm_leadsTo.2.1 1 = .ok (.iload_n 1, 1) := by decide +kernel
theorem dd_leadsTo_2 : decode mm_leadsTo.2.1 2 = .ok (.iconst 0, 1) := by decide +kernel
theorem dd_leadsTo_3 : decode mm_leadsTo.2.1 3 = .ok (.invokevirtual 347, 3) := by decide +kernel
theorem cw_12_347 : cwOk 12 347 0 199 3 3 12 = true := by decide +kernel
theorem mt_doorOf : MTB 199 = some mm_doorOf := rfl
theorem dd_doorOf_0 : decode mm_doorOf.2.1 0 = .ok (.aload_n 0, 1) := by decide +kernel
theorem dd_doorOf_1 : decode mm_doorOf.2.1 1 = .ok (.getfield 95, 3) := by decide +kernel
theorem dd_doorOf_4 : decode mm_doorOf.2.1 4 = .ok (.iconst 4, 1) := by decide +kernel
theorem dd_doorOf_5 : decode mm_doorOf.2.1 5 = .ok (.bipush 8, 2) := by decide +kernel
theorem dd_doorOf_7 : decode mm_doorOf.2.1 7 = .ok (.iload_n 1, 1) := by decide +kernel
theorem dd_doorOf_8 : decode mm_doorOf.2.1 8 = .ok (.imul, 1) := by decide +kernel
theorem dd_doorOf_9 : decode mm_doorOf.2.1 9 = .ok (.iadd, 1) := by decide +kernel
theorem dd_doorOf_10 : decode mm_doorOf.2.1 10 = .ok (.iload_n 2, 1) := by decide +kernel
theorem dd_doorOf_11 : decode mm_doorOf.2.1 11 = .ok (.iadd, 1) := by decide +kernel
theorem dd_doorOf_12 : decode mm_doorOf.2.1 12 = .ok (.iaload, 1) := by decide +kernel
theorem dd_doorOf_13 : decode mm_doorOf.2.1 13 = .ok (.ireturn, 1) := by decide +kernel
theorem dd_leadsTo_6 : decode mm_leadsTo.2.1 6 = .ok (.iconst 1, 1) := by decide +kernel
theorem dd_leadsTo_7 : decode mm_leadsTo.2.1 7 = .ok (.if_icmp .ne (24), 3) := by decide +kernel
theorem dd_leadsTo_31 : decode mm_leadsTo.2.1 31 = .ok (.aload_n 0, 1) := by decide +kernel
theorem dd_leadsTo_32 : decode mm_leadsTo.2.1 32 = .ok (.iload_n 1, 1) := by decide +kernel
theorem dd_leadsTo_33 : decode mm_leadsTo.2.1 33 = .ok (.iconst 0, 1) := by decide +kernel
theorem dd_leadsTo_34 : decode mm_leadsTo.2.1 34 = .ok (.invokevirtual 347, 3) := by decide +kernel
theorem dd_leadsTo_37 : decode mm_leadsTo.2.1 37 = .ok (.iconst 1, 1) := by decide +kernel
theorem dd_leadsTo_38 : decode mm_leadsTo.2.1 38 = .ok (.if_icmp .eq (16), 3) := by decide +kernel
theorem dd_leadsTo_54 : decode mm_leadsTo.2.1 54 = .ok (.iconst 0, 1) := by decide +kernel
theorem dd_leadsTo_41 : decode mm_leadsTo.2.1 41 = .ok (.iload 6, 2) := by decide +kernel
theorem dd_leadsTo_43 : decode mm_leadsTo.2.1 43 = .ok (.iload_n 1, 1) := by decide +kernel
theorem dd_leadsTo_44 : decode mm_leadsTo.2.1 44 = .ok (.invokestatic 350, 3) := by decide +kernel
theorem dd_leadsTo_47 : decode mm_leadsTo.2.1 47 = .ok (.ifCond .eq (7), 3) := by decide +kernel
theorem dd_leadsTo_50 : decode mm_leadsTo.2.1 50 = .ok (.iconst 1, 1) := by decide +kernel
theorem dd_leadsTo_51 : decode mm_leadsTo.2.1 51 = .ok (.goto 4, 3) := by decide +kernel
theorem dd_leadsTo_10 : decode mm_leadsTo.2.1 10 = .ok (.iload 4, 2) := by decide +kernel
theorem dd_leadsTo_12 : decode mm_leadsTo.2.1 12 = .ok (.bipush 12, 2) := by decide +kernel
theorem dd_leadsTo_14 : decode mm_leadsTo.2.1 14 = .ok (.if_icmp .lt (7), 3) := by decide +kernel
theorem dd_leadsTo_21 : decode mm_leadsTo.2.1 21 = .ok (.iconst 0, 1) := by decide +kernel
theorem dd_leadsTo_22 : decode mm_leadsTo.2.1 22 = .ok (.iload 6, 2) := by decide +kernel
theorem dd_leadsTo_24 : decode mm_leadsTo.2.1 24 = .ok (.iload_n 1, 1) := by decide +kernel
theorem dd_leadsTo_25 : decode mm_leadsTo.2.1 25 = .ok (.invokestatic 350, 3) := by decide +kernel
theorem dd_leadsTo_28 : decode mm_leadsTo.2.1 28 = .ok (.if_icmp .ne (22), 3) := by decide +kernel
theorem dd_leadsTo_17 : decode mm_leadsTo.2.1 17 = .ok (.iconst 1, 1) := by decide +kernel
theorem dd_leadsTo_18 : decode mm_leadsTo.2.1 18 = .ok (.goto 4, 3) := by decide +kernel
theorem dd_leadsTo_55 : decode mm_leadsTo.2.1 55 = .ok (.istore 7, 2) := by decide +kernel
theorem dd_leadsTo_57 : decode mm_leadsTo.2.1 57 = .ok (.aload_n 0, 1) := by decide +kernel
theorem dd_leadsTo_58 : decode mm_leadsTo.2.1 58 = .ok (.iload_n 1, 1) := by decide +kernel
theorem dd_leadsTo_59 : decode mm_leadsTo.2.1 59 = .ok (.iload 7, 2) := by decide +kernel
theorem dd_leadsTo_61 : decode mm_leadsTo.2.1 61 = .ok (.ifCond .eq (7), 3) := by decide +kernel
theorem dd_leadsTo_68 : decode mm_leadsTo.2.1 68 = .ok (.iconst 1, 1) := by decide +kernel
theorem dd_leadsTo_69 : decode mm_leadsTo.2.1 69 = .ok (.invokevirtual 347, 3) := by decide +kernel
theorem dd_leadsTo_72 : decode mm_leadsTo.2.1 72 = .ok (.istore 8, 2) := by decide +kernel
theorem dd_leadsTo_74 : decode mm_leadsTo.2.1 74 = .ok (.aload_n 0, 1) := by decide +kernel
theorem dd_leadsTo_75 : decode mm_leadsTo.2.1 75 = .ok (.iload_n 1, 1) := by decide +kernel
theorem dd_leadsTo_76 : decode mm_leadsTo.2.1 76 = .ok (.iload 7, 2) := by decide +kernel
theorem dd_leadsTo_78 : decode mm_leadsTo.2.1 78 = .ok (.ifCond .eq (7), 3) := by decide +kernel
theorem dd_leadsTo_85 : decode mm_leadsTo.2.1 85 = .ok (.iconst 2, 1) := by decide +kernel
theorem dd_leadsTo_86 : decode mm_leadsTo.2.1 86 = .ok (.invokevirtual 347, 3) := by decide +kernel
theorem dd_leadsTo_89 : decode mm_leadsTo.2.1 89 = .ok (.istore 9, 2) := by decide +kernel
theorem dd_leadsTo_91 : decode mm_leadsTo.2.1 91 = .ok (.iload_n 3, 1) := by decide +kernel
theorem dd_leadsTo_92 : decode mm_leadsTo.2.1 92 = .ok (.iload 8, 2) := by decide +kernel
theorem dd_leadsTo_94 : decode mm_leadsTo.2.1 94 = .ok (.if_icmp .ne (8), 3) := by decide +kernel
theorem dd_leadsTo_102 : decode mm_leadsTo.2.1 102 = .ok (.iload_n 2, 1) := by decide +kernel
theorem dd_leadsTo_103 : decode mm_leadsTo.2.1 103 = .ok (.iconst 3, 1) := by decide +kernel
theorem dd_leadsTo_104 : decode mm_leadsTo.2.1 104 = .ok (.if_icmp .ne (14), 3) := by decide +kernel
theorem dd_leadsTo_118 : decode mm_leadsTo.2.1 118 = .ok (.iconst (-1), 1) := by decide +kernel
theorem dd_leadsTo_107 : decode mm_leadsTo.2.1 107 = .ok (.iload_n 3, 1) := by decide +kernel
theorem dd_leadsTo_108 : decode mm_leadsTo.2.1 108 = .ok (.iload 9, 2) := by decide +kernel
theorem dd_leadsTo_110 : decode mm_leadsTo.2.1 110 = .ok (.if_icmp .ne (8), 3) := by decide +kernel
theorem dd_leadsTo_113 : decode mm_leadsTo.2.1 113 = .ok (.iload 8, 2) := by decide +kernel
theorem dd_leadsTo_115 : decode mm_leadsTo.2.1 115 = .ok (.goto 4, 3) := by decide +kernel
theorem dd_leadsTo_97 : decode mm_leadsTo.2.1 97 = .ok (.iload 9, 2) := by decide +kernel
theorem dd_leadsTo_99 : decode mm_leadsTo.2.1 99 = .ok (.goto 20, 3) := by decide +kernel
theorem dd_leadsTo_81 : decode mm_leadsTo.2.1 81 = .ok (.iconst 1, 1) := by decide +kernel
theorem dd_leadsTo_82 : decode mm_leadsTo.2.1 82 = .ok (.goto 4, 3) := by decide +kernel
theorem dd_leadsTo_64 : decode mm_leadsTo.2.1 64 = .ok (.iconst 2, 1) := by decide +kernel
theorem dd_leadsTo_65 : decode mm_leadsTo.2.1 65 = .ok (.goto 4, 3) := by decide +kernel
theorem dd_leadsTo_119 : decode mm_leadsTo.2.1 119 = .ok (.istore 10, 2) := by decide +kernel
theorem dd_leadsTo_121 : decode mm_leadsTo.2.1 121 = .ok (.iload 10, 2) := by decide +kernel
theorem dd_leadsTo_123 : decode mm_leadsTo.2.1 123 = .ok (.ifCond .lt (72), 3) := by decide +kernel
theorem dd_leadsTo_195 : decode mm_leadsTo.2.1 195 = .ok (.iconst 0, 1) := by decide +kernel
theorem dd_leadsTo_126 : decode mm_leadsTo.2.1 126 = .ok (.iload 4, 2) := by decide +kernel
theorem dd_leadsTo_128 : decode mm_leadsTo.2.1 128 = .ok (.aload_n 0, 1) := by decide +kernel
theorem dd_leadsTo_129 : decode mm_leadsTo.2.1 129 = .ok (.iload_n 1, 1) := by decide +kernel
theorem dd_leadsTo_130 : decode mm_leadsTo.2.1 130 = .ok (.iconst 3, 1) := by decide +kernel
theorem dd_leadsTo_131 : decode mm_leadsTo.2.1 131 = .ok (.invokevirtual 347, 3) := by decide +kernel
theorem dd_leadsTo_134 : decode mm_leadsTo.2.1 134 = .ok (.if_icmp .lt (61), 3) := by decide +kernel
theorem dd_leadsTo_137 : decode mm_leadsTo.2.1 137 = .ok (.iload 4, 2) := by decide +kernel
theorem dd_leadsTo_139 : decode mm_leadsTo.2.1 139 = .ok (.aload_n 0, 1) := by decide +kernel
theorem dd_leadsTo_140 : decode mm_leadsTo.2.1 140 = .ok (.iload_n 1, 1) := by decide +kernel
theorem dd_leadsTo_141 : decode mm_leadsTo.2.1 141 = .ok (.iconst 4, 1) := by decide +kernel
theorem dd_leadsTo_142 : decode mm_leadsTo.2.1 142 = .ok (.invokevirtual 347, 3) := by decide +kernel
theorem dd_leadsTo_145 : decode mm_leadsTo.2.1 145 = .ok (.if_icmp .ge (50), 3) := by decide +kernel
theorem dd_leadsTo_148 : decode mm_leadsTo.2.1 148 = .ok (.aload_n 0, 1) := by decide +kernel
theorem dd_leadsTo_149 : decode mm_leadsTo.2.1 149 = .ok (.iload_n 1, 1) := by decide +kernel
theorem dd_leadsTo_150 : decode mm_leadsTo.2.1 150 = .ok (.iconst 0, 1) := by decide +kernel
theorem dd_leadsTo_151 : decode mm_leadsTo.2.1 151 = .ok (.invokevirtual 347, 3) := by decide +kernel
theorem dd_leadsTo_154 : decode mm_leadsTo.2.1 154 = .ok (.iconst 3, 1) := by decide +kernel
theorem dd_leadsTo_155 : decode mm_leadsTo.2.1 155 = .ok (.if_icmp .eq (40), 3) := by decide +kernel
theorem dd_leadsTo_158 : decode mm_leadsTo.2.1 158 = .ok (.iload 5, 2) := by decide +kernel
theorem dd_leadsTo_160 : decode mm_leadsTo.2.1 160 = .ok (.iload_n 1, 1) := by decide +kernel
theorem dd_leadsTo_161 : decode mm_leadsTo.2.1 161 = .ok (.invokestatic 350, 3) := by decide +kernel
theorem dd_leadsTo_164 : decode mm_leadsTo.2.1 164 = .ok (.ifCond .ne (31), 3) := by decide +kernel
theorem dd_leadsTo_167 : decode mm_leadsTo.2.1 167 = .ok (.aload_n 0, 1) := by decide +kernel
theorem dd_leadsTo_168 : decode mm_leadsTo.2.1 168 = .ok (.iload_n 1, 1) := by decide +kernel
theorem dd_leadsTo_169 : decode mm_leadsTo.2.1 169 = .ok (.iconst 5, 1) := by decide +kernel
theorem dd_leadsTo_170 : decode mm_leadsTo.2.1 170 = .ok (.invokevirtual 347, 3) := by decide +kernel
theorem dd_leadsTo_173 : decode mm_leadsTo.2.1 173 = .ok (.ifCond .lt (18), 3) := by decide +kernel
theorem dd_leadsTo_191 : decode mm_leadsTo.2.1 191 = .ok (.iconst 1, 1) := by decide +kernel
theorem dd_leadsTo_192 : decode mm_leadsTo.2.1 192 = .ok (.goto 4, 3) := by decide +kernel
theorem dd_leadsTo_176 : decode mm_leadsTo.2.1 176 = .ok (.aload_n 0, 1) := by decide +kernel
theorem dd_leadsTo_177 : decode mm_leadsTo.2.1 177 = .ok (.iload_n 1, 1) := by decide +kernel
theorem dd_leadsTo_178 : decode mm_leadsTo.2.1 178 = .ok (.iconst 5, 1) := by decide +kernel
theorem dd_leadsTo_179 : decode mm_leadsTo.2.1 179 = .ok (.invokevirtual 347, 3) := by decide +kernel
theorem dd_leadsTo_182 : decode mm_leadsTo.2.1 182 = .ok (.iload_n 2, 1) := by decide +kernel
theorem dd_leadsTo_183 : decode mm_leadsTo.2.1 183 = .ok (.if_icmp .eq (8), 3) := by decide +kernel
theorem dd_leadsTo_186 : decode mm_leadsTo.2.1 186 = .ok (.iload_n 2, 1) := by decide +kernel
theorem dd_leadsTo_187 : decode mm_leadsTo.2.1 187 = .ok (.iconst 3, 1) := by decide +kernel
theorem dd_leadsTo_188 : decode mm_leadsTo.2.1 188 = .ok (.if_icmp .ne (7), 3) := by decide +kernel
theorem dd_leadsTo_196 : decode mm_leadsTo.2.1 196 = .ok (.istore 11, 2) := by decide +kernel
theorem dd_leadsTo_198 : decode mm_leadsTo.2.1 198 = .ok (.iload 11, 2) := by decide +kernel
theorem dd_leadsTo_200 : decode mm_leadsTo.2.1 200 = .ok (.ifCond .ne (5), 3) := by decide +kernel
theorem dd_leadsTo_203 : decode mm_leadsTo.2.1 203 = .ok (.iconst (-1), 1) := by decide +kernel
theorem dd_leadsTo_204 : decode mm_leadsTo.2.1 204 = .ok (.ireturn, 1) := by decide +kernel
theorem dd_leadsTo_205 : decode mm_leadsTo.2.1 205 = .ok (.aload_n 0, 1) := by decide +kernel
theorem dd_leadsTo_206 : decode mm_leadsTo.2.1 206 = .ok (.getfield 119, 3) := by decide +kernel
theorem dd_leadsTo_209 : decode mm_leadsTo.2.1 209 = .ok (.iconst 0, 1) := by decide +kernel
theorem dd_leadsTo_210 : decode mm_leadsTo.2.1 210 = .ok (.iload 4, 2) := by decide +kernel
theorem dd_leadsTo_212 : decode mm_leadsTo.2.1 212 = .ok (.iastore, 1) := by decide +kernel
theorem dd_leadsTo_213 : decode mm_leadsTo.2.1 213 = .ok (.aload_n 0, 1) := by decide +kernel
theorem dd_leadsTo_214 : decode mm_leadsTo.2.1 214 = .ok (.getfield 119, 3) := by decide +kernel
theorem dd_leadsTo_217 : decode mm_leadsTo.2.1 217 = .ok (.iconst 1, 1) := by decide +kernel
theorem dd_leadsTo_218 : decode mm_leadsTo.2.1 218 = .ok (.iload_n 2, 1) := by decide +kernel
theorem dd_leadsTo_219 : decode mm_leadsTo.2.1 219 = .ok (.iastore, 1) := by decide +kernel
theorem dd_leadsTo_220 : decode mm_leadsTo.2.1 220 = .ok (.aload_n 0, 1) := by decide +kernel
theorem dd_leadsTo_221 : decode mm_leadsTo.2.1 221 = .ok (.getfield 119, 3) := by decide +kernel
theorem dd_leadsTo_224 : decode mm_leadsTo.2.1 224 = .ok (.iconst 2, 1) := by decide +kernel
theorem dd_leadsTo_225 : decode mm_leadsTo.2.1 225 = .ok (.aload_n 0, 1) := by decide +kernel
theorem dd_leadsTo_226 : decode mm_leadsTo.2.1 226 = .ok (.iload_n 1, 1) := by decide +kernel
theorem dd_leadsTo_227 : decode mm_leadsTo.2.1 227 = .ok (.invokevirtual 354, 3) := by decide +kernel
theorem cw_12_354 : cwOk 12 354 0 209 2 2 12 = true := by decide +kernel
theorem mt_priceOf : MTB 209 = some mm_priceOf := rfl
theorem dd_priceOf_0 : decode mm_priceOf.2.1 0 = .ok (.iload_n 1, 1) := by decide +kernel
theorem dd_priceOf_1 : decode mm_priceOf.2.1 1 = .ok (.aload_n 0, 1) := by decide +kernel
theorem dd_priceOf_2 : decode mm_priceOf.2.1 2 = .ok (.getfield 135, 3) := by decide +kernel
theorem fd_12_135 : fld 12 135 = some (12, 28) := by decide +kernel
theorem dd_priceOf_5 : decode mm_priceOf.2.1 5 = .ok (.if_icmp .ne (10), 3) := by decide +kernel
theorem dd_priceOf_15 : decode mm_priceOf.2.1 15 = .ok (.iload_n 1, 1) := by decide +kernel
theorem dd_priceOf_16 : decode mm_priceOf.2.1 16 = .ok (.aload_n 0, 1) := by decide +kernel
theorem dd_priceOf_17 : decode mm_priceOf.2.1 17 = .ok (.getfield 138, 3) := by decide +kernel
theorem fd_12_138 : fld 12 138 = some (12, 29) := by decide +kernel
theorem dd_priceOf_20 : decode mm_priceOf.2.1 20 = .ok (.if_icmp .ne (10), 3) := by decide +kernel
theorem dd_priceOf_30 : decode mm_priceOf.2.1 30 = .ok (.aload_n 0, 1) := by decide +kernel
theorem dd_priceOf_31 : decode mm_priceOf.2.1 31 = .ok (.iload_n 1, 1) := by decide +kernel
theorem dd_priceOf_32 : decode mm_priceOf.2.1 32 = .ok (.bipush 7, 2) := by decide +kernel
theorem dd_priceOf_34 : decode mm_priceOf.2.1 34 = .ok (.invokevirtual 347, 3) := by decide +kernel
theorem dd_priceOf_37 : decode mm_priceOf.2.1 37 = .ok (.ireturn, 1) := by decide +kernel
theorem dd_leadsTo_230 : decode mm_leadsTo.2.1 230 = .ok (.iastore, 1) := by decide +kernel
theorem dd_leadsTo_231 : decode mm_leadsTo.2.1 231 = .ok (.aload_n 0, 1) := by decide +kernel
theorem dd_leadsTo_232 : decode mm_leadsTo.2.1 232 = .ok (.getfield 119, 3) := by decide +kernel
theorem dd_leadsTo_235 : decode mm_leadsTo.2.1 235 = .ok (.iconst 3, 1) := by decide +kernel
theorem dd_leadsTo_236 : decode mm_leadsTo.2.1 236 = .ok (.iload 10, 2) := by decide +kernel
theorem dd_leadsTo_238 : decode mm_leadsTo.2.1 238 = .ok (.iastore, 1) := by decide +kernel
theorem dd_leadsTo_239 : decode mm_leadsTo.2.1 239 = .ok (.aload_n 0, 1) := by decide +kernel
theorem dd_leadsTo_240 : decode mm_leadsTo.2.1 240 = .ok (.getfield 95, 3) := by decide +kernel
theorem dd_leadsTo_243 : decode mm_leadsTo.2.1 243 = .ok (.iconst 3, 1) := by decide +kernel
theorem dd_leadsTo_244 : decode mm_leadsTo.2.1 244 = .ok (.iaload, 1) := by decide +kernel
theorem dd_leadsTo_245 : decode mm_leadsTo.2.1 245 = .ok (.ifCond .lt (16), 3) := by decide +kernel
theorem dd_leadsTo_261 : decode mm_leadsTo.2.1 261 = .ok (.iload 10, 2) := by decide +kernel
theorem dd_leadsTo_263 : decode mm_leadsTo.2.1 263 = .ok (.goto 4, 3) := by decide +kernel
theorem dd_leadsTo_267 : decode mm_leadsTo.2.1 267 = .ok (.ireturn, 1) := by decide +kernel
theorem dd_leadsTo_248 : decode mm_leadsTo.2.1 248 = .ok (.aload_n 0, 1) := by decide +kernel
theorem dd_leadsTo_249 : decode mm_leadsTo.2.1 249 = .ok (.aload_n 0, 1) := by decide +kernel
theorem dd_leadsTo_250 : decode mm_leadsTo.2.1 250 = .ok (.getfield 95, 3) := by decide +kernel
theorem dd_leadsTo_253 : decode mm_leadsTo.2.1 253 = .ok (.iconst 3, 1) := by decide +kernel
theorem dd_leadsTo_254 : decode mm_leadsTo.2.1 254 = .ok (.iaload, 1) := by decide +kernel
theorem dd_leadsTo_255 : decode mm_leadsTo.2.1 255 = .ok (.invokevirtual 357, 3) := by decide +kernel
theorem cw_12_357 : cwOk 12 357 0 210 2 5 12 = true := by decide +kernel
theorem mt_worthAt : MTB 210 = some mm_worthAt := rfl
theorem dd_priceOf_23 : decode mm_priceOf.2.1 23 = .ok (.aload_n 0, 1) := by decide +kernel
theorem dd_priceOf_24 : decode mm_priceOf.2.1 24 = .ok (.getfield 344, 3) := by decide +kernel
theorem fd_12_344 : fld 12 344 = some (12, 31) := by decide +kernel
theorem dd_priceOf_27 : decode mm_priceOf.2.1 27 = .ok (.goto 10, 3) := by decide +kernel
theorem dd_priceOf_8 : decode mm_priceOf.2.1 8 = .ok (.aload_n 0, 1) := by decide +kernel
theorem dd_priceOf_9 : decode mm_priceOf.2.1 9 = .ok (.getfield 341, 3) := by decide +kernel
theorem fd_12_341 : fld 12 341 = some (12, 30) := by decide +kernel
theorem dd_priceOf_12 : decode mm_priceOf.2.1 12 = .ok (.goto 25, 3) := by decide +kernel
theorem dd_leadsTo_258 : decode mm_leadsTo.2.1 258 = .ok (.ifCond .eq (8), 3) := by decide +kernel
theorem dd_leadsTo_266 : decode mm_leadsTo.2.1 266 = .ok (.iconst (-1), 1) := by decide +kernel
theorem dd_leadsNow_0 : decode mm_leadsNow.2.1 0 = .ok (.iload 5, 2) := by decide +kernel
theorem dd_leadsNow_2 : decode mm_leadsNow.2.1 2 = .ok (.bipush 24, 2) := by decide +kernel
theorem dd_leadsNow_4 : decode mm_leadsNow.2.1 4 = .ok (.if_icmp .ge (25), 3) := by decide +kernel
theorem dd_leadsNow_29 : decode mm_leadsNow.2.1 29 = .ok (.iconst (-1), 1) := by decide +kernel
theorem dd_leadsNow_30 : decode mm_leadsNow.2.1 30 = .ok (.ireturn, 1) := by decide +kernel
theorem dd_leadsNow_7 : decode mm_leadsNow.2.1 7 = .ok (.aload_n 0, 1) := by decide +kernel
theorem dd_leadsNow_8 : decode mm_leadsNow.2.1 8 = .ok (.iload_n 2, 1) := by decide +kernel
theorem dd_leadsNow_9 : decode mm_leadsNow.2.1 9 = .ok (.iload_n 3, 1) := by decide +kernel
theorem dd_leadsNow_10 : decode mm_leadsNow.2.1 10 = .ok (.iload 4, 2) := by decide +kernel
theorem dd_leadsNow_12 : decode mm_leadsNow.2.1 12 = .ok (.iload 5, 2) := by decide +kernel
theorem dd_leadsNow_14 : decode mm_leadsNow.2.1 14 = .ok (.aload_n 0, 1) := by decide +kernel
theorem dd_leadsNow_15 : decode mm_leadsNow.2.1 15 = .ok (.getfield 125, 3) := by decide +kernel
theorem dd_leadsNow_18 : decode mm_leadsNow.2.1 18 = .ok (.iload_n 1, 1) := by decide +kernel
theorem dd_leadsNow_19 : decode mm_leadsNow.2.1 19 = .ok (.iconst 1, 1) := by decide +kernel
theorem dd_leadsNow_20 : decode mm_leadsNow.2.1 20 = .ok (.iadd, 1) := by decide +kernel
theorem dd_leadsNow_21 : decode mm_leadsNow.2.1 21 = .ok (.iaload, 1) := by decide +kernel
theorem dd_leadsNow_22 : decode mm_leadsNow.2.1 22 = .ok (.iconst 0, 1) := by decide +kernel
theorem dd_leadsNow_23 : decode mm_leadsNow.2.1 23 = .ok (.invokevirtual 360, 3) := by decide +kernel
theorem cw_12_360 : cwOk 12 360 0 207 7 12 12 = true := by decide +kernel
theorem mt_leadsTo : MTB 207 = some mm_leadsTo := rfl
theorem dd_leadsNow_26 : decode mm_leadsNow.2.1 26 = .ok (.goto 4, 3) := by decide +kernel
theorem dd_toOf_0 : decode mm_toOf.2.1 0 = .ok (.aload_n 0, 1) := by decide +kernel
theorem dd_toOf_1 : decode mm_toOf.2.1 1 = .ok (.iconst 0, 1) := by decide +kernel
theorem dd_toOf_2 : decode mm_toOf.2.1 2 = .ok (.iload_n 1, 1) := by decide +kernel
theorem dd_toOf_3 : decode mm_toOf.2.1 3 = .ok (.iconst 0, 1) := by decide +kernel
theorem dd_toOf_4 : decode mm_toOf.2.1 4 = .ok (.iload_n 2, 1) := by decide +kernel
theorem dd_toOf_5 : decode mm_toOf.2.1 5 = .ok (.iload_n 3, 1) := by decide +kernel
theorem dd_toOf_6 : decode mm_toOf.2.1 6 = .ok (.invokevirtual 373, 3) := by decide +kernel
theorem cw_12_373 : cwOk 12 373 0 206 6 6 12 = true := by decide +kernel
theorem mt_leadsNow : MTB 206 = some mm_leadsNow := rfl
theorem dd_toOf_9 : decode mm_toOf.2.1 9 = .ok (.ireturn, 1) := by decide +kernel
theorem B_both_0 {xs : Nat → Int} {xl e : Nat} {h : LH} {Q : Option LV → LH → Prop} {v0 v1 v2 : Int} (hF : RF h)
    (k : (v0 = 4 →
        Q (some (.inl (w32 (v1 + v2)))) h) ∧
      (v0 = 5 →
        Q (some (.inl (w32 (v1 - v2)))) h) ∧
      (v0 = 6 →
        Q (some (.inl (w32 (v1 * v2)))) h) ∧
      (v0 = 7 →
        (v2 ≤ v1 →
          Q (some (.inl 0)) h) ∧
        (v1 < v2 →
          Q (some (.inl 1)) h)) ∧
      (v0 = 8 →
        (v1 ≠ v2 →
          Q (some (.inl 0)) h) ∧
        (v1 = v2 →
          Q (some (.inl 1)) h)) ∧
      (v0 = 9 →
        (v1 = 0 →
          Q (some (.inl 0)) h) ∧
        (v1 ≠ 0 →
          (v2 = 0 →
            Q (some (.inl 0)) h) ∧
          (v2 ≠ 0 →
            Q (some (.inl 1)) h))) ∧
      (v0 < 4 ∨ 9 < v0 →
        (v1 ≠ 0 →
          Q (some (.inl 1)) h) ∧
        (v1 = 0 →
          (v2 = 0 →
            Q (some (.inl 0)) h) ∧
          (v2 ≠ 0 →
            Q (some (.inl 1)) h)))) :
    Rn xs xl e mm_both 0 [some (.inl v0), some (.inl v1), some (.inl v2)] [] h Q := by
  refine R_ld (v := .inl v0) dd_both_0 rfl rfl rfl rfl ?_
  rcases (show (v0 = 4) ∨ (v0 = 5) ∨ (v0 = 6) ∨ (v0 = 7) ∨ (v0 = 8) ∨ (v0 = 9) ∨ (v0 < 4 ∨ 9 < v0) by omega) with c1 | c1 | c1 | c1 | c1 | c1 | c1
  · replace k := k.1 c1
    refine R_swj (v := 4) dd_both_1 c1 (by decide) rfl rfl ?_
    refine R_ld (v := .inl v1) dd_both_40 rfl rfl rfl rfl ?_
    refine R_ld (v := .inl v2) dd_both_41 rfl rfl rfl rfl ?_
    refine R_iaddw dd_both_42 rfl ?_
    exact R_iret dd_both_43 rfl k
  · replace k := k.2.1 c1
    refine R_swj (v := 5) dd_both_1 c1 (by decide) rfl rfl ?_
    refine R_ld (v := .inl v1) dd_both_44 rfl rfl rfl rfl ?_
    refine R_ld (v := .inl v2) dd_both_45 rfl rfl rfl rfl ?_
    refine R_isubw dd_both_46 rfl ?_
    exact R_iret dd_both_47 rfl k
  · replace k := k.2.2.1 c1
    refine R_swj (v := 6) dd_both_1 c1 (by decide) rfl rfl ?_
    refine R_ld (v := .inl v1) dd_both_48 rfl rfl rfl rfl ?_
    refine R_ld (v := .inl v2) dd_both_49 rfl rfl rfl rfl ?_
    refine R_imulw dd_both_50 rfl ?_
    exact R_iret dd_both_51 rfl k
  · replace k := k.2.2.2.1 c1
    refine R_swj (v := 7) dd_both_1 c1 (by decide) rfl rfl ?_
    refine R_ld (v := .inl v1) dd_both_52 rfl rfl rfl rfl ?_
    refine R_ld (v := .inl v2) dd_both_53 rfl rfl rfl rfl ?_
    refine R_icmp dd_both_54 rfl rfl (fun (c2 : v2 ≤ v1) => ?_) (fun (c2 : v1 < v2) => ?_)
    · replace k := k.1 c2
      refine R_ic dd_both_61 (by decide) rfl ?_
      exact R_iret dd_both_62 rfl k
    · replace k := k.2 c2
      refine R_ic dd_both_57 (by decide) rfl ?_
      refine R_goto dd_both_58 rfl ?_
      exact R_iret dd_both_62 rfl k
  · replace k := k.2.2.2.2.1 c1
    refine R_swj (v := 8) dd_both_1 c1 (by decide) rfl rfl ?_
    refine R_ld (v := .inl v1) dd_both_63 rfl rfl rfl rfl ?_
    refine R_ld (v := .inl v2) dd_both_64 rfl rfl rfl rfl ?_
    refine R_icmp dd_both_65 rfl rfl (fun (c3 : v1 ≠ v2) => ?_) (fun (c3 : v1 = v2) => ?_)
    · replace k := k.1 c3
      refine R_ic dd_both_72 (by decide) rfl ?_
      exact R_iret dd_both_73 rfl k
    · replace k := k.2 c3
      refine R_ic dd_both_68 (by decide) rfl ?_
      refine R_goto dd_both_69 rfl ?_
      exact R_iret dd_both_73 rfl k
  · replace k := k.2.2.2.2.2.1 c1
    refine R_swj (v := 9) dd_both_1 c1 (by decide) rfl rfl ?_
    refine R_ld (v := .inl v1) dd_both_74 rfl rfl rfl rfl ?_
    refine R_if dd_both_75 rfl rfl (fun (c4 : v1 = 0) => ?_) (fun (c4 : v1 ≠ 0) => ?_)
    · replace k := k.1 c4
      refine R_ic dd_both_86 (by decide) rfl ?_
      exact R_iret dd_both_87 rfl k
    · replace k := k.2 c4
      refine R_ld (v := .inl v2) dd_both_78 rfl rfl rfl rfl ?_
      refine R_if dd_both_79 rfl rfl (fun (c5 : v2 = 0) => ?_) (fun (c5 : v2 ≠ 0) => ?_)
      · replace k := k.1 c5
        refine R_ic dd_both_86 (by decide) rfl ?_
        exact R_iret dd_both_87 rfl k
      · replace k := k.2 c5
        refine R_ic dd_both_82 (by decide) rfl ?_
        refine R_goto dd_both_83 rfl ?_
        exact R_iret dd_both_87 rfl k
  · replace k := k.2.2.2.2.2.2 c1
    refine R_swd dd_both_1 c1 rfl ?_
    refine R_ld (v := .inl v1) dd_both_88 rfl rfl rfl rfl ?_
    refine R_if dd_both_89 rfl rfl (fun (c6 : v1 ≠ 0) => ?_) (fun (c6 : v1 = 0) => ?_)
    · replace k := k.1 c6
      refine R_ic dd_both_96 (by decide) rfl ?_
      refine R_goto dd_both_97 rfl ?_
      exact R_iret dd_both_101 rfl k
    · replace k := k.2 c6
      refine R_ld (v := .inl v2) dd_both_92 rfl rfl rfl rfl ?_
      refine R_if dd_both_93 rfl rfl (fun (c7 : v2 = 0) => ?_) (fun (c7 : v2 ≠ 0) => ?_)
      · replace k := k.1 c7
        refine R_ic dd_both_100 (by decide) rfl ?_
        exact R_iret dd_both_101 rfl k
      · replace k := k.2 c7
        refine R_ic dd_both_96 (by decide) rfl ?_
        refine R_goto dd_both_97 rfl ?_
        exact R_iret dd_both_101 rfl k
theorem B_worthAt_0 {xs : Nat → Int} {xl e : Nat} {h : LH} {Q : Option LV → LH → Prop} {v1 : Int} (hF : RF h)
    (k : Rn xs xl e mm_worthAt 4 [some (.inr (.inr 182)), some (.inl v1), some (.inl 0), some (.inl v1), none] [] h Q) :
    Rn xs xl e mm_worthAt 0 [some (.inr (.inr 182)), some (.inl v1), none, none, none] [] h Q := by
  refine R_ic dd_worthAt_0 (by decide) rfl ?_
  refine R_st (ls' := [some (.inr (.inr 182)), some (.inl v1), some (.inl 0), none, none]) dd_worthAt_1 rfl rfl rfl (Nat.le_of_ble_eq_true rfl) rfl rfl ?_
  refine R_ld (v := .inl v1) dd_worthAt_2 rfl rfl rfl rfl ?_
  refine R_st (ls' := [some (.inr (.inr 182)), some (.inl v1), some (.inl 0), some (.inl v1), none]) dd_worthAt_3 rfl rfl rfl (Nat.le_of_ble_eq_true rfl) rfl rfl ?_
  exact k
theorem B_worthAt_4 {xs : Nat → Int} {xl e : Nat} {h : LH} {Q : Option LV → LH → Prop} {v1 v2 v3 : Int} {o4 : Option LV} (hF : RF h)
    (k : (0 ≤ v3 ∧ v3 < 2200) ∧
      ((rd h 189 v3) = 0 →
        Q (some (.inl (rd h 197 0))) h) ∧
      ((rd h 189 v3) ≠ 0 →
        (0 ≤ v3 ∧ v3 < 2200) ∧
        ((rd h 189 v3) = 1 →
          ((rd h 189 v3) ≠ 1 →
            (0 ≤ v3 ∧ v3 < 2200) ∧
            (0 ≤ (rd h 190 v3) ∧ (rd h 190 v3) < 4) ∧
            (0 ≤ v2 ∧ v2 < 1100) ∧
            (-2147483648 ≤ v2 + 1 ∧ v2 + 1 ≤ 2147483647) ∧
            (-2147483648 ≤ v3 + 1 ∧ v3 + 1 ≤ 2147483647) ∧
            Rn xs xl e mm_worthAt 4 [some (.inr (.inr 182)), some (.inl v1), some (.inl (v2 + 1)), some (.inl (v3 + 1)), some (.inl (rd h 189 v3))] [] (wr h 197 v2 (rd h 196 (rd h 190 v3))) Q) ∧
          ((rd h 189 v3) = 1 →
            (0 ≤ v3 ∧ v3 < 2200) ∧
            (0 ≤ v2 ∧ v2 < 1100) ∧
            (-2147483648 ≤ v2 + 1 ∧ v2 + 1 ≤ 2147483647) ∧
            (-2147483648 ≤ v3 + 1 ∧ v3 + 1 ≤ 2147483647) ∧
            Rn xs xl e mm_worthAt 4 [some (.inr (.inr 182)), some (.inl v1), some (.inl (v2 + 1)), some (.inl (v3 + 1)), some (.inl (rd h 189 v3))] [] (wr h 197 v2 (rd h 190 v3)) Q)) ∧
        ((rd h 189 v3) ≠ 1 →
          ((rd h 189 v3) ≠ 2 →
            ((rd h 189 v3) ≠ 3 →
              (-2147483648 ≤ v2 - 1 ∧ v2 - 1 ≤ 2147483647) ∧
              (-2147483648 ≤ v2 - 2 ∧ v2 - 2 ≤ 2147483647) ∧
              (-2147483648 ≤ v2 - 2 ∧ v2 - 2 ≤ 2147483647) ∧
              (0 ≤ v2 - 2 ∧ v2 - 2 < 1100) ∧
              (0 ≤ v2 - 1 ∧ v2 - 1 < 1100) ∧
              (∃ c, c < e ∧ Rn xs xl c mm_both 0 [some (.inl (rd h 189 v3)), some (.inl (rd h 197 (v2 - 2))), some (.inl (rd h 197 (v2 - 1)))] [] h (fun r h' => Rn xs xl e mm_worthAt 133 [some (.inr (.inr 182)), some (.inl v1), some (.inl (v2 - 1)), some (.inl v3), some (.inl (rd h 189 v3))] (r.toList ++ [.inl (v2 - 2), .inr (.inr 197)]) h' Q))) ∧
            ((rd h 189 v3) = 3 →
              (-2147483648 ≤ v2 - 1 ∧ v2 - 1 ≤ 2147483647) ∧
              (-2147483648 ≤ v2 - 1 ∧ v2 - 1 ≤ 2147483647) ∧
              (0 ≤ v2 - 1 ∧ v2 - 1 < 1100) ∧
              ((rd h 197 (v2 - 1)) ≠ 0 →
                (0 ≤ v2 - 1 ∧ v2 - 1 < 1100) ∧
                (-2147483648 ≤ v3 + 1 ∧ v3 + 1 ≤ 2147483647) ∧
                Rn xs xl e mm_worthAt 4 [some (.inr (.inr 182)), some (.inl v1), some (.inl v2), some (.inl (v3 + 1)), some (.inl (rd h 189 v3))] [] (wr h 197 (v2 - 1) 0) Q) ∧
              ((rd h 197 (v2 - 1)) = 0 →
                (0 ≤ v2 - 1 ∧ v2 - 1 < 1100) ∧
                (-2147483648 ≤ v3 + 1 ∧ v3 + 1 ≤ 2147483647) ∧
                Rn xs xl e mm_worthAt 4 [some (.inr (.inr 182)), some (.inl v1), some (.inl v2), some (.inl (v3 + 1)), some (.inl (rd h 189 v3))] [] (wr h 197 (v2 - 1) 1) Q))) ∧
          ((rd h 189 v3) = 2 →
            ((rd h 189 v3) ≠ 1 →
              (0 ≤ v3 ∧ v3 < 2200) ∧
              (0 ≤ (rd h 190 v3) ∧ (rd h 190 v3) < 4) ∧
              (0 ≤ v2 ∧ v2 < 1100) ∧
              (-2147483648 ≤ v2 + 1 ∧ v2 + 1 ≤ 2147483647) ∧
              (-2147483648 ≤ v3 + 1 ∧ v3 + 1 ≤ 2147483647) ∧
              Rn xs xl e mm_worthAt 4 [some (.inr (.inr 182)), some (.inl v1), some (.inl (v2 + 1)), some (.inl (v3 + 1)), some (.inl (rd h 189 v3))] [] (wr h 197 v2 (rd h 196 (rd h 190 v3))) Q) ∧
            ((rd h 189 v3) = 1 →
              (0 ≤ v3 ∧ v3 < 2200) ∧
              (0 ≤ v2 ∧ v2 < 1100) ∧
              (-2147483648 ≤ v2 + 1 ∧ v2 + 1 ≤ 2147483647) ∧
              (-2147483648 ≤ v3 + 1 ∧ v3 + 1 ≤ 2147483647) ∧
              Rn xs xl e mm_worthAt 4 [some (.inr (.inr 182)), some (.inl v1), some (.inl (v2 + 1)), some (.inl (v3 + 1)), some (.inl (rd h 189 v3))] [] (wr h 197 v2 (rd h 190 v3)) Q))))) :
    Rn xs xl e mm_worthAt 4 [some (.inr (.inr 182)), some (.inl v1), some (.inl v2), some (.inl v3), o4] [] h Q := by
  refine R_ld (v := .inr (.inr 182)) dd_worthAt_4 rfl rfl rfl rfl ?_
  refine R_gf (v := .inr (.inr 189)) dd_worthAt_5 fd_12_98 io_182 (congrArg (fun z : Int => (Sum.inr (Sum.inr z) : LV)) (rf_182_11 hF)) rfl ?_
  refine R_ld (v := .inl v3) dd_worthAt_8 rfl rfl rfl rfl ?_
  obtain ⟨s1, k⟩ := k
  refine R_iald (v := (rd h 189 v3)) (n := 2200) dd_worthAt_9 ia_189 la_189 s1 (rfl) rfl ?_
  refine R_if dd_worthAt_10 rfl rfl (fun (c34 : (rd h 189 v3) = 0) => ?_) (fun (c34 : (rd h 189 v3) ≠ 0) => ?_)
  · replace k := k.1 c34
    refine R_ld (v := .inr (.inr 182)) dd_worthAt_140 rfl rfl rfl rfl ?_
    refine R_gf (v := .inr (.inr 197)) dd_worthAt_141 fd_12_122 io_182 (congrArg (fun z : Int => (Sum.inr (Sum.inr z) : LV)) (rf_182_23 hF)) rfl ?_
    refine R_ic dd_worthAt_144 (by decide) rfl ?_
    refine R_iald (v := (rd h 197 0)) (n := 1100) dd_worthAt_145 ia_197 la_197 (by decide) (rfl) rfl ?_
    exact R_iret dd_worthAt_146 rfl k
  · replace k := k.2 c34
    refine R_ld (v := .inr (.inr 182)) dd_worthAt_13 rfl rfl rfl rfl ?_
    refine R_gf (v := .inr (.inr 189)) dd_worthAt_14 fd_12_98 io_182 (congrArg (fun z : Int => (Sum.inr (Sum.inr z) : LV)) (rf_182_11 hF)) rfl ?_
    refine R_ld (v := .inl v3) dd_worthAt_17 rfl rfl rfl rfl ?_
    obtain ⟨s2, k⟩ := k
    refine R_iald (v := (rd h 189 v3)) (n := 2200) dd_worthAt_18 ia_189 la_189 s2 (rfl) rfl ?_
    refine R_st (ls' := [some (.inr (.inr 182)), some (.inl v1), some (.inl v2), some (.inl v3), some (.inl (rd h 189 v3))]) dd_worthAt_19 rfl rfl rfl (Nat.le_of_ble_eq_true rfl) rfl rfl ?_
    refine R_ld (v := .inl (rd h 189 v3)) dd_worthAt_21 rfl rfl rfl rfl ?_
    refine R_ic dd_worthAt_23 (by decide) rfl ?_
    refine R_icmp dd_worthAt_24 rfl rfl (fun (c35 : (rd h 189 v3) = 1) => ?_) (fun (c35 : (rd h 189 v3) ≠ 1) => ?_)
    · replace k := k.1 c35
      refine R_ld (v := .inr (.inr 182)) dd_worthAt_33 rfl rfl rfl rfl ?_
      refine R_gf (v := .inr (.inr 197)) dd_worthAt_34 fd_12_122 io_182 (congrArg (fun z : Int => (Sum.inr (Sum.inr z) : LV)) (rf_182_23 hF)) rfl ?_
      refine R_ld (v := .inl v2) dd_worthAt_37 rfl rfl rfl rfl ?_
      refine R_ld (v := .inl (rd h 189 v3)) dd_worthAt_38 rfl rfl rfl rfl ?_
      refine R_ic dd_worthAt_40 (by decide) rfl ?_
      refine R_icmp dd_worthAt_41 rfl rfl (fun (c36 : (rd h 189 v3) ≠ 1) => ?_) (fun (c36 : (rd h 189 v3) = 1) => ?_)
      · replace k := k.1 c36
        refine R_ld (v := .inr (.inr 182)) dd_worthAt_53 rfl rfl rfl rfl ?_
        refine R_gf (v := .inr (.inr 196)) dd_worthAt_54 fd_12_119 io_182 (congrArg (fun z : Int => (Sum.inr (Sum.inr z) : LV)) (rf_182_22 hF)) rfl ?_
        refine R_ld (v := .inr (.inr 182)) dd_worthAt_57 rfl rfl rfl rfl ?_
        refine R_gf (v := .inr (.inr 190)) dd_worthAt_58 fd_12_101 io_182 (congrArg (fun z : Int => (Sum.inr (Sum.inr z) : LV)) (rf_182_12 hF)) rfl ?_
        refine R_ld (v := .inl v3) dd_worthAt_61 rfl rfl rfl rfl ?_
        obtain ⟨s3, k⟩ := k
        refine R_iald (v := (rd h 190 v3)) (n := 2200) dd_worthAt_62 ia_190 la_190 s3 (rfl) rfl ?_
        obtain ⟨s4, k⟩ := k
        refine R_iald (v := (rd h 196 (rd h 190 v3))) (n := 4) dd_worthAt_63 ia_196 la_196 s4 (rfl) rfl ?_
        obtain ⟨s5, k⟩ := k
        refine R_iast (n := 1100) dd_worthAt_64 ia_197 la_197 s5 rfl ?_
        obtain ⟨s6, k⟩ := k
        refine R_inc (y := v2 + 1) (ls' := [some (.inr (.inr 182)), some (.inl v1), some (.inl (v2 + 1)), some (.inl v3), some (.inl (rd h 189 v3))]) dd_worthAt_65 rfl (by decide) (by omega) s6 rfl rfl ?_
        refine R_goto dd_worthAt_68 rfl ?_
        obtain ⟨s7, k⟩ := k
        refine R_inc (y := v3 + 1) (ls' := [some (.inr (.inr 182)), some (.inl v1), some (.inl (v2 + 1)), some (.inl (v3 + 1)), some (.inl (rd h 189 v3))]) dd_worthAt_134 rfl (by decide) (by omega) s7 rfl rfl ?_
        refine R_goto dd_worthAt_137 rfl ?_
        exact k
      · replace k := k.2 c36
        refine R_ld (v := .inr (.inr 182)) dd_worthAt_44 rfl rfl rfl rfl ?_
        refine R_gf (v := .inr (.inr 190)) dd_worthAt_45 fd_12_101 io_182 (congrArg (fun z : Int => (Sum.inr (Sum.inr z) : LV)) (rf_182_12 hF)) rfl ?_
        refine R_ld (v := .inl v3) dd_worthAt_48 rfl rfl rfl rfl ?_
        obtain ⟨s8, k⟩ := k
        refine R_iald (v := (rd h 190 v3)) (n := 2200) dd_worthAt_49 ia_190 la_190 s8 (rfl) rfl ?_
        refine R_goto dd_worthAt_50 rfl ?_
        obtain ⟨s9, k⟩ := k
        refine R_iast (n := 1100) dd_worthAt_64 ia_197 la_197 s9 rfl ?_
        obtain ⟨s10, k⟩ := k
        refine R_inc (y := v2 + 1) (ls' := [some (.inr (.inr 182)), some (.inl v1), some (.inl (v2 + 1)), some (.inl v3), some (.inl (rd h 189 v3))]) dd_worthAt_65 rfl (by decide) (by omega) s10 rfl rfl ?_
        refine R_goto dd_worthAt_68 rfl ?_
        obtain ⟨s11, k⟩ := k
        refine R_inc (y := v3 + 1) (ls' := [some (.inr (.inr 182)), some (.inl v1), some (.inl (v2 + 1)), some (.inl (v3 + 1)), some (.inl (rd h 189 v3))]) dd_worthAt_134 rfl (by decide) (by omega) s11 rfl rfl ?_
        refine R_goto dd_worthAt_137 rfl ?_
        exact k
    · replace k := k.2 c35
      refine R_ld (v := .inl (rd h 189 v3)) dd_worthAt_27 rfl rfl rfl rfl ?_
      refine R_ic dd_worthAt_29 (by decide) rfl ?_
      refine R_icmp dd_worthAt_30 rfl rfl (fun (c37 : (rd h 189 v3) ≠ 2) => ?_) (fun (c37 : (rd h 189 v3) = 2) => ?_)
      · replace k := k.1 c37
        refine R_ld (v := .inl (rd h 189 v3)) dd_worthAt_71 rfl rfl rfl rfl ?_
        refine R_ic dd_worthAt_73 (by decide) rfl ?_
        refine R_icmp dd_worthAt_74 rfl rfl (fun (c38 : (rd h 189 v3) ≠ 3) => ?_) (fun (c38 : (rd h 189 v3) = 3) => ?_)
        · replace k := k.1 c38
          obtain ⟨s12, k⟩ := k
          refine R_inc (y := v2 - 1) (ls' := [some (.inr (.inr 182)), some (.inl v1), some (.inl (v2 - 1)), some (.inl v3), some (.inl (rd h 189 v3))]) dd_worthAt_104 rfl (by decide) (by omega) s12 rfl rfl ?_
          refine R_ld (v := .inr (.inr 182)) dd_worthAt_107 rfl rfl rfl rfl ?_
          refine R_gf (v := .inr (.inr 197)) dd_worthAt_108 fd_12_122 io_182 (congrArg (fun z : Int => (Sum.inr (Sum.inr z) : LV)) (rf_182_23 hF)) rfl ?_
          refine R_ld (v := .inl (v2 - 1)) dd_worthAt_111 rfl rfl rfl rfl ?_
          refine R_ic dd_worthAt_112 (by decide) rfl ?_
          obtain ⟨s13, k⟩ := k
          refine R_isub (c := v2 - 2) dd_worthAt_113 (by omega) s13 rfl ?_
          refine R_ld (v := .inl (rd h 189 v3)) dd_worthAt_114 rfl rfl rfl rfl ?_
          refine R_ld (v := .inr (.inr 182)) dd_worthAt_116 rfl rfl rfl rfl ?_
          refine R_gf (v := .inr (.inr 197)) dd_worthAt_117 fd_12_122 io_182 (congrArg (fun z : Int => (Sum.inr (Sum.inr z) : LV)) (rf_182_23 hF)) rfl ?_
          refine R_ld (v := .inl (v2 - 1)) dd_worthAt_120 rfl rfl rfl rfl ?_
          refine R_ic dd_worthAt_121 (by decide) rfl ?_
          obtain ⟨s14, k⟩ := k
          refine R_isub (c := v2 - 2) dd_worthAt_122 (by omega) s14 rfl ?_
          obtain ⟨s15, k⟩ := k
          refine R_iald (v := (rd h 197 (v2 - 2))) (n := 1100) dd_worthAt_123 ia_197 la_197 s15 (rfl) rfl ?_
          refine R_ld (v := .inr (.inr 182)) dd_worthAt_124 rfl rfl rfl rfl ?_
          refine R_gf (v := .inr (.inr 197)) dd_worthAt_125 fd_12_122 io_182 (congrArg (fun z : Int => (Sum.inr (Sum.inr z) : LV)) (rf_182_23 hF)) rfl ?_
          refine R_ld (v := .inl (v2 - 1)) dd_worthAt_128 rfl rfl rfl rfl ?_
          obtain ⟨s16, k⟩ := k
          refine R_iald (v := (rd h 197 (v2 - 1))) (n := 1100) dd_worthAt_129 ia_197 la_197 s16 (rfl) rfl ?_
          obtain ⟨c, hc, k⟩ := k
          exact R_call (as := [.inl (rd h 189 v3), .inl (rd h 197 (v2 - 2)), .inl (rd h 197 (v2 - 1))]) (rest := [.inl (v2 - 2), .inr (.inr 197)]) (M' := mm_both) (ls0 := [some (.inl (rd h 189 v3)), some (.inl (rd h 197 (v2 - 2))), some (.inl (rd h 197 (v2 - 1)))]) dd_worthAt_130 rfl rfl (cw_s cw_12_316 rfl rfl (Nat.le_of_ble_eq_true rfl) (Nat.le_of_ble_eq_true rfl)) mt_both rfl hc rfl k
        · replace k := k.2 c38
          refine R_ld (v := .inr (.inr 182)) dd_worthAt_77 rfl rfl rfl rfl ?_
          refine R_gf (v := .inr (.inr 197)) dd_worthAt_78 fd_12_122 io_182 (congrArg (fun z : Int => (Sum.inr (Sum.inr z) : LV)) (rf_182_23 hF)) rfl ?_
          refine R_ld (v := .inl v2) dd_worthAt_81 rfl rfl rfl rfl ?_
          refine R_ic dd_worthAt_82 (by decide) rfl ?_
          obtain ⟨s18, k⟩ := k
          refine R_isub (c := v2 - 1) dd_worthAt_83 (by omega) s18 rfl ?_
          refine R_ld (v := .inr (.inr 182)) dd_worthAt_84 rfl rfl rfl rfl ?_
          refine R_gf (v := .inr (.inr 197)) dd_worthAt_85 fd_12_122 io_182 (congrArg (fun z : Int => (Sum.inr (Sum.inr z) : LV)) (rf_182_23 hF)) rfl ?_
          refine R_ld (v := .inl v2) dd_worthAt_88 rfl rfl rfl rfl ?_
          refine R_ic dd_worthAt_89 (by decide) rfl ?_
          obtain ⟨s19, k⟩ := k
          refine R_isub (c := v2 - 1) dd_worthAt_90 (by omega) s19 rfl ?_
          obtain ⟨s20, k⟩ := k
          refine R_iald (v := (rd h 197 (v2 - 1))) (n := 1100) dd_worthAt_91 ia_197 la_197 s20 (rfl) rfl ?_
          refine R_if dd_worthAt_92 rfl rfl (fun (c39 : (rd h 197 (v2 - 1)) ≠ 0) => ?_) (fun (c39 : (rd h 197 (v2 - 1)) = 0) => ?_)
          · replace k := k.1 c39
            refine R_ic dd_worthAt_99 (by decide) rfl ?_
            obtain ⟨s21, k⟩ := k
            refine R_iast (n := 1100) dd_worthAt_100 ia_197 la_197 s21 rfl ?_
            refine R_goto dd_worthAt_101 rfl ?_
            obtain ⟨s22, k⟩ := k
            refine R_inc (y := v3 + 1) (ls' := [some (.inr (.inr 182)), some (.inl v1), some (.inl v2), some (.inl (v3 + 1)), some (.inl (rd h 189 v3))]) dd_worthAt_134 rfl (by decide) (by omega) s22 rfl rfl ?_
            refine R_goto dd_worthAt_137 rfl ?_
            exact k
          · replace k := k.2 c39
            refine R_ic dd_worthAt_95 (by decide) rfl ?_
            refine R_goto dd_worthAt_96 rfl ?_
            obtain ⟨s23, k⟩ := k
            refine R_iast (n := 1100) dd_worthAt_100 ia_197 la_197 s23 rfl ?_
            refine R_goto dd_worthAt_101 rfl ?_
            obtain ⟨s24, k⟩ := k
            refine R_inc (y := v3 + 1) (ls' := [some (.inr (.inr 182)), some (.inl v1), some (.inl v2), some (.inl (v3 + 1)), some (.inl (rd h 189 v3))]) dd_worthAt_134 rfl (by decide) (by omega) s24 rfl rfl ?_
            refine R_goto dd_worthAt_137 rfl ?_
            exact k
      · replace k := k.2 c37
        refine R_ld (v := .inr (.inr 182)) dd_worthAt_33 rfl rfl rfl rfl ?_
        refine R_gf (v := .inr (.inr 197)) dd_worthAt_34 fd_12_122 io_182 (congrArg (fun z : Int => (Sum.inr (Sum.inr z) : LV)) (rf_182_23 hF)) rfl ?_
        refine R_ld (v := .inl v2) dd_worthAt_37 rfl rfl rfl rfl ?_
        refine R_ld (v := .inl (rd h 189 v3)) dd_worthAt_38 rfl rfl rfl rfl ?_
        refine R_ic dd_worthAt_40 (by decide) rfl ?_
        refine R_icmp dd_worthAt_41 rfl rfl (fun (c40 : (rd h 189 v3) ≠ 1) => ?_) (fun (c40 : (rd h 189 v3) = 1) => ?_)
        · replace k := k.1 c40
          refine R_ld (v := .inr (.inr 182)) dd_worthAt_53 rfl rfl rfl rfl ?_
          refine R_gf (v := .inr (.inr 196)) dd_worthAt_54 fd_12_119 io_182 (congrArg (fun z : Int => (Sum.inr (Sum.inr z) : LV)) (rf_182_22 hF)) rfl ?_
          refine R_ld (v := .inr (.inr 182)) dd_worthAt_57 rfl rfl rfl rfl ?_
          refine R_gf (v := .inr (.inr 190)) dd_worthAt_58 fd_12_101 io_182 (congrArg (fun z : Int => (Sum.inr (Sum.inr z) : LV)) (rf_182_12 hF)) rfl ?_
          refine R_ld (v := .inl v3) dd_worthAt_61 rfl rfl rfl rfl ?_
          obtain ⟨s25, k⟩ := k
          refine R_iald (v := (rd h 190 v3)) (n := 2200) dd_worthAt_62 ia_190 la_190 s25 (rfl) rfl ?_
          obtain ⟨s26, k⟩ := k
          refine R_iald (v := (rd h 196 (rd h 190 v3))) (n := 4) dd_worthAt_63 ia_196 la_196 s26 (rfl) rfl ?_
          obtain ⟨s27, k⟩ := k
          refine R_iast (n := 1100) dd_worthAt_64 ia_197 la_197 s27 rfl ?_
          obtain ⟨s28, k⟩ := k
          refine R_inc (y := v2 + 1) (ls' := [some (.inr (.inr 182)), some (.inl v1), some (.inl (v2 + 1)), some (.inl v3), some (.inl (rd h 189 v3))]) dd_worthAt_65 rfl (by decide) (by omega) s28 rfl rfl ?_
          refine R_goto dd_worthAt_68 rfl ?_
          obtain ⟨s29, k⟩ := k
          refine R_inc (y := v3 + 1) (ls' := [some (.inr (.inr 182)), some (.inl v1), some (.inl (v2 + 1)), some (.inl (v3 + 1)), some (.inl (rd h 189 v3))]) dd_worthAt_134 rfl (by decide) (by omega) s29 rfl rfl ?_
          refine R_goto dd_worthAt_137 rfl ?_
          exact k
        · replace k := k.2 c40
          refine R_ld (v := .inr (.inr 182)) dd_worthAt_44 rfl rfl rfl rfl ?_
          refine R_gf (v := .inr (.inr 190)) dd_worthAt_45 fd_12_101 io_182 (congrArg (fun z : Int => (Sum.inr (Sum.inr z) : LV)) (rf_182_12 hF)) rfl ?_
          refine R_ld (v := .inl v3) dd_worthAt_48 rfl rfl rfl rfl ?_
          obtain ⟨s30, k⟩ := k
          refine R_iald (v := (rd h 190 v3)) (n := 2200) dd_worthAt_49 ia_190 la_190 s30 (rfl) rfl ?_
          refine R_goto dd_worthAt_50 rfl ?_
          obtain ⟨s31, k⟩ := k
          refine R_iast (n := 1100) dd_worthAt_64 ia_197 la_197 s31 rfl ?_
          obtain ⟨s32, k⟩ := k
          refine R_inc (y := v2 + 1) (ls' := [some (.inr (.inr 182)), some (.inl v1), some (.inl (v2 + 1)), some (.inl v3), some (.inl (rd h 189 v3))]) dd_worthAt_65 rfl (by decide) (by omega) s32 rfl rfl ?_
          refine R_goto dd_worthAt_68 rfl ?_
          obtain ⟨s33, k⟩ := k
          refine R_inc (y := v3 + 1) (ls' := [some (.inr (.inr 182)), some (.inl v1), some (.inl (v2 + 1)), some (.inl (v3 + 1)), some (.inl (rd h 189 v3))]) dd_worthAt_134 rfl (by decide) (by omega) s33 rfl rfl ?_
          refine R_goto dd_worthAt_137 rfl ?_
          exact k
theorem B_worthAt_133 {xs : Nat → Int} {xl e : Nat} {h : LH} {Q : Option LV → LH → Prop} {v1 v2 v3 v4 w1 w2 : Int} (hF : RF h)
    (k : (0 ≤ w1 ∧ w1 < 1100) ∧
      (-2147483648 ≤ v3 + 1 ∧ v3 + 1 ≤ 2147483647) ∧
      Rn xs xl e mm_worthAt 4 [some (.inr (.inr 182)), some (.inl v1), some (.inl v2), some (.inl (v3 + 1)), some (.inl v4)] [] (wr h 197 w1 w2) Q) :
    Rn xs xl e mm_worthAt 133 [some (.inr (.inr 182)), some (.inl v1), some (.inl v2), some (.inl v3), some (.inl v4)] [.inl w2, .inl w1, .inr (.inr 197)] h Q := by
  obtain ⟨s1, k⟩ := k
  refine R_iast (n := 1100) dd_worthAt_133 ia_197 la_197 s1 rfl ?_
  obtain ⟨s2, k⟩ := k
  refine R_inc (y := v3 + 1) (ls' := [some (.inr (.inr 182)), some (.inl v1), some (.inl v2), some (.inl (v3 + 1)), some (.inl v4)]) dd_worthAt_134 rfl (by decide) (by omega) s2 rfl rfl ?_
  refine R_goto dd_worthAt_137 rfl ?_
  exact k
theorem B_leadsTo_0 {xs : Nat → Int} {xl e : Nat} {h : LH} {Q : Option LV → LH → Prop} {v1 v2 v3 v4 v5 v6 : Int} (hF : RF h) (he : 1 ≤ e)
    (k : (-2147483648 ≤ 8 * v1 ∧ 8 * v1 ≤ 2147483647) ∧
      (-2147483648 ≤ 8 * v1 + 4 ∧ 8 * v1 + 4 ≤ 2147483647) ∧
      (-2147483648 ≤ 8 * v1 + 4 ∧ 8 * v1 + 4 ≤ 2147483647) ∧
      (0 ≤ 8 * v1 + 4 ∧ 8 * v1 + 4 < 300) ∧
      ((rd h 188 (8 * v1 + 4)) ≠ 1 →
        (-2147483648 ≤ 8 * v1 ∧ 8 * v1 ≤ 2147483647) ∧
        (-2147483648 ≤ 8 * v1 + 4 ∧ 8 * v1 + 4 ≤ 2147483647) ∧
        (-2147483648 ≤ 8 * v1 + 4 ∧ 8 * v1 + 4 ≤ 2147483647) ∧
        (0 ≤ 8 * v1 + 4 ∧ 8 * v1 + 4 < 300) ∧
        ((rd h 188 (8 * v1 + 4)) = 1 →
          Rn xs xl e mm_leadsTo 55 [some (.inr (.inr 182)), some (.inl v1), some (.inl v2), some (.inl v3), some (.inl v4), some (.inl v5), some (.inl v6), none, none, none, none, none] [.inl 0] h Q) ∧
        ((rd h 188 (8 * v1 + 4)) ≠ 1 →
          ((zand (zshr v6 v1) 1) ≠ 1 →
            Rn xs xl e mm_leadsTo 55 [some (.inr (.inr 182)), some (.inl v1), some (.inl v2), some (.inl v3), some (.inl v4), some (.inl v5), some (.inl v6), none, none, none, none, none] [.inl 0] h Q) ∧
          ((zand (zshr v6 v1) 1) = 1 →
            Rn xs xl e mm_leadsTo 55 [some (.inr (.inr 182)), some (.inl v1), some (.inl v2), some (.inl v3), some (.inl v4), some (.inl v5), some (.inl v6), none, none, none, none, none] [.inl 1] h Q))) ∧
      ((rd h 188 (8 * v1 + 4)) = 1 →
        (v4 < 12 →
          ((zand (zshr v6 v1) 1) ≠ 1 →
            (-2147483648 ≤ 8 * v1 ∧ 8 * v1 ≤ 2147483647) ∧
            (-2147483648 ≤ 8 * v1 + 4 ∧ 8 * v1 + 4 ≤ 2147483647) ∧
            (-2147483648 ≤ 8 * v1 + 4 ∧ 8 * v1 + 4 ≤ 2147483647) ∧
            (0 ≤ 8 * v1 + 4 ∧ 8 * v1 + 4 < 300) ∧
            ((rd h 188 (8 * v1 + 4)) = 1 →
              Rn xs xl e mm_leadsTo 55 [some (.inr (.inr 182)), some (.inl v1), some (.inl v2), some (.inl v3), some (.inl v4), some (.inl v5), some (.inl v6), none, none, none, none, none] [.inl 0] h Q) ∧
            ((rd h 188 (8 * v1 + 4)) ≠ 1 →
              ((zand (zshr v6 v1) 1) ≠ 1 →
                Rn xs xl e mm_leadsTo 55 [some (.inr (.inr 182)), some (.inl v1), some (.inl v2), some (.inl v3), some (.inl v4), some (.inl v5), some (.inl v6), none, none, none, none, none] [.inl 0] h Q) ∧
              ((zand (zshr v6 v1) 1) = 1 →
                Rn xs xl e mm_leadsTo 55 [some (.inr (.inr 182)), some (.inl v1), some (.inl v2), some (.inl v3), some (.inl v4), some (.inl v5), some (.inl v6), none, none, none, none, none] [.inl 1] h Q))) ∧
          ((zand (zshr v6 v1) 1) = 1 →
            Rn xs xl e mm_leadsTo 55 [some (.inr (.inr 182)), some (.inl v1), some (.inl v2), some (.inl v3), some (.inl v4), some (.inl v5), some (.inl v6), none, none, none, none, none] [.inl 1] h Q)) ∧
        (12 ≤ v4 →
          ((zand (zshr v6 v1) 1) ≠ 1 →
            Rn xs xl e mm_leadsTo 55 [some (.inr (.inr 182)), some (.inl v1), some (.inl v2), some (.inl v3), some (.inl v4), some (.inl v5), some (.inl v6), none, none, none, none, none] [.inl 1] h Q) ∧
          ((zand (zshr v6 v1) 1) = 1 →
            (-2147483648 ≤ 8 * v1 ∧ 8 * v1 ≤ 2147483647) ∧
            (-2147483648 ≤ 8 * v1 + 4 ∧ 8 * v1 + 4 ≤ 2147483647) ∧
            (-2147483648 ≤ 8 * v1 + 4 ∧ 8 * v1 + 4 ≤ 2147483647) ∧
            (0 ≤ 8 * v1 + 4 ∧ 8 * v1 + 4 < 300) ∧
            ((rd h 188 (8 * v1 + 4)) = 1 →
              Rn xs xl e mm_leadsTo 55 [some (.inr (.inr 182)), some (.inl v1), some (.inl v2), some (.inl v3), some (.inl v4), some (.inl v5), some (.inl v6), none, none, none, none, none] [.inl 0] h Q) ∧
            ((rd h 188 (8 * v1 + 4)) ≠ 1 →
              ((zand (zshr v6 v1) 1) ≠ 1 →
                Rn xs xl e mm_leadsTo 55 [some (.inr (.inr 182)), some (.inl v1), some (.inl v2), some (.inl v3), some (.inl v4), some (.inl v5), some (.inl v6), none, none, none, none, none] [.inl 0] h Q) ∧
              ((zand (zshr v6 v1) 1) = 1 →
                Rn xs xl e mm_leadsTo 55 [some (.inr (.inr 182)), some (.inl v1), some (.inl v2), some (.inl v3), some (.inl v4), some (.inl v5), some (.inl v6), none, none, none, none, none] [.inl 1] h Q)))))) :
    Rn xs xl e mm_leadsTo 0 [some (.inr (.inr 182)), some (.inl v1), some (.inl v2), some (.inl v3), some (.inl v4), some (.inl v5), some (.inl v6), none, none, none, none, none] [] h Q := by
  refine R_ld (v := .inr (.inr 182)) dd_leadsTo_0 rfl rfl rfl rfl ?_
  refine R_ld (v := .inl v1) dd_leadsTo_1 rfl rfl rfl rfl ?_
  refine R_ic dd_leadsTo_2 (by decide) rfl ?_
  refine R_call (as := [.inr (.inr 182), .inl v1, .inl 0]) (rest := []) (M' := mm_doorOf) (ls0 := [some (.inr (.inr 182)), some (.inl v1), some (.inl 0)]) dd_leadsTo_3 rfl rfl (cw_v cw_12_347 io_182 rfl rfl (Nat.le_of_ble_eq_true rfl) (Nat.le_of_ble_eq_true rfl)) mt_doorOf rfl (c := e - 1) (by omega) rfl ?_
  refine R_ld (v := .inr (.inr 182)) dd_doorOf_0 rfl rfl rfl rfl ?_
  refine R_gf (v := .inr (.inr 188)) dd_doorOf_1 fd_12_95 io_182 (congrArg (fun z : Int => (Sum.inr (Sum.inr z) : LV)) (rf_182_10 hF)) rfl ?_
  refine R_ic dd_doorOf_4 (by decide) rfl ?_
  refine R_bi dd_doorOf_5 (by decide) rfl ?_
  refine R_ld (v := .inl v1) dd_doorOf_7 rfl rfl rfl rfl ?_
  obtain ⟨s1, k⟩ := k
  refine R_imul (c := 8 * v1) dd_doorOf_8 (by omega) s1 rfl ?_
  obtain ⟨s2, k⟩ := k
  refine R_iadd (c := 8 * v1 + 4) dd_doorOf_9 (by omega) s2 rfl ?_
  refine R_ld (v := .inl 0) dd_doorOf_10 rfl rfl rfl rfl ?_
  obtain ⟨s3, k⟩ := k
  refine R_iadd (c := 8 * v1 + 4) dd_doorOf_11 (by omega) s3 rfl ?_
  obtain ⟨s4, k⟩ := k
  refine R_iald (v := (rd h 188 (8 * v1 + 4))) (n := 300) dd_doorOf_12 ia_188 la_188 s4 (rfl) rfl ?_
  refine R_iret dd_doorOf_13 rfl ?_
  change Rn xs xl e mm_leadsTo 6 [some (.inr (.inr 182)), some (.inl v1), some (.inl v2), some (.inl v3), some (.inl v4), some (.inl v5), some (.inl v6), none, none, none, none, none] [.inl (rd h 188 (8 * v1 + 4))] h _
  refine R_ic dd_leadsTo_6 (by decide) rfl ?_
  refine R_icmp dd_leadsTo_7 rfl rfl (fun (c17 : (rd h 188 (8 * v1 + 4)) ≠ 1) => ?_) (fun (c17 : (rd h 188 (8 * v1 + 4)) = 1) => ?_)
  · replace k := k.1 c17
    refine R_ld (v := .inr (.inr 182)) dd_leadsTo_31 rfl rfl rfl rfl ?_
    refine R_ld (v := .inl v1) dd_leadsTo_32 rfl rfl rfl rfl ?_
    refine R_ic dd_leadsTo_33 (by decide) rfl ?_
    refine R_call (as := [.inr (.inr 182), .inl v1, .inl 0]) (rest := []) (M' := mm_doorOf) (ls0 := [some (.inr (.inr 182)), some (.inl v1), some (.inl 0)]) dd_leadsTo_34 rfl rfl (cw_v cw_12_347 io_182 rfl rfl (Nat.le_of_ble_eq_true rfl) (Nat.le_of_ble_eq_true rfl)) mt_doorOf rfl (c := e - 1) (by omega) rfl ?_
    refine R_ld (v := .inr (.inr 182)) dd_doorOf_0 rfl rfl rfl rfl ?_
    refine R_gf (v := .inr (.inr 188)) dd_doorOf_1 fd_12_95 io_182 (congrArg (fun z : Int => (Sum.inr (Sum.inr z) : LV)) (rf_182_10 hF)) rfl ?_
    refine R_ic dd_doorOf_4 (by decide) rfl ?_
    refine R_bi dd_doorOf_5 (by decide) rfl ?_
    refine R_ld (v := .inl v1) dd_doorOf_7 rfl rfl rfl rfl ?_
    obtain ⟨s5, k⟩ := k
    refine R_imul (c := 8 * v1) dd_doorOf_8 (by omega) s5 rfl ?_
    obtain ⟨s6, k⟩ := k
    refine R_iadd (c := 8 * v1 + 4) dd_doorOf_9 (by omega) s6 rfl ?_
    refine R_ld (v := .inl 0) dd_doorOf_10 rfl rfl rfl rfl ?_
    obtain ⟨s7, k⟩ := k
    refine R_iadd (c := 8 * v1 + 4) dd_doorOf_11 (by omega) s7 rfl ?_
    obtain ⟨s8, k⟩ := k
    refine R_iald (v := (rd h 188 (8 * v1 + 4))) (n := 300) dd_doorOf_12 ia_188 la_188 s8 (rfl) rfl ?_
    refine R_iret dd_doorOf_13 rfl ?_
    change Rn xs xl e mm_leadsTo 37 [some (.inr (.inr 182)), some (.inl v1), some (.inl v2), some (.inl v3), some (.inl v4), some (.inl v5), some (.inl v6), none, none, none, none, none] [.inl (rd h 188 (8 * v1 + 4))] h _
    refine R_ic dd_leadsTo_37 (by decide) rfl ?_
    refine R_icmp dd_leadsTo_38 rfl rfl (fun (c18 : (rd h 188 (8 * v1 + 4)) = 1) => ?_) (fun (c18 : (rd h 188 (8 * v1 + 4)) ≠ 1) => ?_)
    · replace k := k.1 c18
      refine R_ic dd_leadsTo_54 (by decide) rfl ?_
      exact k
    · replace k := k.2 c18
      refine R_ld (v := .inl v6) dd_leadsTo_41 rfl rfl rfl rfl ?_
      refine R_ld (v := .inl v1) dd_leadsTo_43 rfl rfl rfl rfl ?_
      refine R_call (as := [.inl v6, .inl v1]) (rest := []) (M' := mm_isIn) (ls0 := [some (.inl v6), some (.inl v1)]) dd_leadsTo_44 rfl rfl (cw_s cw_12_350 rfl rfl (Nat.le_of_ble_eq_true rfl) (Nat.le_of_ble_eq_true rfl)) mt_isIn rfl (c := e - 1) (by omega) rfl ?_
      refine R_ld (v := .inl v6) dd_isIn_0 rfl rfl rfl rfl ?_
      refine R_ld (v := .inl v1) dd_isIn_1 rfl rfl rfl rfl ?_
      refine R_A dd_isIn_2 rfl rfl rfl rfl ?_
      refine R_ic dd_isIn_3 (by decide) rfl ?_
      refine R_A dd_isIn_4 rfl rfl rfl rfl ?_
      refine R_ic dd_isIn_5 (by decide) rfl ?_
      refine R_icmp dd_isIn_6 rfl rfl (fun (c19 : (zand (zshr v6 v1) 1) ≠ 1) => ?_) (fun (c19 : (zand (zshr v6 v1) 1) = 1) => ?_)
      · replace k := k.1 c19
        refine R_ic dd_isIn_13 (by decide) rfl ?_
        refine R_zret dd_isIn_14 rfl (by decide) ?_
        change Rn xs xl e mm_leadsTo 47 [some (.inr (.inr 182)), some (.inl v1), some (.inl v2), some (.inl v3), some (.inl v4), some (.inl v5), some (.inl v6), none, none, none, none, none] [.inl 0] h _
        refine R_if dd_leadsTo_47 rfl rfl (fun (c20 : 0 = 0) => ?_) (fun (c20 : 0 ≠ 0) => ?_)
        · skip
          refine R_ic dd_leadsTo_54 (by decide) rfl ?_
          exact k
        · exact absurd c20 (by omega)
      · replace k := k.2 c19
        refine R_ic dd_isIn_9 (by decide) rfl ?_
        refine R_goto dd_isIn_10 rfl ?_
        refine R_zret dd_isIn_14 rfl (by decide) ?_
        change Rn xs xl e mm_leadsTo 47 [some (.inr (.inr 182)), some (.inl v1), some (.inl v2), some (.inl v3), some (.inl v4), some (.inl v5), some (.inl v6), none, none, none, none, none] [.inl 1] h _
        refine R_if dd_leadsTo_47 rfl rfl (fun (c21 : 1 = 0) => ?_) (fun (c21 : 1 ≠ 0) => ?_)
        · exact absurd c21 (by omega)
        · skip
          refine R_ic dd_leadsTo_50 (by decide) rfl ?_
          refine R_goto dd_leadsTo_51 rfl ?_
          exact k
  · replace k := k.2 c17
    refine R_ld (v := .inl v4) dd_leadsTo_10 rfl rfl rfl rfl ?_
    refine R_bi dd_leadsTo_12 (by decide) rfl ?_
    refine R_icmp dd_leadsTo_14 rfl rfl (fun (c22 : v4 < 12) => ?_) (fun (c22 : 12 ≤ v4) => ?_)
    · replace k := k.1 c22
      refine R_ic dd_leadsTo_21 (by decide) rfl ?_
      refine R_ld (v := .inl v6) dd_leadsTo_22 rfl rfl rfl rfl ?_
      refine R_ld (v := .inl v1) dd_leadsTo_24 rfl rfl rfl rfl ?_
      refine R_call (as := [.inl v6, .inl v1]) (rest := [.inl 0]) (M' := mm_isIn) (ls0 := [some (.inl v6), some (.inl v1)]) dd_leadsTo_25 rfl rfl (cw_s cw_12_350 rfl rfl (Nat.le_of_ble_eq_true rfl) (Nat.le_of_ble_eq_true rfl)) mt_isIn rfl (c := e - 1) (by omega) rfl ?_
      refine R_ld (v := .inl v6) dd_isIn_0 rfl rfl rfl rfl ?_
      refine R_ld (v := .inl v1) dd_isIn_1 rfl rfl rfl rfl ?_
      refine R_A dd_isIn_2 rfl rfl rfl rfl ?_
      refine R_ic dd_isIn_3 (by decide) rfl ?_
      refine R_A dd_isIn_4 rfl rfl rfl rfl ?_
      refine R_ic dd_isIn_5 (by decide) rfl ?_
      refine R_icmp dd_isIn_6 rfl rfl (fun (c23 : (zand (zshr v6 v1) 1) ≠ 1) => ?_) (fun (c23 : (zand (zshr v6 v1) 1) = 1) => ?_)
      · replace k := k.1 c23
        refine R_ic dd_isIn_13 (by decide) rfl ?_
        refine R_zret dd_isIn_14 rfl (by decide) ?_
        change Rn xs xl e mm_leadsTo 28 [some (.inr (.inr 182)), some (.inl v1), some (.inl v2), some (.inl v3), some (.inl v4), some (.inl v5), some (.inl v6), none, none, none, none, none] [.inl 0, .inl 0] h _
        refine R_icmp dd_leadsTo_28 rfl rfl (fun (c24 : 0 ≠ 0) => ?_) (fun (c24 : 0 = 0) => ?_)
        · exact absurd c24 (by omega)
        · skip
          refine R_ld (v := .inr (.inr 182)) dd_leadsTo_31 rfl rfl rfl rfl ?_
          refine R_ld (v := .inl v1) dd_leadsTo_32 rfl rfl rfl rfl ?_
          refine R_ic dd_leadsTo_33 (by decide) rfl ?_
          refine R_call (as := [.inr (.inr 182), .inl v1, .inl 0]) (rest := []) (M' := mm_doorOf) (ls0 := [some (.inr (.inr 182)), some (.inl v1), some (.inl 0)]) dd_leadsTo_34 rfl rfl (cw_v cw_12_347 io_182 rfl rfl (Nat.le_of_ble_eq_true rfl) (Nat.le_of_ble_eq_true rfl)) mt_doorOf rfl (c := e - 1) (by omega) rfl ?_
          refine R_ld (v := .inr (.inr 182)) dd_doorOf_0 rfl rfl rfl rfl ?_
          refine R_gf (v := .inr (.inr 188)) dd_doorOf_1 fd_12_95 io_182 (congrArg (fun z : Int => (Sum.inr (Sum.inr z) : LV)) (rf_182_10 hF)) rfl ?_
          refine R_ic dd_doorOf_4 (by decide) rfl ?_
          refine R_bi dd_doorOf_5 (by decide) rfl ?_
          refine R_ld (v := .inl v1) dd_doorOf_7 rfl rfl rfl rfl ?_
          obtain ⟨s9, k⟩ := k
          refine R_imul (c := 8 * v1) dd_doorOf_8 (by omega) s9 rfl ?_
          obtain ⟨s10, k⟩ := k
          refine R_iadd (c := 8 * v1 + 4) dd_doorOf_9 (by omega) s10 rfl ?_
          refine R_ld (v := .inl 0) dd_doorOf_10 rfl rfl rfl rfl ?_
          obtain ⟨s11, k⟩ := k
          refine R_iadd (c := 8 * v1 + 4) dd_doorOf_11 (by omega) s11 rfl ?_
          obtain ⟨s12, k⟩ := k
          refine R_iald (v := (rd h 188 (8 * v1 + 4))) (n := 300) dd_doorOf_12 ia_188 la_188 s12 (rfl) rfl ?_
          refine R_iret dd_doorOf_13 rfl ?_
          change Rn xs xl e mm_leadsTo 37 [some (.inr (.inr 182)), some (.inl v1), some (.inl v2), some (.inl v3), some (.inl v4), some (.inl v5), some (.inl v6), none, none, none, none, none] [.inl (rd h 188 (8 * v1 + 4))] h _
          refine R_ic dd_leadsTo_37 (by decide) rfl ?_
          refine R_icmp dd_leadsTo_38 rfl rfl (fun (c25 : (rd h 188 (8 * v1 + 4)) = 1) => ?_) (fun (c25 : (rd h 188 (8 * v1 + 4)) ≠ 1) => ?_)
          · replace k := k.1 c25
            refine R_ic dd_leadsTo_54 (by decide) rfl ?_
            exact k
          · replace k := k.2 c25
            refine R_ld (v := .inl v6) dd_leadsTo_41 rfl rfl rfl rfl ?_
            refine R_ld (v := .inl v1) dd_leadsTo_43 rfl rfl rfl rfl ?_
            refine R_call (as := [.inl v6, .inl v1]) (rest := []) (M' := mm_isIn) (ls0 := [some (.inl v6), some (.inl v1)]) dd_leadsTo_44 rfl rfl (cw_s cw_12_350 rfl rfl (Nat.le_of_ble_eq_true rfl) (Nat.le_of_ble_eq_true rfl)) mt_isIn rfl (c := e - 1) (by omega) rfl ?_
            refine R_ld (v := .inl v6) dd_isIn_0 rfl rfl rfl rfl ?_
            refine R_ld (v := .inl v1) dd_isIn_1 rfl rfl rfl rfl ?_
            refine R_A dd_isIn_2 rfl rfl rfl rfl ?_
            refine R_ic dd_isIn_3 (by decide) rfl ?_
            refine R_A dd_isIn_4 rfl rfl rfl rfl ?_
            refine R_ic dd_isIn_5 (by decide) rfl ?_
            refine R_icmp dd_isIn_6 rfl rfl (fun (c26 : (zand (zshr v6 v1) 1) ≠ 1) => ?_) (fun (c26 : (zand (zshr v6 v1) 1) = 1) => ?_)
            · replace k := k.1 c26
              refine R_ic dd_isIn_13 (by decide) rfl ?_
              refine R_zret dd_isIn_14 rfl (by decide) ?_
              change Rn xs xl e mm_leadsTo 47 [some (.inr (.inr 182)), some (.inl v1), some (.inl v2), some (.inl v3), some (.inl v4), some (.inl v5), some (.inl v6), none, none, none, none, none] [.inl 0] h _
              refine R_if dd_leadsTo_47 rfl rfl (fun (c27 : 0 = 0) => ?_) (fun (c27 : 0 ≠ 0) => ?_)
              · skip
                refine R_ic dd_leadsTo_54 (by decide) rfl ?_
                exact k
              · exact absurd c27 (by omega)
            · replace k := k.2 c26
              refine R_ic dd_isIn_9 (by decide) rfl ?_
              refine R_goto dd_isIn_10 rfl ?_
              refine R_zret dd_isIn_14 rfl (by decide) ?_
              change Rn xs xl e mm_leadsTo 47 [some (.inr (.inr 182)), some (.inl v1), some (.inl v2), some (.inl v3), some (.inl v4), some (.inl v5), some (.inl v6), none, none, none, none, none] [.inl 1] h _
              refine R_if dd_leadsTo_47 rfl rfl (fun (c28 : 1 = 0) => ?_) (fun (c28 : 1 ≠ 0) => ?_)
              · exact absurd c28 (by omega)
              · skip
                refine R_ic dd_leadsTo_50 (by decide) rfl ?_
                refine R_goto dd_leadsTo_51 rfl ?_
                exact k
      · replace k := k.2 c23
        refine R_ic dd_isIn_9 (by decide) rfl ?_
        refine R_goto dd_isIn_10 rfl ?_
        refine R_zret dd_isIn_14 rfl (by decide) ?_
        change Rn xs xl e mm_leadsTo 28 [some (.inr (.inr 182)), some (.inl v1), some (.inl v2), some (.inl v3), some (.inl v4), some (.inl v5), some (.inl v6), none, none, none, none, none] [.inl 1, .inl 0] h _
        refine R_icmp dd_leadsTo_28 rfl rfl (fun (c29 : 0 ≠ 1) => ?_) (fun (c29 : 0 = 1) => ?_)
        · skip
          refine R_ic dd_leadsTo_50 (by decide) rfl ?_
          refine R_goto dd_leadsTo_51 rfl ?_
          exact k
        · exact absurd c29 (by omega)
    · replace k := k.2 c22
      refine R_ic dd_leadsTo_17 (by decide) rfl ?_
      refine R_goto dd_leadsTo_18 rfl ?_
      refine R_ld (v := .inl v6) dd_leadsTo_22 rfl rfl rfl rfl ?_
      refine R_ld (v := .inl v1) dd_leadsTo_24 rfl rfl rfl rfl ?_
      refine R_call (as := [.inl v6, .inl v1]) (rest := [.inl 1]) (M' := mm_isIn) (ls0 := [some (.inl v6), some (.inl v1)]) dd_leadsTo_25 rfl rfl (cw_s cw_12_350 rfl rfl (Nat.le_of_ble_eq_true rfl) (Nat.le_of_ble_eq_true rfl)) mt_isIn rfl (c := e - 1) (by omega) rfl ?_
      refine R_ld (v := .inl v6) dd_isIn_0 rfl rfl rfl rfl ?_
      refine R_ld (v := .inl v1) dd_isIn_1 rfl rfl rfl rfl ?_
      refine R_A dd_isIn_2 rfl rfl rfl rfl ?_
      refine R_ic dd_isIn_3 (by decide) rfl ?_
      refine R_A dd_isIn_4 rfl rfl rfl rfl ?_
      refine R_ic dd_isIn_5 (by decide) rfl ?_
      refine R_icmp dd_isIn_6 rfl rfl (fun (c30 : (zand (zshr v6 v1) 1) ≠ 1) => ?_) (fun (c30 : (zand (zshr v6 v1) 1) = 1) => ?_)
      · replace k := k.1 c30
        refine R_ic dd_isIn_13 (by decide) rfl ?_
        refine R_zret dd_isIn_14 rfl (by decide) ?_
        change Rn xs xl e mm_leadsTo 28 [some (.inr (.inr 182)), some (.inl v1), some (.inl v2), some (.inl v3), some (.inl v4), some (.inl v5), some (.inl v6), none, none, none, none, none] [.inl 0, .inl 1] h _
        refine R_icmp dd_leadsTo_28 rfl rfl (fun (c31 : 1 ≠ 0) => ?_) (fun (c31 : 1 = 0) => ?_)
        · skip
          refine R_ic dd_leadsTo_50 (by decide) rfl ?_
          refine R_goto dd_leadsTo_51 rfl ?_
          exact k
        · exact absurd c31 (by omega)
      · replace k := k.2 c30
        refine R_ic dd_isIn_9 (by decide) rfl ?_
        refine R_goto dd_isIn_10 rfl ?_
        refine R_zret dd_isIn_14 rfl (by decide) ?_
        change Rn xs xl e mm_leadsTo 28 [some (.inr (.inr 182)), some (.inl v1), some (.inl v2), some (.inl v3), some (.inl v4), some (.inl v5), some (.inl v6), none, none, none, none, none] [.inl 1, .inl 1] h _
        refine R_icmp dd_leadsTo_28 rfl rfl (fun (c32 : 1 ≠ 1) => ?_) (fun (c32 : 1 = 1) => ?_)
        · exact absurd c32 (by omega)
        · skip
          refine R_ld (v := .inr (.inr 182)) dd_leadsTo_31 rfl rfl rfl rfl ?_
          refine R_ld (v := .inl v1) dd_leadsTo_32 rfl rfl rfl rfl ?_
          refine R_ic dd_leadsTo_33 (by decide) rfl ?_
          refine R_call (as := [.inr (.inr 182), .inl v1, .inl 0]) (rest := []) (M' := mm_doorOf) (ls0 := [some (.inr (.inr 182)), some (.inl v1), some (.inl 0)]) dd_leadsTo_34 rfl rfl (cw_v cw_12_347 io_182 rfl rfl (Nat.le_of_ble_eq_true rfl) (Nat.le_of_ble_eq_true rfl)) mt_doorOf rfl (c := e - 1) (by omega) rfl ?_
          refine R_ld (v := .inr (.inr 182)) dd_doorOf_0 rfl rfl rfl rfl ?_
          refine R_gf (v := .inr (.inr 188)) dd_doorOf_1 fd_12_95 io_182 (congrArg (fun z : Int => (Sum.inr (Sum.inr z) : LV)) (rf_182_10 hF)) rfl ?_
          refine R_ic dd_doorOf_4 (by decide) rfl ?_
          refine R_bi dd_doorOf_5 (by decide) rfl ?_
          refine R_ld (v := .inl v1) dd_doorOf_7 rfl rfl rfl rfl ?_
          obtain ⟨s13, k⟩ := k
          refine R_imul (c := 8 * v1) dd_doorOf_8 (by omega) s13 rfl ?_
          obtain ⟨s14, k⟩ := k
          refine R_iadd (c := 8 * v1 + 4) dd_doorOf_9 (by omega) s14 rfl ?_
          refine R_ld (v := .inl 0) dd_doorOf_10 rfl rfl rfl rfl ?_
          obtain ⟨s15, k⟩ := k
          refine R_iadd (c := 8 * v1 + 4) dd_doorOf_11 (by omega) s15 rfl ?_
          obtain ⟨s16, k⟩ := k
          refine R_iald (v := (rd h 188 (8 * v1 + 4))) (n := 300) dd_doorOf_12 ia_188 la_188 s16 (rfl) rfl ?_
          refine R_iret dd_doorOf_13 rfl ?_
          change Rn xs xl e mm_leadsTo 37 [some (.inr (.inr 182)), some (.inl v1), some (.inl v2), some (.inl v3), some (.inl v4), some (.inl v5), some (.inl v6), none, none, none, none, none] [.inl (rd h 188 (8 * v1 + 4))] h _
          refine R_ic dd_leadsTo_37 (by decide) rfl ?_
          refine R_icmp dd_leadsTo_38 rfl rfl (fun (c33 : (rd h 188 (8 * v1 + 4)) = 1) => ?_) (fun (c33 : (rd h 188 (8 * v1 + 4)) ≠ 1) => ?_)
          · replace k := k.1 c33
            refine R_ic dd_leadsTo_54 (by decide) rfl ?_
            exact k
          · replace k := k.2 c33
            refine R_ld (v := .inl v6) dd_leadsTo_41 rfl rfl rfl rfl ?_
            refine R_ld (v := .inl v1) dd_leadsTo_43 rfl rfl rfl rfl ?_
            refine R_call (as := [.inl v6, .inl v1]) (rest := []) (M' := mm_isIn) (ls0 := [some (.inl v6), some (.inl v1)]) dd_leadsTo_44 rfl rfl (cw_s cw_12_350 rfl rfl (Nat.le_of_ble_eq_true rfl) (Nat.le_of_ble_eq_true rfl)) mt_isIn rfl (c := e - 1) (by omega) rfl ?_
            refine R_ld (v := .inl v6) dd_isIn_0 rfl rfl rfl rfl ?_
            refine R_ld (v := .inl v1) dd_isIn_1 rfl rfl rfl rfl ?_
            refine R_A dd_isIn_2 rfl rfl rfl rfl ?_
            refine R_ic dd_isIn_3 (by decide) rfl ?_
            refine R_A dd_isIn_4 rfl rfl rfl rfl ?_
            refine R_ic dd_isIn_5 (by decide) rfl ?_
            refine R_icmp dd_isIn_6 rfl rfl (fun (c34 : (zand (zshr v6 v1) 1) ≠ 1) => ?_) (fun (c34 : (zand (zshr v6 v1) 1) = 1) => ?_)
            · replace k := k.1 c34
              refine R_ic dd_isIn_13 (by decide) rfl ?_
              refine R_zret dd_isIn_14 rfl (by decide) ?_
              change Rn xs xl e mm_leadsTo 47 [some (.inr (.inr 182)), some (.inl v1), some (.inl v2), some (.inl v3), some (.inl v4), some (.inl v5), some (.inl v6), none, none, none, none, none] [.inl 0] h _
              refine R_if dd_leadsTo_47 rfl rfl (fun (c35 : 0 = 0) => ?_) (fun (c35 : 0 ≠ 0) => ?_)
              · skip
                refine R_ic dd_leadsTo_54 (by decide) rfl ?_
                exact k
              · exact absurd c35 (by omega)
            · replace k := k.2 c34
              refine R_ic dd_isIn_9 (by decide) rfl ?_
              refine R_goto dd_isIn_10 rfl ?_
              refine R_zret dd_isIn_14 rfl (by decide) ?_
              change Rn xs xl e mm_leadsTo 47 [some (.inr (.inr 182)), some (.inl v1), some (.inl v2), some (.inl v3), some (.inl v4), some (.inl v5), some (.inl v6), none, none, none, none, none] [.inl 1] h _
              refine R_if dd_leadsTo_47 rfl rfl (fun (c36 : 1 = 0) => ?_) (fun (c36 : 1 ≠ 0) => ?_)
              · exact absurd c36 (by omega)
              · skip
                refine R_ic dd_leadsTo_50 (by decide) rfl ?_
                refine R_goto dd_leadsTo_51 rfl ?_
                exact k
theorem B_leadsTo_55 {xs : Nat → Int} {xl e : Nat} {h : LH} {Q : Option LV → LH → Prop} {v1 v2 v3 v4 v5 v6 w0 : Int} (hF : RF h) (he : 1 ≤ e)
    (k : (w0 = 0 →
        (-2147483648 ≤ 8 * v1 ∧ 8 * v1 ≤ 2147483647) ∧
        (-2147483648 ≤ 8 * v1 + 4 ∧ 8 * v1 + 4 ≤ 2147483647) ∧
        (-2147483648 ≤ 8 * v1 + 5 ∧ 8 * v1 + 5 ≤ 2147483647) ∧
        (0 ≤ 8 * v1 + 5 ∧ 8 * v1 + 5 < 300) ∧
        (w0 = 0 →
          (-2147483648 ≤ 8 * v1 ∧ 8 * v1 ≤ 2147483647) ∧
          (-2147483648 ≤ 8 * v1 + 4 ∧ 8 * v1 + 4 ≤ 2147483647) ∧
          (-2147483648 ≤ 8 * v1 + 6 ∧ 8 * v1 + 6 ≤ 2147483647) ∧
          (0 ≤ 8 * v1 + 6 ∧ 8 * v1 + 6 < 300) ∧
          (v3 ≠ (rd h 188 (8 * v1 + 5)) →
            (v2 ≠ 3 →
              Rn xs xl e mm_leadsTo 119 [some (.inr (.inr 182)), some (.inl v1), some (.inl v2), some (.inl v3), some (.inl v4), some (.inl v5), some (.inl v6), some (.inl w0), some (.inl (rd h 188 (8 * v1 + 5))), some (.inl (rd h 188 (8 * v1 + 6))), none, none] [.inl (-1)] h Q) ∧
            (v2 = 3 →
              (v3 ≠ (rd h 188 (8 * v1 + 6)) →
                Rn xs xl e mm_leadsTo 119 [some (.inr (.inr 182)), some (.inl v1), some (.inl v2), some (.inl v3), some (.inl v4), some (.inl v5), some (.inl v6), some (.inl w0), some (.inl (rd h 188 (8 * v1 + 5))), some (.inl (rd h 188 (8 * v1 + 6))), none, none] [.inl (-1)] h Q) ∧
              (v3 = (rd h 188 (8 * v1 + 6)) →
                Rn xs xl e mm_leadsTo 119 [some (.inr (.inr 182)), some (.inl v1), some (.inl v2), some (.inl v3), some (.inl v4), some (.inl v5), some (.inl v6), some (.inl w0), some (.inl (rd h 188 (8 * v1 + 5))), some (.inl (rd h 188 (8 * v1 + 6))), none, none] [.inl (rd h 188 (8 * v1 + 5))] h Q))) ∧
          (v3 = (rd h 188 (8 * v1 + 5)) →
            Rn xs xl e mm_leadsTo 119 [some (.inr (.inr 182)), some (.inl v1), some (.inl v2), some (.inl v3), some (.inl v4), some (.inl v5), some (.inl v6), some (.inl w0), some (.inl (rd h 188 (8 * v1 + 5))), some (.inl (rd h 188 (8 * v1 + 6))), none, none] [.inl (rd h 188 (8 * v1 + 6))] h Q)) ∧
        (w0 ≠ 0 →
          (-2147483648 ≤ 8 * v1 ∧ 8 * v1 ≤ 2147483647) ∧
          (-2147483648 ≤ 8 * v1 + 4 ∧ 8 * v1 + 4 ≤ 2147483647) ∧
          (-2147483648 ≤ 8 * v1 + 5 ∧ 8 * v1 + 5 ≤ 2147483647) ∧
          (0 ≤ 8 * v1 + 5 ∧ 8 * v1 + 5 < 300) ∧
          (v3 ≠ (rd h 188 (8 * v1 + 5)) →
            (v2 ≠ 3 →
              Rn xs xl e mm_leadsTo 119 [some (.inr (.inr 182)), some (.inl v1), some (.inl v2), some (.inl v3), some (.inl v4), some (.inl v5), some (.inl v6), some (.inl w0), some (.inl (rd h 188 (8 * v1 + 5))), some (.inl (rd h 188 (8 * v1 + 5))), none, none] [.inl (-1)] h Q) ∧
            (v2 = 3 →
              (v3 ≠ (rd h 188 (8 * v1 + 5)) →
                Rn xs xl e mm_leadsTo 119 [some (.inr (.inr 182)), some (.inl v1), some (.inl v2), some (.inl v3), some (.inl v4), some (.inl v5), some (.inl v6), some (.inl w0), some (.inl (rd h 188 (8 * v1 + 5))), some (.inl (rd h 188 (8 * v1 + 5))), none, none] [.inl (-1)] h Q) ∧
              (v3 = (rd h 188 (8 * v1 + 5)) →
                Rn xs xl e mm_leadsTo 119 [some (.inr (.inr 182)), some (.inl v1), some (.inl v2), some (.inl v3), some (.inl v4), some (.inl v5), some (.inl v6), some (.inl w0), some (.inl (rd h 188 (8 * v1 + 5))), some (.inl (rd h 188 (8 * v1 + 5))), none, none] [.inl (rd h 188 (8 * v1 + 5))] h Q))) ∧
          (v3 = (rd h 188 (8 * v1 + 5)) →
            Rn xs xl e mm_leadsTo 119 [some (.inr (.inr 182)), some (.inl v1), some (.inl v2), some (.inl v3), some (.inl v4), some (.inl v5), some (.inl v6), some (.inl w0), some (.inl (rd h 188 (8 * v1 + 5))), some (.inl (rd h 188 (8 * v1 + 5))), none, none] [.inl (rd h 188 (8 * v1 + 5))] h Q))) ∧
      (w0 ≠ 0 →
        (-2147483648 ≤ 8 * v1 ∧ 8 * v1 ≤ 2147483647) ∧
        (-2147483648 ≤ 8 * v1 + 4 ∧ 8 * v1 + 4 ≤ 2147483647) ∧
        (-2147483648 ≤ 8 * v1 + 6 ∧ 8 * v1 + 6 ≤ 2147483647) ∧
        (0 ≤ 8 * v1 + 6 ∧ 8 * v1 + 6 < 300) ∧
        (w0 = 0 →
          (-2147483648 ≤ 8 * v1 ∧ 8 * v1 ≤ 2147483647) ∧
          (-2147483648 ≤ 8 * v1 + 4 ∧ 8 * v1 + 4 ≤ 2147483647) ∧
          (-2147483648 ≤ 8 * v1 + 6 ∧ 8 * v1 + 6 ≤ 2147483647) ∧
          (0 ≤ 8 * v1 + 6 ∧ 8 * v1 + 6 < 300) ∧
          (v3 ≠ (rd h 188 (8 * v1 + 6)) →
            (v2 ≠ 3 →
              Rn xs xl e mm_leadsTo 119 [some (.inr (.inr 182)), some (.inl v1), some (.inl v2), some (.inl v3), some (.inl v4), some (.inl v5), some (.inl v6), some (.inl w0), some (.inl (rd h 188 (8 * v1 + 6))), some (.inl (rd h 188 (8 * v1 + 6))), none, none] [.inl (-1)] h Q) ∧
            (v2 = 3 →
              (v3 ≠ (rd h 188 (8 * v1 + 6)) →
                Rn xs xl e mm_leadsTo 119 [some (.inr (.inr 182)), some (.inl v1), some (.inl v2), some (.inl v3), some (.inl v4), some (.inl v5), some (.inl v6), some (.inl w0), some (.inl (rd h 188 (8 * v1 + 6))), some (.inl (rd h 188 (8 * v1 + 6))), none, none] [.inl (-1)] h Q) ∧
              (v3 = (rd h 188 (8 * v1 + 6)) →
                Rn xs xl e mm_leadsTo 119 [some (.inr (.inr 182)), some (.inl v1), some (.inl v2), some (.inl v3), some (.inl v4), some (.inl v5), some (.inl v6), some (.inl w0), some (.inl (rd h 188 (8 * v1 + 6))), some (.inl (rd h 188 (8 * v1 + 6))), none, none] [.inl (rd h 188 (8 * v1 + 6))] h Q))) ∧
          (v3 = (rd h 188 (8 * v1 + 6)) →
            Rn xs xl e mm_leadsTo 119 [some (.inr (.inr 182)), some (.inl v1), some (.inl v2), some (.inl v3), some (.inl v4), some (.inl v5), some (.inl v6), some (.inl w0), some (.inl (rd h 188 (8 * v1 + 6))), some (.inl (rd h 188 (8 * v1 + 6))), none, none] [.inl (rd h 188 (8 * v1 + 6))] h Q)) ∧
        (w0 ≠ 0 →
          (-2147483648 ≤ 8 * v1 ∧ 8 * v1 ≤ 2147483647) ∧
          (-2147483648 ≤ 8 * v1 + 4 ∧ 8 * v1 + 4 ≤ 2147483647) ∧
          (-2147483648 ≤ 8 * v1 + 5 ∧ 8 * v1 + 5 ≤ 2147483647) ∧
          (0 ≤ 8 * v1 + 5 ∧ 8 * v1 + 5 < 300) ∧
          (v3 ≠ (rd h 188 (8 * v1 + 6)) →
            (v2 ≠ 3 →
              Rn xs xl e mm_leadsTo 119 [some (.inr (.inr 182)), some (.inl v1), some (.inl v2), some (.inl v3), some (.inl v4), some (.inl v5), some (.inl v6), some (.inl w0), some (.inl (rd h 188 (8 * v1 + 6))), some (.inl (rd h 188 (8 * v1 + 5))), none, none] [.inl (-1)] h Q) ∧
            (v2 = 3 →
              (v3 ≠ (rd h 188 (8 * v1 + 5)) →
                Rn xs xl e mm_leadsTo 119 [some (.inr (.inr 182)), some (.inl v1), some (.inl v2), some (.inl v3), some (.inl v4), some (.inl v5), some (.inl v6), some (.inl w0), some (.inl (rd h 188 (8 * v1 + 6))), some (.inl (rd h 188 (8 * v1 + 5))), none, none] [.inl (-1)] h Q) ∧
              (v3 = (rd h 188 (8 * v1 + 5)) →
                Rn xs xl e mm_leadsTo 119 [some (.inr (.inr 182)), some (.inl v1), some (.inl v2), some (.inl v3), some (.inl v4), some (.inl v5), some (.inl v6), some (.inl w0), some (.inl (rd h 188 (8 * v1 + 6))), some (.inl (rd h 188 (8 * v1 + 5))), none, none] [.inl (rd h 188 (8 * v1 + 6))] h Q))) ∧
          (v3 = (rd h 188 (8 * v1 + 6)) →
            Rn xs xl e mm_leadsTo 119 [some (.inr (.inr 182)), some (.inl v1), some (.inl v2), some (.inl v3), some (.inl v4), some (.inl v5), some (.inl v6), some (.inl w0), some (.inl (rd h 188 (8 * v1 + 6))), some (.inl (rd h 188 (8 * v1 + 5))), none, none] [.inl (rd h 188 (8 * v1 + 5))] h Q)))) :
    Rn xs xl e mm_leadsTo 55 [some (.inr (.inr 182)), some (.inl v1), some (.inl v2), some (.inl v3), some (.inl v4), some (.inl v5), some (.inl v6), none, none, none, none, none] [.inl w0] h Q := by
  refine R_st (ls' := [some (.inr (.inr 182)), some (.inl v1), some (.inl v2), some (.inl v3), some (.inl v4), some (.inl v5), some (.inl v6), some (.inl w0), none, none, none, none]) dd_leadsTo_55 rfl rfl rfl (Nat.le_of_ble_eq_true rfl) rfl rfl ?_
  refine R_ld (v := .inr (.inr 182)) dd_leadsTo_57 rfl rfl rfl rfl ?_
  refine R_ld (v := .inl v1) dd_leadsTo_58 rfl rfl rfl rfl ?_
  refine R_ld (v := .inl w0) dd_leadsTo_59 rfl rfl rfl rfl ?_
  refine R_if dd_leadsTo_61 rfl rfl (fun (c25 : w0 = 0) => ?_) (fun (c25 : w0 ≠ 0) => ?_)
  · replace k := k.1 c25
    refine R_ic dd_leadsTo_68 (by decide) rfl ?_
    refine R_call (as := [.inr (.inr 182), .inl v1, .inl 1]) (rest := []) (M' := mm_doorOf) (ls0 := [some (.inr (.inr 182)), some (.inl v1), some (.inl 1)]) dd_leadsTo_69 rfl rfl (cw_v cw_12_347 io_182 rfl rfl (Nat.le_of_ble_eq_true rfl) (Nat.le_of_ble_eq_true rfl)) mt_doorOf rfl (c := e - 1) (by omega) rfl ?_
    refine R_ld (v := .inr (.inr 182)) dd_doorOf_0 rfl rfl rfl rfl ?_
    refine R_gf (v := .inr (.inr 188)) dd_doorOf_1 fd_12_95 io_182 (congrArg (fun z : Int => (Sum.inr (Sum.inr z) : LV)) (rf_182_10 hF)) rfl ?_
    refine R_ic dd_doorOf_4 (by decide) rfl ?_
    refine R_bi dd_doorOf_5 (by decide) rfl ?_
    refine R_ld (v := .inl v1) dd_doorOf_7 rfl rfl rfl rfl ?_
    obtain ⟨s1, k⟩ := k
    refine R_imul (c := 8 * v1) dd_doorOf_8 (by omega) s1 rfl ?_
    obtain ⟨s2, k⟩ := k
    refine R_iadd (c := 8 * v1 + 4) dd_doorOf_9 (by omega) s2 rfl ?_
    refine R_ld (v := .inl 1) dd_doorOf_10 rfl rfl rfl rfl ?_
    obtain ⟨s3, k⟩ := k
    refine R_iadd (c := 8 * v1 + 5) dd_doorOf_11 (by omega) s3 rfl ?_
    obtain ⟨s4, k⟩ := k
    refine R_iald (v := (rd h 188 (8 * v1 + 5))) (n := 300) dd_doorOf_12 ia_188 la_188 s4 (rfl) rfl ?_
    refine R_iret dd_doorOf_13 rfl ?_
    change Rn xs xl e mm_leadsTo 72 [some (.inr (.inr 182)), some (.inl v1), some (.inl v2), some (.inl v3), some (.inl v4), some (.inl v5), some (.inl v6), some (.inl w0), none, none, none, none] [.inl (rd h 188 (8 * v1 + 5))] h _
    refine R_st (ls' := [some (.inr (.inr 182)), some (.inl v1), some (.inl v2), some (.inl v3), some (.inl v4), some (.inl v5), some (.inl v6), some (.inl w0), some (.inl (rd h 188 (8 * v1 + 5))), none, none, none]) dd_leadsTo_72 rfl rfl rfl (Nat.le_of_ble_eq_true rfl) rfl rfl ?_
    refine R_ld (v := .inr (.inr 182)) dd_leadsTo_74 rfl rfl rfl rfl ?_
    refine R_ld (v := .inl v1) dd_leadsTo_75 rfl rfl rfl rfl ?_
    refine R_ld (v := .inl w0) dd_leadsTo_76 rfl rfl rfl rfl ?_
    refine R_if dd_leadsTo_78 rfl rfl (fun (c26 : w0 = 0) => ?_) (fun (c26 : w0 ≠ 0) => ?_)
    · replace k := k.1 c26
      refine R_ic dd_leadsTo_85 (by decide) rfl ?_
      refine R_call (as := [.inr (.inr 182), .inl v1, .inl 2]) (rest := []) (M' := mm_doorOf) (ls0 := [some (.inr (.inr 182)), some (.inl v1), some (.inl 2)]) dd_leadsTo_86 rfl rfl (cw_v cw_12_347 io_182 rfl rfl (Nat.le_of_ble_eq_true rfl) (Nat.le_of_ble_eq_true rfl)) mt_doorOf rfl (c := e - 1) (by omega) rfl ?_
      refine R_ld (v := .inr (.inr 182)) dd_doorOf_0 rfl rfl rfl rfl ?_
      refine R_gf (v := .inr (.inr 188)) dd_doorOf_1 fd_12_95 io_182 (congrArg (fun z : Int => (Sum.inr (Sum.inr z) : LV)) (rf_182_10 hF)) rfl ?_
      refine R_ic dd_doorOf_4 (by decide) rfl ?_
      refine R_bi dd_doorOf_5 (by decide) rfl ?_
      refine R_ld (v := .inl v1) dd_doorOf_7 rfl rfl rfl rfl ?_
      obtain ⟨s5, k⟩ := k
      refine R_imul (c := 8 * v1) dd_doorOf_8 (by omega) s5 rfl ?_
      obtain ⟨s6, k⟩ := k
      refine R_iadd (c := 8 * v1 + 4) dd_doorOf_9 (by omega) s6 rfl ?_
      refine R_ld (v := .inl 2) dd_doorOf_10 rfl rfl rfl rfl ?_
      obtain ⟨s7, k⟩ := k
      refine R_iadd (c := 8 * v1 + 6) dd_doorOf_11 (by omega) s7 rfl ?_
      obtain ⟨s8, k⟩ := k
      refine R_iald (v := (rd h 188 (8 * v1 + 6))) (n := 300) dd_doorOf_12 ia_188 la_188 s8 (rfl) rfl ?_
      refine R_iret dd_doorOf_13 rfl ?_
      change Rn xs xl e mm_leadsTo 89 [some (.inr (.inr 182)), some (.inl v1), some (.inl v2), some (.inl v3), some (.inl v4), some (.inl v5), some (.inl v6), some (.inl w0), some (.inl (rd h 188 (8 * v1 + 5))), none, none, none] [.inl (rd h 188 (8 * v1 + 6))] h _
      refine R_st (ls' := [some (.inr (.inr 182)), some (.inl v1), some (.inl v2), some (.inl v3), some (.inl v4), some (.inl v5), some (.inl v6), some (.inl w0), some (.inl (rd h 188 (8 * v1 + 5))), some (.inl (rd h 188 (8 * v1 + 6))), none, none]) dd_leadsTo_89 rfl rfl rfl (Nat.le_of_ble_eq_true rfl) rfl rfl ?_
      refine R_ld (v := .inl v3) dd_leadsTo_91 rfl rfl rfl rfl ?_
      refine R_ld (v := .inl (rd h 188 (8 * v1 + 5))) dd_leadsTo_92 rfl rfl rfl rfl ?_
      refine R_icmp dd_leadsTo_94 rfl rfl (fun (c27 : v3 ≠ (rd h 188 (8 * v1 + 5))) => ?_) (fun (c27 : v3 = (rd h 188 (8 * v1 + 5))) => ?_)
      · replace k := k.1 c27
        refine R_ld (v := .inl v2) dd_leadsTo_102 rfl rfl rfl rfl ?_
        refine R_ic dd_leadsTo_103 (by decide) rfl ?_
        refine R_icmp dd_leadsTo_104 rfl rfl (fun (c28 : v2 ≠ 3) => ?_) (fun (c28 : v2 = 3) => ?_)
        · replace k := k.1 c28
          refine R_ic dd_leadsTo_118 (by decide) rfl ?_
          exact k
        · replace k := k.2 c28
          refine R_ld (v := .inl v3) dd_leadsTo_107 rfl rfl rfl rfl ?_
          refine R_ld (v := .inl (rd h 188 (8 * v1 + 6))) dd_leadsTo_108 rfl rfl rfl rfl ?_
          refine R_icmp dd_leadsTo_110 rfl rfl (fun (c29 : v3 ≠ (rd h 188 (8 * v1 + 6))) => ?_) (fun (c29 : v3 = (rd h 188 (8 * v1 + 6))) => ?_)
          · replace k := k.1 c29
            refine R_ic dd_leadsTo_118 (by decide) rfl ?_
            exact k
          · replace k := k.2 c29
            refine R_ld (v := .inl (rd h 188 (8 * v1 + 5))) dd_leadsTo_113 rfl rfl rfl rfl ?_
            refine R_goto dd_leadsTo_115 rfl ?_
            exact k
      · replace k := k.2 c27
        refine R_ld (v := .inl (rd h 188 (8 * v1 + 6))) dd_leadsTo_97 rfl rfl rfl rfl ?_
        refine R_goto dd_leadsTo_99 rfl ?_
        exact k
    · replace k := k.2 c26
      refine R_ic dd_leadsTo_81 (by decide) rfl ?_
      refine R_goto dd_leadsTo_82 rfl ?_
      refine R_call (as := [.inr (.inr 182), .inl v1, .inl 1]) (rest := []) (M' := mm_doorOf) (ls0 := [some (.inr (.inr 182)), some (.inl v1), some (.inl 1)]) dd_leadsTo_86 rfl rfl (cw_v cw_12_347 io_182 rfl rfl (Nat.le_of_ble_eq_true rfl) (Nat.le_of_ble_eq_true rfl)) mt_doorOf rfl (c := e - 1) (by omega) rfl ?_
      refine R_ld (v := .inr (.inr 182)) dd_doorOf_0 rfl rfl rfl rfl ?_
      refine R_gf (v := .inr (.inr 188)) dd_doorOf_1 fd_12_95 io_182 (congrArg (fun z : Int => (Sum.inr (Sum.inr z) : LV)) (rf_182_10 hF)) rfl ?_
      refine R_ic dd_doorOf_4 (by decide) rfl ?_
      refine R_bi dd_doorOf_5 (by decide) rfl ?_
      refine R_ld (v := .inl v1) dd_doorOf_7 rfl rfl rfl rfl ?_
      obtain ⟨s9, k⟩ := k
      refine R_imul (c := 8 * v1) dd_doorOf_8 (by omega) s9 rfl ?_
      obtain ⟨s10, k⟩ := k
      refine R_iadd (c := 8 * v1 + 4) dd_doorOf_9 (by omega) s10 rfl ?_
      refine R_ld (v := .inl 1) dd_doorOf_10 rfl rfl rfl rfl ?_
      obtain ⟨s11, k⟩ := k
      refine R_iadd (c := 8 * v1 + 5) dd_doorOf_11 (by omega) s11 rfl ?_
      obtain ⟨s12, k⟩ := k
      refine R_iald (v := (rd h 188 (8 * v1 + 5))) (n := 300) dd_doorOf_12 ia_188 la_188 s12 (rfl) rfl ?_
      refine R_iret dd_doorOf_13 rfl ?_
      change Rn xs xl e mm_leadsTo 89 [some (.inr (.inr 182)), some (.inl v1), some (.inl v2), some (.inl v3), some (.inl v4), some (.inl v5), some (.inl v6), some (.inl w0), some (.inl (rd h 188 (8 * v1 + 5))), none, none, none] [.inl (rd h 188 (8 * v1 + 5))] h _
      refine R_st (ls' := [some (.inr (.inr 182)), some (.inl v1), some (.inl v2), some (.inl v3), some (.inl v4), some (.inl v5), some (.inl v6), some (.inl w0), some (.inl (rd h 188 (8 * v1 + 5))), some (.inl (rd h 188 (8 * v1 + 5))), none, none]) dd_leadsTo_89 rfl rfl rfl (Nat.le_of_ble_eq_true rfl) rfl rfl ?_
      refine R_ld (v := .inl v3) dd_leadsTo_91 rfl rfl rfl rfl ?_
      refine R_ld (v := .inl (rd h 188 (8 * v1 + 5))) dd_leadsTo_92 rfl rfl rfl rfl ?_
      refine R_icmp dd_leadsTo_94 rfl rfl (fun (c30 : v3 ≠ (rd h 188 (8 * v1 + 5))) => ?_) (fun (c30 : v3 = (rd h 188 (8 * v1 + 5))) => ?_)
      · replace k := k.1 c30
        refine R_ld (v := .inl v2) dd_leadsTo_102 rfl rfl rfl rfl ?_
        refine R_ic dd_leadsTo_103 (by decide) rfl ?_
        refine R_icmp dd_leadsTo_104 rfl rfl (fun (c31 : v2 ≠ 3) => ?_) (fun (c31 : v2 = 3) => ?_)
        · replace k := k.1 c31
          refine R_ic dd_leadsTo_118 (by decide) rfl ?_
          exact k
        · replace k := k.2 c31
          refine R_ld (v := .inl v3) dd_leadsTo_107 rfl rfl rfl rfl ?_
          refine R_ld (v := .inl (rd h 188 (8 * v1 + 5))) dd_leadsTo_108 rfl rfl rfl rfl ?_
          refine R_icmp dd_leadsTo_110 rfl rfl (fun (c32 : v3 ≠ (rd h 188 (8 * v1 + 5))) => ?_) (fun (c32 : v3 = (rd h 188 (8 * v1 + 5))) => ?_)
          · replace k := k.1 c32
            refine R_ic dd_leadsTo_118 (by decide) rfl ?_
            exact k
          · replace k := k.2 c32
            refine R_ld (v := .inl (rd h 188 (8 * v1 + 5))) dd_leadsTo_113 rfl rfl rfl rfl ?_
            refine R_goto dd_leadsTo_115 rfl ?_
            exact k
      · replace k := k.2 c30
        refine R_ld (v := .inl (rd h 188 (8 * v1 + 5))) dd_leadsTo_97 rfl rfl rfl rfl ?_
        refine R_goto dd_leadsTo_99 rfl ?_
        exact k
  · replace k := k.2 c25
    refine R_ic dd_leadsTo_64 (by decide) rfl ?_
    refine R_goto dd_leadsTo_65 rfl ?_
    refine R_call (as := [.inr (.inr 182), .inl v1, .inl 2]) (rest := []) (M' := mm_doorOf) (ls0 := [some (.inr (.inr 182)), some (.inl v1), some (.inl 2)]) dd_leadsTo_69 rfl rfl (cw_v cw_12_347 io_182 rfl rfl (Nat.le_of_ble_eq_true rfl) (Nat.le_of_ble_eq_true rfl)) mt_doorOf rfl (c := e - 1) (by omega) rfl ?_
    refine R_ld (v := .inr (.inr 182)) dd_doorOf_0 rfl rfl rfl rfl ?_
    refine R_gf (v := .inr (.inr 188)) dd_doorOf_1 fd_12_95 io_182 (congrArg (fun z : Int => (Sum.inr (Sum.inr z) : LV)) (rf_182_10 hF)) rfl ?_
    refine R_ic dd_doorOf_4 (by decide) rfl ?_
    refine R_bi dd_doorOf_5 (by decide) rfl ?_
    refine R_ld (v := .inl v1) dd_doorOf_7 rfl rfl rfl rfl ?_
    obtain ⟨s13, k⟩ := k
    refine R_imul (c := 8 * v1) dd_doorOf_8 (by omega) s13 rfl ?_
    obtain ⟨s14, k⟩ := k
    refine R_iadd (c := 8 * v1 + 4) dd_doorOf_9 (by omega) s14 rfl ?_
    refine R_ld (v := .inl 2) dd_doorOf_10 rfl rfl rfl rfl ?_
    obtain ⟨s15, k⟩ := k
    refine R_iadd (c := 8 * v1 + 6) dd_doorOf_11 (by omega) s15 rfl ?_
    obtain ⟨s16, k⟩ := k
    refine R_iald (v := (rd h 188 (8 * v1 + 6))) (n := 300) dd_doorOf_12 ia_188 la_188 s16 (rfl) rfl ?_
    refine R_iret dd_doorOf_13 rfl ?_
    change Rn xs xl e mm_leadsTo 72 [some (.inr (.inr 182)), some (.inl v1), some (.inl v2), some (.inl v3), some (.inl v4), some (.inl v5), some (.inl v6), some (.inl w0), none, none, none, none] [.inl (rd h 188 (8 * v1 + 6))] h _
    refine R_st (ls' := [some (.inr (.inr 182)), some (.inl v1), some (.inl v2), some (.inl v3), some (.inl v4), some (.inl v5), some (.inl v6), some (.inl w0), some (.inl (rd h 188 (8 * v1 + 6))), none, none, none]) dd_leadsTo_72 rfl rfl rfl (Nat.le_of_ble_eq_true rfl) rfl rfl ?_
    refine R_ld (v := .inr (.inr 182)) dd_leadsTo_74 rfl rfl rfl rfl ?_
    refine R_ld (v := .inl v1) dd_leadsTo_75 rfl rfl rfl rfl ?_
    refine R_ld (v := .inl w0) dd_leadsTo_76 rfl rfl rfl rfl ?_
    refine R_if dd_leadsTo_78 rfl rfl (fun (c33 : w0 = 0) => ?_) (fun (c33 : w0 ≠ 0) => ?_)
    · replace k := k.1 c33
      refine R_ic dd_leadsTo_85 (by decide) rfl ?_
      refine R_call (as := [.inr (.inr 182), .inl v1, .inl 2]) (rest := []) (M' := mm_doorOf) (ls0 := [some (.inr (.inr 182)), some (.inl v1), some (.inl 2)]) dd_leadsTo_86 rfl rfl (cw_v cw_12_347 io_182 rfl rfl (Nat.le_of_ble_eq_true rfl) (Nat.le_of_ble_eq_true rfl)) mt_doorOf rfl (c := e - 1) (by omega) rfl ?_
      refine R_ld (v := .inr (.inr 182)) dd_doorOf_0 rfl rfl rfl rfl ?_
      refine R_gf (v := .inr (.inr 188)) dd_doorOf_1 fd_12_95 io_182 (congrArg (fun z : Int => (Sum.inr (Sum.inr z) : LV)) (rf_182_10 hF)) rfl ?_
      refine R_ic dd_doorOf_4 (by decide) rfl ?_
      refine R_bi dd_doorOf_5 (by decide) rfl ?_
      refine R_ld (v := .inl v1) dd_doorOf_7 rfl rfl rfl rfl ?_
      obtain ⟨s17, k⟩ := k
      refine R_imul (c := 8 * v1) dd_doorOf_8 (by omega) s17 rfl ?_
      obtain ⟨s18, k⟩ := k
      refine R_iadd (c := 8 * v1 + 4) dd_doorOf_9 (by omega) s18 rfl ?_
      refine R_ld (v := .inl 2) dd_doorOf_10 rfl rfl rfl rfl ?_
      obtain ⟨s19, k⟩ := k
      refine R_iadd (c := 8 * v1 + 6) dd_doorOf_11 (by omega) s19 rfl ?_
      obtain ⟨s20, k⟩ := k
      refine R_iald (v := (rd h 188 (8 * v1 + 6))) (n := 300) dd_doorOf_12 ia_188 la_188 s20 (rfl) rfl ?_
      refine R_iret dd_doorOf_13 rfl ?_
      change Rn xs xl e mm_leadsTo 89 [some (.inr (.inr 182)), some (.inl v1), some (.inl v2), some (.inl v3), some (.inl v4), some (.inl v5), some (.inl v6), some (.inl w0), some (.inl (rd h 188 (8 * v1 + 6))), none, none, none] [.inl (rd h 188 (8 * v1 + 6))] h _
      refine R_st (ls' := [some (.inr (.inr 182)), some (.inl v1), some (.inl v2), some (.inl v3), some (.inl v4), some (.inl v5), some (.inl v6), some (.inl w0), some (.inl (rd h 188 (8 * v1 + 6))), some (.inl (rd h 188 (8 * v1 + 6))), none, none]) dd_leadsTo_89 rfl rfl rfl (Nat.le_of_ble_eq_true rfl) rfl rfl ?_
      refine R_ld (v := .inl v3) dd_leadsTo_91 rfl rfl rfl rfl ?_
      refine R_ld (v := .inl (rd h 188 (8 * v1 + 6))) dd_leadsTo_92 rfl rfl rfl rfl ?_
      refine R_icmp dd_leadsTo_94 rfl rfl (fun (c34 : v3 ≠ (rd h 188 (8 * v1 + 6))) => ?_) (fun (c34 : v3 = (rd h 188 (8 * v1 + 6))) => ?_)
      · replace k := k.1 c34
        refine R_ld (v := .inl v2) dd_leadsTo_102 rfl rfl rfl rfl ?_
        refine R_ic dd_leadsTo_103 (by decide) rfl ?_
        refine R_icmp dd_leadsTo_104 rfl rfl (fun (c35 : v2 ≠ 3) => ?_) (fun (c35 : v2 = 3) => ?_)
        · replace k := k.1 c35
          refine R_ic dd_leadsTo_118 (by decide) rfl ?_
          exact k
        · replace k := k.2 c35
          refine R_ld (v := .inl v3) dd_leadsTo_107 rfl rfl rfl rfl ?_
          refine R_ld (v := .inl (rd h 188 (8 * v1 + 6))) dd_leadsTo_108 rfl rfl rfl rfl ?_
          refine R_icmp dd_leadsTo_110 rfl rfl (fun (c36 : v3 ≠ (rd h 188 (8 * v1 + 6))) => ?_) (fun (c36 : v3 = (rd h 188 (8 * v1 + 6))) => ?_)
          · replace k := k.1 c36
            refine R_ic dd_leadsTo_118 (by decide) rfl ?_
            exact k
          · replace k := k.2 c36
            refine R_ld (v := .inl (rd h 188 (8 * v1 + 6))) dd_leadsTo_113 rfl rfl rfl rfl ?_
            refine R_goto dd_leadsTo_115 rfl ?_
            exact k
      · replace k := k.2 c34
        refine R_ld (v := .inl (rd h 188 (8 * v1 + 6))) dd_leadsTo_97 rfl rfl rfl rfl ?_
        refine R_goto dd_leadsTo_99 rfl ?_
        exact k
    · replace k := k.2 c33
      refine R_ic dd_leadsTo_81 (by decide) rfl ?_
      refine R_goto dd_leadsTo_82 rfl ?_
      refine R_call (as := [.inr (.inr 182), .inl v1, .inl 1]) (rest := []) (M' := mm_doorOf) (ls0 := [some (.inr (.inr 182)), some (.inl v1), some (.inl 1)]) dd_leadsTo_86 rfl rfl (cw_v cw_12_347 io_182 rfl rfl (Nat.le_of_ble_eq_true rfl) (Nat.le_of_ble_eq_true rfl)) mt_doorOf rfl (c := e - 1) (by omega) rfl ?_
      refine R_ld (v := .inr (.inr 182)) dd_doorOf_0 rfl rfl rfl rfl ?_
      refine R_gf (v := .inr (.inr 188)) dd_doorOf_1 fd_12_95 io_182 (congrArg (fun z : Int => (Sum.inr (Sum.inr z) : LV)) (rf_182_10 hF)) rfl ?_
      refine R_ic dd_doorOf_4 (by decide) rfl ?_
      refine R_bi dd_doorOf_5 (by decide) rfl ?_
      refine R_ld (v := .inl v1) dd_doorOf_7 rfl rfl rfl rfl ?_
      obtain ⟨s21, k⟩ := k
      refine R_imul (c := 8 * v1) dd_doorOf_8 (by omega) s21 rfl ?_
      obtain ⟨s22, k⟩ := k
      refine R_iadd (c := 8 * v1 + 4) dd_doorOf_9 (by omega) s22 rfl ?_
      refine R_ld (v := .inl 1) dd_doorOf_10 rfl rfl rfl rfl ?_
      obtain ⟨s23, k⟩ := k
      refine R_iadd (c := 8 * v1 + 5) dd_doorOf_11 (by omega) s23 rfl ?_
      obtain ⟨s24, k⟩ := k
      refine R_iald (v := (rd h 188 (8 * v1 + 5))) (n := 300) dd_doorOf_12 ia_188 la_188 s24 (rfl) rfl ?_
      refine R_iret dd_doorOf_13 rfl ?_
      change Rn xs xl e mm_leadsTo 89 [some (.inr (.inr 182)), some (.inl v1), some (.inl v2), some (.inl v3), some (.inl v4), some (.inl v5), some (.inl v6), some (.inl w0), some (.inl (rd h 188 (8 * v1 + 6))), none, none, none] [.inl (rd h 188 (8 * v1 + 5))] h _
      refine R_st (ls' := [some (.inr (.inr 182)), some (.inl v1), some (.inl v2), some (.inl v3), some (.inl v4), some (.inl v5), some (.inl v6), some (.inl w0), some (.inl (rd h 188 (8 * v1 + 6))), some (.inl (rd h 188 (8 * v1 + 5))), none, none]) dd_leadsTo_89 rfl rfl rfl (Nat.le_of_ble_eq_true rfl) rfl rfl ?_
      refine R_ld (v := .inl v3) dd_leadsTo_91 rfl rfl rfl rfl ?_
      refine R_ld (v := .inl (rd h 188 (8 * v1 + 6))) dd_leadsTo_92 rfl rfl rfl rfl ?_
      refine R_icmp dd_leadsTo_94 rfl rfl (fun (c37 : v3 ≠ (rd h 188 (8 * v1 + 6))) => ?_) (fun (c37 : v3 = (rd h 188 (8 * v1 + 6))) => ?_)
      · replace k := k.1 c37
        refine R_ld (v := .inl v2) dd_leadsTo_102 rfl rfl rfl rfl ?_
        refine R_ic dd_leadsTo_103 (by decide) rfl ?_
        refine R_icmp dd_leadsTo_104 rfl rfl (fun (c38 : v2 ≠ 3) => ?_) (fun (c38 : v2 = 3) => ?_)
        · replace k := k.1 c38
          refine R_ic dd_leadsTo_118 (by decide) rfl ?_
          exact k
        · replace k := k.2 c38
          refine R_ld (v := .inl v3) dd_leadsTo_107 rfl rfl rfl rfl ?_
          refine R_ld (v := .inl (rd h 188 (8 * v1 + 5))) dd_leadsTo_108 rfl rfl rfl rfl ?_
          refine R_icmp dd_leadsTo_110 rfl rfl (fun (c39 : v3 ≠ (rd h 188 (8 * v1 + 5))) => ?_) (fun (c39 : v3 = (rd h 188 (8 * v1 + 5))) => ?_)
          · replace k := k.1 c39
            refine R_ic dd_leadsTo_118 (by decide) rfl ?_
            exact k
          · replace k := k.2 c39
            refine R_ld (v := .inl (rd h 188 (8 * v1 + 6))) dd_leadsTo_113 rfl rfl rfl rfl ?_
            refine R_goto dd_leadsTo_115 rfl ?_
            exact k
      · replace k := k.2 c37
        refine R_ld (v := .inl (rd h 188 (8 * v1 + 5))) dd_leadsTo_97 rfl rfl rfl rfl ?_
        refine R_goto dd_leadsTo_99 rfl ?_
        exact k
theorem B_leadsTo_119 {xs : Nat → Int} {xl e : Nat} {h : LH} {Q : Option LV → LH → Prop} {v1 v2 v3 v4 v5 v6 v7 v8 v9 w0 : Int} (hF : RF h) (he : 1 ≤ e)
    (k : (w0 < 0 →
        Rn xs xl e mm_leadsTo 196 [some (.inr (.inr 182)), some (.inl v1), some (.inl v2), some (.inl v3), some (.inl v4), some (.inl v5), some (.inl v6), some (.inl v7), some (.inl v8), some (.inl v9), some (.inl w0), none] [.inl 0] h Q) ∧
      (0 ≤ w0 →
        (-2147483648 ≤ 8 * v1 ∧ 8 * v1 ≤ 2147483647) ∧
        (-2147483648 ≤ 8 * v1 + 4 ∧ 8 * v1 + 4 ≤ 2147483647) ∧
        (-2147483648 ≤ 8 * v1 + 7 ∧ 8 * v1 + 7 ≤ 2147483647) ∧
        (0 ≤ 8 * v1 + 7 ∧ 8 * v1 + 7 < 300) ∧
        (v4 < (rd h 188 (8 * v1 + 7)) →
          Rn xs xl e mm_leadsTo 196 [some (.inr (.inr 182)), some (.inl v1), some (.inl v2), some (.inl v3), some (.inl v4), some (.inl v5), some (.inl v6), some (.inl v7), some (.inl v8), some (.inl v9), some (.inl w0), none] [.inl 0] h Q) ∧
        ((rd h 188 (8 * v1 + 7)) ≤ v4 →
          (-2147483648 ≤ 8 * v1 ∧ 8 * v1 ≤ 2147483647) ∧
          (-2147483648 ≤ 8 * v1 + 4 ∧ 8 * v1 + 4 ≤ 2147483647) ∧
          (-2147483648 ≤ 8 * v1 + 8 ∧ 8 * v1 + 8 ≤ 2147483647) ∧
          (0 ≤ 8 * v1 + 8 ∧ 8 * v1 + 8 < 300) ∧
          ((rd h 188 (8 * v1 + 8)) ≤ v4 →
            Rn xs xl e mm_leadsTo 196 [some (.inr (.inr 182)), some (.inl v1), some (.inl v2), some (.inl v3), some (.inl v4), some (.inl v5), some (.inl v6), some (.inl v7), some (.inl v8), some (.inl v9), some (.inl w0), none] [.inl 0] h Q) ∧
          (v4 < (rd h 188 (8 * v1 + 8)) →
            (-2147483648 ≤ 8 * v1 ∧ 8 * v1 ≤ 2147483647) ∧
            (-2147483648 ≤ 8 * v1 + 4 ∧ 8 * v1 + 4 ≤ 2147483647) ∧
            (-2147483648 ≤ 8 * v1 + 4 ∧ 8 * v1 + 4 ≤ 2147483647) ∧
            (0 ≤ 8 * v1 + 4 ∧ 8 * v1 + 4 < 300) ∧
            ((rd h 188 (8 * v1 + 4)) = 3 →
              Rn xs xl e mm_leadsTo 196 [some (.inr (.inr 182)), some (.inl v1), some (.inl v2), some (.inl v3), some (.inl v4), some (.inl v5), some (.inl v6), some (.inl v7), some (.inl v8), some (.inl v9), some (.inl w0), none] [.inl 0] h Q) ∧
            ((rd h 188 (8 * v1 + 4)) ≠ 3 →
              ((zand (zshr v5 v1) 1) ≠ 1 →
                (-2147483648 ≤ 8 * v1 ∧ 8 * v1 ≤ 2147483647) ∧
                (-2147483648 ≤ 8 * v1 + 4 ∧ 8 * v1 + 4 ≤ 2147483647) ∧
                (-2147483648 ≤ 8 * v1 + 9 ∧ 8 * v1 + 9 ≤ 2147483647) ∧
                (0 ≤ 8 * v1 + 9 ∧ 8 * v1 + 9 < 300) ∧
                ((rd h 188 (8 * v1 + 9)) < 0 →
                  Rn xs xl e mm_leadsTo 196 [some (.inr (.inr 182)), some (.inl v1), some (.inl v2), some (.inl v3), some (.inl v4), some (.inl v5), some (.inl v6), some (.inl v7), some (.inl v8), some (.inl v9), some (.inl w0), none] [.inl 1] h Q) ∧
                (0 ≤ (rd h 188 (8 * v1 + 9)) →
                  (-2147483648 ≤ 8 * v1 ∧ 8 * v1 ≤ 2147483647) ∧
                  (-2147483648 ≤ 8 * v1 + 4 ∧ 8 * v1 + 4 ≤ 2147483647) ∧
                  (-2147483648 ≤ 8 * v1 + 9 ∧ 8 * v1 + 9 ≤ 2147483647) ∧
                  (0 ≤ 8 * v1 + 9 ∧ 8 * v1 + 9 < 300) ∧
                  ((rd h 188 (8 * v1 + 9)) = v2 →
                    Rn xs xl e mm_leadsTo 196 [some (.inr (.inr 182)), some (.inl v1), some (.inl v2), some (.inl v3), some (.inl v4), some (.inl v5), some (.inl v6), some (.inl v7), some (.inl v8), some (.inl v9), some (.inl w0), none] [.inl 1] h Q) ∧
                  ((rd h 188 (8 * v1 + 9)) ≠ v2 →
                    (v2 ≠ 3 →
                      Rn xs xl e mm_leadsTo 196 [some (.inr (.inr 182)), some (.inl v1), some (.inl v2), some (.inl v3), some (.inl v4), some (.inl v5), some (.inl v6), some (.inl v7), some (.inl v8), some (.inl v9), some (.inl w0), none] [.inl 0] h Q) ∧
                    (v2 = 3 →
                      Rn xs xl e mm_leadsTo 196 [some (.inr (.inr 182)), some (.inl v1), some (.inl v2), some (.inl v3), some (.inl v4), some (.inl v5), some (.inl v6), some (.inl v7), some (.inl v8), some (.inl v9), some (.inl w0), none] [.inl 1] h Q)))) ∧
              ((zand (zshr v5 v1) 1) = 1 →
                Rn xs xl e mm_leadsTo 196 [some (.inr (.inr 182)), some (.inl v1), some (.inl v2), some (.inl v3), some (.inl v4), some (.inl v5), some (.inl v6), some (.inl v7), some (.inl v8), some (.inl v9), some (.inl w0), none] [.inl 0] h Q)))))) :
    Rn xs xl e mm_leadsTo 119 [some (.inr (.inr 182)), some (.inl v1), some (.inl v2), some (.inl v3), some (.inl v4), some (.inl v5), some (.inl v6), some (.inl v7), some (.inl v8), some (.inl v9), none, none] [.inl w0] h Q := by
  refine R_st (ls' := [some (.inr (.inr 182)), some (.inl v1), some (.inl v2), some (.inl v3), some (.inl v4), some (.inl v5), some (.inl v6), some (.inl v7), some (.inl v8), some (.inl v9), some (.inl w0), none]) dd_leadsTo_119 rfl rfl rfl (Nat.le_of_ble_eq_true rfl) rfl rfl ?_
  refine R_ld (v := .inl w0) dd_leadsTo_121 rfl rfl rfl rfl ?_
  refine R_if dd_leadsTo_123 rfl rfl (fun (c21 : w0 < 0) => ?_) (fun (c21 : 0 ≤ w0) => ?_)
  · replace k := k.1 c21
    refine R_ic dd_leadsTo_195 (by decide) rfl ?_
    exact k
  · replace k := k.2 c21
    refine R_ld (v := .inl v4) dd_leadsTo_126 rfl rfl rfl rfl ?_
    refine R_ld (v := .inr (.inr 182)) dd_leadsTo_128 rfl rfl rfl rfl ?_
    refine R_ld (v := .inl v1) dd_leadsTo_129 rfl rfl rfl rfl ?_
    refine R_ic dd_leadsTo_130 (by decide) rfl ?_
    refine R_call (as := [.inr (.inr 182), .inl v1, .inl 3]) (rest := [.inl v4]) (M' := mm_doorOf) (ls0 := [some (.inr (.inr 182)), some (.inl v1), some (.inl 3)]) dd_leadsTo_131 rfl rfl (cw_v cw_12_347 io_182 rfl rfl (Nat.le_of_ble_eq_true rfl) (Nat.le_of_ble_eq_true rfl)) mt_doorOf rfl (c := e - 1) (by omega) rfl ?_
    refine R_ld (v := .inr (.inr 182)) dd_doorOf_0 rfl rfl rfl rfl ?_
    refine R_gf (v := .inr (.inr 188)) dd_doorOf_1 fd_12_95 io_182 (congrArg (fun z : Int => (Sum.inr (Sum.inr z) : LV)) (rf_182_10 hF)) rfl ?_
    refine R_ic dd_doorOf_4 (by decide) rfl ?_
    refine R_bi dd_doorOf_5 (by decide) rfl ?_
    refine R_ld (v := .inl v1) dd_doorOf_7 rfl rfl rfl rfl ?_
    obtain ⟨s1, k⟩ := k
    refine R_imul (c := 8 * v1) dd_doorOf_8 (by omega) s1 rfl ?_
    obtain ⟨s2, k⟩ := k
    refine R_iadd (c := 8 * v1 + 4) dd_doorOf_9 (by omega) s2 rfl ?_
    refine R_ld (v := .inl 3) dd_doorOf_10 rfl rfl rfl rfl ?_
    obtain ⟨s3, k⟩ := k
    refine R_iadd (c := 8 * v1 + 7) dd_doorOf_11 (by omega) s3 rfl ?_
    obtain ⟨s4, k⟩ := k
    refine R_iald (v := (rd h 188 (8 * v1 + 7))) (n := 300) dd_doorOf_12 ia_188 la_188 s4 (rfl) rfl ?_
    refine R_iret dd_doorOf_13 rfl ?_
    change Rn xs xl e mm_leadsTo 134 [some (.inr (.inr 182)), some (.inl v1), some (.inl v2), some (.inl v3), some (.inl v4), some (.inl v5), some (.inl v6), some (.inl v7), some (.inl v8), some (.inl v9), some (.inl w0), none] [.inl (rd h 188 (8 * v1 + 7)), .inl v4] h _
    refine R_icmp dd_leadsTo_134 rfl rfl (fun (c22 : v4 < (rd h 188 (8 * v1 + 7))) => ?_) (fun (c22 : (rd h 188 (8 * v1 + 7)) ≤ v4) => ?_)
    · replace k := k.1 c22
      refine R_ic dd_leadsTo_195 (by decide) rfl ?_
      exact k
    · replace k := k.2 c22
      refine R_ld (v := .inl v4) dd_leadsTo_137 rfl rfl rfl rfl ?_
      refine R_ld (v := .inr (.inr 182)) dd_leadsTo_139 rfl rfl rfl rfl ?_
      refine R_ld (v := .inl v1) dd_leadsTo_140 rfl rfl rfl rfl ?_
      refine R_ic dd_leadsTo_141 (by decide) rfl ?_
      refine R_call (as := [.inr (.inr 182), .inl v1, .inl 4]) (rest := [.inl v4]) (M' := mm_doorOf) (ls0 := [some (.inr (.inr 182)), some (.inl v1), some (.inl 4)]) dd_leadsTo_142 rfl rfl (cw_v cw_12_347 io_182 rfl rfl (Nat.le_of_ble_eq_true rfl) (Nat.le_of_ble_eq_true rfl)) mt_doorOf rfl (c := e - 1) (by omega) rfl ?_
      refine R_ld (v := .inr (.inr 182)) dd_doorOf_0 rfl rfl rfl rfl ?_
      refine R_gf (v := .inr (.inr 188)) dd_doorOf_1 fd_12_95 io_182 (congrArg (fun z : Int => (Sum.inr (Sum.inr z) : LV)) (rf_182_10 hF)) rfl ?_
      refine R_ic dd_doorOf_4 (by decide) rfl ?_
      refine R_bi dd_doorOf_5 (by decide) rfl ?_
      refine R_ld (v := .inl v1) dd_doorOf_7 rfl rfl rfl rfl ?_
      obtain ⟨s5, k⟩ := k
      refine R_imul (c := 8 * v1) dd_doorOf_8 (by omega) s5 rfl ?_
      obtain ⟨s6, k⟩ := k
      refine R_iadd (c := 8 * v1 + 4) dd_doorOf_9 (by omega) s6 rfl ?_
      refine R_ld (v := .inl 4) dd_doorOf_10 rfl rfl rfl rfl ?_
      obtain ⟨s7, k⟩ := k
      refine R_iadd (c := 8 * v1 + 8) dd_doorOf_11 (by omega) s7 rfl ?_
      obtain ⟨s8, k⟩ := k
      refine R_iald (v := (rd h 188 (8 * v1 + 8))) (n := 300) dd_doorOf_12 ia_188 la_188 s8 (rfl) rfl ?_
      refine R_iret dd_doorOf_13 rfl ?_
      change Rn xs xl e mm_leadsTo 145 [some (.inr (.inr 182)), some (.inl v1), some (.inl v2), some (.inl v3), some (.inl v4), some (.inl v5), some (.inl v6), some (.inl v7), some (.inl v8), some (.inl v9), some (.inl w0), none] [.inl (rd h 188 (8 * v1 + 8)), .inl v4] h _
      refine R_icmp dd_leadsTo_145 rfl rfl (fun (c23 : (rd h 188 (8 * v1 + 8)) ≤ v4) => ?_) (fun (c23 : v4 < (rd h 188 (8 * v1 + 8))) => ?_)
      · replace k := k.1 c23
        refine R_ic dd_leadsTo_195 (by decide) rfl ?_
        exact k
      · replace k := k.2 c23
        refine R_ld (v := .inr (.inr 182)) dd_leadsTo_148 rfl rfl rfl rfl ?_
        refine R_ld (v := .inl v1) dd_leadsTo_149 rfl rfl rfl rfl ?_
        refine R_ic dd_leadsTo_150 (by decide) rfl ?_
        refine R_call (as := [.inr (.inr 182), .inl v1, .inl 0]) (rest := []) (M' := mm_doorOf) (ls0 := [some (.inr (.inr 182)), some (.inl v1), some (.inl 0)]) dd_leadsTo_151 rfl rfl (cw_v cw_12_347 io_182 rfl rfl (Nat.le_of_ble_eq_true rfl) (Nat.le_of_ble_eq_true rfl)) mt_doorOf rfl (c := e - 1) (by omega) rfl ?_
        refine R_ld (v := .inr (.inr 182)) dd_doorOf_0 rfl rfl rfl rfl ?_
        refine R_gf (v := .inr (.inr 188)) dd_doorOf_1 fd_12_95 io_182 (congrArg (fun z : Int => (Sum.inr (Sum.inr z) : LV)) (rf_182_10 hF)) rfl ?_
        refine R_ic dd_doorOf_4 (by decide) rfl ?_
        refine R_bi dd_doorOf_5 (by decide) rfl ?_
        refine R_ld (v := .inl v1) dd_doorOf_7 rfl rfl rfl rfl ?_
        obtain ⟨s9, k⟩ := k
        refine R_imul (c := 8 * v1) dd_doorOf_8 (by omega) s9 rfl ?_
        obtain ⟨s10, k⟩ := k
        refine R_iadd (c := 8 * v1 + 4) dd_doorOf_9 (by omega) s10 rfl ?_
        refine R_ld (v := .inl 0) dd_doorOf_10 rfl rfl rfl rfl ?_
        obtain ⟨s11, k⟩ := k
        refine R_iadd (c := 8 * v1 + 4) dd_doorOf_11 (by omega) s11 rfl ?_
        obtain ⟨s12, k⟩ := k
        refine R_iald (v := (rd h 188 (8 * v1 + 4))) (n := 300) dd_doorOf_12 ia_188 la_188 s12 (rfl) rfl ?_
        refine R_iret dd_doorOf_13 rfl ?_
        change Rn xs xl e mm_leadsTo 154 [some (.inr (.inr 182)), some (.inl v1), some (.inl v2), some (.inl v3), some (.inl v4), some (.inl v5), some (.inl v6), some (.inl v7), some (.inl v8), some (.inl v9), some (.inl w0), none] [.inl (rd h 188 (8 * v1 + 4))] h _
        refine R_ic dd_leadsTo_154 (by decide) rfl ?_
        refine R_icmp dd_leadsTo_155 rfl rfl (fun (c24 : (rd h 188 (8 * v1 + 4)) = 3) => ?_) (fun (c24 : (rd h 188 (8 * v1 + 4)) ≠ 3) => ?_)
        · replace k := k.1 c24
          refine R_ic dd_leadsTo_195 (by decide) rfl ?_
          exact k
        · replace k := k.2 c24
          refine R_ld (v := .inl v5) dd_leadsTo_158 rfl rfl rfl rfl ?_
          refine R_ld (v := .inl v1) dd_leadsTo_160 rfl rfl rfl rfl ?_
          refine R_call (as := [.inl v5, .inl v1]) (rest := []) (M' := mm_isIn) (ls0 := [some (.inl v5), some (.inl v1)]) dd_leadsTo_161 rfl rfl (cw_s cw_12_350 rfl rfl (Nat.le_of_ble_eq_true rfl) (Nat.le_of_ble_eq_true rfl)) mt_isIn rfl (c := e - 1) (by omega) rfl ?_
          refine R_ld (v := .inl v5) dd_isIn_0 rfl rfl rfl rfl ?_
          refine R_ld (v := .inl v1) dd_isIn_1 rfl rfl rfl rfl ?_
          refine R_A dd_isIn_2 rfl rfl rfl rfl ?_
          refine R_ic dd_isIn_3 (by decide) rfl ?_
          refine R_A dd_isIn_4 rfl rfl rfl rfl ?_
          refine R_ic dd_isIn_5 (by decide) rfl ?_
          refine R_icmp dd_isIn_6 rfl rfl (fun (c25 : (zand (zshr v5 v1) 1) ≠ 1) => ?_) (fun (c25 : (zand (zshr v5 v1) 1) = 1) => ?_)
          · replace k := k.1 c25
            refine R_ic dd_isIn_13 (by decide) rfl ?_
            refine R_zret dd_isIn_14 rfl (by decide) ?_
            change Rn xs xl e mm_leadsTo 164 [some (.inr (.inr 182)), some (.inl v1), some (.inl v2), some (.inl v3), some (.inl v4), some (.inl v5), some (.inl v6), some (.inl v7), some (.inl v8), some (.inl v9), some (.inl w0), none] [.inl 0] h _
            refine R_if dd_leadsTo_164 rfl rfl (fun (c26 : 0 ≠ 0) => ?_) (fun (c26 : 0 = 0) => ?_)
            · exact absurd c26 (by omega)
            · skip
              refine R_ld (v := .inr (.inr 182)) dd_leadsTo_167 rfl rfl rfl rfl ?_
              refine R_ld (v := .inl v1) dd_leadsTo_168 rfl rfl rfl rfl ?_
              refine R_ic dd_leadsTo_169 (by decide) rfl ?_
              refine R_call (as := [.inr (.inr 182), .inl v1, .inl 5]) (rest := []) (M' := mm_doorOf) (ls0 := [some (.inr (.inr 182)), some (.inl v1), some (.inl 5)]) dd_leadsTo_170 rfl rfl (cw_v cw_12_347 io_182 rfl rfl (Nat.le_of_ble_eq_true rfl) (Nat.le_of_ble_eq_true rfl)) mt_doorOf rfl (c := e - 1) (by omega) rfl ?_
              refine R_ld (v := .inr (.inr 182)) dd_doorOf_0 rfl rfl rfl rfl ?_
              refine R_gf (v := .inr (.inr 188)) dd_doorOf_1 fd_12_95 io_182 (congrArg (fun z : Int => (Sum.inr (Sum.inr z) : LV)) (rf_182_10 hF)) rfl ?_
              refine R_ic dd_doorOf_4 (by decide) rfl ?_
              refine R_bi dd_doorOf_5 (by decide) rfl ?_
              refine R_ld (v := .inl v1) dd_doorOf_7 rfl rfl rfl rfl ?_
              obtain ⟨s13, k⟩ := k
              refine R_imul (c := 8 * v1) dd_doorOf_8 (by omega) s13 rfl ?_
              obtain ⟨s14, k⟩ := k
              refine R_iadd (c := 8 * v1 + 4) dd_doorOf_9 (by omega) s14 rfl ?_
              refine R_ld (v := .inl 5) dd_doorOf_10 rfl rfl rfl rfl ?_
              obtain ⟨s15, k⟩ := k
              refine R_iadd (c := 8 * v1 + 9) dd_doorOf_11 (by omega) s15 rfl ?_
              obtain ⟨s16, k⟩ := k
              refine R_iald (v := (rd h 188 (8 * v1 + 9))) (n := 300) dd_doorOf_12 ia_188 la_188 s16 (rfl) rfl ?_
              refine R_iret dd_doorOf_13 rfl ?_
              change Rn xs xl e mm_leadsTo 173 [some (.inr (.inr 182)), some (.inl v1), some (.inl v2), some (.inl v3), some (.inl v4), some (.inl v5), some (.inl v6), some (.inl v7), some (.inl v8), some (.inl v9), some (.inl w0), none] [.inl (rd h 188 (8 * v1 + 9))] h _
              refine R_if dd_leadsTo_173 rfl rfl (fun (c27 : (rd h 188 (8 * v1 + 9)) < 0) => ?_) (fun (c27 : 0 ≤ (rd h 188 (8 * v1 + 9))) => ?_)
              · replace k := k.1 c27
                refine R_ic dd_leadsTo_191 (by decide) rfl ?_
                refine R_goto dd_leadsTo_192 rfl ?_
                exact k
              · replace k := k.2 c27
                refine R_ld (v := .inr (.inr 182)) dd_leadsTo_176 rfl rfl rfl rfl ?_
                refine R_ld (v := .inl v1) dd_leadsTo_177 rfl rfl rfl rfl ?_
                refine R_ic dd_leadsTo_178 (by decide) rfl ?_
                refine R_call (as := [.inr (.inr 182), .inl v1, .inl 5]) (rest := []) (M' := mm_doorOf) (ls0 := [some (.inr (.inr 182)), some (.inl v1), some (.inl 5)]) dd_leadsTo_179 rfl rfl (cw_v cw_12_347 io_182 rfl rfl (Nat.le_of_ble_eq_true rfl) (Nat.le_of_ble_eq_true rfl)) mt_doorOf rfl (c := e - 1) (by omega) rfl ?_
                refine R_ld (v := .inr (.inr 182)) dd_doorOf_0 rfl rfl rfl rfl ?_
                refine R_gf (v := .inr (.inr 188)) dd_doorOf_1 fd_12_95 io_182 (congrArg (fun z : Int => (Sum.inr (Sum.inr z) : LV)) (rf_182_10 hF)) rfl ?_
                refine R_ic dd_doorOf_4 (by decide) rfl ?_
                refine R_bi dd_doorOf_5 (by decide) rfl ?_
                refine R_ld (v := .inl v1) dd_doorOf_7 rfl rfl rfl rfl ?_
                obtain ⟨s17, k⟩ := k
                refine R_imul (c := 8 * v1) dd_doorOf_8 (by omega) s17 rfl ?_
                obtain ⟨s18, k⟩ := k
                refine R_iadd (c := 8 * v1 + 4) dd_doorOf_9 (by omega) s18 rfl ?_
                refine R_ld (v := .inl 5) dd_doorOf_10 rfl rfl rfl rfl ?_
                obtain ⟨s19, k⟩ := k
                refine R_iadd (c := 8 * v1 + 9) dd_doorOf_11 (by omega) s19 rfl ?_
                obtain ⟨s20, k⟩ := k
                refine R_iald (v := (rd h 188 (8 * v1 + 9))) (n := 300) dd_doorOf_12 ia_188 la_188 s20 (rfl) rfl ?_
                refine R_iret dd_doorOf_13 rfl ?_
                change Rn xs xl e mm_leadsTo 182 [some (.inr (.inr 182)), some (.inl v1), some (.inl v2), some (.inl v3), some (.inl v4), some (.inl v5), some (.inl v6), some (.inl v7), some (.inl v8), some (.inl v9), some (.inl w0), none] [.inl (rd h 188 (8 * v1 + 9))] h _
                refine R_ld (v := .inl v2) dd_leadsTo_182 rfl rfl rfl rfl ?_
                refine R_icmp dd_leadsTo_183 rfl rfl (fun (c28 : (rd h 188 (8 * v1 + 9)) = v2) => ?_) (fun (c28 : (rd h 188 (8 * v1 + 9)) ≠ v2) => ?_)
                · replace k := k.1 c28
                  refine R_ic dd_leadsTo_191 (by decide) rfl ?_
                  refine R_goto dd_leadsTo_192 rfl ?_
                  exact k
                · replace k := k.2 c28
                  refine R_ld (v := .inl v2) dd_leadsTo_186 rfl rfl rfl rfl ?_
                  refine R_ic dd_leadsTo_187 (by decide) rfl ?_
                  refine R_icmp dd_leadsTo_188 rfl rfl (fun (c29 : v2 ≠ 3) => ?_) (fun (c29 : v2 = 3) => ?_)
                  · replace k := k.1 c29
                    refine R_ic dd_leadsTo_195 (by decide) rfl ?_
                    exact k
                  · replace k := k.2 c29
                    refine R_ic dd_leadsTo_191 (by decide) rfl ?_
                    refine R_goto dd_leadsTo_192 rfl ?_
                    exact k
          · replace k := k.2 c25
            refine R_ic dd_isIn_9 (by decide) rfl ?_
            refine R_goto dd_isIn_10 rfl ?_
            refine R_zret dd_isIn_14 rfl (by decide) ?_
            change Rn xs xl e mm_leadsTo 164 [some (.inr (.inr 182)), some (.inl v1), some (.inl v2), some (.inl v3), some (.inl v4), some (.inl v5), some (.inl v6), some (.inl v7), some (.inl v8), some (.inl v9), some (.inl w0), none] [.inl 1] h _
            refine R_if dd_leadsTo_164 rfl rfl (fun (c30 : 1 ≠ 0) => ?_) (fun (c30 : 1 = 0) => ?_)
            · skip
              refine R_ic dd_leadsTo_195 (by decide) rfl ?_
              exact k
            · exact absurd c30 (by omega)
theorem B_leadsTo_196_0 {xs : Nat → Int} {xl e : Nat} {h : LH} {Q : Option LV → LH → Prop} {v1 v2 v3 v4 v5 v6 v7 v8 v9 v10 : Int} (hF : RF h)
    (k : Q (some (.inl (-1))) h) :
    Rn xs xl e mm_leadsTo 196 [some (.inr (.inr 182)), some (.inl v1), some (.inl v2), some (.inl v3), some (.inl v4), some (.inl v5), some (.inl v6), some (.inl v7), some (.inl v8), some (.inl v9), some (.inl v10), none] [.inl 0] h Q := by
  refine R_st (ls' := [some (.inr (.inr 182)), some (.inl v1), some (.inl v2), some (.inl v3), some (.inl v4), some (.inl v5), some (.inl v6), some (.inl v7), some (.inl v8), some (.inl v9), some (.inl v10), some (.inl 0)]) dd_leadsTo_196 rfl rfl rfl (Nat.le_of_ble_eq_true rfl) rfl rfl ?_
  refine R_ld (v := .inl 0) dd_leadsTo_198 rfl rfl rfl rfl ?_
  refine R_if dd_leadsTo_200 rfl rfl (fun (c1 : 0 ≠ 0) => ?_) (fun (c1 : 0 = 0) => ?_)
  · exact absurd c1 (by omega)
  · skip
    refine R_ic dd_leadsTo_203 (by decide) rfl ?_
    exact R_iret dd_leadsTo_204 rfl k
theorem B_leadsTo_196_1 {xs : Nat → Int} {xl e : Nat} {h : LH} {Q : Option LV → LH → Prop} {v1 v2 v3 v4 v5 v6 v7 v8 v9 v10 : Int} (hF : RF h) (he : 2 ≤ e)
    (k : (v1 ≠ (rd h 182 28) →
        (v1 ≠ (rd h 182 29) →
          (-2147483648 ≤ 8 * v1 ∧ 8 * v1 ≤ 2147483647) ∧
          (-2147483648 ≤ 8 * v1 + 4 ∧ 8 * v1 + 4 ≤ 2147483647) ∧
          (-2147483648 ≤ 8 * v1 + 11 ∧ 8 * v1 + 11 ≤ 2147483647) ∧
          (0 ≤ 8 * v1 + 11 ∧ 8 * v1 + 11 < 300) ∧
          ((rd h 188 3) < 0 →
            Q (some (.inl v10)) (wr (wr (wr (wr h 196 0 v4) 196 1 v2) 196 2 (rd h 188 (8 * v1 + 11))) 196 3 v10)) ∧
          (0 ≤ (rd h 188 3) →
            (∃ c, c < e ∧ Rn xs xl c mm_worthAt 0 [some (.inr (.inr 182)), some (.inl (rd h 188 3)), none, none, none] [] (wr (wr (wr (wr h 196 0 v4) 196 1 v2) 196 2 (rd h 188 (8 * v1 + 11))) 196 3 v10) (fun r h' => Rn xs xl e mm_leadsTo 258 [some (.inr (.inr 182)), some (.inl v1), some (.inl v2), some (.inl v3), some (.inl v4), some (.inl v5), some (.inl v6), some (.inl v7), some (.inl v8), some (.inl v9), some (.inl v10), some (.inl 1)] (r.toList ++ []) h' Q)))) ∧
        (v1 = (rd h 182 29) →
          ((rd h 188 3) < 0 →
            Q (some (.inl v10)) (wr (wr (wr (wr h 196 0 v4) 196 1 v2) 196 2 (rd h 182 31)) 196 3 v10)) ∧
          (0 ≤ (rd h 188 3) →
            (∃ c, c < e ∧ Rn xs xl c mm_worthAt 0 [some (.inr (.inr 182)), some (.inl (rd h 188 3)), none, none, none] [] (wr (wr (wr (wr h 196 0 v4) 196 1 v2) 196 2 (rd h 182 31)) 196 3 v10) (fun r h' => Rn xs xl e mm_leadsTo 258 [some (.inr (.inr 182)), some (.inl v1), some (.inl v2), some (.inl v3), some (.inl v4), some (.inl v5), some (.inl v6), some (.inl v7), some (.inl v8), some (.inl v9), some (.inl v10), some (.inl 1)] (r.toList ++ []) h' Q))))) ∧
      (v1 = (rd h 182 28) →
        ((rd h 188 3) < 0 →
          Q (some (.inl v10)) (wr (wr (wr (wr h 196 0 v4) 196 1 v2) 196 2 (rd h 182 30)) 196 3 v10)) ∧
        (0 ≤ (rd h 188 3) →
          (∃ c, c < e ∧ Rn xs xl c mm_worthAt 0 [some (.inr (.inr 182)), some (.inl (rd h 188 3)), none, none, none] [] (wr (wr (wr (wr h 196 0 v4) 196 1 v2) 196 2 (rd h 182 30)) 196 3 v10) (fun r h' => Rn xs xl e mm_leadsTo 258 [some (.inr (.inr 182)), some (.inl v1), some (.inl v2), some (.inl v3), some (.inl v4), some (.inl v5), some (.inl v6), some (.inl v7), some (.inl v8), some (.inl v9), some (.inl v10), some (.inl 1)] (r.toList ++ []) h' Q))))) :
    Rn xs xl e mm_leadsTo 196 [some (.inr (.inr 182)), some (.inl v1), some (.inl v2), some (.inl v3), some (.inl v4), some (.inl v5), some (.inl v6), some (.inl v7), some (.inl v8), some (.inl v9), some (.inl v10), none] [.inl 1] h Q := by
  refine R_st (ls' := [some (.inr (.inr 182)), some (.inl v1), some (.inl v2), some (.inl v3), some (.inl v4), some (.inl v5), some (.inl v6), some (.inl v7), some (.inl v8), some (.inl v9), some (.inl v10), some (.inl 1)]) dd_leadsTo_196 rfl rfl rfl (Nat.le_of_ble_eq_true rfl) rfl rfl ?_
  refine R_ld (v := .inl 1) dd_leadsTo_198 rfl rfl rfl rfl ?_
  refine R_if dd_leadsTo_200 rfl rfl (fun (c8 : 1 ≠ 0) => ?_) (fun (c8 : 1 = 0) => ?_)
  · skip
    refine R_ld (v := .inr (.inr 182)) dd_leadsTo_205 rfl rfl rfl rfl ?_
    refine R_gf (v := .inr (.inr 196)) dd_leadsTo_206 fd_12_119 io_182 (congrArg (fun z : Int => (Sum.inr (Sum.inr z) : LV)) (rf_182_22 hF)) rfl ?_
    refine R_ic dd_leadsTo_209 (by decide) rfl ?_
    refine R_ld (v := .inl v4) dd_leadsTo_210 rfl rfl rfl rfl ?_
    refine R_iast (n := 4) dd_leadsTo_212 ia_196 la_196 (by decide) rfl ?_
    refine R_ld (v := .inr (.inr 182)) dd_leadsTo_213 rfl rfl rfl rfl ?_
    refine R_gf (v := .inr (.inr 196)) dd_leadsTo_214 fd_12_119 io_182 (congrArg (fun z : Int => (Sum.inr (Sum.inr z) : LV)) ((rdw_ne (by decide)).trans (rf_182_22 hF))) rfl ?_
    refine R_ic dd_leadsTo_217 (by decide) rfl ?_
    refine R_ld (v := .inl v2) dd_leadsTo_218 rfl rfl rfl rfl ?_
    refine R_iast (n := 4) dd_leadsTo_219 ia_196 la_196 (by decide) rfl ?_
    refine R_ld (v := .inr (.inr 182)) dd_leadsTo_220 rfl rfl rfl rfl ?_
    refine R_gf (v := .inr (.inr 196)) dd_leadsTo_221 fd_12_119 io_182 (congrArg (fun z : Int => (Sum.inr (Sum.inr z) : LV)) ((rdw_ne (by decide)).trans ((rdw_ne (by decide)).trans (rf_182_22 hF)))) rfl ?_
    refine R_ic dd_leadsTo_224 (by decide) rfl ?_
    refine R_ld (v := .inr (.inr 182)) dd_leadsTo_225 rfl rfl rfl rfl ?_
    refine R_ld (v := .inl v1) dd_leadsTo_226 rfl rfl rfl rfl ?_
    refine R_call (as := [.inr (.inr 182), .inl v1]) (rest := [.inl 2, .inr (.inr 196)]) (M' := mm_priceOf) (ls0 := [some (.inr (.inr 182)), some (.inl v1)]) dd_leadsTo_227 rfl rfl (cw_v cw_12_354 io_182 rfl rfl (Nat.le_of_ble_eq_true rfl) (Nat.le_of_ble_eq_true rfl)) mt_priceOf rfl (c := e - 1) (by omega) rfl ?_
    refine R_ld (v := .inl v1) dd_priceOf_0 rfl rfl rfl rfl ?_
    refine R_ld (v := .inr (.inr 182)) dd_priceOf_1 rfl rfl rfl rfl ?_
    refine R_gf (v := .inl (rd h 182 28)) dd_priceOf_2 fd_12_135 io_182 (congrArg (fun z : Int => (Sum.inl z : LV)) ((rdw_ne (by decide)).trans (rdw_ne (by decide)))) rfl ?_
    refine R_icmp dd_priceOf_5 rfl rfl (fun (c9 : v1 ≠ (rd h 182 28)) => ?_) (fun (c9 : v1 = (rd h 182 28)) => ?_)
    · replace k := k.1 c9
      refine R_ld (v := .inl v1) dd_priceOf_15 rfl rfl rfl rfl ?_
      refine R_ld (v := .inr (.inr 182)) dd_priceOf_16 rfl rfl rfl rfl ?_
      refine R_gf (v := .inl (rd h 182 29)) dd_priceOf_17 fd_12_138 io_182 (congrArg (fun z : Int => (Sum.inl z : LV)) ((rdw_ne (by decide)).trans (rdw_ne (by decide)))) rfl ?_
      refine R_icmp dd_priceOf_20 rfl rfl (fun (c10 : v1 ≠ (rd h 182 29)) => ?_) (fun (c10 : v1 = (rd h 182 29)) => ?_)
      · replace k := k.1 c10
        refine R_ld (v := .inr (.inr 182)) dd_priceOf_30 rfl rfl rfl rfl ?_
        refine R_ld (v := .inl v1) dd_priceOf_31 rfl rfl rfl rfl ?_
        refine R_bi dd_priceOf_32 (by decide) rfl ?_
        refine R_call (as := [.inr (.inr 182), .inl v1, .inl 7]) (rest := []) (M' := mm_doorOf) (ls0 := [some (.inr (.inr 182)), some (.inl v1), some (.inl 7)]) dd_priceOf_34 rfl rfl (cw_v cw_12_347 io_182 rfl rfl (Nat.le_of_ble_eq_true rfl) (Nat.le_of_ble_eq_true rfl)) mt_doorOf rfl (c := e - 2) (by omega) rfl ?_
        refine R_ld (v := .inr (.inr 182)) dd_doorOf_0 rfl rfl rfl rfl ?_
        refine R_gf (v := .inr (.inr 188)) dd_doorOf_1 fd_12_95 io_182 (congrArg (fun z : Int => (Sum.inr (Sum.inr z) : LV)) ((rdw_ne (by decide)).trans ((rdw_ne (by decide)).trans (rf_182_10 hF)))) rfl ?_
        refine R_ic dd_doorOf_4 (by decide) rfl ?_
        refine R_bi dd_doorOf_5 (by decide) rfl ?_
        refine R_ld (v := .inl v1) dd_doorOf_7 rfl rfl rfl rfl ?_
        obtain ⟨s1, k⟩ := k
        refine R_imul (c := 8 * v1) dd_doorOf_8 (by omega) s1 rfl ?_
        obtain ⟨s2, k⟩ := k
        refine R_iadd (c := 8 * v1 + 4) dd_doorOf_9 (by omega) s2 rfl ?_
        refine R_ld (v := .inl 7) dd_doorOf_10 rfl rfl rfl rfl ?_
        obtain ⟨s3, k⟩ := k
        refine R_iadd (c := 8 * v1 + 11) dd_doorOf_11 (by omega) s3 rfl ?_
        obtain ⟨s4, k⟩ := k
        refine R_iald (v := (rd h 188 (8 * v1 + 11))) (n := 300) dd_doorOf_12 ia_188 la_188 s4 ((rdw_ne (by decide)).trans (rdw_ne (by decide))) rfl ?_
        refine R_iret dd_doorOf_13 rfl ?_
        change Rn xs xl (e - 1) mm_priceOf 37 [some (.inr (.inr 182)), some (.inl v1)] [.inl (rd h 188 (8 * v1 + 11))] (wr (wr h 196 0 v4) 196 1 v2) _
        refine R_iret dd_priceOf_37 rfl ?_
        change Rn xs xl e mm_leadsTo 230 [some (.inr (.inr 182)), some (.inl v1), some (.inl v2), some (.inl v3), some (.inl v4), some (.inl v5), some (.inl v6), some (.inl v7), some (.inl v8), some (.inl v9), some (.inl v10), some (.inl 1)] [.inl (rd h 188 (8 * v1 + 11)), .inl 2, .inr (.inr 196)] (wr (wr h 196 0 v4) 196 1 v2) _
        refine R_iast (n := 4) dd_leadsTo_230 ia_196 la_196 (by decide) rfl ?_
        refine R_ld (v := .inr (.inr 182)) dd_leadsTo_231 rfl rfl rfl rfl ?_
        refine R_gf (v := .inr (.inr 196)) dd_leadsTo_232 fd_12_119 io_182 (congrArg (fun z : Int => (Sum.inr (Sum.inr z) : LV)) ((rdw_ne (by decide)).trans ((rdw_ne (by decide)).trans ((rdw_ne (by decide)).trans (rf_182_22 hF))))) rfl ?_
        refine R_ic dd_leadsTo_235 (by decide) rfl ?_
        refine R_ld (v := .inl v10) dd_leadsTo_236 rfl rfl rfl rfl ?_
        refine R_iast (n := 4) dd_leadsTo_238 ia_196 la_196 (by decide) rfl ?_
        refine R_ld (v := .inr (.inr 182)) dd_leadsTo_239 rfl rfl rfl rfl ?_
        refine R_gf (v := .inr (.inr 188)) dd_leadsTo_240 fd_12_95 io_182 (congrArg (fun z : Int => (Sum.inr (Sum.inr z) : LV)) ((rdw_ne (by decide)).trans ((rdw_ne (by decide)).trans ((rdw_ne (by decide)).trans ((rdw_ne (by decide)).trans (rf_182_10 hF)))))) rfl ?_
        refine R_ic dd_leadsTo_243 (by decide) rfl ?_
        refine R_iald (v := (rd h 188 3)) (n := 300) dd_leadsTo_244 ia_188 la_188 (by decide) ((rdw_ne (by decide)).trans ((rdw_ne (by decide)).trans ((rdw_ne (by decide)).trans (rdw_ne (by decide))))) rfl ?_
        refine R_if dd_leadsTo_245 rfl rfl (fun (c11 : (rd h 188 3) < 0) => ?_) (fun (c11 : 0 ≤ (rd h 188 3)) => ?_)
        · replace k := k.1 c11
          refine R_ld (v := .inl v10) dd_leadsTo_261 rfl rfl rfl rfl ?_
          refine R_goto dd_leadsTo_263 rfl ?_
          exact R_iret dd_leadsTo_267 rfl k
        · replace k := k.2 c11
          refine R_ld (v := .inr (.inr 182)) dd_leadsTo_248 rfl rfl rfl rfl ?_
          refine R_ld (v := .inr (.inr 182)) dd_leadsTo_249 rfl rfl rfl rfl ?_
          refine R_gf (v := .inr (.inr 188)) dd_leadsTo_250 fd_12_95 io_182 (congrArg (fun z : Int => (Sum.inr (Sum.inr z) : LV)) ((rdw_ne (by decide)).trans ((rdw_ne (by decide)).trans ((rdw_ne (by decide)).trans ((rdw_ne (by decide)).trans (rf_182_10 hF)))))) rfl ?_
          refine R_ic dd_leadsTo_253 (by decide) rfl ?_
          refine R_iald (v := (rd h 188 3)) (n := 300) dd_leadsTo_254 ia_188 la_188 (by decide) ((rdw_ne (by decide)).trans ((rdw_ne (by decide)).trans ((rdw_ne (by decide)).trans (rdw_ne (by decide))))) rfl ?_
          obtain ⟨c, hc, k⟩ := k
          exact R_call (as := [.inr (.inr 182), .inl (rd h 188 3)]) (rest := []) (M' := mm_worthAt) (ls0 := [some (.inr (.inr 182)), some (.inl (rd h 188 3)), none, none, none]) dd_leadsTo_255 rfl rfl (cw_v cw_12_357 io_182 rfl rfl (Nat.le_of_ble_eq_true rfl) (Nat.le_of_ble_eq_true rfl)) mt_worthAt rfl hc rfl k
      · replace k := k.2 c10
        refine R_ld (v := .inr (.inr 182)) dd_priceOf_23 rfl rfl rfl rfl ?_
        refine R_gf (v := .inl (rd h 182 31)) dd_priceOf_24 fd_12_344 io_182 (congrArg (fun z : Int => (Sum.inl z : LV)) ((rdw_ne (by decide)).trans (rdw_ne (by decide)))) rfl ?_
        refine R_goto dd_priceOf_27 rfl ?_
        refine R_iret dd_priceOf_37 rfl ?_
        change Rn xs xl e mm_leadsTo 230 [some (.inr (.inr 182)), some (.inl v1), some (.inl v2), some (.inl v3), some (.inl v4), some (.inl v5), some (.inl v6), some (.inl v7), some (.inl v8), some (.inl v9), some (.inl v10), some (.inl 1)] [.inl (rd h 182 31), .inl 2, .inr (.inr 196)] (wr (wr h 196 0 v4) 196 1 v2) _
        refine R_iast (n := 4) dd_leadsTo_230 ia_196 la_196 (by decide) rfl ?_
        refine R_ld (v := .inr (.inr 182)) dd_leadsTo_231 rfl rfl rfl rfl ?_
        refine R_gf (v := .inr (.inr 196)) dd_leadsTo_232 fd_12_119 io_182 (congrArg (fun z : Int => (Sum.inr (Sum.inr z) : LV)) ((rdw_ne (by decide)).trans ((rdw_ne (by decide)).trans ((rdw_ne (by decide)).trans (rf_182_22 hF))))) rfl ?_
        refine R_ic dd_leadsTo_235 (by decide) rfl ?_
        refine R_ld (v := .inl v10) dd_leadsTo_236 rfl rfl rfl rfl ?_
        refine R_iast (n := 4) dd_leadsTo_238 ia_196 la_196 (by decide) rfl ?_
        refine R_ld (v := .inr (.inr 182)) dd_leadsTo_239 rfl rfl rfl rfl ?_
        refine R_gf (v := .inr (.inr 188)) dd_leadsTo_240 fd_12_95 io_182 (congrArg (fun z : Int => (Sum.inr (Sum.inr z) : LV)) ((rdw_ne (by decide)).trans ((rdw_ne (by decide)).trans ((rdw_ne (by decide)).trans ((rdw_ne (by decide)).trans (rf_182_10 hF)))))) rfl ?_
        refine R_ic dd_leadsTo_243 (by decide) rfl ?_
        refine R_iald (v := (rd h 188 3)) (n := 300) dd_leadsTo_244 ia_188 la_188 (by decide) ((rdw_ne (by decide)).trans ((rdw_ne (by decide)).trans ((rdw_ne (by decide)).trans (rdw_ne (by decide))))) rfl ?_
        refine R_if dd_leadsTo_245 rfl rfl (fun (c12 : (rd h 188 3) < 0) => ?_) (fun (c12 : 0 ≤ (rd h 188 3)) => ?_)
        · replace k := k.1 c12
          refine R_ld (v := .inl v10) dd_leadsTo_261 rfl rfl rfl rfl ?_
          refine R_goto dd_leadsTo_263 rfl ?_
          exact R_iret dd_leadsTo_267 rfl k
        · replace k := k.2 c12
          refine R_ld (v := .inr (.inr 182)) dd_leadsTo_248 rfl rfl rfl rfl ?_
          refine R_ld (v := .inr (.inr 182)) dd_leadsTo_249 rfl rfl rfl rfl ?_
          refine R_gf (v := .inr (.inr 188)) dd_leadsTo_250 fd_12_95 io_182 (congrArg (fun z : Int => (Sum.inr (Sum.inr z) : LV)) ((rdw_ne (by decide)).trans ((rdw_ne (by decide)).trans ((rdw_ne (by decide)).trans ((rdw_ne (by decide)).trans (rf_182_10 hF)))))) rfl ?_
          refine R_ic dd_leadsTo_253 (by decide) rfl ?_
          refine R_iald (v := (rd h 188 3)) (n := 300) dd_leadsTo_254 ia_188 la_188 (by decide) ((rdw_ne (by decide)).trans ((rdw_ne (by decide)).trans ((rdw_ne (by decide)).trans (rdw_ne (by decide))))) rfl ?_
          obtain ⟨c, hc, k⟩ := k
          exact R_call (as := [.inr (.inr 182), .inl (rd h 188 3)]) (rest := []) (M' := mm_worthAt) (ls0 := [some (.inr (.inr 182)), some (.inl (rd h 188 3)), none, none, none]) dd_leadsTo_255 rfl rfl (cw_v cw_12_357 io_182 rfl rfl (Nat.le_of_ble_eq_true rfl) (Nat.le_of_ble_eq_true rfl)) mt_worthAt rfl hc rfl k
    · replace k := k.2 c9
      refine R_ld (v := .inr (.inr 182)) dd_priceOf_8 rfl rfl rfl rfl ?_
      refine R_gf (v := .inl (rd h 182 30)) dd_priceOf_9 fd_12_341 io_182 (congrArg (fun z : Int => (Sum.inl z : LV)) ((rdw_ne (by decide)).trans (rdw_ne (by decide)))) rfl ?_
      refine R_goto dd_priceOf_12 rfl ?_
      refine R_iret dd_priceOf_37 rfl ?_
      change Rn xs xl e mm_leadsTo 230 [some (.inr (.inr 182)), some (.inl v1), some (.inl v2), some (.inl v3), some (.inl v4), some (.inl v5), some (.inl v6), some (.inl v7), some (.inl v8), some (.inl v9), some (.inl v10), some (.inl 1)] [.inl (rd h 182 30), .inl 2, .inr (.inr 196)] (wr (wr h 196 0 v4) 196 1 v2) _
      refine R_iast (n := 4) dd_leadsTo_230 ia_196 la_196 (by decide) rfl ?_
      refine R_ld (v := .inr (.inr 182)) dd_leadsTo_231 rfl rfl rfl rfl ?_
      refine R_gf (v := .inr (.inr 196)) dd_leadsTo_232 fd_12_119 io_182 (congrArg (fun z : Int => (Sum.inr (Sum.inr z) : LV)) ((rdw_ne (by decide)).trans ((rdw_ne (by decide)).trans ((rdw_ne (by decide)).trans (rf_182_22 hF))))) rfl ?_
      refine R_ic dd_leadsTo_235 (by decide) rfl ?_
      refine R_ld (v := .inl v10) dd_leadsTo_236 rfl rfl rfl rfl ?_
      refine R_iast (n := 4) dd_leadsTo_238 ia_196 la_196 (by decide) rfl ?_
      refine R_ld (v := .inr (.inr 182)) dd_leadsTo_239 rfl rfl rfl rfl ?_
      refine R_gf (v := .inr (.inr 188)) dd_leadsTo_240 fd_12_95 io_182 (congrArg (fun z : Int => (Sum.inr (Sum.inr z) : LV)) ((rdw_ne (by decide)).trans ((rdw_ne (by decide)).trans ((rdw_ne (by decide)).trans ((rdw_ne (by decide)).trans (rf_182_10 hF)))))) rfl ?_
      refine R_ic dd_leadsTo_243 (by decide) rfl ?_
      refine R_iald (v := (rd h 188 3)) (n := 300) dd_leadsTo_244 ia_188 la_188 (by decide) ((rdw_ne (by decide)).trans ((rdw_ne (by decide)).trans ((rdw_ne (by decide)).trans (rdw_ne (by decide))))) rfl ?_
      refine R_if dd_leadsTo_245 rfl rfl (fun (c13 : (rd h 188 3) < 0) => ?_) (fun (c13 : 0 ≤ (rd h 188 3)) => ?_)
      · replace k := k.1 c13
        refine R_ld (v := .inl v10) dd_leadsTo_261 rfl rfl rfl rfl ?_
        refine R_goto dd_leadsTo_263 rfl ?_
        exact R_iret dd_leadsTo_267 rfl k
      · replace k := k.2 c13
        refine R_ld (v := .inr (.inr 182)) dd_leadsTo_248 rfl rfl rfl rfl ?_
        refine R_ld (v := .inr (.inr 182)) dd_leadsTo_249 rfl rfl rfl rfl ?_
        refine R_gf (v := .inr (.inr 188)) dd_leadsTo_250 fd_12_95 io_182 (congrArg (fun z : Int => (Sum.inr (Sum.inr z) : LV)) ((rdw_ne (by decide)).trans ((rdw_ne (by decide)).trans ((rdw_ne (by decide)).trans ((rdw_ne (by decide)).trans (rf_182_10 hF)))))) rfl ?_
        refine R_ic dd_leadsTo_253 (by decide) rfl ?_
        refine R_iald (v := (rd h 188 3)) (n := 300) dd_leadsTo_254 ia_188 la_188 (by decide) ((rdw_ne (by decide)).trans ((rdw_ne (by decide)).trans ((rdw_ne (by decide)).trans (rdw_ne (by decide))))) rfl ?_
        obtain ⟨c, hc, k⟩ := k
        exact R_call (as := [.inr (.inr 182), .inl (rd h 188 3)]) (rest := []) (M' := mm_worthAt) (ls0 := [some (.inr (.inr 182)), some (.inl (rd h 188 3)), none, none, none]) dd_leadsTo_255 rfl rfl (cw_v cw_12_357 io_182 rfl rfl (Nat.le_of_ble_eq_true rfl) (Nat.le_of_ble_eq_true rfl)) mt_worthAt rfl hc rfl k
  · exact absurd c8 (by omega)
theorem B_leadsTo_258 {xs : Nat → Int} {xl e : Nat} {h : LH} {Q : Option LV → LH → Prop} {v1 v2 v3 v4 v5 v6 v7 v8 v9 v10 v11 w0 : Int} (hF : RF h)
    (k : (w0 = 0 →
        Q (some (.inl (-1))) h) ∧
      (w0 ≠ 0 →
        Q (some (.inl v10)) h)) :
    Rn xs xl e mm_leadsTo 258 [some (.inr (.inr 182)), some (.inl v1), some (.inl v2), some (.inl v3), some (.inl v4), some (.inl v5), some (.inl v6), some (.inl v7), some (.inl v8), some (.inl v9), some (.inl v10), some (.inl v11)] [.inl w0] h Q := by
  refine R_if dd_leadsTo_258 rfl rfl (fun (c1 : w0 = 0) => ?_) (fun (c1 : w0 ≠ 0) => ?_)
  · replace k := k.1 c1
    refine R_ic dd_leadsTo_266 (by decide) rfl ?_
    exact R_iret dd_leadsTo_267 rfl k
  · replace k := k.2 c1
    refine R_ld (v := .inl v10) dd_leadsTo_261 rfl rfl rfl rfl ?_
    refine R_goto dd_leadsTo_263 rfl ?_
    exact R_iret dd_leadsTo_267 rfl k
theorem B_leadsNow_0 {xs : Nat → Int} {xl e : Nat} {h : LH} {Q : Option LV → LH → Prop} {v1 v2 v3 v4 v5 : Int} (hF : RF h)
    (k : (24 ≤ v5 →
        Q (some (.inl (-1))) h) ∧
      (v5 < 24 →
        (-2147483648 ≤ v1 + 1 ∧ v1 + 1 ≤ 2147483647) ∧
        (0 ≤ v1 + 1 ∧ v1 + 1 < 1610) ∧
        (∃ c, c < e ∧ Rn xs xl c mm_leadsTo 0 [some (.inr (.inr 182)), some (.inl v2), some (.inl v3), some (.inl v4), some (.inl v5), some (.inl (rd h 198 (v1 + 1))), some (.inl 0), none, none, none, none, none] [] h (fun r h' => Rn xs xl e mm_leadsNow 26 [some (.inr (.inr 182)), some (.inl v1), some (.inl v2), some (.inl v3), some (.inl v4), some (.inl v5)] (r.toList ++ []) h' Q)))) :
    Rn xs xl e mm_leadsNow 0 [some (.inr (.inr 182)), some (.inl v1), some (.inl v2), some (.inl v3), some (.inl v4), some (.inl v5)] [] h Q := by
  refine R_ld (v := .inl v5) dd_leadsNow_0 rfl rfl rfl rfl ?_
  refine R_bi dd_leadsNow_2 (by decide) rfl ?_
  refine R_icmp dd_leadsNow_4 rfl rfl (fun (c4 : 24 ≤ v5) => ?_) (fun (c4 : v5 < 24) => ?_)
  · replace k := k.1 c4
    refine R_ic dd_leadsNow_29 (by decide) rfl ?_
    exact R_iret dd_leadsNow_30 rfl k
  · replace k := k.2 c4
    refine R_ld (v := .inr (.inr 182)) dd_leadsNow_7 rfl rfl rfl rfl ?_
    refine R_ld (v := .inl v2) dd_leadsNow_8 rfl rfl rfl rfl ?_
    refine R_ld (v := .inl v3) dd_leadsNow_9 rfl rfl rfl rfl ?_
    refine R_ld (v := .inl v4) dd_leadsNow_10 rfl rfl rfl rfl ?_
    refine R_ld (v := .inl v5) dd_leadsNow_12 rfl rfl rfl rfl ?_
    refine R_ld (v := .inr (.inr 182)) dd_leadsNow_14 rfl rfl rfl rfl ?_
    refine R_gf (v := .inr (.inr 198)) dd_leadsNow_15 fd_12_125 io_182 (congrArg (fun z : Int => (Sum.inr (Sum.inr z) : LV)) (rf_182_24 hF)) rfl ?_
    refine R_ld (v := .inl v1) dd_leadsNow_18 rfl rfl rfl rfl ?_
    refine R_ic dd_leadsNow_19 (by decide) rfl ?_
    obtain ⟨s1, k⟩ := k
    refine R_iadd (c := v1 + 1) dd_leadsNow_20 (by omega) s1 rfl ?_
    obtain ⟨s2, k⟩ := k
    refine R_iald (v := (rd h 198 (v1 + 1))) (n := 1610) dd_leadsNow_21 ia_198 la_198 s2 (rfl) rfl ?_
    refine R_ic dd_leadsNow_22 (by decide) rfl ?_
    obtain ⟨c, hc, k⟩ := k
    exact R_call (as := [.inr (.inr 182), .inl v2, .inl v3, .inl v4, .inl v5, .inl (rd h 198 (v1 + 1)), .inl 0]) (rest := []) (M' := mm_leadsTo) (ls0 := [some (.inr (.inr 182)), some (.inl v2), some (.inl v3), some (.inl v4), some (.inl v5), some (.inl (rd h 198 (v1 + 1))), some (.inl 0), none, none, none, none, none]) dd_leadsNow_23 rfl rfl (cw_v cw_12_360 io_182 rfl rfl (Nat.le_of_ble_eq_true rfl) (Nat.le_of_ble_eq_true rfl)) mt_leadsTo rfl hc rfl k
theorem B_leadsNow_26 {xs : Nat → Int} {xl e : Nat} {h : LH} {Q : Option LV → LH → Prop} {v1 v2 v3 v4 v5 w0 : Int} (hF : RF h)
    (k : Q (some (.inl w0)) h) :
    Rn xs xl e mm_leadsNow 26 [some (.inr (.inr 182)), some (.inl v1), some (.inl v2), some (.inl v3), some (.inl v4), some (.inl v5)] [.inl w0] h Q := by
  refine R_goto dd_leadsNow_26 rfl ?_
  exact R_iret dd_leadsNow_30 rfl k
theorem B_toOf_0 {xs : Nat → Int} {xl e : Nat} {h : LH} {Q : Option LV → LH → Prop} {v1 v2 v3 : Int} (hF : RF h)
    (k : (∃ c, c < e ∧ Rn xs xl c mm_leadsNow 0 [some (.inr (.inr 182)), some (.inl 0), some (.inl v1), some (.inl 0), some (.inl v2), some (.inl v3)] [] h (fun r h' => Rn xs xl e mm_toOf 9 [some (.inr (.inr 182)), some (.inl v1), some (.inl v2), some (.inl v3)] (r.toList ++ []) h' Q))) :
    Rn xs xl e mm_toOf 0 [some (.inr (.inr 182)), some (.inl v1), some (.inl v2), some (.inl v3)] [] h Q := by
  refine R_ld (v := .inr (.inr 182)) dd_toOf_0 rfl rfl rfl rfl ?_
  refine R_ic dd_toOf_1 (by decide) rfl ?_
  refine R_ld (v := .inl v1) dd_toOf_2 rfl rfl rfl rfl ?_
  refine R_ic dd_toOf_3 (by decide) rfl ?_
  refine R_ld (v := .inl v2) dd_toOf_4 rfl rfl rfl rfl ?_
  refine R_ld (v := .inl v3) dd_toOf_5 rfl rfl rfl rfl ?_
  obtain ⟨c, hc, k⟩ := k
  exact R_call (as := [.inr (.inr 182), .inl 0, .inl v1, .inl 0, .inl v2, .inl v3]) (rest := []) (M' := mm_leadsNow) (ls0 := [some (.inr (.inr 182)), some (.inl 0), some (.inl v1), some (.inl 0), some (.inl v2), some (.inl v3)]) dd_toOf_6 rfl rfl (cw_v cw_12_373 io_182 rfl rfl (Nat.le_of_ble_eq_true rfl) (Nat.le_of_ble_eq_true rfl)) mt_leadsNow rfl hc rfl k
theorem B_toOf_9 {xs : Nat → Int} {xl e : Nat} {h : LH} {Q : Option LV → LH → Prop} {v1 v2 v3 w0 : Int} (hF : RF h)
    (k : Q (some (.inl w0)) h) :
    Rn xs xl e mm_toOf 9 [some (.inr (.inr 182)), some (.inl v1), some (.inl v2), some (.inl v3)] [.inl w0] h Q := by
  exact R_iret dd_toOf_9 rfl k
