/-! LM, by program (wip/p2/hand.py): rows of errand -/
def mm_Plans_lessenNeed : LM_M := (⟨"OneSided$Plans", "lessenNeed", "(LOneSided$Person;III)V"⟩, prog_7_method_8_code, 9, none, 5, 5, 0, 894, 893, 1000033)
def mm_Plans_fillNeed : LM_M := (⟨"OneSided$Plans", "fillNeed", "(LOneSided$Quarter;LOneSided$Person;III)V"⟩, prog_7_method_7_code, 12, none, 5, 6, 0, 889, 888, 1000032)
def mm_Plans_hourThrough : LM_M := (⟨"OneSided$Plans", "hourThrough", "(LOneSided$Quarter;IIII)I"⟩, prog_7_method_10_code, 7, (some .int), 5, 6, 0, 903, 902, 1000035)
def mm_Plans_stateThrough : LM_M := (⟨"OneSided$Plans", "stateThrough", "(LOneSided$Quarter;II)I"⟩, prog_7_method_11_code, 6, (some .int), 5, 4, 0, 908, 907, 1000036)
def mm_Plans_nextDoor : LM_M := (⟨"OneSided$Plans", "nextDoor", "(LOneSided$Quarter;LOneSided$Person;II)I"⟩, prog_7_method_9_code, 8, (some .int), 5, 5, 0, 899, 898, 1000034)
def mm_Plans_findWay : LM_M := (⟨"OneSided$Plans", "findWay", "(LOneSided$Quarter;LOneSided$Scene;I)V"⟩, prog_7_method_6_code, 9, none, 5, 4, 0, 884, 882, 883)
theorem dd_Plans_lessenNeed_0 : decode mm_Plans_lessenNeed.2.1 0 = .ok (.iconst 0, 1) := by decide +kernel
theorem dd_Plans_lessenNeed_1 : decode mm_Plans_lessenNeed.2.1 1 = .ok (.istore 5, 2) := by decide +kernel
theorem dd_Plans_lessenNeed_3 : decode mm_Plans_lessenNeed.2.1 3 = .ok (.iload 5, 2) := by decide +kernel
theorem dd_Plans_lessenNeed_5 : decode mm_Plans_lessenNeed.2.1 5 = .ok (.iconst 2, 1) := by decide +kernel
theorem dd_Plans_lessenNeed_6 : decode mm_Plans_lessenNeed.2.1 6 = .ok (.if_icmp .ge (81), 3) := by decide +kernel
theorem dd_Plans_lessenNeed_87 : decode mm_Plans_lessenNeed.2.1 87 = .ok (.return_, 1) := by decide +kernel
theorem dd_Plans_lessenNeed_9 : decode mm_Plans_lessenNeed.2.1 9 = .ok (.iload 4, 2) := by decide +kernel
theorem dd_Plans_lessenNeed_11 : decode mm_Plans_lessenNeed.2.1 11 = .ok (.aload_n 1, 1) := by decide +kernel
theorem dd_Plans_lessenNeed_12 : decode mm_Plans_lessenNeed.2.1 12 = .ok (.getfield 59, 3) := by decide +kernel
theorem dd_Plans_lessenNeed_15 : decode mm_Plans_lessenNeed.2.1 15 = .ok (.if_icmp .ne (7), 3) := by decide +kernel
theorem dd_Plans_lessenNeed_22 : decode mm_Plans_lessenNeed.2.1 22 = .ok (.iload 5, 2) := by decide +kernel
theorem dd_Plans_lessenNeed_24 : decode mm_Plans_lessenNeed.2.1 24 = .ok (.istore 6, 2) := by decide +kernel
theorem dd_Plans_lessenNeed_26 : decode mm_Plans_lessenNeed.2.1 26 = .ok (.iload_n 2, 1) := by decide +kernel
theorem dd_Plans_lessenNeed_27 : decode mm_Plans_lessenNeed.2.1 27 = .ok (.bipush 20, 2) := by decide +kernel
theorem dd_Plans_lessenNeed_29 : decode mm_Plans_lessenNeed.2.1 29 = .ok (.imul, 1) := by decide +kernel
theorem dd_Plans_lessenNeed_30 : decode mm_Plans_lessenNeed.2.1 30 = .ok (.iload_n 3, 1) := by decide +kernel
theorem dd_Plans_lessenNeed_31 : decode mm_Plans_lessenNeed.2.1 31 = .ok (.iconst 2, 1) := by decide +kernel
theorem dd_Plans_lessenNeed_32 : decode mm_Plans_lessenNeed.2.1 32 = .ok (.imul, 1) := by decide +kernel
theorem dd_Plans_lessenNeed_33 : decode mm_Plans_lessenNeed.2.1 33 = .ok (.iadd, 1) := by decide +kernel
theorem dd_Plans_lessenNeed_34 : decode mm_Plans_lessenNeed.2.1 34 = .ok (.iload 5, 2) := by decide +kernel
theorem dd_Plans_lessenNeed_36 : decode mm_Plans_lessenNeed.2.1 36 = .ok (.iadd, 1) := by decide +kernel
theorem dd_Plans_lessenNeed_37 : decode mm_Plans_lessenNeed.2.1 37 = .ok (.istore 7, 2) := by decide +kernel
theorem dd_Plans_lessenNeed_39 : decode mm_Plans_lessenNeed.2.1 39 = .ok (.iload_n 2, 1) := by decide +kernel
theorem dd_Plans_lessenNeed_40 : decode mm_Plans_lessenNeed.2.1 40 = .ok (.iconst 1, 1) := by decide +kernel
theorem dd_Plans_lessenNeed_41 : decode mm_Plans_lessenNeed.2.1 41 = .ok (.iadd, 1) := by decide +kernel
theorem dd_Plans_lessenNeed_42 : decode mm_Plans_lessenNeed.2.1 42 = .ok (.bipush 20, 2) := by decide +kernel
theorem dd_Plans_lessenNeed_44 : decode mm_Plans_lessenNeed.2.1 44 = .ok (.imul, 1) := by decide +kernel
theorem dd_Plans_lessenNeed_45 : decode mm_Plans_lessenNeed.2.1 45 = .ok (.iload 4, 2) := by decide +kernel
theorem dd_Plans_lessenNeed_47 : decode mm_Plans_lessenNeed.2.1 47 = .ok (.iconst 2, 1) := by decide +kernel
theorem dd_Plans_lessenNeed_48 : decode mm_Plans_lessenNeed.2.1 48 = .ok (.imul, 1) := by decide +kernel
theorem dd_Plans_lessenNeed_49 : decode mm_Plans_lessenNeed.2.1 49 = .ok (.iadd, 1) := by decide +kernel
theorem dd_Plans_lessenNeed_50 : decode mm_Plans_lessenNeed.2.1 50 = .ok (.iload 6, 2) := by decide +kernel
theorem dd_Plans_lessenNeed_52 : decode mm_Plans_lessenNeed.2.1 52 = .ok (.iadd, 1) := by decide +kernel
theorem dd_Plans_lessenNeed_53 : decode mm_Plans_lessenNeed.2.1 53 = .ok (.istore 8, 2) := by decide +kernel
theorem dd_Plans_lessenNeed_55 : decode mm_Plans_lessenNeed.2.1 55 = .ok (.aload_n 0, 1) := by decide +kernel
theorem dd_Plans_lessenNeed_56 : decode mm_Plans_lessenNeed.2.1 56 = .ok (.getfield 15, 3) := by decide +kernel
theorem fd_5_15 : fld 5 15 = some (5, 2) := by decide +kernel
theorem rf_77_2 {h : LH} (hF : RF h) : rd h 77 2 = 79 := hF 77 2 79 (by decide +kernel) (by decide +kernel)
theorem dd_Plans_lessenNeed_59 : decode mm_Plans_lessenNeed.2.1 59 = .ok (.iload 7, 2) := by decide +kernel
theorem dd_Plans_lessenNeed_61 : decode mm_Plans_lessenNeed.2.1 61 = .ok (.aload_n 0, 1) := by decide +kernel
theorem dd_Plans_lessenNeed_62 : decode mm_Plans_lessenNeed.2.1 62 = .ok (.getfield 15, 3) := by decide +kernel
theorem dd_Plans_lessenNeed_65 : decode mm_Plans_lessenNeed.2.1 65 = .ok (.iload 7, 2) := by decide +kernel
theorem dd_Plans_lessenNeed_67 : decode mm_Plans_lessenNeed.2.1 67 = .ok (.iaload, 1) := by decide +kernel
theorem ia_79 : isA NC 79 1 = true := by decide +kernel
theorem la_79 : (lay (79 : Int).toNat).2.2 = 500 := by decide +kernel
theorem dd_Plans_lessenNeed_68 : decode mm_Plans_lessenNeed.2.1 68 = .ok (.aload_n 0, 1) := by decide +kernel
theorem dd_Plans_lessenNeed_69 : decode mm_Plans_lessenNeed.2.1 69 = .ok (.getfield 15, 3) := by decide +kernel
theorem dd_Plans_lessenNeed_72 : decode mm_Plans_lessenNeed.2.1 72 = .ok (.iload 8, 2) := by decide +kernel
theorem dd_Plans_lessenNeed_74 : decode mm_Plans_lessenNeed.2.1 74 = .ok (.iaload, 1) := by decide +kernel
theorem dd_Plans_lessenNeed_75 : decode mm_Plans_lessenNeed.2.1 75 = .ok (.iconst 1, 1) := by decide +kernel
theorem dd_Plans_lessenNeed_76 : decode mm_Plans_lessenNeed.2.1 76 = .ok (.iadd, 1) := by decide +kernel
theorem dd_Plans_lessenNeed_77 : decode mm_Plans_lessenNeed.2.1 77 = .ok (.invokestatic 122, 3) := by decide +kernel
theorem dd_Plans_lessenNeed_80 : decode mm_Plans_lessenNeed.2.1 80 = .ok (.iastore, 1) := by decide +kernel
theorem dd_Plans_lessenNeed_81 : decode mm_Plans_lessenNeed.2.1 81 = .ok (.iinc 5 1, 3) := by decide +kernel
theorem dd_Plans_lessenNeed_84 : decode mm_Plans_lessenNeed.2.1 84 = .ok (.goto (-81), 3) := by decide +kernel
theorem dd_Plans_lessenNeed_18 : decode mm_Plans_lessenNeed.2.1 18 = .ok (.iconst 1, 1) := by decide +kernel
theorem dd_Plans_lessenNeed_19 : decode mm_Plans_lessenNeed.2.1 19 = .ok (.goto 5, 3) := by decide +kernel
theorem dd_Plans_fillNeed_0 : decode mm_Plans_fillNeed.2.1 0 = .ok (.iload 5, 2) := by decide +kernel
theorem dd_Plans_fillNeed_2 : decode mm_Plans_fillNeed.2.1 2 = .ok (.iconst 1, 1) := by decide +kernel
theorem dd_Plans_fillNeed_3 : decode mm_Plans_fillNeed.2.1 3 = .ok (.iadd, 1) := by decide +kernel
theorem dd_Plans_fillNeed_4 : decode mm_Plans_fillNeed.2.1 4 = .ok (.bipush 20, 2) := by decide +kernel
theorem dd_Plans_fillNeed_6 : decode mm_Plans_fillNeed.2.1 6 = .ok (.imul, 1) := by decide +kernel
theorem dd_Plans_fillNeed_7 : decode mm_Plans_fillNeed.2.1 7 = .ok (.istore 6, 2) := by decide +kernel
theorem dd_Plans_fillNeed_9 : decode mm_Plans_fillNeed.2.1 9 = .ok (.iconst 0, 1) := by decide +kernel
theorem dd_Plans_fillNeed_10 : decode mm_Plans_fillNeed.2.1 10 = .ok (.istore 7, 2) := by decide +kernel
theorem dd_Plans_fillNeed_12 : decode mm_Plans_fillNeed.2.1 12 = .ok (.iload 7, 2) := by decide +kernel
theorem dd_Plans_fillNeed_14 : decode mm_Plans_fillNeed.2.1 14 = .ok (.bipush 20, 2) := by decide +kernel
theorem dd_Plans_fillNeed_16 : decode mm_Plans_fillNeed.2.1 16 = .ok (.if_icmp .ge (39), 3) := by decide +kernel
theorem dd_Plans_fillNeed_55 : decode mm_Plans_fillNeed.2.1 55 = .ok (.iload 5, 2) := by decide +kernel
theorem dd_Plans_fillNeed_57 : decode mm_Plans_fillNeed.2.1 57 = .ok (.istore 7, 2) := by decide +kernel
theorem dd_Plans_fillNeed_19 : decode mm_Plans_fillNeed.2.1 19 = .ok (.aload_n 0, 1) := by decide +kernel
theorem dd_Plans_fillNeed_20 : decode mm_Plans_fillNeed.2.1 20 = .ok (.getfield 15, 3) := by decide +kernel
theorem dd_Plans_fillNeed_23 : decode mm_Plans_fillNeed.2.1 23 = .ok (.iload 6, 2) := by decide +kernel
theorem dd_Plans_fillNeed_25 : decode mm_Plans_fillNeed.2.1 25 = .ok (.iload 7, 2) := by decide +kernel
theorem dd_Plans_fillNeed_27 : decode mm_Plans_fillNeed.2.1 27 = .ok (.iadd, 1) := by decide +kernel
theorem dd_Plans_fillNeed_28 : decode mm_Plans_fillNeed.2.1 28 = .ok (.iload 7, 2) := by decide +kernel
theorem dd_Plans_fillNeed_30 : decode mm_Plans_fillNeed.2.1 30 = .ok (.aload_n 2, 1) := by decide +kernel
theorem dd_Plans_fillNeed_31 : decode mm_Plans_fillNeed.2.1 31 = .ok (.getfield 65, 3) := by decide +kernel
theorem dd_Plans_fillNeed_34 : decode mm_Plans_fillNeed.2.1 34 = .ok (.iconst 2, 1) := by decide +kernel
theorem dd_Plans_fillNeed_35 : decode mm_Plans_fillNeed.2.1 35 = .ok (.imul, 1) := by decide +kernel
theorem dd_Plans_fillNeed_36 : decode mm_Plans_fillNeed.2.1 36 = .ok (.iconst 1, 1) := by decide +kernel
theorem dd_Plans_fillNeed_37 : decode mm_Plans_fillNeed.2.1 37 = .ok (.iadd, 1) := by decide +kernel
theorem dd_Plans_fillNeed_38 : decode mm_Plans_fillNeed.2.1 38 = .ok (.if_icmp .ne (7), 3) := by decide +kernel
theorem dd_Plans_fillNeed_45 : decode mm_Plans_fillNeed.2.1 45 = .ok (.sipush 1000, 3) := by decide +kernel
theorem dd_Plans_fillNeed_48 : decode mm_Plans_fillNeed.2.1 48 = .ok (.iastore, 1) := by decide +kernel
theorem dd_Plans_fillNeed_49 : decode mm_Plans_fillNeed.2.1 49 = .ok (.iinc 7 1, 3) := by decide +kernel
theorem dd_Plans_fillNeed_52 : decode mm_Plans_fillNeed.2.1 52 = .ok (.goto (-40), 3) := by decide +kernel
theorem dd_Plans_fillNeed_41 : decode mm_Plans_fillNeed.2.1 41 = .ok (.iconst 0, 1) := by decide +kernel
theorem dd_Plans_fillNeed_42 : decode mm_Plans_fillNeed.2.1 42 = .ok (.goto 6, 3) := by decide +kernel
theorem dd_Plans_fillNeed_59 : decode mm_Plans_fillNeed.2.1 59 = .ok (.iload 7, 2) := by decide +kernel
theorem dd_Plans_fillNeed_61 : decode mm_Plans_fillNeed.2.1 61 = .ok (.iload 4, 2) := by decide +kernel
theorem dd_Plans_fillNeed_63 : decode mm_Plans_fillNeed.2.1 63 = .ok (.if_icmp .lt (141), 3) := by decide +kernel
theorem dd_Plans_fillNeed_204 : decode mm_Plans_fillNeed.2.1 204 = .ok (.return_, 1) := by decide +kernel
theorem dd_Plans_fillNeed_66 : decode mm_Plans_fillNeed.2.1 66 = .ok (.aload_n 0, 1) := by decide +kernel
theorem dd_Plans_fillNeed_67 : decode mm_Plans_fillNeed.2.1 67 = .ok (.getfield 15, 3) := by decide +kernel
theorem dd_Plans_fillNeed_70 : decode mm_Plans_fillNeed.2.1 70 = .ok (.iload 7, 2) := by decide +kernel
theorem dd_Plans_fillNeed_72 : decode mm_Plans_fillNeed.2.1 72 = .ok (.iconst 1, 1) := by decide +kernel
theorem dd_Plans_fillNeed_73 : decode mm_Plans_fillNeed.2.1 73 = .ok (.iadd, 1) := by decide +kernel
theorem dd_Plans_fillNeed_74 : decode mm_Plans_fillNeed.2.1 74 = .ok (.bipush 20, 2) := by decide +kernel
theorem dd_Plans_fillNeed_76 : decode mm_Plans_fillNeed.2.1 76 = .ok (.imul, 1) := by decide +kernel
theorem dd_Plans_fillNeed_77 : decode mm_Plans_fillNeed.2.1 77 = .ok (.aload_n 0, 1) := by decide +kernel
theorem dd_Plans_fillNeed_78 : decode mm_Plans_fillNeed.2.1 78 = .ok (.getfield 15, 3) := by decide +kernel
theorem dd_Plans_fillNeed_81 : decode mm_Plans_fillNeed.2.1 81 = .ok (.iload 7, 2) := by decide +kernel
theorem dd_Plans_fillNeed_83 : decode mm_Plans_fillNeed.2.1 83 = .ok (.bipush 20, 2) := by decide +kernel
theorem dd_Plans_fillNeed_85 : decode mm_Plans_fillNeed.2.1 85 = .ok (.imul, 1) := by decide +kernel
theorem dd_Plans_fillNeed_86 : decode mm_Plans_fillNeed.2.1 86 = .ok (.bipush 20, 2) := by decide +kernel
theorem dd_Plans_fillNeed_88 : decode mm_Plans_fillNeed.2.1 88 = .ok (.invokestatic 97, 3) := by decide +kernel
theorem dd_Plans_fillNeed_91 : decode mm_Plans_fillNeed.2.1 91 = .ok (.aload_n 1, 1) := by decide +kernel
theorem dd_Plans_fillNeed_92 : decode mm_Plans_fillNeed.2.1 92 = .ok (.aload_n 2, 1) := by decide +kernel
theorem dd_Plans_fillNeed_93 : decode mm_Plans_fillNeed.2.1 93 = .ok (.getfield 33, 3) := by decide +kernel
theorem dd_Plans_fillNeed_96 : decode mm_Plans_fillNeed.2.1 96 = .ok (.iload 7, 2) := by decide +kernel
theorem dd_Plans_fillNeed_98 : decode mm_Plans_fillNeed.2.1 98 = .ok (.iload_n 3, 1) := by decide +kernel
theorem dd_Plans_fillNeed_99 : decode mm_Plans_fillNeed.2.1 99 = .ok (.invokevirtual 49, 3) := by decide +kernel
theorem dd_Plans_fillNeed_102 : decode mm_Plans_fillNeed.2.1 102 = .ok (.istore 8, 2) := by decide +kernel
theorem dd_Plans_fillNeed_104 : decode mm_Plans_fillNeed.2.1 104 = .ok (.aload_n 1, 1) := by decide +kernel
theorem dd_Plans_fillNeed_105 : decode mm_Plans_fillNeed.2.1 105 = .ok (.aload_n 2, 1) := by decide +kernel
theorem dd_Plans_fillNeed_106 : decode mm_Plans_fillNeed.2.1 106 = .ok (.getfield 33, 3) := by decide +kernel
theorem dd_Plans_fillNeed_109 : decode mm_Plans_fillNeed.2.1 109 = .ok (.iload 7, 2) := by decide +kernel
theorem dd_Plans_fillNeed_111 : decode mm_Plans_fillNeed.2.1 111 = .ok (.iload_n 3, 1) := by decide +kernel
theorem dd_Plans_fillNeed_112 : decode mm_Plans_fillNeed.2.1 112 = .ok (.invokevirtual 53, 3) := by decide +kernel
theorem dd_Plans_fillNeed_115 : decode mm_Plans_fillNeed.2.1 115 = .ok (.istore 9, 2) := by decide +kernel
theorem dd_Plans_fillNeed_117 : decode mm_Plans_fillNeed.2.1 117 = .ok (.iconst 0, 1) := by decide +kernel
theorem dd_Plans_fillNeed_118 : decode mm_Plans_fillNeed.2.1 118 = .ok (.istore 10, 2) := by decide +kernel
theorem dd_Plans_fillNeed_120 : decode mm_Plans_fillNeed.2.1 120 = .ok (.iload 10, 2) := by decide +kernel
theorem dd_Plans_fillNeed_122 : decode mm_Plans_fillNeed.2.1 122 = .ok (.aload_n 1, 1) := by decide +kernel
theorem dd_Plans_fillNeed_123 : decode mm_Plans_fillNeed.2.1 123 = .ok (.getfield 103, 3) := by decide +kernel
theorem dd_Plans_fillNeed_126 : decode mm_Plans_fillNeed.2.1 126 = .ok (.if_icmp .ge (72), 3) := by decide +kernel
theorem dd_Plans_fillNeed_198 : decode mm_Plans_fillNeed.2.1 198 = .ok (.iinc 7 (-1), 3) := by decide +kernel
theorem dd_Plans_fillNeed_201 : decode mm_Plans_fillNeed.2.1 201 = .ok (.goto (-142), 3) := by decide +kernel
theorem dd_Plans_fillNeed_129 : decode mm_Plans_fillNeed.2.1 129 = .ok (.aload_n 1, 1) := by decide +kernel
theorem dd_Plans_fillNeed_130 : decode mm_Plans_fillNeed.2.1 130 = .ok (.getfield 106, 3) := by decide +kernel
theorem fd_5_106 : fld 5 106 = some (6, 1) := by decide +kernel
theorem dd_Plans_fillNeed_133 : decode mm_Plans_fillNeed.2.1 133 = .ok (.iload 10, 2) := by decide +kernel
theorem dd_Plans_fillNeed_135 : decode mm_Plans_fillNeed.2.1 135 = .ok (.aaload, 1) := by decide +kernel
theorem dd_Plans_fillNeed_136 : decode mm_Plans_fillNeed.2.1 136 = .ok (.astore 11, 2) := by decide +kernel
theorem dd_Plans_fillNeed_138 : decode mm_Plans_fillNeed.2.1 138 = .ok (.iload 8, 2) := by decide +kernel
theorem dd_Plans_fillNeed_140 : decode mm_Plans_fillNeed.2.1 140 = .ok (.iload 10, 2) := by decide +kernel
theorem dd_Plans_fillNeed_142 : decode mm_Plans_fillNeed.2.1 142 = .ok (.ishr, 1) := by decide +kernel
theorem dd_Plans_fillNeed_143 : decode mm_Plans_fillNeed.2.1 143 = .ok (.iconst 1, 1) := by decide +kernel
theorem dd_Plans_fillNeed_144 : decode mm_Plans_fillNeed.2.1 144 = .ok (.iand, 1) := by decide +kernel
theorem dd_Plans_fillNeed_145 : decode mm_Plans_fillNeed.2.1 145 = .ok (.ifCond .eq (20), 3) := by decide +kernel
theorem dd_Plans_fillNeed_148 : decode mm_Plans_fillNeed.2.1 148 = .ok (.aload_n 0, 1) := by decide +kernel
theorem dd_Plans_fillNeed_149 : decode mm_Plans_fillNeed.2.1 149 = .ok (.aload_n 2, 1) := by decide +kernel
theorem dd_Plans_fillNeed_150 : decode mm_Plans_fillNeed.2.1 150 = .ok (.iload 7, 2) := by decide +kernel
theorem dd_Plans_fillNeed_152 : decode mm_Plans_fillNeed.2.1 152 = .ok (.aload 11, 2) := by decide +kernel
theorem dd_Plans_fillNeed_154 : decode mm_Plans_fillNeed.2.1 154 = .ok (.getfield 110, 3) := by decide +kernel
theorem fd_5_110 : fld 5 110 = some (1, 2) := by decide +kernel
theorem dd_Plans_fillNeed_157 : decode mm_Plans_fillNeed.2.1 157 = .ok (.aload 11, 2) := by decide +kernel
theorem dd_Plans_fillNeed_159 : decode mm_Plans_fillNeed.2.1 159 = .ok (.getfield 115, 3) := by decide +kernel
theorem fd_5_115 : fld 5 115 = some (1, 3) := by decide +kernel
theorem dd_Plans_fillNeed_162 : decode mm_Plans_fillNeed.2.1 162 = .ok (.invokevirtual 118, 3) := by decide +kernel
theorem cw_5_118 : cwOk 5 118 0 89 5 9 5 = true := by decide +kernel
theorem mt_Plans_lessenNeed : MTB 89 = some mm_Plans_lessenNeed := rfl
theorem dd_Plans_fillNeed_165 : decode mm_Plans_fillNeed.2.1 165 = .ok (.iload 9, 2) := by decide +kernel
theorem dd_Plans_fillNeed_167 : decode mm_Plans_fillNeed.2.1 167 = .ok (.iload 10, 2) := by decide +kernel
theorem dd_Plans_fillNeed_169 : decode mm_Plans_fillNeed.2.1 169 = .ok (.ishr, 1) := by decide +kernel
theorem dd_Plans_fillNeed_170 : decode mm_Plans_fillNeed.2.1 170 = .ok (.iconst 1, 1) := by decide +kernel
theorem dd_Plans_fillNeed_171 : decode mm_Plans_fillNeed.2.1 171 = .ok (.iand, 1) := by decide +kernel
theorem dd_Plans_fillNeed_172 : decode mm_Plans_fillNeed.2.1 172 = .ok (.ifCond .eq (20), 3) := by decide +kernel
theorem dd_Plans_fillNeed_175 : decode mm_Plans_fillNeed.2.1 175 = .ok (.aload_n 0, 1) := by decide +kernel
theorem dd_Plans_fillNeed_176 : decode mm_Plans_fillNeed.2.1 176 = .ok (.aload_n 2, 1) := by decide +kernel
theorem dd_Plans_fillNeed_177 : decode mm_Plans_fillNeed.2.1 177 = .ok (.iload 7, 2) := by decide +kernel
theorem dd_Plans_fillNeed_179 : decode mm_Plans_fillNeed.2.1 179 = .ok (.aload 11, 2) := by decide +kernel
theorem dd_Plans_fillNeed_181 : decode mm_Plans_fillNeed.2.1 181 = .ok (.getfield 115, 3) := by decide +kernel
theorem dd_Plans_fillNeed_184 : decode mm_Plans_fillNeed.2.1 184 = .ok (.aload 11, 2) := by decide +kernel
theorem dd_Plans_fillNeed_186 : decode mm_Plans_fillNeed.2.1 186 = .ok (.getfield 110, 3) := by decide +kernel
theorem dd_Plans_fillNeed_189 : decode mm_Plans_fillNeed.2.1 189 = .ok (.invokevirtual 118, 3) := by decide +kernel
theorem dd_Plans_fillNeed_192 : decode mm_Plans_fillNeed.2.1 192 = .ok (.iinc 10 1, 3) := by decide +kernel
theorem dd_Plans_fillNeed_195 : decode mm_Plans_fillNeed.2.1 195 = .ok (.goto (-75), 3) := by decide +kernel
theorem dd_Plans_hourThrough_0 : decode mm_Plans_hourThrough.2.1 0 = .ok (.aload_n 0, 1) := by decide +kernel
theorem dd_Plans_hourThrough_1 : decode mm_Plans_hourThrough.2.1 1 = .ok (.getfield 75, 3) := by decide +kernel
theorem fd_5_75 : fld 5 75 = some (5, 3) := by decide +kernel
theorem dd_Plans_hourThrough_4 : decode mm_Plans_hourThrough.2.1 4 = .ok (.istore 6, 2) := by decide +kernel
theorem dd_Plans_hourThrough_6 : decode mm_Plans_hourThrough.2.1 6 = .ok (.iload 6, 2) := by decide +kernel
theorem dd_Plans_hourThrough_8 : decode mm_Plans_hourThrough.2.1 8 = .ok (.iload 5, 2) := by decide +kernel
theorem dd_Plans_hourThrough_10 : decode mm_Plans_hourThrough.2.1 10 = .ok (.if_icmp .gt (32), 3) := by decide +kernel
theorem dd_Plans_hourThrough_42 : decode mm_Plans_hourThrough.2.1 42 = .ok (.iconst (-1), 1) := by decide +kernel
theorem dd_Plans_hourThrough_43 : decode mm_Plans_hourThrough.2.1 43 = .ok (.ireturn, 1) := by decide +kernel
theorem dd_Plans_hourThrough_13 : decode mm_Plans_hourThrough.2.1 13 = .ok (.aload_n 1, 1) := by decide +kernel
theorem dd_Plans_hourThrough_14 : decode mm_Plans_hourThrough.2.1 14 = .ok (.iload 4, 2) := by decide +kernel
theorem dd_Plans_hourThrough_16 : decode mm_Plans_hourThrough.2.1 16 = .ok (.iload_n 2, 1) := by decide +kernel
theorem dd_Plans_hourThrough_17 : decode mm_Plans_hourThrough.2.1 17 = .ok (.aload_n 0, 1) := by decide +kernel
theorem dd_Plans_hourThrough_18 : decode mm_Plans_hourThrough.2.1 18 = .ok (.getfield 82, 3) := by decide +kernel
theorem fd_5_82 : fld 5 82 = some (5, 4) := by decide +kernel
theorem dd_Plans_hourThrough_21 : decode mm_Plans_hourThrough.2.1 21 = .ok (.iconst 2, 1) := by decide +kernel
theorem dd_Plans_hourThrough_22 : decode mm_Plans_hourThrough.2.1 22 = .ok (.idiv, 1) := by decide +kernel
theorem dd_Plans_hourThrough_23 : decode mm_Plans_hourThrough.2.1 23 = .ok (.iload 6, 2) := by decide +kernel
theorem dd_Plans_hourThrough_25 : decode mm_Plans_hourThrough.2.1 25 = .ok (.iload_n 3, 1) := by decide +kernel
theorem dd_Plans_hourThrough_26 : decode mm_Plans_hourThrough.2.1 26 = .ok (.invokevirtual 128, 3) := by decide +kernel
theorem cw_5_128 : cwOk 5 128 0 67 6 7 6 = true := by decide +kernel
theorem dd_Plans_hourThrough_29 : decode mm_Plans_hourThrough.2.1 29 = .ok (.iconst (-1), 1) := by decide +kernel
theorem dd_Plans_hourThrough_30 : decode mm_Plans_hourThrough.2.1 30 = .ok (.if_icmp .eq (6), 3) := by decide +kernel
theorem dd_Plans_hourThrough_36 : decode mm_Plans_hourThrough.2.1 36 = .ok (.iinc 6 1, 3) := by decide +kernel
theorem dd_Plans_hourThrough_39 : decode mm_Plans_hourThrough.2.1 39 = .ok (.goto (-33), 3) := by decide +kernel
theorem dd_Plans_hourThrough_33 : decode mm_Plans_hourThrough.2.1 33 = .ok (.iload 6, 2) := by decide +kernel
theorem dd_Plans_hourThrough_35 : decode mm_Plans_hourThrough.2.1 35 = .ok (.ireturn, 1) := by decide +kernel
theorem dd_Plans_stateThrough_0 : decode mm_Plans_stateThrough.2.1 0 = .ok (.aload_n 1, 1) := by decide +kernel
theorem dd_Plans_stateThrough_1 : decode mm_Plans_stateThrough.2.1 1 = .ok (.getfield 106, 3) := by decide +kernel
theorem dd_Plans_stateThrough_4 : decode mm_Plans_stateThrough.2.1 4 = .ok (.iload_n 3, 1) := by decide +kernel
theorem dd_Plans_stateThrough_5 : decode mm_Plans_stateThrough.2.1 5 = .ok (.aaload, 1) := by decide +kernel
theorem dd_Plans_stateThrough_6 : decode mm_Plans_stateThrough.2.1 6 = .ok (.astore 4, 2) := by decide +kernel
theorem dd_Plans_stateThrough_8 : decode mm_Plans_stateThrough.2.1 8 = .ok (.aload 4, 2) := by decide +kernel
theorem dd_Plans_stateThrough_10 : decode mm_Plans_stateThrough.2.1 10 = .ok (.getfield 110, 3) := by decide +kernel
theorem dd_Plans_stateThrough_13 : decode mm_Plans_stateThrough.2.1 13 = .ok (.aload_n 0, 1) := by decide +kernel
theorem dd_Plans_stateThrough_14 : decode mm_Plans_stateThrough.2.1 14 = .ok (.getfield 82, 3) := by decide +kernel
theorem dd_Plans_stateThrough_17 : decode mm_Plans_stateThrough.2.1 17 = .ok (.iconst 2, 1) := by decide +kernel
theorem dd_Plans_stateThrough_18 : decode mm_Plans_stateThrough.2.1 18 = .ok (.idiv, 1) := by decide +kernel
theorem dd_Plans_stateThrough_19 : decode mm_Plans_stateThrough.2.1 19 = .ok (.if_icmp .ne (11), 3) := by decide +kernel
theorem dd_Plans_stateThrough_30 : decode mm_Plans_stateThrough.2.1 30 = .ok (.aload 4, 2) := by decide +kernel
theorem dd_Plans_stateThrough_32 : decode mm_Plans_stateThrough.2.1 32 = .ok (.getfield 110, 3) := by decide +kernel
theorem dd_Plans_stateThrough_35 : decode mm_Plans_stateThrough.2.1 35 = .ok (.istore 5, 2) := by decide +kernel
theorem dd_Plans_stateThrough_37 : decode mm_Plans_stateThrough.2.1 37 = .ok (.iload 5, 2) := by decide +kernel
theorem dd_Plans_stateThrough_39 : decode mm_Plans_stateThrough.2.1 39 = .ok (.iconst 2, 1) := by decide +kernel
theorem dd_Plans_stateThrough_40 : decode mm_Plans_stateThrough.2.1 40 = .ok (.imul, 1) := by decide +kernel
theorem dd_Plans_stateThrough_41 : decode mm_Plans_stateThrough.2.1 41 = .ok (.iload 5, 2) := by decide +kernel
theorem dd_Plans_stateThrough_43 : decode mm_Plans_stateThrough.2.1 43 = .ok (.iload_n 2, 1) := by decide +kernel
theorem dd_Plans_stateThrough_44 : decode mm_Plans_stateThrough.2.1 44 = .ok (.if_icmp .ne (7), 3) := by decide +kernel
theorem dd_Plans_stateThrough_51 : decode mm_Plans_stateThrough.2.1 51 = .ok (.aload_n 0, 1) := by decide +kernel
theorem dd_Plans_stateThrough_52 : decode mm_Plans_stateThrough.2.1 52 = .ok (.getfield 82, 3) := by decide +kernel
theorem dd_Plans_stateThrough_55 : decode mm_Plans_stateThrough.2.1 55 = .ok (.iconst 2, 1) := by decide +kernel
theorem dd_Plans_stateThrough_56 : decode mm_Plans_stateThrough.2.1 56 = .ok (.irem, 1) := by decide +kernel
theorem dd_Plans_stateThrough_57 : decode mm_Plans_stateThrough.2.1 57 = .ok (.iadd, 1) := by decide +kernel
theorem dd_Plans_stateThrough_58 : decode mm_Plans_stateThrough.2.1 58 = .ok (.ireturn, 1) := by decide +kernel
theorem dd_Plans_stateThrough_47 : decode mm_Plans_stateThrough.2.1 47 = .ok (.iconst 1, 1) := by decide +kernel
theorem dd_Plans_stateThrough_48 : decode mm_Plans_stateThrough.2.1 48 = .ok (.goto 9, 3) := by decide +kernel
theorem dd_Plans_stateThrough_22 : decode mm_Plans_stateThrough.2.1 22 = .ok (.aload 4, 2) := by decide +kernel
theorem dd_Plans_stateThrough_24 : decode mm_Plans_stateThrough.2.1 24 = .ok (.getfield 115, 3) := by decide +kernel
theorem dd_Plans_stateThrough_27 : decode mm_Plans_stateThrough.2.1 27 = .ok (.goto 8, 3) := by decide +kernel
theorem dd_Plans_nextDoor_0 : decode mm_Plans_nextDoor.2.1 0 = .ok (.iconst 0, 1) := by decide +kernel
theorem dd_Plans_nextDoor_1 : decode mm_Plans_nextDoor.2.1 1 = .ok (.istore 5, 2) := by decide +kernel
theorem dd_Plans_nextDoor_3 : decode mm_Plans_nextDoor.2.1 3 = .ok (.iload 5, 2) := by decide +kernel
theorem dd_Plans_nextDoor_5 : decode mm_Plans_nextDoor.2.1 5 = .ok (.aload_n 1, 1) := by decide +kernel
theorem dd_Plans_nextDoor_6 : decode mm_Plans_nextDoor.2.1 6 = .ok (.getfield 103, 3) := by decide +kernel
theorem dd_Plans_nextDoor_9 : decode mm_Plans_nextDoor.2.1 9 = .ok (.if_icmp .ge (87), 3) := by decide +kernel
theorem dd_Plans_nextDoor_96 : decode mm_Plans_nextDoor.2.1 96 = .ok (.iconst (-1), 1) := by decide +kernel
theorem dd_Plans_nextDoor_97 : decode mm_Plans_nextDoor.2.1 97 = .ok (.ireturn, 1) := by decide +kernel
theorem dd_Plans_nextDoor_12 : decode mm_Plans_nextDoor.2.1 12 = .ok (.aload_n 0, 1) := by decide +kernel
theorem dd_Plans_nextDoor_13 : decode mm_Plans_nextDoor.2.1 13 = .ok (.aload_n 1, 1) := by decide +kernel
theorem dd_Plans_nextDoor_14 : decode mm_Plans_nextDoor.2.1 14 = .ok (.aload_n 2, 1) := by decide +kernel
theorem dd_Plans_nextDoor_15 : decode mm_Plans_nextDoor.2.1 15 = .ok (.getfield 33, 3) := by decide +kernel
theorem dd_Plans_nextDoor_18 : decode mm_Plans_nextDoor.2.1 18 = .ok (.iload_n 3, 1) := by decide +kernel
theorem dd_Plans_nextDoor_19 : decode mm_Plans_nextDoor.2.1 19 = .ok (.iload 5, 2) := by decide +kernel
theorem dd_Plans_nextDoor_21 : decode mm_Plans_nextDoor.2.1 21 = .ok (.iload 4, 2) := by decide +kernel
theorem dd_Plans_nextDoor_23 : decode mm_Plans_nextDoor.2.1 23 = .ok (.invokevirtual 89, 3) := by decide +kernel
theorem cw_5_89 : cwOk 5 89 0 91 6 7 5 = true := by decide +kernel
theorem mt_Plans_hourThrough : MTB 91 = some mm_Plans_hourThrough := rfl
theorem dd_Plans_nextDoor_26 : decode mm_Plans_nextDoor.2.1 26 = .ok (.istore 6, 2) := by decide +kernel
theorem dd_Plans_nextDoor_28 : decode mm_Plans_nextDoor.2.1 28 = .ok (.iload 6, 2) := by decide +kernel
theorem dd_Plans_nextDoor_30 : decode mm_Plans_nextDoor.2.1 30 = .ok (.iconst (-1), 1) := by decide +kernel
theorem dd_Plans_nextDoor_31 : decode mm_Plans_nextDoor.2.1 31 = .ok (.if_icmp .ne (6), 3) := by decide +kernel
theorem dd_Plans_nextDoor_37 : decode mm_Plans_nextDoor.2.1 37 = .ok (.iload 6, 2) := by decide +kernel
theorem dd_Plans_nextDoor_39 : decode mm_Plans_nextDoor.2.1 39 = .ok (.iconst 1, 1) := by decide +kernel
theorem dd_Plans_nextDoor_40 : decode mm_Plans_nextDoor.2.1 40 = .ok (.iadd, 1) := by decide +kernel
theorem dd_Plans_nextDoor_41 : decode mm_Plans_nextDoor.2.1 41 = .ok (.bipush 20, 2) := by decide +kernel
theorem dd_Plans_nextDoor_43 : decode mm_Plans_nextDoor.2.1 43 = .ok (.imul, 1) := by decide +kernel
theorem dd_Plans_nextDoor_44 : decode mm_Plans_nextDoor.2.1 44 = .ok (.aload_n 0, 1) := by decide +kernel
theorem dd_Plans_nextDoor_45 : decode mm_Plans_nextDoor.2.1 45 = .ok (.aload_n 1, 1) := by decide +kernel
theorem dd_Plans_nextDoor_46 : decode mm_Plans_nextDoor.2.1 46 = .ok (.aload_n 2, 1) := by decide +kernel
theorem dd_Plans_nextDoor_47 : decode mm_Plans_nextDoor.2.1 47 = .ok (.getfield 59, 3) := by decide +kernel
theorem dd_Plans_nextDoor_50 : decode mm_Plans_nextDoor.2.1 50 = .ok (.iload 5, 2) := by decide +kernel
theorem dd_Plans_nextDoor_52 : decode mm_Plans_nextDoor.2.1 52 = .ok (.invokevirtual 93, 3) := by decide +kernel
theorem cw_5_93 : cwOk 5 93 0 92 4 6 5 = true := by decide +kernel
theorem mt_Plans_stateThrough : MTB 92 = some mm_Plans_stateThrough := rfl
theorem dd_Plans_nextDoor_34 : decode mm_Plans_nextDoor.2.1 34 = .ok (.goto 56, 3) := by decide +kernel
theorem dd_Plans_nextDoor_55 : decode mm_Plans_nextDoor.2.1 55 = .ok (.iadd, 1) := by decide +kernel
theorem dd_Plans_nextDoor_56 : decode mm_Plans_nextDoor.2.1 56 = .ok (.istore 7, 2) := by decide +kernel
theorem dd_Plans_nextDoor_58 : decode mm_Plans_nextDoor.2.1 58 = .ok (.aload_n 0, 1) := by decide +kernel
theorem dd_Plans_nextDoor_59 : decode mm_Plans_nextDoor.2.1 59 = .ok (.getfield 15, 3) := by decide +kernel
theorem dd_Plans_nextDoor_62 : decode mm_Plans_nextDoor.2.1 62 = .ok (.iload 7, 2) := by decide +kernel
theorem dd_Plans_nextDoor_64 : decode mm_Plans_nextDoor.2.1 64 = .ok (.iaload, 1) := by decide +kernel
theorem dd_Plans_nextDoor_65 : decode mm_Plans_nextDoor.2.1 65 = .ok (.aload_n 0, 1) := by decide +kernel
theorem dd_Plans_nextDoor_66 : decode mm_Plans_nextDoor.2.1 66 = .ok (.getfield 15, 3) := by decide +kernel
theorem dd_Plans_nextDoor_69 : decode mm_Plans_nextDoor.2.1 69 = .ok (.aload_n 0, 1) := by decide +kernel
theorem dd_Plans_nextDoor_70 : decode mm_Plans_nextDoor.2.1 70 = .ok (.getfield 75, 3) := by decide +kernel
theorem dd_Plans_nextDoor_73 : decode mm_Plans_nextDoor.2.1 73 = .ok (.bipush 20, 2) := by decide +kernel
theorem dd_Plans_nextDoor_75 : decode mm_Plans_nextDoor.2.1 75 = .ok (.imul, 1) := by decide +kernel
theorem dd_Plans_nextDoor_76 : decode mm_Plans_nextDoor.2.1 76 = .ok (.aload_n 0, 1) := by decide +kernel
theorem dd_Plans_nextDoor_77 : decode mm_Plans_nextDoor.2.1 77 = .ok (.getfield 82, 3) := by decide +kernel
theorem dd_Plans_nextDoor_80 : decode mm_Plans_nextDoor.2.1 80 = .ok (.iadd, 1) := by decide +kernel
theorem dd_Plans_nextDoor_81 : decode mm_Plans_nextDoor.2.1 81 = .ok (.iaload, 1) := by decide +kernel
theorem dd_Plans_nextDoor_82 : decode mm_Plans_nextDoor.2.1 82 = .ok (.iconst 1, 1) := by decide +kernel
theorem dd_Plans_nextDoor_83 : decode mm_Plans_nextDoor.2.1 83 = .ok (.isub, 1) := by decide +kernel
theorem dd_Plans_nextDoor_84 : decode mm_Plans_nextDoor.2.1 84 = .ok (.if_icmp .ne (6), 3) := by decide +kernel
theorem dd_Plans_nextDoor_87 : decode mm_Plans_nextDoor.2.1 87 = .ok (.iload 5, 2) := by decide +kernel
theorem dd_Plans_nextDoor_89 : decode mm_Plans_nextDoor.2.1 89 = .ok (.ireturn, 1) := by decide +kernel
theorem dd_Plans_nextDoor_90 : decode mm_Plans_nextDoor.2.1 90 = .ok (.iinc 5 1, 3) := by decide +kernel
theorem dd_Plans_nextDoor_93 : decode mm_Plans_nextDoor.2.1 93 = .ok (.goto (-90), 3) := by decide +kernel
theorem dd_Plans_findWay_0 : decode mm_Plans_findWay.2.1 0 = .ok (.aload_n 0, 1) := by decide +kernel
theorem dd_Plans_findWay_1 : decode mm_Plans_findWay.2.1 1 = .ok (.iconst 0, 1) := by decide +kernel
theorem dd_Plans_findWay_2 : decode mm_Plans_findWay.2.1 2 = .ok (.putfield 68, 3) := by decide +kernel
theorem fd_5_68 : fld 5 68 = some (5, 0) := by decide +kernel
theorem fn_5_0 : fin 5 0 = false := by decide +kernel
theorem dd_Plans_findWay_5 : decode mm_Plans_findWay.2.1 5 = .ok (.aload_n 0, 1) := by decide +kernel
theorem dd_Plans_findWay_6 : decode mm_Plans_findWay.2.1 6 = .ok (.aload_n 1, 1) := by decide +kernel
theorem dd_Plans_findWay_7 : decode mm_Plans_findWay.2.1 7 = .ok (.aload_n 2, 1) := by decide +kernel
theorem dd_Plans_findWay_8 : decode mm_Plans_findWay.2.1 8 = .ok (.iload_n 3, 1) := by decide +kernel
theorem dd_Plans_findWay_9 : decode mm_Plans_findWay.2.1 9 = .ok (.invokevirtual 71, 3) := by decide +kernel
theorem dd_Plans_findWay_12 : decode mm_Plans_findWay.2.1 12 = .ok (.istore 4, 2) := by decide +kernel
theorem dd_Plans_findWay_14 : decode mm_Plans_findWay.2.1 14 = .ok (.aload_n 0, 1) := by decide +kernel
theorem dd_Plans_findWay_15 : decode mm_Plans_findWay.2.1 15 = .ok (.aload_n 2, 1) := by decide +kernel
theorem dd_Plans_findWay_16 : decode mm_Plans_findWay.2.1 16 = .ok (.iload_n 3, 1) := by decide +kernel
theorem dd_Plans_findWay_17 : decode mm_Plans_findWay.2.1 17 = .ok (.invokevirtual 38, 3) := by decide +kernel
theorem dd_Plans_findWay_20 : decode mm_Plans_findWay.2.1 20 = .ok (.putfield 75, 3) := by decide +kernel
theorem fn_5_3 : fin 5 3 = false := by decide +kernel
theorem dd_Plans_findWay_23 : decode mm_Plans_findWay.2.1 23 = .ok (.iload 4, 2) := by decide +kernel
theorem dd_Plans_findWay_25 : decode mm_Plans_findWay.2.1 25 = .ok (.iconst (-1), 1) := by decide +kernel
theorem dd_Plans_findWay_26 : decode mm_Plans_findWay.2.1 26 = .ok (.if_icmp .eq (19), 3) := by decide +kernel
theorem dd_Plans_findWay_45 : decode mm_Plans_findWay.2.1 45 = .ok (.return_, 1) := by decide +kernel
theorem dd_Plans_findWay_29 : decode mm_Plans_findWay.2.1 29 = .ok (.iload 4, 2) := by decide +kernel
theorem dd_Plans_findWay_31 : decode mm_Plans_findWay.2.1 31 = .ok (.bipush 24, 2) := by decide +kernel
theorem dd_Plans_findWay_33 : decode mm_Plans_findWay.2.1 33 = .ok (.if_icmp .ge (12), 3) := by decide +kernel
theorem dd_Plans_findWay_36 : decode mm_Plans_findWay.2.1 36 = .ok (.aload_n 0, 1) := by decide +kernel
theorem dd_Plans_findWay_37 : decode mm_Plans_findWay.2.1 37 = .ok (.getfield 75, 3) := by decide +kernel
theorem dd_Plans_findWay_40 : decode mm_Plans_findWay.2.1 40 = .ok (.iload 4, 2) := by decide +kernel
theorem dd_Plans_findWay_42 : decode mm_Plans_findWay.2.1 42 = .ok (.if_icmp .le (4), 3) := by decide +kernel
theorem dd_Plans_findWay_46 : decode mm_Plans_findWay.2.1 46 = .ok (.aload_n 1, 1) := by decide +kernel
theorem dd_Plans_findWay_47 : decode mm_Plans_findWay.2.1 47 = .ok (.getfield 27, 3) := by decide +kernel
theorem dd_Plans_findWay_50 : decode mm_Plans_findWay.2.1 50 = .ok (.iload_n 3, 1) := by decide +kernel
theorem dd_Plans_findWay_51 : decode mm_Plans_findWay.2.1 51 = .ok (.aaload, 1) := by decide +kernel
theorem dd_Plans_findWay_52 : decode mm_Plans_findWay.2.1 52 = .ok (.astore 5, 2) := by decide +kernel
theorem dd_Plans_findWay_54 : decode mm_Plans_findWay.2.1 54 = .ok (.aload_n 0, 1) := by decide +kernel
theorem dd_Plans_findWay_55 : decode mm_Plans_findWay.2.1 55 = .ok (.aload_n 1, 1) := by decide +kernel
theorem dd_Plans_findWay_56 : decode mm_Plans_findWay.2.1 56 = .ok (.aload 5, 2) := by decide +kernel
theorem dd_Plans_findWay_58 : decode mm_Plans_findWay.2.1 58 = .ok (.aload_n 2, 1) := by decide +kernel
theorem dd_Plans_findWay_59 : decode mm_Plans_findWay.2.1 59 = .ok (.getfield 46, 3) := by decide +kernel
theorem dd_Plans_findWay_62 : decode mm_Plans_findWay.2.1 62 = .ok (.aload_n 0, 1) := by decide +kernel
theorem dd_Plans_findWay_63 : decode mm_Plans_findWay.2.1 63 = .ok (.getfield 75, 3) := by decide +kernel
theorem dd_Plans_findWay_66 : decode mm_Plans_findWay.2.1 66 = .ok (.iload 4, 2) := by decide +kernel
theorem dd_Plans_findWay_68 : decode mm_Plans_findWay.2.1 68 = .ok (.invokevirtual 78, 3) := by decide +kernel
theorem cw_5_78 : cwOk 5 78 0 88 6 12 5 = true := by decide +kernel
theorem mt_Plans_fillNeed : MTB 88 = some mm_Plans_fillNeed := rfl
theorem dd_Plans_findWay_71 : decode mm_Plans_findWay.2.1 71 = .ok (.aload_n 0, 1) := by decide +kernel
theorem dd_Plans_findWay_72 : decode mm_Plans_findWay.2.1 72 = .ok (.aload_n 2, 1) := by decide +kernel
theorem dd_Plans_findWay_73 : decode mm_Plans_findWay.2.1 73 = .ok (.getfield 18, 3) := by decide +kernel
theorem dd_Plans_findWay_76 : decode mm_Plans_findWay.2.1 76 = .ok (.iload_n 3, 1) := by decide +kernel
theorem dd_Plans_findWay_77 : decode mm_Plans_findWay.2.1 77 = .ok (.iaload, 1) := by decide +kernel
theorem dd_Plans_findWay_78 : decode mm_Plans_findWay.2.1 78 = .ok (.iconst 2, 1) := by decide +kernel
theorem dd_Plans_findWay_79 : decode mm_Plans_findWay.2.1 79 = .ok (.imul, 1) := by decide +kernel
theorem dd_Plans_findWay_80 : decode mm_Plans_findWay.2.1 80 = .ok (.aload_n 2, 1) := by decide +kernel
theorem dd_Plans_findWay_81 : decode mm_Plans_findWay.2.1 81 = .ok (.getfield 62, 3) := by decide +kernel
theorem dd_Plans_findWay_84 : decode mm_Plans_findWay.2.1 84 = .ok (.iload_n 3, 1) := by decide +kernel
theorem dd_Plans_findWay_85 : decode mm_Plans_findWay.2.1 85 = .ok (.ishr, 1) := by decide +kernel
theorem dd_Plans_findWay_86 : decode mm_Plans_findWay.2.1 86 = .ok (.iconst 1, 1) := by decide +kernel
theorem dd_Plans_findWay_87 : decode mm_Plans_findWay.2.1 87 = .ok (.iand, 1) := by decide +kernel
theorem dd_Plans_findWay_88 : decode mm_Plans_findWay.2.1 88 = .ok (.iadd, 1) := by decide +kernel
theorem dd_Plans_findWay_89 : decode mm_Plans_findWay.2.1 89 = .ok (.putfield 82, 3) := by decide +kernel
theorem fn_5_4 : fin 5 4 = false := by decide +kernel
theorem dd_Plans_findWay_92 : decode mm_Plans_findWay.2.1 92 = .ok (.aload_n 0, 1) := by decide +kernel
theorem dd_Plans_findWay_93 : decode mm_Plans_findWay.2.1 93 = .ok (.getfield 15, 3) := by decide +kernel
theorem dd_Plans_findWay_96 : decode mm_Plans_findWay.2.1 96 = .ok (.aload_n 0, 1) := by decide +kernel
theorem dd_Plans_findWay_97 : decode mm_Plans_findWay.2.1 97 = .ok (.getfield 75, 3) := by decide +kernel
theorem dd_Plans_findWay_100 : decode mm_Plans_findWay.2.1 100 = .ok (.bipush 20, 2) := by decide +kernel
theorem dd_Plans_findWay_102 : decode mm_Plans_findWay.2.1 102 = .ok (.imul, 1) := by decide +kernel
theorem dd_Plans_findWay_103 : decode mm_Plans_findWay.2.1 103 = .ok (.aload_n 0, 1) := by decide +kernel
theorem dd_Plans_findWay_104 : decode mm_Plans_findWay.2.1 104 = .ok (.getfield 82, 3) := by decide +kernel
theorem dd_Plans_findWay_107 : decode mm_Plans_findWay.2.1 107 = .ok (.iadd, 1) := by decide +kernel
theorem dd_Plans_findWay_108 : decode mm_Plans_findWay.2.1 108 = .ok (.iaload, 1) := by decide +kernel
theorem dd_Plans_findWay_109 : decode mm_Plans_findWay.2.1 109 = .ok (.istore 6, 2) := by decide +kernel
theorem dd_Plans_findWay_111 : decode mm_Plans_findWay.2.1 111 = .ok (.iconst 0, 1) := by decide +kernel
theorem dd_Plans_findWay_112 : decode mm_Plans_findWay.2.1 112 = .ok (.istore 7, 2) := by decide +kernel
theorem dd_Plans_findWay_114 : decode mm_Plans_findWay.2.1 114 = .ok (.iload 7, 2) := by decide +kernel
theorem dd_Plans_findWay_116 : decode mm_Plans_findWay.2.1 116 = .ok (.iload 6, 2) := by decide +kernel
theorem dd_Plans_findWay_118 : decode mm_Plans_findWay.2.1 118 = .ok (.if_icmp .ge (99), 3) := by decide +kernel
theorem dd_Plans_findWay_217 : decode mm_Plans_findWay.2.1 217 = .ok (.return_, 1) := by decide +kernel
theorem dd_Plans_findWay_121 : decode mm_Plans_findWay.2.1 121 = .ok (.iload 7, 2) := by decide +kernel
theorem dd_Plans_findWay_123 : decode mm_Plans_findWay.2.1 123 = .ok (.bipush 24, 2) := by decide +kernel
theorem dd_Plans_findWay_125 : decode mm_Plans_findWay.2.1 125 = .ok (.if_icmp .ge (92), 3) := by decide +kernel
theorem dd_Plans_findWay_128 : decode mm_Plans_findWay.2.1 128 = .ok (.aload_n 0, 1) := by decide +kernel
theorem dd_Plans_findWay_129 : decode mm_Plans_findWay.2.1 129 = .ok (.aload_n 1, 1) := by decide +kernel
theorem dd_Plans_findWay_130 : decode mm_Plans_findWay.2.1 130 = .ok (.aload 5, 2) := by decide +kernel
theorem dd_Plans_findWay_132 : decode mm_Plans_findWay.2.1 132 = .ok (.aload_n 2, 1) := by decide +kernel
theorem dd_Plans_findWay_133 : decode mm_Plans_findWay.2.1 133 = .ok (.getfield 46, 3) := by decide +kernel
theorem dd_Plans_findWay_136 : decode mm_Plans_findWay.2.1 136 = .ok (.iload 4, 2) := by decide +kernel
theorem dd_Plans_findWay_138 : decode mm_Plans_findWay.2.1 138 = .ok (.invokevirtual 85, 3) := by decide +kernel
theorem cw_5_85 : cwOk 5 85 0 90 5 8 5 = true := by decide +kernel
theorem mt_Plans_nextDoor : MTB 90 = some mm_Plans_nextDoor := rfl
theorem dd_Plans_findWay_141 : decode mm_Plans_findWay.2.1 141 = .ok (.istore 8, 2) := by decide +kernel
theorem dd_Plans_findWay_143 : decode mm_Plans_findWay.2.1 143 = .ok (.iload 8, 2) := by decide +kernel
theorem dd_Plans_findWay_145 : decode mm_Plans_findWay.2.1 145 = .ok (.iconst (-1), 1) := by decide +kernel
theorem dd_Plans_findWay_146 : decode mm_Plans_findWay.2.1 146 = .ok (.if_icmp .ne (4), 3) := by decide +kernel
theorem dd_Plans_findWay_150 : decode mm_Plans_findWay.2.1 150 = .ok (.aload_n 0, 1) := by decide +kernel
theorem dd_Plans_findWay_151 : decode mm_Plans_findWay.2.1 151 = .ok (.getfield 9, 3) := by decide +kernel
theorem fd_5_9 : fld 5 9 = some (5, 1) := by decide +kernel
theorem rf_77_1 {h : LH} (hF : RF h) : rd h 77 1 = 78 := hF 77 1 78 (by decide +kernel) (by decide +kernel)
theorem dd_Plans_findWay_154 : decode mm_Plans_findWay.2.1 154 = .ok (.aload_n 0, 1) := by decide +kernel
theorem dd_Plans_findWay_155 : decode mm_Plans_findWay.2.1 155 = .ok (.getfield 68, 3) := by decide +kernel
theorem dd_Plans_findWay_158 : decode mm_Plans_findWay.2.1 158 = .ok (.iload 8, 2) := by decide +kernel
theorem dd_Plans_findWay_160 : decode mm_Plans_findWay.2.1 160 = .ok (.iastore, 1) := by decide +kernel
theorem ia_78 : isA NC 78 1 = true := by decide +kernel
theorem la_78 : (lay (78 : Int).toNat).2.2 = 24 := by decide +kernel
theorem dd_Plans_findWay_161 : decode mm_Plans_findWay.2.1 161 = .ok (.aload_n 0, 1) := by decide +kernel
theorem dd_Plans_findWay_162 : decode mm_Plans_findWay.2.1 162 = .ok (.dup, 1) := by decide +kernel
theorem dd_Plans_findWay_163 : decode mm_Plans_findWay.2.1 163 = .ok (.getfield 68, 3) := by decide +kernel
theorem dd_Plans_findWay_166 : decode mm_Plans_findWay.2.1 166 = .ok (.iconst 1, 1) := by decide +kernel
theorem dd_Plans_findWay_167 : decode mm_Plans_findWay.2.1 167 = .ok (.iadd, 1) := by decide +kernel
theorem dd_Plans_findWay_168 : decode mm_Plans_findWay.2.1 168 = .ok (.putfield 68, 3) := by decide +kernel
theorem dd_Plans_findWay_149 : decode mm_Plans_findWay.2.1 149 = .ok (.return_, 1) := by decide +kernel
theorem dd_Plans_findWay_171 : decode mm_Plans_findWay.2.1 171 = .ok (.aload_n 0, 1) := by decide +kernel
theorem dd_Plans_findWay_172 : decode mm_Plans_findWay.2.1 172 = .ok (.aload_n 0, 1) := by decide +kernel
theorem dd_Plans_findWay_173 : decode mm_Plans_findWay.2.1 173 = .ok (.aload_n 1, 1) := by decide +kernel
theorem dd_Plans_findWay_174 : decode mm_Plans_findWay.2.1 174 = .ok (.aload 5, 2) := by decide +kernel
theorem dd_Plans_findWay_176 : decode mm_Plans_findWay.2.1 176 = .ok (.getfield 33, 3) := by decide +kernel
theorem dd_Plans_findWay_179 : decode mm_Plans_findWay.2.1 179 = .ok (.aload_n 2, 1) := by decide +kernel
theorem dd_Plans_findWay_180 : decode mm_Plans_findWay.2.1 180 = .ok (.getfield 46, 3) := by decide +kernel
theorem dd_Plans_findWay_183 : decode mm_Plans_findWay.2.1 183 = .ok (.iload 8, 2) := by decide +kernel
theorem dd_Plans_findWay_185 : decode mm_Plans_findWay.2.1 185 = .ok (.iload 4, 2) := by decide +kernel
theorem dd_Plans_findWay_187 : decode mm_Plans_findWay.2.1 187 = .ok (.invokevirtual 89, 3) := by decide +kernel
theorem dd_Plans_findWay_190 : decode mm_Plans_findWay.2.1 190 = .ok (.iconst 1, 1) := by decide +kernel
theorem dd_Plans_findWay_191 : decode mm_Plans_findWay.2.1 191 = .ok (.iadd, 1) := by decide +kernel
theorem dd_Plans_findWay_192 : decode mm_Plans_findWay.2.1 192 = .ok (.putfield 75, 3) := by decide +kernel
theorem dd_Plans_findWay_195 : decode mm_Plans_findWay.2.1 195 = .ok (.aload_n 0, 1) := by decide +kernel
theorem dd_Plans_findWay_196 : decode mm_Plans_findWay.2.1 196 = .ok (.aload_n 0, 1) := by decide +kernel
theorem dd_Plans_findWay_197 : decode mm_Plans_findWay.2.1 197 = .ok (.aload_n 1, 1) := by decide +kernel
theorem dd_Plans_findWay_198 : decode mm_Plans_findWay.2.1 198 = .ok (.aload 5, 2) := by decide +kernel
theorem dd_Plans_findWay_200 : decode mm_Plans_findWay.2.1 200 = .ok (.getfield 59, 3) := by decide +kernel
theorem dd_Plans_findWay_203 : decode mm_Plans_findWay.2.1 203 = .ok (.iload 8, 2) := by decide +kernel
theorem dd_Plans_findWay_205 : decode mm_Plans_findWay.2.1 205 = .ok (.invokevirtual 93, 3) := by decide +kernel
theorem dd_Plans_findWay_208 : decode mm_Plans_findWay.2.1 208 = .ok (.putfield 82, 3) := by decide +kernel
theorem dd_Plans_findWay_211 : decode mm_Plans_findWay.2.1 211 = .ok (.iinc 7 1, 3) := by decide +kernel
theorem dd_Plans_findWay_214 : decode mm_Plans_findWay.2.1 214 = .ok (.goto (-100), 3) := by decide +kernel
theorem dd_OneSided_errand_0 : decode mm_OneSided_errand.2.1 0 = .ok (.aload_n 0, 1) := by decide +kernel
theorem dd_OneSided_errand_1 : decode mm_OneSided_errand.2.1 1 = .ok (.iload_n 1, 1) := by decide +kernel
theorem dd_OneSided_errand_2 : decode mm_OneSided_errand.2.1 2 = .ok (.invokevirtual 160, 3) := by decide +kernel
theorem dd_OneSided_errand_5 : decode mm_OneSided_errand.2.1 5 = .ok (.ifCond .eq (8), 3) := by decide +kernel
theorem dd_OneSided_errand_13 : decode mm_OneSided_errand.2.1 13 = .ok (.bipush (-2), 2) := by decide +kernel
theorem dd_OneSided_errand_15 : decode mm_OneSided_errand.2.1 15 = .ok (.ireturn, 1) := by decide +kernel
theorem dd_OneSided_errand_8 : decode mm_OneSided_errand.2.1 8 = .ok (.iload_n 2, 1) := by decide +kernel
theorem dd_OneSided_errand_9 : decode mm_OneSided_errand.2.1 9 = .ok (.iconst (-1), 1) := by decide +kernel
theorem dd_OneSided_errand_10 : decode mm_OneSided_errand.2.1 10 = .ok (.if_icmp .ge (6), 3) := by decide +kernel
theorem dd_OneSided_errand_16 : decode mm_OneSided_errand.2.1 16 = .ok (.aload_n 0, 1) := by decide +kernel
theorem dd_OneSided_errand_17 : decode mm_OneSided_errand.2.1 17 = .ok (.getfield 49, 3) := by decide +kernel
theorem dd_OneSided_errand_20 : decode mm_OneSided_errand.2.1 20 = .ok (.aload_n 0, 1) := by decide +kernel
theorem dd_OneSided_errand_21 : decode mm_OneSided_errand.2.1 21 = .ok (.getfield 19, 3) := by decide +kernel
theorem dd_OneSided_errand_24 : decode mm_OneSided_errand.2.1 24 = .ok (.aload_n 0, 1) := by decide +kernel
theorem dd_OneSided_errand_25 : decode mm_OneSided_errand.2.1 25 = .ok (.getfield 29, 3) := by decide +kernel
theorem dd_OneSided_errand_28 : decode mm_OneSided_errand.2.1 28 = .ok (.getfield 149, 3) := by decide +kernel
theorem dd_OneSided_errand_31 : decode mm_OneSided_errand.2.1 31 = .ok (.iload_n 1, 1) := by decide +kernel
theorem dd_OneSided_errand_32 : decode mm_OneSided_errand.2.1 32 = .ok (.invokevirtual 237, 3) := by decide +kernel
theorem dd_OneSided_errand_35 : decode mm_OneSided_errand.2.1 35 = .ok (.istore_n 3, 1) := by decide +kernel
theorem dd_OneSided_errand_36 : decode mm_OneSided_errand.2.1 36 = .ok (.iload_n 3, 1) := by decide +kernel
theorem dd_OneSided_errand_37 : decode mm_OneSided_errand.2.1 37 = .ok (.iconst (-1), 1) := by decide +kernel
theorem dd_OneSided_errand_38 : decode mm_OneSided_errand.2.1 38 = .ok (.if_icmp .ne (6), 3) := by decide +kernel
theorem dd_OneSided_errand_44 : decode mm_OneSided_errand.2.1 44 = .ok (.iload_n 2, 1) := by decide +kernel
theorem dd_OneSided_errand_45 : decode mm_OneSided_errand.2.1 45 = .ok (.iconst (-1), 1) := by decide +kernel
theorem dd_OneSided_errand_46 : decode mm_OneSided_errand.2.1 46 = .ok (.if_icmp .ne (5), 3) := by decide +kernel
theorem dd_OneSided_errand_51 : decode mm_OneSided_errand.2.1 51 = .ok (.iload_n 2, 1) := by decide +kernel
theorem dd_OneSided_errand_52 : decode mm_OneSided_errand.2.1 52 = .ok (.ifCond .ne (25), 3) := by decide +kernel
theorem dd_OneSided_errand_77 : decode mm_OneSided_errand.2.1 77 = .ok (.aload_n 0, 1) := by decide +kernel
theorem dd_OneSided_errand_78 : decode mm_OneSided_errand.2.1 78 = .ok (.getfield 49, 3) := by decide +kernel
theorem dd_OneSided_errand_81 : decode mm_OneSided_errand.2.1 81 = .ok (.aload_n 0, 1) := by decide +kernel
theorem dd_OneSided_errand_82 : decode mm_OneSided_errand.2.1 82 = .ok (.getfield 19, 3) := by decide +kernel
theorem dd_OneSided_errand_85 : decode mm_OneSided_errand.2.1 85 = .ok (.aload_n 0, 1) := by decide +kernel
theorem dd_OneSided_errand_86 : decode mm_OneSided_errand.2.1 86 = .ok (.getfield 29, 3) := by decide +kernel
theorem dd_OneSided_errand_89 : decode mm_OneSided_errand.2.1 89 = .ok (.getfield 149, 3) := by decide +kernel
theorem dd_OneSided_errand_92 : decode mm_OneSided_errand.2.1 92 = .ok (.iload_n 1, 1) := by decide +kernel
theorem dd_OneSided_errand_93 : decode mm_OneSided_errand.2.1 93 = .ok (.invokevirtual 241, 3) := by decide +kernel
theorem cw_11_241 : cwOk 11 241 0 87 4 9 5 = true := by decide +kernel
theorem mt_Plans_findWay : MTB 87 = some mm_Plans_findWay := rfl
theorem dd_OneSided_errand_55 : decode mm_OneSided_errand.2.1 55 = .ok (.iload_n 3, 1) := by decide +kernel
theorem dd_OneSided_errand_56 : decode mm_OneSided_errand.2.1 56 = .ok (.aload_n 0, 1) := by decide +kernel
theorem dd_OneSided_errand_57 : decode mm_OneSided_errand.2.1 57 = .ok (.getfield 19, 3) := by decide +kernel
theorem dd_OneSided_errand_60 : decode mm_OneSided_errand.2.1 60 = .ok (.getfield 163, 3) := by decide +kernel
theorem dd_OneSided_errand_63 : decode mm_OneSided_errand.2.1 63 = .ok (.iload_n 1, 1) := by decide +kernel
theorem dd_OneSided_errand_64 : decode mm_OneSided_errand.2.1 64 = .ok (.aaload, 1) := by decide +kernel
theorem dd_OneSided_errand_65 : decode mm_OneSided_errand.2.1 65 = .ok (.getfield 178, 3) := by decide +kernel
theorem dd_OneSided_errand_68 : decode mm_OneSided_errand.2.1 68 = .ok (.if_icmp .gt (7), 3) := by decide +kernel
theorem dd_OneSided_errand_75 : decode mm_OneSided_errand.2.1 75 = .ok (.iconst 0, 1) := by decide +kernel
theorem dd_OneSided_errand_76 : decode mm_OneSided_errand.2.1 76 = .ok (.ireturn, 1) := by decide +kernel
theorem dd_OneSided_errand_71 : decode mm_OneSided_errand.2.1 71 = .ok (.iconst 1, 1) := by decide +kernel
theorem dd_OneSided_errand_72 : decode mm_OneSided_errand.2.1 72 = .ok (.goto 4, 3) := by decide +kernel
theorem dd_OneSided_errand_49 : decode mm_OneSided_errand.2.1 49 = .ok (.iload_n 3, 1) := by decide +kernel
theorem dd_OneSided_errand_50 : decode mm_OneSided_errand.2.1 50 = .ok (.ireturn, 1) := by decide +kernel
theorem dd_OneSided_errand_41 : decode mm_OneSided_errand.2.1 41 = .ok (.bipush (-2), 2) := by decide +kernel
theorem dd_OneSided_errand_43 : decode mm_OneSided_errand.2.1 43 = .ok (.ireturn, 1) := by decide +kernel
theorem dd_OneSided_errand_96 : decode mm_OneSided_errand.2.1 96 = .ok (.iload_n 2, 1) := by decide +kernel
theorem dd_OneSided_errand_97 : decode mm_OneSided_errand.2.1 97 = .ok (.aload_n 0, 1) := by decide +kernel
theorem dd_OneSided_errand_98 : decode mm_OneSided_errand.2.1 98 = .ok (.getfield 49, 3) := by decide +kernel
theorem dd_OneSided_errand_101 : decode mm_OneSided_errand.2.1 101 = .ok (.getfield 245, 3) := by decide +kernel
theorem fd_11_245 : fld 11 245 = some (5, 0) := by decide +kernel
theorem dd_OneSided_errand_104 : decode mm_OneSided_errand.2.1 104 = .ok (.if_icmp .gt (17), 3) := by decide +kernel
theorem dd_OneSided_errand_121 : decode mm_OneSided_errand.2.1 121 = .ok (.bipush (-2), 2) := by decide +kernel
theorem dd_OneSided_errand_123 : decode mm_OneSided_errand.2.1 123 = .ok (.ireturn, 1) := by decide +kernel
theorem dd_OneSided_errand_107 : decode mm_OneSided_errand.2.1 107 = .ok (.aload_n 0, 1) := by decide +kernel
theorem dd_OneSided_errand_108 : decode mm_OneSided_errand.2.1 108 = .ok (.getfield 49, 3) := by decide +kernel
theorem dd_OneSided_errand_111 : decode mm_OneSided_errand.2.1 111 = .ok (.getfield 248, 3) := by decide +kernel
theorem fd_11_248 : fld 11 248 = some (5, 1) := by decide +kernel
theorem dd_OneSided_errand_114 : decode mm_OneSided_errand.2.1 114 = .ok (.iload_n 2, 1) := by decide +kernel
theorem dd_OneSided_errand_115 : decode mm_OneSided_errand.2.1 115 = .ok (.iconst 1, 1) := by decide +kernel
theorem dd_OneSided_errand_116 : decode mm_OneSided_errand.2.1 116 = .ok (.isub, 1) := by decide +kernel
theorem dd_OneSided_errand_117 : decode mm_OneSided_errand.2.1 117 = .ok (.iaload, 1) := by decide +kernel
theorem dd_OneSided_errand_118 : decode mm_OneSided_errand.2.1 118 = .ok (.goto 5, 3) := by decide +kernel
theorem B_Plans_lessenNeed_0 {xs : Nat → Int} {xl e : Nat} {h : LH} {Q : Option LV → LH → Prop} {v2 v3 v4 : Int} {q : Int} (hq : q = 5 ∨ q = 32) {p : Int} (hp : q + 21 ≤ p ∧ p ≤ q + 26) (hF : RF h)
    (k : Rn xs xl e mm_Plans_lessenNeed 3 [some (.inr (.inr 77)), some (.inr (.inr p)), some (.inl v2), some (.inl v3), some (.inl v4), some (.inl 0), none, none, none] [] h Q) :
    Rn xs xl e mm_Plans_lessenNeed 0 [some (.inr (.inr 77)), some (.inr (.inr p)), some (.inl v2), some (.inl v3), some (.inl v4), none, none, none, none] [] h Q := by
  refine R_ic dd_Plans_lessenNeed_0 (by decide) rfl ?_
  refine R_st (ls' := [some (.inr (.inr 77)), some (.inr (.inr p)), some (.inl v2), some (.inl v3), some (.inl v4), some (.inl 0), none, none, none]) dd_Plans_lessenNeed_1 rfl rfl rfl (Nat.le_of_ble_eq_true rfl) rfl rfl ?_
  exact k
theorem B_Plans_lessenNeed_3 {xs : Nat → Int} {xl e : Nat} {h : LH} {Q : Option LV → LH → Prop} {v2 v3 v4 v5 : Int} {q : Int} (hq : q = 5 ∨ q = 32) {p : Int} (hp : q + 21 ≤ p ∧ p ≤ q + 26) {o6 : Option LV} {o7 : Option LV} {o8 : Option LV} (hF : RF h) (r_v2 : 0 ≤ v2 ∧ v2 ≤ 23) (r_v3 : 0 ≤ v3 ∧ v3 ≤ 9) (r_v4 : 0 ≤ v4 ∧ v4 ≤ 9) (r_v5 : 0 ≤ v5 ∧ v5 ≤ 2)
    (k : (2 ≤ v5 →
        Q none h) ∧
      (v5 < 2 →
        (v4 ≠ (rd h p 3) →
          (0 ≤ 20 * v2 + 2 * v4 + v5 + 20 ∧ 20 * v2 + 2 * v4 + v5 + 20 < 500) ∧
          (-2147483648 ≤ (rd h 79 (20 * v2 + 2 * v4 + v5 + 20)) + 1 ∧ (rd h 79 (20 * v2 + 2 * v4 + v5 + 20)) + 1 ≤ 2147483647) ∧
          (∀ m3, m3 ≤ (rd h 79 (20 * v2 + 2 * v3 + v5)) ∧ m3 ≤ (rd h 79 (20 * v2 + 2 * v4 + v5 + 20)) + 1 ∧ (m3 = (rd h 79 (20 * v2 + 2 * v3 + v5)) ∨ m3 = (rd h 79 (20 * v2 + 2 * v4 + v5 + 20)) + 1) →
          Rn xs xl e mm_Plans_lessenNeed 3 [some (.inr (.inr 77)), some (.inr (.inr p)), some (.inl v2), some (.inl v3), some (.inl v4), some (.inl (v5 + 1)), some (.inl v5), some (.inl (20 * v2 + 2 * v3 + v5)), some (.inl (20 * v2 + 2 * v4 + v5 + 20))] [] (wr h 79 (20 * v2 + 2 * v3 + v5) m3) Q)) ∧
        (v4 = (rd h p 3) →
          (-2147483648 ≤ (rd h 79 (20 * v2 + 2 * v4 + 21)) + 1 ∧ (rd h 79 (20 * v2 + 2 * v4 + 21)) + 1 ≤ 2147483647) ∧
          (∀ m5, m5 ≤ (rd h 79 (20 * v2 + 2 * v3 + v5)) ∧ m5 ≤ (rd h 79 (20 * v2 + 2 * v4 + 21)) + 1 ∧ (m5 = (rd h 79 (20 * v2 + 2 * v3 + v5)) ∨ m5 = (rd h 79 (20 * v2 + 2 * v4 + 21)) + 1) →
          Rn xs xl e mm_Plans_lessenNeed 3 [some (.inr (.inr 77)), some (.inr (.inr p)), some (.inl v2), some (.inl v3), some (.inl v4), some (.inl (v5 + 1)), some (.inl 1), some (.inl (20 * v2 + 2 * v3 + v5)), some (.inl (20 * v2 + 2 * v4 + 21))] [] (wr h 79 (20 * v2 + 2 * v3 + v5) m5) Q)))) :
    Rn xs xl e mm_Plans_lessenNeed 3 [some (.inr (.inr 77)), some (.inr (.inr p)), some (.inl v2), some (.inl v3), some (.inl v4), some (.inl v5), o6, o7, o8] [] h Q := by
  refine R_ld (v := .inl v5) dd_Plans_lessenNeed_3 rfl rfl rfl rfl ?_
  refine R_ic dd_Plans_lessenNeed_5 (by decide) rfl ?_
  refine R_icmp dd_Plans_lessenNeed_6 rfl rfl (fun (c6 : 2 ≤ v5) => ?_) (fun (c6 : v5 < 2) => ?_)
  · replace k := k.1 c6
    exact R_vret dd_Plans_lessenNeed_87 rfl k
  · replace k := k.2 c6
    refine R_ld (v := .inl v4) dd_Plans_lessenNeed_9 rfl rfl rfl rfl ?_
    refine R_ld (v := .inr (.inr p)) dd_Plans_lessenNeed_11 rfl rfl rfl rfl ?_
    refine R_gf (v := .inl (rd h p 3)) dd_Plans_lessenNeed_12 fd_5_59 (io_p hq hp) (congrArg (fun z : Int => (Sum.inl z : LV)) (rfl)) rfl ?_
    refine R_icmp dd_Plans_lessenNeed_15 rfl rfl (fun (c7 : v4 ≠ (rd h p 3)) => ?_) (fun (c7 : v4 = (rd h p 3)) => ?_)
    · replace k := k.1 c7
      refine R_ld (v := .inl v5) dd_Plans_lessenNeed_22 rfl rfl rfl rfl ?_
      refine R_st (ls' := [some (.inr (.inr 77)), some (.inr (.inr p)), some (.inl v2), some (.inl v3), some (.inl v4), some (.inl v5), some (.inl v5), o7, o8]) dd_Plans_lessenNeed_24 rfl rfl rfl (Nat.le_of_ble_eq_true rfl) rfl rfl ?_
      refine R_ld (v := .inl v2) dd_Plans_lessenNeed_26 rfl rfl rfl rfl ?_
      refine R_bi dd_Plans_lessenNeed_27 (by decide) rfl ?_
      refine R_imul (c := 20 * v2) dd_Plans_lessenNeed_29 (by omega) (by omega) rfl ?_
      refine R_ld (v := .inl v3) dd_Plans_lessenNeed_30 rfl rfl rfl rfl ?_
      refine R_ic dd_Plans_lessenNeed_31 (by decide) rfl ?_
      refine R_imul (c := 2 * v3) dd_Plans_lessenNeed_32 (by omega) (by omega) rfl ?_
      refine R_iadd (c := 20 * v2 + 2 * v3) dd_Plans_lessenNeed_33 (by omega) (by omega) rfl ?_
      refine R_ld (v := .inl v5) dd_Plans_lessenNeed_34 rfl rfl rfl rfl ?_
      refine R_iadd (c := 20 * v2 + 2 * v3 + v5) dd_Plans_lessenNeed_36 (by omega) (by omega) rfl ?_
      refine R_st (ls' := [some (.inr (.inr 77)), some (.inr (.inr p)), some (.inl v2), some (.inl v3), some (.inl v4), some (.inl v5), some (.inl v5), some (.inl (20 * v2 + 2 * v3 + v5)), o8]) dd_Plans_lessenNeed_37 rfl rfl rfl (Nat.le_of_ble_eq_true rfl) rfl rfl ?_
      refine R_ld (v := .inl v2) dd_Plans_lessenNeed_39 rfl rfl rfl rfl ?_
      refine R_ic dd_Plans_lessenNeed_40 (by decide) rfl ?_
      refine R_iadd (c := v2 + 1) dd_Plans_lessenNeed_41 (by omega) (by omega) rfl ?_
      refine R_bi dd_Plans_lessenNeed_42 (by decide) rfl ?_
      refine R_imul (c := 20 * v2 + 20) dd_Plans_lessenNeed_44 (by omega) (by omega) rfl ?_
      refine R_ld (v := .inl v4) dd_Plans_lessenNeed_45 rfl rfl rfl rfl ?_
      refine R_ic dd_Plans_lessenNeed_47 (by decide) rfl ?_
      refine R_imul (c := 2 * v4) dd_Plans_lessenNeed_48 (by omega) (by omega) rfl ?_
      refine R_iadd (c := 20 * v2 + 2 * v4 + 20) dd_Plans_lessenNeed_49 (by omega) (by omega) rfl ?_
      refine R_ld (v := .inl v5) dd_Plans_lessenNeed_50 rfl rfl rfl rfl ?_
      refine R_iadd (c := 20 * v2 + 2 * v4 + v5 + 20) dd_Plans_lessenNeed_52 (by omega) (by omega) rfl ?_
      refine R_st (ls' := [some (.inr (.inr 77)), some (.inr (.inr p)), some (.inl v2), some (.inl v3), some (.inl v4), some (.inl v5), some (.inl v5), some (.inl (20 * v2 + 2 * v3 + v5)), some (.inl (20 * v2 + 2 * v4 + v5 + 20))]) dd_Plans_lessenNeed_53 rfl rfl rfl (Nat.le_of_ble_eq_true rfl) rfl rfl ?_
      refine R_ld (v := .inr (.inr 77)) dd_Plans_lessenNeed_55 rfl rfl rfl rfl ?_
      refine R_gf (v := .inr (.inr 79)) dd_Plans_lessenNeed_56 fd_5_15 io_77 (congrArg (fun z : Int => (Sum.inr (Sum.inr z) : LV)) (rf_77_2 hF)) rfl ?_
      refine R_ld (v := .inl (20 * v2 + 2 * v3 + v5)) dd_Plans_lessenNeed_59 rfl rfl rfl rfl ?_
      refine R_ld (v := .inr (.inr 77)) dd_Plans_lessenNeed_61 rfl rfl rfl rfl ?_
      refine R_gf (v := .inr (.inr 79)) dd_Plans_lessenNeed_62 fd_5_15 io_77 (congrArg (fun z : Int => (Sum.inr (Sum.inr z) : LV)) (rf_77_2 hF)) rfl ?_
      refine R_ld (v := .inl (20 * v2 + 2 * v3 + v5)) dd_Plans_lessenNeed_65 rfl rfl rfl rfl ?_
      refine R_iald (v := (rd h 79 (20 * v2 + 2 * v3 + v5))) (n := 500) dd_Plans_lessenNeed_67 ia_79 la_79 (by omega) (rfl) rfl ?_
      refine R_ld (v := .inr (.inr 77)) dd_Plans_lessenNeed_68 rfl rfl rfl rfl ?_
      refine R_gf (v := .inr (.inr 79)) dd_Plans_lessenNeed_69 fd_5_15 io_77 (congrArg (fun z : Int => (Sum.inr (Sum.inr z) : LV)) (rf_77_2 hF)) rfl ?_
      refine R_ld (v := .inl (20 * v2 + 2 * v4 + v5 + 20)) dd_Plans_lessenNeed_72 rfl rfl rfl rfl ?_
      obtain ⟨s1, k⟩ := k
      refine R_iald (v := (rd h 79 (20 * v2 + 2 * v4 + v5 + 20))) (n := 500) dd_Plans_lessenNeed_74 ia_79 la_79 s1 (rfl) rfl ?_
      refine R_ic dd_Plans_lessenNeed_75 (by decide) rfl ?_
      obtain ⟨s2, k⟩ := k
      refine R_iadd (c := (rd h 79 (20 * v2 + 2 * v4 + v5 + 20)) + 1) dd_Plans_lessenNeed_76 (by omega) s2 rfl ?_
      refine R_minv dd_Plans_lessenNeed_77 (by decide +kernel) (by decide +kernel) (Nat.le_of_ble_eq_true rfl) rfl (fun m3 hm3 => ?_)
      replace k := k m3 hm3
      refine R_iast (n := 500) dd_Plans_lessenNeed_80 ia_79 la_79 (by omega) rfl ?_
      refine R_inc (y := v5 + 1) (ls' := [some (.inr (.inr 77)), some (.inr (.inr p)), some (.inl v2), some (.inl v3), some (.inl v4), some (.inl (v5 + 1)), some (.inl v5), some (.inl (20 * v2 + 2 * v3 + v5)), some (.inl (20 * v2 + 2 * v4 + v5 + 20))]) dd_Plans_lessenNeed_81 rfl (by decide) (by omega) (by omega) rfl rfl ?_
      refine R_goto dd_Plans_lessenNeed_84 rfl ?_
      exact k
    · replace k := k.2 c7
      refine R_ic dd_Plans_lessenNeed_18 (by decide) rfl ?_
      refine R_goto dd_Plans_lessenNeed_19 rfl ?_
      refine R_st (ls' := [some (.inr (.inr 77)), some (.inr (.inr p)), some (.inl v2), some (.inl v3), some (.inl v4), some (.inl v5), some (.inl 1), o7, o8]) dd_Plans_lessenNeed_24 rfl rfl rfl (Nat.le_of_ble_eq_true rfl) rfl rfl ?_
      refine R_ld (v := .inl v2) dd_Plans_lessenNeed_26 rfl rfl rfl rfl ?_
      refine R_bi dd_Plans_lessenNeed_27 (by decide) rfl ?_
      refine R_imul (c := 20 * v2) dd_Plans_lessenNeed_29 (by omega) (by omega) rfl ?_
      refine R_ld (v := .inl v3) dd_Plans_lessenNeed_30 rfl rfl rfl rfl ?_
      refine R_ic dd_Plans_lessenNeed_31 (by decide) rfl ?_
      refine R_imul (c := 2 * v3) dd_Plans_lessenNeed_32 (by omega) (by omega) rfl ?_
      refine R_iadd (c := 20 * v2 + 2 * v3) dd_Plans_lessenNeed_33 (by omega) (by omega) rfl ?_
      refine R_ld (v := .inl v5) dd_Plans_lessenNeed_34 rfl rfl rfl rfl ?_
      refine R_iadd (c := 20 * v2 + 2 * v3 + v5) dd_Plans_lessenNeed_36 (by omega) (by omega) rfl ?_
      refine R_st (ls' := [some (.inr (.inr 77)), some (.inr (.inr p)), some (.inl v2), some (.inl v3), some (.inl v4), some (.inl v5), some (.inl 1), some (.inl (20 * v2 + 2 * v3 + v5)), o8]) dd_Plans_lessenNeed_37 rfl rfl rfl (Nat.le_of_ble_eq_true rfl) rfl rfl ?_
      refine R_ld (v := .inl v2) dd_Plans_lessenNeed_39 rfl rfl rfl rfl ?_
      refine R_ic dd_Plans_lessenNeed_40 (by decide) rfl ?_
      refine R_iadd (c := v2 + 1) dd_Plans_lessenNeed_41 (by omega) (by omega) rfl ?_
      refine R_bi dd_Plans_lessenNeed_42 (by decide) rfl ?_
      refine R_imul (c := 20 * v2 + 20) dd_Plans_lessenNeed_44 (by omega) (by omega) rfl ?_
      refine R_ld (v := .inl v4) dd_Plans_lessenNeed_45 rfl rfl rfl rfl ?_
      refine R_ic dd_Plans_lessenNeed_47 (by decide) rfl ?_
      refine R_imul (c := 2 * v4) dd_Plans_lessenNeed_48 (by omega) (by omega) rfl ?_
      refine R_iadd (c := 20 * v2 + 2 * v4 + 20) dd_Plans_lessenNeed_49 (by omega) (by omega) rfl ?_
      refine R_ld (v := .inl 1) dd_Plans_lessenNeed_50 rfl rfl rfl rfl ?_
      refine R_iadd (c := 20 * v2 + 2 * v4 + 21) dd_Plans_lessenNeed_52 (by omega) (by omega) rfl ?_
      refine R_st (ls' := [some (.inr (.inr 77)), some (.inr (.inr p)), some (.inl v2), some (.inl v3), some (.inl v4), some (.inl v5), some (.inl 1), some (.inl (20 * v2 + 2 * v3 + v5)), some (.inl (20 * v2 + 2 * v4 + 21))]) dd_Plans_lessenNeed_53 rfl rfl rfl (Nat.le_of_ble_eq_true rfl) rfl rfl ?_
      refine R_ld (v := .inr (.inr 77)) dd_Plans_lessenNeed_55 rfl rfl rfl rfl ?_
      refine R_gf (v := .inr (.inr 79)) dd_Plans_lessenNeed_56 fd_5_15 io_77 (congrArg (fun z : Int => (Sum.inr (Sum.inr z) : LV)) (rf_77_2 hF)) rfl ?_
      refine R_ld (v := .inl (20 * v2 + 2 * v3 + v5)) dd_Plans_lessenNeed_59 rfl rfl rfl rfl ?_
      refine R_ld (v := .inr (.inr 77)) dd_Plans_lessenNeed_61 rfl rfl rfl rfl ?_
      refine R_gf (v := .inr (.inr 79)) dd_Plans_lessenNeed_62 fd_5_15 io_77 (congrArg (fun z : Int => (Sum.inr (Sum.inr z) : LV)) (rf_77_2 hF)) rfl ?_
      refine R_ld (v := .inl (20 * v2 + 2 * v3 + v5)) dd_Plans_lessenNeed_65 rfl rfl rfl rfl ?_
      refine R_iald (v := (rd h 79 (20 * v2 + 2 * v3 + v5))) (n := 500) dd_Plans_lessenNeed_67 ia_79 la_79 (by omega) (rfl) rfl ?_
      refine R_ld (v := .inr (.inr 77)) dd_Plans_lessenNeed_68 rfl rfl rfl rfl ?_
      refine R_gf (v := .inr (.inr 79)) dd_Plans_lessenNeed_69 fd_5_15 io_77 (congrArg (fun z : Int => (Sum.inr (Sum.inr z) : LV)) (rf_77_2 hF)) rfl ?_
      refine R_ld (v := .inl (20 * v2 + 2 * v4 + 21)) dd_Plans_lessenNeed_72 rfl rfl rfl rfl ?_
      refine R_iald (v := (rd h 79 (20 * v2 + 2 * v4 + 21))) (n := 500) dd_Plans_lessenNeed_74 ia_79 la_79 (by omega) (rfl) rfl ?_
      refine R_ic dd_Plans_lessenNeed_75 (by decide) rfl ?_
      obtain ⟨s4, k⟩ := k
      refine R_iadd (c := (rd h 79 (20 * v2 + 2 * v4 + 21)) + 1) dd_Plans_lessenNeed_76 (by omega) s4 rfl ?_
      refine R_minv dd_Plans_lessenNeed_77 (by decide +kernel) (by decide +kernel) (Nat.le_of_ble_eq_true rfl) rfl (fun m5 hm5 => ?_)
      replace k := k m5 hm5
      refine R_iast (n := 500) dd_Plans_lessenNeed_80 ia_79 la_79 (by omega) rfl ?_
      refine R_inc (y := v5 + 1) (ls' := [some (.inr (.inr 77)), some (.inr (.inr p)), some (.inl v2), some (.inl v3), some (.inl v4), some (.inl (v5 + 1)), some (.inl 1), some (.inl (20 * v2 + 2 * v3 + v5)), some (.inl (20 * v2 + 2 * v4 + 21))]) dd_Plans_lessenNeed_81 rfl (by decide) (by omega) (by omega) rfl rfl ?_
      refine R_goto dd_Plans_lessenNeed_84 rfl ?_
      exact k
theorem B_Plans_fillNeed_0 {xs : Nat → Int} {xl e : Nat} {h : LH} {Q : Option LV → LH → Prop} {v3 v4 v5 : Int} {q : Int} (hq : q = 5 ∨ q = 32) {p : Int} (hp : q + 21 ≤ p ∧ p ≤ q + 26) (hF : RF h) (r_v5 : 0 ≤ v5 ∧ v5 ≤ 23)
    (k : Rn xs xl e mm_Plans_fillNeed 12 [some (.inr (.inr 77)), some (.inr (.inr q)), some (.inr (.inr p)), some (.inl v3), some (.inl v4), some (.inl v5), some (.inl (20 * v5 + 20)), some (.inl 0), none, none, none, none] [] h Q) :
    Rn xs xl e mm_Plans_fillNeed 0 [some (.inr (.inr 77)), some (.inr (.inr q)), some (.inr (.inr p)), some (.inl v3), some (.inl v4), some (.inl v5), none, none, none, none, none, none] [] h Q := by
  refine R_ld (v := .inl v5) dd_Plans_fillNeed_0 rfl rfl rfl rfl ?_
  refine R_ic dd_Plans_fillNeed_2 (by decide) rfl ?_
  refine R_iadd (c := v5 + 1) dd_Plans_fillNeed_3 (by omega) (by omega) rfl ?_
  refine R_bi dd_Plans_fillNeed_4 (by decide) rfl ?_
  refine R_imul (c := 20 * v5 + 20) dd_Plans_fillNeed_6 (by omega) (by omega) rfl ?_
  refine R_st (ls' := [some (.inr (.inr 77)), some (.inr (.inr q)), some (.inr (.inr p)), some (.inl v3), some (.inl v4), some (.inl v5), some (.inl (20 * v5 + 20)), none, none, none, none, none]) dd_Plans_fillNeed_7 rfl rfl rfl (Nat.le_of_ble_eq_true rfl) rfl rfl ?_
  refine R_ic dd_Plans_fillNeed_9 (by decide) rfl ?_
  refine R_st (ls' := [some (.inr (.inr 77)), some (.inr (.inr q)), some (.inr (.inr p)), some (.inl v3), some (.inl v4), some (.inl v5), some (.inl (20 * v5 + 20)), some (.inl 0), none, none, none, none]) dd_Plans_fillNeed_10 rfl rfl rfl (Nat.le_of_ble_eq_true rfl) rfl rfl ?_
  exact k
theorem B_Plans_fillNeed_12 {xs : Nat → Int} {xl e : Nat} {h : LH} {Q : Option LV → LH → Prop} {v3 v4 v5 v6 v7 : Int} {q : Int} (hq : q = 5 ∨ q = 32) {p : Int} (hp : q + 21 ≤ p ∧ p ≤ q + 26) (hF : RF h) (r_v5 : 0 ≤ v5 ∧ v5 ≤ 23) (r_v6 : 20 ≤ v6 ∧ v6 ≤ 480) (r_v7 : 0 ≤ v7 ∧ v7 ≤ 20)
    (k : (20 ≤ v7 →
        Rn xs xl e mm_Plans_fillNeed 59 [some (.inr (.inr 77)), some (.inr (.inr q)), some (.inr (.inr p)), some (.inl v3), some (.inl v4), some (.inl v5), some (.inl v6), some (.inl v5), none, none, none, none] [] h Q) ∧
      (v7 < 20 →
        (-2147483648 ≤ 2 * (rd h p 2) ∧ 2 * (rd h p 2) ≤ 2147483647) ∧
        (-2147483648 ≤ 2 * (rd h p 2) + 1 ∧ 2 * (rd h p 2) + 1 ≤ 2147483647) ∧
        (v7 ≠ (2 * (rd h p 2) + 1) →
          (0 ≤ v6 + v7 ∧ v6 + v7 < 500) ∧
          Rn xs xl e mm_Plans_fillNeed 12 [some (.inr (.inr 77)), some (.inr (.inr q)), some (.inr (.inr p)), some (.inl v3), some (.inl v4), some (.inl v5), some (.inl v6), some (.inl (v7 + 1)), none, none, none, none] [] (wr h 79 (v6 + v7) 1000) Q) ∧
        (v7 = (2 * (rd h p 2) + 1) →
          (0 ≤ v6 + v7 ∧ v6 + v7 < 500) ∧
          Rn xs xl e mm_Plans_fillNeed 12 [some (.inr (.inr 77)), some (.inr (.inr q)), some (.inr (.inr p)), some (.inl v3), some (.inl v4), some (.inl v5), some (.inl v6), some (.inl (v7 + 1)), none, none, none, none] [] (wr h 79 (v6 + v7) 0) Q))) :
    Rn xs xl e mm_Plans_fillNeed 12 [some (.inr (.inr 77)), some (.inr (.inr q)), some (.inr (.inr p)), some (.inl v3), some (.inl v4), some (.inl v5), some (.inl v6), some (.inl v7), none, none, none, none] [] h Q := by
  refine R_ld (v := .inl v7) dd_Plans_fillNeed_12 rfl rfl rfl rfl ?_
  refine R_bi dd_Plans_fillNeed_14 (by decide) rfl ?_
  refine R_icmp dd_Plans_fillNeed_16 rfl rfl (fun (c5 : 20 ≤ v7) => ?_) (fun (c5 : v7 < 20) => ?_)
  · replace k := k.1 c5
    refine R_ld (v := .inl v5) dd_Plans_fillNeed_55 rfl rfl rfl rfl ?_
    refine R_st (ls' := [some (.inr (.inr 77)), some (.inr (.inr q)), some (.inr (.inr p)), some (.inl v3), some (.inl v4), some (.inl v5), some (.inl v6), some (.inl v5), none, none, none, none]) dd_Plans_fillNeed_57 rfl rfl rfl (Nat.le_of_ble_eq_true rfl) rfl rfl ?_
    exact k
  · replace k := k.2 c5
    refine R_ld (v := .inr (.inr 77)) dd_Plans_fillNeed_19 rfl rfl rfl rfl ?_
    refine R_gf (v := .inr (.inr 79)) dd_Plans_fillNeed_20 fd_5_15 io_77 (congrArg (fun z : Int => (Sum.inr (Sum.inr z) : LV)) (rf_77_2 hF)) rfl ?_
    refine R_ld (v := .inl v6) dd_Plans_fillNeed_23 rfl rfl rfl rfl ?_
    refine R_ld (v := .inl v7) dd_Plans_fillNeed_25 rfl rfl rfl rfl ?_
    refine R_iadd (c := v6 + v7) dd_Plans_fillNeed_27 (by omega) (by omega) rfl ?_
    refine R_ld (v := .inl v7) dd_Plans_fillNeed_28 rfl rfl rfl rfl ?_
    refine R_ld (v := .inr (.inr p)) dd_Plans_fillNeed_30 rfl rfl rfl rfl ?_
    refine R_gf (v := .inl (rd h p 2)) dd_Plans_fillNeed_31 fd_5_65 (io_p hq hp) (congrArg (fun z : Int => (Sum.inl z : LV)) (rfl)) rfl ?_
    refine R_ic dd_Plans_fillNeed_34 (by decide) rfl ?_
    obtain ⟨s1, k⟩ := k
    refine R_imul (c := 2 * (rd h p 2)) dd_Plans_fillNeed_35 (by omega) s1 rfl ?_
    refine R_ic dd_Plans_fillNeed_36 (by decide) rfl ?_
    obtain ⟨s2, k⟩ := k
    refine R_iadd (c := 2 * (rd h p 2) + 1) dd_Plans_fillNeed_37 (by omega) s2 rfl ?_
    refine R_icmp dd_Plans_fillNeed_38 rfl rfl (fun (c6 : v7 ≠ (2 * (rd h p 2) + 1)) => ?_) (fun (c6 : v7 = (2 * (rd h p 2) + 1)) => ?_)
    · replace k := k.1 c6
      refine R_si dd_Plans_fillNeed_45 (by decide) rfl ?_
      obtain ⟨s3, k⟩ := k
      refine R_iast (n := 500) dd_Plans_fillNeed_48 ia_79 la_79 s3 rfl ?_
      refine R_inc (y := v7 + 1) (ls' := [some (.inr (.inr 77)), some (.inr (.inr q)), some (.inr (.inr p)), some (.inl v3), some (.inl v4), some (.inl v5), some (.inl v6), some (.inl (v7 + 1)), none, none, none, none]) dd_Plans_fillNeed_49 rfl (by decide) (by omega) (by omega) rfl rfl ?_
      refine R_goto dd_Plans_fillNeed_52 rfl ?_
      exact k
    · replace k := k.2 c6
      refine R_ic dd_Plans_fillNeed_41 (by decide) rfl ?_
      refine R_goto dd_Plans_fillNeed_42 rfl ?_
      obtain ⟨s4, k⟩ := k
      refine R_iast (n := 500) dd_Plans_fillNeed_48 ia_79 la_79 s4 rfl ?_
      refine R_inc (y := v7 + 1) (ls' := [some (.inr (.inr 77)), some (.inr (.inr q)), some (.inr (.inr p)), some (.inl v3), some (.inl v4), some (.inl v5), some (.inl v6), some (.inl (v7 + 1)), none, none, none, none]) dd_Plans_fillNeed_49 rfl (by decide) (by omega) (by omega) rfl rfl ?_
      refine R_goto dd_Plans_fillNeed_52 rfl ?_
      exact k
theorem B_Plans_fillNeed_59 {xs : Nat → Int} {xl e : Nat} {h : LH} {Q : Option LV → LH → Prop} {v3 v4 v5 v6 v7 : Int} {q : Int} (hq : q = 5 ∨ q = 32) {p : Int} (hp : q + 21 ≤ p ∧ p ≤ q + 26) {o8 : Option LV} {o9 : Option LV} {o10 : Option LV} {o11 : Option LV} (hF : RF h) (r_v4 : 0 ≤ v4 ∧ v4 ≤ 24) (r_v7 : -1 ≤ v7 ∧ v7 ≤ 23)
    (k : (v7 < v4 →
        Q none h) ∧
      (v4 ≤ v7 →
        Rn xs xl e mm_Plans_fillNeed 91 [some (.inr (.inr 77)), some (.inr (.inr q)), some (.inr (.inr p)), some (.inl v3), some (.inl v4), some (.inl v5), some (.inl v6), some (.inl v7), o8, o9, o10, o11] [] (cpyL h 79 (20 * v7 + 20) 79 (20 * v7) 20 ++ h) Q)) :
    Rn xs xl e mm_Plans_fillNeed 59 [some (.inr (.inr 77)), some (.inr (.inr q)), some (.inr (.inr p)), some (.inl v3), some (.inl v4), some (.inl v5), some (.inl v6), some (.inl v7), o8, o9, o10, o11] [] h Q := by
  refine R_ld (v := .inl v7) dd_Plans_fillNeed_59 rfl rfl rfl rfl ?_
  refine R_ld (v := .inl v4) dd_Plans_fillNeed_61 rfl rfl rfl rfl ?_
  refine R_icmp dd_Plans_fillNeed_63 rfl rfl (fun (c1 : v7 < v4) => ?_) (fun (c1 : v4 ≤ v7) => ?_)
  · replace k := k.1 c1
    exact R_vret dd_Plans_fillNeed_204 rfl k
  · replace k := k.2 c1
    refine R_ld (v := .inr (.inr 77)) dd_Plans_fillNeed_66 rfl rfl rfl rfl ?_
    refine R_gf (v := .inr (.inr 79)) dd_Plans_fillNeed_67 fd_5_15 io_77 (congrArg (fun z : Int => (Sum.inr (Sum.inr z) : LV)) (rf_77_2 hF)) rfl ?_
    refine R_ld (v := .inl v7) dd_Plans_fillNeed_70 rfl rfl rfl rfl ?_
    refine R_ic dd_Plans_fillNeed_72 (by decide) rfl ?_
    refine R_iadd (c := v7 + 1) dd_Plans_fillNeed_73 (by omega) (by omega) rfl ?_
    refine R_bi dd_Plans_fillNeed_74 (by decide) rfl ?_
    refine R_imul (c := 20 * v7 + 20) dd_Plans_fillNeed_76 (by omega) (by omega) rfl ?_
    refine R_ld (v := .inr (.inr 77)) dd_Plans_fillNeed_77 rfl rfl rfl rfl ?_
    refine R_gf (v := .inr (.inr 79)) dd_Plans_fillNeed_78 fd_5_15 io_77 (congrArg (fun z : Int => (Sum.inr (Sum.inr z) : LV)) (rf_77_2 hF)) rfl ?_
    refine R_ld (v := .inl v7) dd_Plans_fillNeed_81 rfl rfl rfl rfl ?_
    refine R_bi dd_Plans_fillNeed_83 (by decide) rfl ?_
    refine R_imul (c := 20 * v7) dd_Plans_fillNeed_85 (by omega) (by omega) rfl ?_
    refine R_bi dd_Plans_fillNeed_86 (by decide) rfl ?_
    refine R_acopy (n := 500) (m := 500) dd_Plans_fillNeed_88 (by decide +kernel) (by decide +kernel) ia_79 ia_79 la_79 la_79 (by omega) (Nat.le_of_ble_eq_true rfl) rfl ?_
    exact k
theorem B_Plans_fillNeed_91 {xs : Nat → Int} {xl e : Nat} {h : LH} {Q : Option LV → LH → Prop} {v3 v4 v5 v6 v7 : Int} {q : Int} (hq : q = 5 ∨ q = 32) {p : Int} (hp : q + 21 ≤ p ∧ p ≤ q + 26) {o8 : Option LV} {o9 : Option LV} {o10 : Option LV} {o11 : Option LV} (hF : RF h) (r_v7 : 0 ≤ v7 ∧ v7 ≤ 23) (he : 1 ≤ e)
    (k : (24 ≤ v7 →
        Rn xs xl e mm_Plans_fillNeed 120 [some (.inr (.inr 77)), some (.inr (.inr q)), some (.inr (.inr p)), some (.inl v3), some (.inl v4), some (.inl v5), some (.inl v6), some (.inl v7), some (.inl 0), some (.inl 0), some (.inl 0), o11] [] h Q) ∧
      (v7 < 24 →
        (-2147483648 ≤ 24 * (rd h p 1) ∧ 24 * (rd h p 1) ≤ 2147483647) ∧
        (-2147483648 ≤ 24 * (rd h p 1) + v7 ∧ 24 * (rd h p 1) + v7 ≤ 2147483647) ∧
        (0 ≤ 24 * (rd h p 1) + v7 ∧ 24 * (rd h p 1) + v7 < 96) ∧
        (-2147483648 ≤ 24 * (rd h p 1) ∧ 24 * (rd h p 1) ≤ 2147483647) ∧
        (-2147483648 ≤ 24 * (rd h p 1) + v7 ∧ 24 * (rd h p 1) + v7 ≤ 2147483647) ∧
        (0 ≤ 24 * (rd h p 1) + v7 ∧ 24 * (rd h p 1) + v7 < 96) ∧
        Rn xs xl e mm_Plans_fillNeed 120 [some (.inr (.inr 77)), some (.inr (.inr q)), some (.inr (.inr p)), some (.inl v3), some (.inl v4), some (.inl v5), some (.inl v6), some (.inl v7), some (.inl (zand (rd h (q + 5) (24 * (rd h p 1) + v7)) (zxor v3 (-1)))), some (.inl (zand (rd h (q + 6) (24 * (rd h p 1) + v7)) (zxor v3 (-1)))), some (.inl 0), o11] [] h Q)) :
    Rn xs xl e mm_Plans_fillNeed 91 [some (.inr (.inr 77)), some (.inr (.inr q)), some (.inr (.inr p)), some (.inl v3), some (.inl v4), some (.inl v5), some (.inl v6), some (.inl v7), o8, o9, o10, o11] [] h Q := by
  refine R_ld (v := .inr (.inr q)) dd_Plans_fillNeed_91 rfl rfl rfl rfl ?_
  refine R_ld (v := .inr (.inr p)) dd_Plans_fillNeed_92 rfl rfl rfl rfl ?_
  refine R_gf (v := .inl (rd h p 1)) dd_Plans_fillNeed_93 fd_5_33 (io_p hq hp) (congrArg (fun z : Int => (Sum.inl z : LV)) (rfl)) rfl ?_
  refine R_ld (v := .inl v7) dd_Plans_fillNeed_96 rfl rfl rfl rfl ?_
  refine R_ld (v := .inl v3) dd_Plans_fillNeed_98 rfl rfl rfl rfl ?_
  refine R_call (as := [.inr (.inr q), .inl (rd h p 1), .inl v7, .inl v3]) (rest := []) (M' := mm_Quarter_aheadIn) (ls0 := [some (.inr (.inr q)), some (.inl (rd h p 1)), some (.inl v7), some (.inl v3)]) dd_Plans_fillNeed_99 rfl rfl (cw_v cw_5_49 (io_q hq) rfl rfl (Nat.le_of_ble_eq_true rfl) (Nat.le_of_ble_eq_true rfl)) mt_Quarter_aheadIn rfl (c := e - 1) (by omega) rfl ?_
  refine R_ld (v := .inl v7) dd_Quarter_aheadIn_0 rfl rfl rfl rfl ?_
  refine R_bi dd_Quarter_aheadIn_1 (by decide) rfl ?_
  refine R_icmp dd_Quarter_aheadIn_3 rfl rfl (fun (c7 : 24 ≤ v7) => ?_) (fun (c7 : v7 < 24) => ?_)
  · replace k := k.1 c7
    refine R_ic dd_Quarter_aheadIn_24 (by decide) rfl ?_
    refine R_iret dd_Quarter_aheadIn_25 rfl ?_
    change Rn xs xl e mm_Plans_fillNeed 102 [some (.inr (.inr 77)), some (.inr (.inr q)), some (.inr (.inr p)), some (.inl v3), some (.inl v4), some (.inl v5), some (.inl v6), some (.inl v7), o8, o9, o10, o11] [.inl 0] h _
    refine R_st (ls' := [some (.inr (.inr 77)), some (.inr (.inr q)), some (.inr (.inr p)), some (.inl v3), some (.inl v4), some (.inl v5), some (.inl v6), some (.inl v7), some (.inl 0), o9, o10, o11]) dd_Plans_fillNeed_102 rfl rfl rfl (Nat.le_of_ble_eq_true rfl) rfl rfl ?_
    refine R_ld (v := .inr (.inr q)) dd_Plans_fillNeed_104 rfl rfl rfl rfl ?_
    refine R_ld (v := .inr (.inr p)) dd_Plans_fillNeed_105 rfl rfl rfl rfl ?_
    refine R_gf (v := .inl (rd h p 1)) dd_Plans_fillNeed_106 fd_5_33 (io_p hq hp) (congrArg (fun z : Int => (Sum.inl z : LV)) (rfl)) rfl ?_
    refine R_ld (v := .inl v7) dd_Plans_fillNeed_109 rfl rfl rfl rfl ?_
    refine R_ld (v := .inl v3) dd_Plans_fillNeed_111 rfl rfl rfl rfl ?_
    refine R_call (as := [.inr (.inr q), .inl (rd h p 1), .inl v7, .inl v3]) (rest := []) (M' := mm_Quarter_backIn) (ls0 := [some (.inr (.inr q)), some (.inl (rd h p 1)), some (.inl v7), some (.inl v3)]) dd_Plans_fillNeed_112 rfl rfl (cw_v cw_5_53 (io_q hq) rfl rfl (Nat.le_of_ble_eq_true rfl) (Nat.le_of_ble_eq_true rfl)) mt_Quarter_backIn rfl (c := e - 1) (by omega) rfl ?_
    refine R_ld (v := .inl v7) dd_Quarter_backIn_0 rfl rfl rfl rfl ?_
    refine R_bi dd_Quarter_backIn_1 (by decide) rfl ?_
    refine R_icmp dd_Quarter_backIn_3 rfl rfl (fun (c8 : 24 ≤ v7) => ?_) (fun (c8 : v7 < 24) => ?_)
    · skip
      refine R_ic dd_Quarter_backIn_24 (by decide) rfl ?_
      refine R_iret dd_Quarter_backIn_25 rfl ?_
      change Rn xs xl e mm_Plans_fillNeed 115 [some (.inr (.inr 77)), some (.inr (.inr q)), some (.inr (.inr p)), some (.inl v3), some (.inl v4), some (.inl v5), some (.inl v6), some (.inl v7), some (.inl 0), o9, o10, o11] [.inl 0] h _
      refine R_st (ls' := [some (.inr (.inr 77)), some (.inr (.inr q)), some (.inr (.inr p)), some (.inl v3), some (.inl v4), some (.inl v5), some (.inl v6), some (.inl v7), some (.inl 0), some (.inl 0), o10, o11]) dd_Plans_fillNeed_115 rfl rfl rfl (Nat.le_of_ble_eq_true rfl) rfl rfl ?_
      refine R_ic dd_Plans_fillNeed_117 (by decide) rfl ?_
      refine R_st (ls' := [some (.inr (.inr 77)), some (.inr (.inr q)), some (.inr (.inr p)), some (.inl v3), some (.inl v4), some (.inl v5), some (.inl v6), some (.inl v7), some (.inl 0), some (.inl 0), some (.inl 0), o11]) dd_Plans_fillNeed_118 rfl rfl rfl (Nat.le_of_ble_eq_true rfl) rfl rfl ?_
      exact k
    · exact absurd c8 (by omega)
  · replace k := k.2 c7
    refine R_ld (v := .inr (.inr q)) dd_Quarter_aheadIn_6 rfl rfl rfl rfl ?_
    refine R_gf (v := .inr (.inr (q + 5))) dd_Quarter_aheadIn_7 fd_6_34 (io_q hq) (congrArg (fun z : Int => (Sum.inr (Sum.inr z) : LV)) (rq_ahd hF hq)) rfl ?_
    refine R_ld (v := .inl (rd h p 1)) dd_Quarter_aheadIn_10 rfl rfl rfl rfl ?_
    refine R_bi dd_Quarter_aheadIn_11 (by decide) rfl ?_
    obtain ⟨s1, k⟩ := k
    refine R_imul (c := 24 * (rd h p 1)) dd_Quarter_aheadIn_13 (by omega) s1 rfl ?_
    refine R_ld (v := .inl v7) dd_Quarter_aheadIn_14 rfl rfl rfl rfl ?_
    obtain ⟨s2, k⟩ := k
    refine R_iadd (c := 24 * (rd h p 1) + v7) dd_Quarter_aheadIn_15 (by omega) s2 rfl ?_
    obtain ⟨s3, k⟩ := k
    refine R_iald (v := (rd h (q + 5) (24 * (rd h p 1) + v7))) (n := 96) dd_Quarter_aheadIn_16 (ia_aq hq) (la_aq hq) s3 (rfl) rfl ?_
    refine R_ld (v := .inl v3) dd_Quarter_aheadIn_17 rfl rfl rfl rfl ?_
    refine R_ic dd_Quarter_aheadIn_18 (by decide) rfl ?_
    refine R_A dd_Quarter_aheadIn_19 rfl rfl rfl rfl ?_
    refine R_A dd_Quarter_aheadIn_20 rfl rfl rfl rfl ?_
    refine R_goto dd_Quarter_aheadIn_21 rfl ?_
    refine R_iret dd_Quarter_aheadIn_25 rfl ?_
    change Rn xs xl e mm_Plans_fillNeed 102 [some (.inr (.inr 77)), some (.inr (.inr q)), some (.inr (.inr p)), some (.inl v3), some (.inl v4), some (.inl v5), some (.inl v6), some (.inl v7), o8, o9, o10, o11] [.inl (zand (rd h (q + 5) (24 * (rd h p 1) + v7)) (zxor v3 (-1)))] h _
    refine R_st (ls' := [some (.inr (.inr 77)), some (.inr (.inr q)), some (.inr (.inr p)), some (.inl v3), some (.inl v4), some (.inl v5), some (.inl v6), some (.inl v7), some (.inl (zand (rd h (q + 5) (24 * (rd h p 1) + v7)) (zxor v3 (-1)))), o9, o10, o11]) dd_Plans_fillNeed_102 rfl rfl rfl (Nat.le_of_ble_eq_true rfl) rfl rfl ?_
    refine R_ld (v := .inr (.inr q)) dd_Plans_fillNeed_104 rfl rfl rfl rfl ?_
    refine R_ld (v := .inr (.inr p)) dd_Plans_fillNeed_105 rfl rfl rfl rfl ?_
    refine R_gf (v := .inl (rd h p 1)) dd_Plans_fillNeed_106 fd_5_33 (io_p hq hp) (congrArg (fun z : Int => (Sum.inl z : LV)) (rfl)) rfl ?_
    refine R_ld (v := .inl v7) dd_Plans_fillNeed_109 rfl rfl rfl rfl ?_
    refine R_ld (v := .inl v3) dd_Plans_fillNeed_111 rfl rfl rfl rfl ?_
    refine R_call (as := [.inr (.inr q), .inl (rd h p 1), .inl v7, .inl v3]) (rest := []) (M' := mm_Quarter_backIn) (ls0 := [some (.inr (.inr q)), some (.inl (rd h p 1)), some (.inl v7), some (.inl v3)]) dd_Plans_fillNeed_112 rfl rfl (cw_v cw_5_53 (io_q hq) rfl rfl (Nat.le_of_ble_eq_true rfl) (Nat.le_of_ble_eq_true rfl)) mt_Quarter_backIn rfl (c := e - 1) (by omega) rfl ?_
    refine R_ld (v := .inl v7) dd_Quarter_backIn_0 rfl rfl rfl rfl ?_
    refine R_bi dd_Quarter_backIn_1 (by decide) rfl ?_
    refine R_icmp dd_Quarter_backIn_3 rfl rfl (fun (c9 : 24 ≤ v7) => ?_) (fun (c9 : v7 < 24) => ?_)
    · exact absurd c9 (by omega)
    · skip
      refine R_ld (v := .inr (.inr q)) dd_Quarter_backIn_6 rfl rfl rfl rfl ?_
      refine R_gf (v := .inr (.inr (q + 6))) dd_Quarter_backIn_7 fd_6_37 (io_q hq) (congrArg (fun z : Int => (Sum.inr (Sum.inr z) : LV)) (rq_bck hF hq)) rfl ?_
      refine R_ld (v := .inl (rd h p 1)) dd_Quarter_backIn_10 rfl rfl rfl rfl ?_
      refine R_bi dd_Quarter_backIn_11 (by decide) rfl ?_
      obtain ⟨s4, k⟩ := k
      refine R_imul (c := 24 * (rd h p 1)) dd_Quarter_backIn_13 (by omega) s4 rfl ?_
      refine R_ld (v := .inl v7) dd_Quarter_backIn_14 rfl rfl rfl rfl ?_
      obtain ⟨s5, k⟩ := k
      refine R_iadd (c := 24 * (rd h p 1) + v7) dd_Quarter_backIn_15 (by omega) s5 rfl ?_
      obtain ⟨s6, k⟩ := k
      refine R_iald (v := (rd h (q + 6) (24 * (rd h p 1) + v7))) (n := 96) dd_Quarter_backIn_16 (ia_bq hq) (la_bq hq) s6 (rfl) rfl ?_
      refine R_ld (v := .inl v3) dd_Quarter_backIn_17 rfl rfl rfl rfl ?_
      refine R_ic dd_Quarter_backIn_18 (by decide) rfl ?_
      refine R_A dd_Quarter_backIn_19 rfl rfl rfl rfl ?_
      refine R_A dd_Quarter_backIn_20 rfl rfl rfl rfl ?_
      refine R_goto dd_Quarter_backIn_21 rfl ?_
      refine R_iret dd_Quarter_backIn_25 rfl ?_
      change Rn xs xl e mm_Plans_fillNeed 115 [some (.inr (.inr 77)), some (.inr (.inr q)), some (.inr (.inr p)), some (.inl v3), some (.inl v4), some (.inl v5), some (.inl v6), some (.inl v7), some (.inl (zand (rd h (q + 5) (24 * (rd h p 1) + v7)) (zxor v3 (-1)))), o9, o10, o11] [.inl (zand (rd h (q + 6) (24 * (rd h p 1) + v7)) (zxor v3 (-1)))] h _
      refine R_st (ls' := [some (.inr (.inr 77)), some (.inr (.inr q)), some (.inr (.inr p)), some (.inl v3), some (.inl v4), some (.inl v5), some (.inl v6), some (.inl v7), some (.inl (zand (rd h (q + 5) (24 * (rd h p 1) + v7)) (zxor v3 (-1)))), some (.inl (zand (rd h (q + 6) (24 * (rd h p 1) + v7)) (zxor v3 (-1)))), o10, o11]) dd_Plans_fillNeed_115 rfl rfl rfl (Nat.le_of_ble_eq_true rfl) rfl rfl ?_
      refine R_ic dd_Plans_fillNeed_117 (by decide) rfl ?_
      refine R_st (ls' := [some (.inr (.inr 77)), some (.inr (.inr q)), some (.inr (.inr p)), some (.inl v3), some (.inl v4), some (.inl v5), some (.inl v6), some (.inl v7), some (.inl (zand (rd h (q + 5) (24 * (rd h p 1) + v7)) (zxor v3 (-1)))), some (.inl (zand (rd h (q + 6) (24 * (rd h p 1) + v7)) (zxor v3 (-1)))), some (.inl 0), o11]) dd_Plans_fillNeed_118 rfl rfl rfl (Nat.le_of_ble_eq_true rfl) rfl rfl ?_
      exact k
theorem B_Plans_fillNeed_120 {xs : Nat → Int} {xl e : Nat} {h : LH} {Q : Option LV → LH → Prop} {v3 v4 v5 v6 v7 v8 v9 v10 : Int} {q : Int} (hq : q = 5 ∨ q = 32) {p : Int} (hp : q + 21 ≤ p ∧ p ≤ q + 26) {o11 : Option LV} (hF : RF h) (hP : PT h) (r_v7 : 0 ≤ v7 ∧ v7 ≤ 23) (r_v10 : 0 ≤ v10 ∧ v10 ≤ 14)
    (k : ((rd h q 2) ≤ v10 →
        Rn xs xl e mm_Plans_fillNeed 59 [some (.inr (.inr 77)), some (.inr (.inr q)), some (.inr (.inr p)), some (.inl v3), some (.inl v4), some (.inl v5), some (.inl v6), some (.inl (v7 - 1)), some (.inl v8), some (.inl v9), some (.inl v10), o11] [] h Q) ∧
      (v10 < (rd h q 2) →
        (0 ≤ v10 ∧ v10 < 14) ∧
        ((zand (zshr v8 v10) 1) = 0 →
          Rn xs xl e mm_Plans_fillNeed 165 [some (.inr (.inr 77)), some (.inr (.inr q)), some (.inr (.inr p)), some (.inl v3), some (.inl v4), some (.inl v5), some (.inl v6), some (.inl v7), some (.inl v8), some (.inl v9), some (.inl v10), some (.inr (.inr (q + 7 + v10)))] [] h Q) ∧
        ((zand (zshr v8 v10) 1) ≠ 0 →
          (∃ c, c < e ∧ Rn xs xl c mm_Plans_lessenNeed 0 [some (.inr (.inr 77)), some (.inr (.inr p)), some (.inl v7), some (.inl (rd h (q + 7 + v10) 2)), some (.inl (rd h (q + 7 + v10) 3)), none, none, none, none] [] h (fun r h' => Rn xs xl e mm_Plans_fillNeed 165 [some (.inr (.inr 77)), some (.inr (.inr q)), some (.inr (.inr p)), some (.inl v3), some (.inl v4), some (.inl v5), some (.inl v6), some (.inl v7), some (.inl v8), some (.inl v9), some (.inl v10), some (.inr (.inr (q + 7 + v10)))] (r.toList ++ []) h' Q))))) :
    Rn xs xl e mm_Plans_fillNeed 120 [some (.inr (.inr 77)), some (.inr (.inr q)), some (.inr (.inr p)), some (.inl v3), some (.inl v4), some (.inl v5), some (.inl v6), some (.inl v7), some (.inl v8), some (.inl v9), some (.inl v10), o11] [] h Q := by
  refine R_ld (v := .inl v10) dd_Plans_fillNeed_120 rfl rfl rfl rfl ?_
  refine R_ld (v := .inr (.inr q)) dd_Plans_fillNeed_122 rfl rfl rfl rfl ?_
  refine R_gf (v := .inl (rd h q 2)) dd_Plans_fillNeed_123 fd_5_103 (io_q hq) (congrArg (fun z : Int => (Sum.inl z : LV)) (rfl)) rfl ?_
  refine R_icmp dd_Plans_fillNeed_126 rfl rfl (fun (c3 : (rd h q 2) ≤ v10) => ?_) (fun (c3 : v10 < (rd h q 2)) => ?_)
  · replace k := k.1 c3
    refine R_inc (y := v7 - 1) (ls' := [some (.inr (.inr 77)), some (.inr (.inr q)), some (.inr (.inr p)), some (.inl v3), some (.inl v4), some (.inl v5), some (.inl v6), some (.inl (v7 - 1)), some (.inl v8), some (.inl v9), some (.inl v10), o11]) dd_Plans_fillNeed_198 rfl (by decide) (by omega) (by omega) rfl rfl ?_
    refine R_goto dd_Plans_fillNeed_201 rfl ?_
    exact k
  · replace k := k.2 c3
    refine R_ld (v := .inr (.inr q)) dd_Plans_fillNeed_129 rfl rfl rfl rfl ?_
    refine R_gf (v := .inr (.inr (q + 1))) dd_Plans_fillNeed_130 fd_5_106 (io_q hq) (congrArg (fun z : Int => (Sum.inr (Sum.inr z) : LV)) (rq_arr hF hq)) rfl ?_
    refine R_ld (v := .inl v10) dd_Plans_fillNeed_133 rfl rfl rfl rfl ?_
    obtain ⟨s1, k⟩ := k
    refine R_aald (v := (q + 7 + v10)) (n := 14) dd_Plans_fillNeed_135 (ia_dq hq) (la_dq hq) s1 (rq_d hP hq s1) rfl ?_
    refine R_st (ls' := [some (.inr (.inr 77)), some (.inr (.inr q)), some (.inr (.inr p)), some (.inl v3), some (.inl v4), some (.inl v5), some (.inl v6), some (.inl v7), some (.inl v8), some (.inl v9), some (.inl v10), some (.inr (.inr (q + 7 + v10)))]) dd_Plans_fillNeed_136 rfl rfl rfl (Nat.le_of_ble_eq_true rfl) rfl rfl ?_
    refine R_ld (v := .inl v8) dd_Plans_fillNeed_138 rfl rfl rfl rfl ?_
    refine R_ld (v := .inl v10) dd_Plans_fillNeed_140 rfl rfl rfl rfl ?_
    refine R_A dd_Plans_fillNeed_142 rfl rfl rfl rfl ?_
    refine R_ic dd_Plans_fillNeed_143 (by decide) rfl ?_
    refine R_A dd_Plans_fillNeed_144 rfl rfl rfl rfl ?_
    refine R_if dd_Plans_fillNeed_145 rfl rfl (fun (c4 : (zand (zshr v8 v10) 1) = 0) => ?_) (fun (c4 : (zand (zshr v8 v10) 1) ≠ 0) => ?_)
    · replace k := k.1 c4
      exact k
    · replace k := k.2 c4
      refine R_ld (v := .inr (.inr 77)) dd_Plans_fillNeed_148 rfl rfl rfl rfl ?_
      refine R_ld (v := .inr (.inr p)) dd_Plans_fillNeed_149 rfl rfl rfl rfl ?_
      refine R_ld (v := .inl v7) dd_Plans_fillNeed_150 rfl rfl rfl rfl ?_
      refine R_ld (v := .inr (.inr (q + 7 + v10))) dd_Plans_fillNeed_152 rfl rfl rfl rfl ?_
      refine R_gf (v := .inl (rd h (q + 7 + v10) 2)) dd_Plans_fillNeed_154 fd_5_110 (io_d hq (by omega)) (congrArg (fun z : Int => (Sum.inl z : LV)) (rfl)) rfl ?_
      refine R_ld (v := .inr (.inr (q + 7 + v10))) dd_Plans_fillNeed_157 rfl rfl rfl rfl ?_
      refine R_gf (v := .inl (rd h (q + 7 + v10) 3)) dd_Plans_fillNeed_159 fd_5_115 (io_d hq (by omega)) (congrArg (fun z : Int => (Sum.inl z : LV)) (rfl)) rfl ?_
      obtain ⟨c, hc, k⟩ := k
      exact R_call (as := [.inr (.inr 77), .inr (.inr p), .inl v7, .inl (rd h (q + 7 + v10) 2), .inl (rd h (q + 7 + v10) 3)]) (rest := []) (M' := mm_Plans_lessenNeed) (ls0 := [some (.inr (.inr 77)), some (.inr (.inr p)), some (.inl v7), some (.inl (rd h (q + 7 + v10) 2)), some (.inl (rd h (q + 7 + v10) 3)), none, none, none, none]) dd_Plans_fillNeed_162 rfl rfl (cw_v cw_5_118 io_77 rfl rfl (Nat.le_of_ble_eq_true rfl) (Nat.le_of_ble_eq_true rfl)) mt_Plans_lessenNeed rfl hc rfl k
theorem B_Plans_fillNeed_165 {xs : Nat → Int} {xl e : Nat} {h : LH} {Q : Option LV → LH → Prop} {v3 v4 v5 v6 v7 v8 v9 v10 : Int} {q : Int} (hq : q = 5 ∨ q = 32) {p : Int} (hp : q + 21 ≤ p ∧ p ≤ q + 26) (hF : RF h) (r_v7 : 0 ≤ v7 ∧ v7 ≤ 23) (r_v10 : 0 ≤ v10 ∧ v10 ≤ 13)
    (k : ((zand (zshr v9 v10) 1) = 0 →
        Rn xs xl e mm_Plans_fillNeed 192 [some (.inr (.inr 77)), some (.inr (.inr q)), some (.inr (.inr p)), some (.inl v3), some (.inl v4), some (.inl v5), some (.inl v6), some (.inl v7), some (.inl v8), some (.inl v9), some (.inl v10), some (.inr (.inr (q + 7 + v10)))] [] h Q) ∧
      ((zand (zshr v9 v10) 1) ≠ 0 →
        (∃ c, c < e ∧ Rn xs xl c mm_Plans_lessenNeed 0 [some (.inr (.inr 77)), some (.inr (.inr p)), some (.inl v7), some (.inl (rd h (q + 7 + v10) 3)), some (.inl (rd h (q + 7 + v10) 2)), none, none, none, none] [] h (fun r h' => Rn xs xl e mm_Plans_fillNeed 192 [some (.inr (.inr 77)), some (.inr (.inr q)), some (.inr (.inr p)), some (.inl v3), some (.inl v4), some (.inl v5), some (.inl v6), some (.inl v7), some (.inl v8), some (.inl v9), some (.inl v10), some (.inr (.inr (q + 7 + v10)))] (r.toList ++ []) h' Q)))) :
    Rn xs xl e mm_Plans_fillNeed 165 [some (.inr (.inr 77)), some (.inr (.inr q)), some (.inr (.inr p)), some (.inl v3), some (.inl v4), some (.inl v5), some (.inl v6), some (.inl v7), some (.inl v8), some (.inl v9), some (.inl v10), some (.inr (.inr (q + 7 + v10)))] [] h Q := by
  refine R_ld (v := .inl v9) dd_Plans_fillNeed_165 rfl rfl rfl rfl ?_
  refine R_ld (v := .inl v10) dd_Plans_fillNeed_167 rfl rfl rfl rfl ?_
  refine R_A dd_Plans_fillNeed_169 rfl rfl rfl rfl ?_
  refine R_ic dd_Plans_fillNeed_170 (by decide) rfl ?_
  refine R_A dd_Plans_fillNeed_171 rfl rfl rfl rfl ?_
  refine R_if dd_Plans_fillNeed_172 rfl rfl (fun (c2 : (zand (zshr v9 v10) 1) = 0) => ?_) (fun (c2 : (zand (zshr v9 v10) 1) ≠ 0) => ?_)
  · replace k := k.1 c2
    exact k
  · replace k := k.2 c2
    refine R_ld (v := .inr (.inr 77)) dd_Plans_fillNeed_175 rfl rfl rfl rfl ?_
    refine R_ld (v := .inr (.inr p)) dd_Plans_fillNeed_176 rfl rfl rfl rfl ?_
    refine R_ld (v := .inl v7) dd_Plans_fillNeed_177 rfl rfl rfl rfl ?_
    refine R_ld (v := .inr (.inr (q + 7 + v10))) dd_Plans_fillNeed_179 rfl rfl rfl rfl ?_
    refine R_gf (v := .inl (rd h (q + 7 + v10) 3)) dd_Plans_fillNeed_181 fd_5_115 (io_d hq (by omega)) (congrArg (fun z : Int => (Sum.inl z : LV)) (rfl)) rfl ?_
    refine R_ld (v := .inr (.inr (q + 7 + v10))) dd_Plans_fillNeed_184 rfl rfl rfl rfl ?_
    refine R_gf (v := .inl (rd h (q + 7 + v10) 2)) dd_Plans_fillNeed_186 fd_5_110 (io_d hq (by omega)) (congrArg (fun z : Int => (Sum.inl z : LV)) (rfl)) rfl ?_
    obtain ⟨c, hc, k⟩ := k
    exact R_call (as := [.inr (.inr 77), .inr (.inr p), .inl v7, .inl (rd h (q + 7 + v10) 3), .inl (rd h (q + 7 + v10) 2)]) (rest := []) (M' := mm_Plans_lessenNeed) (ls0 := [some (.inr (.inr 77)), some (.inr (.inr p)), some (.inl v7), some (.inl (rd h (q + 7 + v10) 3)), some (.inl (rd h (q + 7 + v10) 2)), none, none, none, none]) dd_Plans_fillNeed_189 rfl rfl (cw_v cw_5_118 io_77 rfl rfl (Nat.le_of_ble_eq_true rfl) (Nat.le_of_ble_eq_true rfl)) mt_Plans_lessenNeed rfl hc rfl k
theorem B_Plans_fillNeed_192 {xs : Nat → Int} {xl e : Nat} {h : LH} {Q : Option LV → LH → Prop} {v3 v4 v5 v6 v7 v8 v9 v10 : Int} {q : Int} (hq : q = 5 ∨ q = 32) {p : Int} (hp : q + 21 ≤ p ∧ p ≤ q + 26) (hF : RF h) (r_v7 : 0 ≤ v7 ∧ v7 ≤ 23) (r_v10 : 0 ≤ v10 ∧ v10 ≤ 13)
    (k : Rn xs xl e mm_Plans_fillNeed 120 [some (.inr (.inr 77)), some (.inr (.inr q)), some (.inr (.inr p)), some (.inl v3), some (.inl v4), some (.inl v5), some (.inl v6), some (.inl v7), some (.inl v8), some (.inl v9), some (.inl (v10 + 1)), some (.inr (.inr (q + 7 + v10)))] [] h Q) :
    Rn xs xl e mm_Plans_fillNeed 192 [some (.inr (.inr 77)), some (.inr (.inr q)), some (.inr (.inr p)), some (.inl v3), some (.inl v4), some (.inl v5), some (.inl v6), some (.inl v7), some (.inl v8), some (.inl v9), some (.inl v10), some (.inr (.inr (q + 7 + v10)))] [] h Q := by
  refine R_inc (y := v10 + 1) (ls' := [some (.inr (.inr 77)), some (.inr (.inr q)), some (.inr (.inr p)), some (.inl v3), some (.inl v4), some (.inl v5), some (.inl v6), some (.inl v7), some (.inl v8), some (.inl v9), some (.inl (v10 + 1)), some (.inr (.inr (q + 7 + v10)))]) dd_Plans_fillNeed_192 rfl (by decide) (by omega) (by omega) rfl rfl ?_
  refine R_goto dd_Plans_fillNeed_195 rfl ?_
  exact k
theorem B_Plans_hourThrough_0 {xs : Nat → Int} {xl e : Nat} {h : LH} {Q : Option LV → LH → Prop} {v2 v3 v4 v5 : Int} {q : Int} (hq : q = 5 ∨ q = 32) (hF : RF h)
    (k : Rn xs xl e mm_Plans_hourThrough 6 [some (.inr (.inr 77)), some (.inr (.inr q)), some (.inl v2), some (.inl v3), some (.inl v4), some (.inl v5), some (.inl (rd h 77 3))] [] h Q) :
    Rn xs xl e mm_Plans_hourThrough 0 [some (.inr (.inr 77)), some (.inr (.inr q)), some (.inl v2), some (.inl v3), some (.inl v4), some (.inl v5), none] [] h Q := by
  refine R_ld (v := .inr (.inr 77)) dd_Plans_hourThrough_0 rfl rfl rfl rfl ?_
  refine R_gf (v := .inl (rd h 77 3)) dd_Plans_hourThrough_1 fd_5_75 io_77 (congrArg (fun z : Int => (Sum.inl z : LV)) (rfl)) rfl ?_
  refine R_st (ls' := [some (.inr (.inr 77)), some (.inr (.inr q)), some (.inl v2), some (.inl v3), some (.inl v4), some (.inl v5), some (.inl (rd h 77 3))]) dd_Plans_hourThrough_4 rfl rfl rfl (Nat.le_of_ble_eq_true rfl) rfl rfl ?_
  exact k
theorem B_Plans_hourThrough_6 {xs : Nat → Int} {xl e : Nat} {h : LH} {Q : Option LV → LH → Prop} {v2 v3 v4 v5 v6 : Int} {q : Int} (hq : q = 5 ∨ q = 32) (hF : RF h) (r_v6 : 0 ≤ v6 ∧ v6 ≤ 24) (r_v5 : 0 ≤ v5 ∧ v5 ≤ 23)
    (k : (v5 < v6 →
        Q (some (.inl (-1))) h) ∧
      (v6 ≤ v5 →
        (0 ≤ (rd h 77 4) ∧ (rd h 77 4) ≤ 2147483647) ∧
        (∃ c, c < e ∧ Rn xs xl c mm_Quarter_into 0 [some (.inr (.inr q)), some (.inl v4), some (.inl v2), some (.inl ((rd h 77 4) / 2)), some (.inl v6), some (.inl v3), none] [] h (fun r h' => Rn xs xl e mm_Plans_hourThrough 29 [some (.inr (.inr 77)), some (.inr (.inr q)), some (.inl v2), some (.inl v3), some (.inl v4), some (.inl v5), some (.inl v6)] (r.toList ++ []) h' Q)))) :
    Rn xs xl e mm_Plans_hourThrough 6 [some (.inr (.inr 77)), some (.inr (.inr q)), some (.inl v2), some (.inl v3), some (.inl v4), some (.inl v5), some (.inl v6)] [] h Q := by
  refine R_ld (v := .inl v6) dd_Plans_hourThrough_6 rfl rfl rfl rfl ?_
  refine R_ld (v := .inl v5) dd_Plans_hourThrough_8 rfl rfl rfl rfl ?_
  refine R_icmp dd_Plans_hourThrough_10 rfl rfl (fun (c3 : v5 < v6) => ?_) (fun (c3 : v6 ≤ v5) => ?_)
  · replace k := k.1 c3
    refine R_ic dd_Plans_hourThrough_42 (by decide) rfl ?_
    exact R_iret dd_Plans_hourThrough_43 rfl k
  · replace k := k.2 c3
    refine R_ld (v := .inr (.inr q)) dd_Plans_hourThrough_13 rfl rfl rfl rfl ?_
    refine R_ld (v := .inl v4) dd_Plans_hourThrough_14 rfl rfl rfl rfl ?_
    refine R_ld (v := .inl v2) dd_Plans_hourThrough_16 rfl rfl rfl rfl ?_
    refine R_ld (v := .inr (.inr 77)) dd_Plans_hourThrough_17 rfl rfl rfl rfl ?_
    refine R_gf (v := .inl (rd h 77 4)) dd_Plans_hourThrough_18 fd_5_82 io_77 (congrArg (fun z : Int => (Sum.inl z : LV)) (rfl)) rfl ?_
    refine R_ic dd_Plans_hourThrough_21 (by decide) rfl ?_
    obtain ⟨s1, k⟩ := k
    refine R_idiv dd_Plans_hourThrough_22 s1 (by decide) rfl ?_
    refine R_ld (v := .inl v6) dd_Plans_hourThrough_23 rfl rfl rfl rfl ?_
    refine R_ld (v := .inl v3) dd_Plans_hourThrough_25 rfl rfl rfl rfl ?_
    obtain ⟨c, hc, k⟩ := k
    exact R_call (as := [.inr (.inr q), .inl v4, .inl v2, .inl ((rd h 77 4) / 2), .inl v6, .inl v3]) (rest := []) (M' := mm_Quarter_into) (ls0 := [some (.inr (.inr q)), some (.inl v4), some (.inl v2), some (.inl ((rd h 77 4) / 2)), some (.inl v6), some (.inl v3), none]) dd_Plans_hourThrough_26 rfl rfl (cw_v cw_5_128 (io_q hq) rfl rfl (Nat.le_of_ble_eq_true rfl) (Nat.le_of_ble_eq_true rfl)) mt_Quarter_into rfl hc rfl k
theorem B_Plans_hourThrough_29 {xs : Nat → Int} {xl e : Nat} {h : LH} {Q : Option LV → LH → Prop} {v2 v3 v4 v5 v6 w0 : Int} {q : Int} (hq : q = 5 ∨ q = 32) (hF : RF h) (r_v6 : 0 ≤ v6 ∧ v6 ≤ 23)
    (k : (w0 = (-1) →
        Rn xs xl e mm_Plans_hourThrough 6 [some (.inr (.inr 77)), some (.inr (.inr q)), some (.inl v2), some (.inl v3), some (.inl v4), some (.inl v5), some (.inl (v6 + 1))] [] h Q) ∧
      (w0 ≠ (-1) →
        Q (some (.inl v6)) h)) :
    Rn xs xl e mm_Plans_hourThrough 29 [some (.inr (.inr 77)), some (.inr (.inr q)), some (.inl v2), some (.inl v3), some (.inl v4), some (.inl v5), some (.inl v6)] [.inl w0] h Q := by
  refine R_ic dd_Plans_hourThrough_29 (by decide) rfl ?_
  refine R_icmp dd_Plans_hourThrough_30 rfl rfl (fun (c1 : w0 = (-1)) => ?_) (fun (c1 : w0 ≠ (-1)) => ?_)
  · replace k := k.1 c1
    refine R_inc (y := v6 + 1) (ls' := [some (.inr (.inr 77)), some (.inr (.inr q)), some (.inl v2), some (.inl v3), some (.inl v4), some (.inl v5), some (.inl (v6 + 1))]) dd_Plans_hourThrough_36 rfl (by decide) (by omega) (by omega) rfl rfl ?_
    refine R_goto dd_Plans_hourThrough_39 rfl ?_
    exact k
  · replace k := k.2 c1
    refine R_ld (v := .inl v6) dd_Plans_hourThrough_33 rfl rfl rfl rfl ?_
    exact R_iret dd_Plans_hourThrough_35 rfl k
theorem B_Plans_stateThrough_0 {xs : Nat → Int} {xl e : Nat} {h : LH} {Q : Option LV → LH → Prop} {v2 v3 : Int} {q : Int} (hq : q = 5 ∨ q = 32) (hF : RF h) (hP : PT h) (r_v3 : 0 ≤ v3 ∧ v3 ≤ 13)
    (k : (0 ≤ (rd h 77 4) ∧ (rd h 77 4) ≤ 2147483647) ∧
      ((rd h (q + 7 + v3) 2) ≠ ((rd h 77 4) / 2) →
        (-2147483648 ≤ 2 * (rd h (q + 7 + v3) 2) ∧ 2 * (rd h (q + 7 + v3) 2) ≤ 2147483647) ∧
        ((rd h (q + 7 + v3) 2) ≠ v2 →
          (0 ≤ (rd h 77 4) ∧ (rd h 77 4) ≤ 2147483647) ∧
          (-2147483648 ≤ 2 * (rd h (q + 7 + v3) 2) + ((rd h 77 4) % 2) ∧ 2 * (rd h (q + 7 + v3) 2) + ((rd h 77 4) % 2) ≤ 2147483647) ∧
          Q (some (.inl (2 * (rd h (q + 7 + v3) 2) + ((rd h 77 4) % 2)))) h) ∧
        ((rd h (q + 7 + v3) 2) = v2 →
          (-2147483648 ≤ 2 * (rd h (q + 7 + v3) 2) + 1 ∧ 2 * (rd h (q + 7 + v3) 2) + 1 ≤ 2147483647) ∧
          Q (some (.inl (2 * (rd h (q + 7 + v3) 2) + 1))) h)) ∧
      ((rd h (q + 7 + v3) 2) = ((rd h 77 4) / 2) →
        (-2147483648 ≤ 2 * (rd h (q + 7 + v3) 3) ∧ 2 * (rd h (q + 7 + v3) 3) ≤ 2147483647) ∧
        ((rd h (q + 7 + v3) 3) ≠ v2 →
          (0 ≤ (rd h 77 4) ∧ (rd h 77 4) ≤ 2147483647) ∧
          (-2147483648 ≤ 2 * (rd h (q + 7 + v3) 3) + ((rd h 77 4) % 2) ∧ 2 * (rd h (q + 7 + v3) 3) + ((rd h 77 4) % 2) ≤ 2147483647) ∧
          Q (some (.inl (2 * (rd h (q + 7 + v3) 3) + ((rd h 77 4) % 2)))) h) ∧
        ((rd h (q + 7 + v3) 3) = v2 →
          (-2147483648 ≤ 2 * (rd h (q + 7 + v3) 3) + 1 ∧ 2 * (rd h (q + 7 + v3) 3) + 1 ≤ 2147483647) ∧
          Q (some (.inl (2 * (rd h (q + 7 + v3) 3) + 1))) h))) :
    Rn xs xl e mm_Plans_stateThrough 0 [some (.inr (.inr 77)), some (.inr (.inr q)), some (.inl v2), some (.inl v3), none, none] [] h Q := by
  refine R_ld (v := .inr (.inr q)) dd_Plans_stateThrough_0 rfl rfl rfl rfl ?_
  refine R_gf (v := .inr (.inr (q + 1))) dd_Plans_stateThrough_1 fd_5_106 (io_q hq) (congrArg (fun z : Int => (Sum.inr (Sum.inr z) : LV)) (rq_arr hF hq)) rfl ?_
  refine R_ld (v := .inl v3) dd_Plans_stateThrough_4 rfl rfl rfl rfl ?_
  refine R_aald (v := (q + 7 + v3)) (n := 14) dd_Plans_stateThrough_5 (ia_dq hq) (la_dq hq) (by omega) (rq_d hP hq (by omega)) rfl ?_
  refine R_st (ls' := [some (.inr (.inr 77)), some (.inr (.inr q)), some (.inl v2), some (.inl v3), some (.inr (.inr (q + 7 + v3))), none]) dd_Plans_stateThrough_6 rfl rfl rfl (Nat.le_of_ble_eq_true rfl) rfl rfl ?_
  refine R_ld (v := .inr (.inr (q + 7 + v3))) dd_Plans_stateThrough_8 rfl rfl rfl rfl ?_
  refine R_gf (v := .inl (rd h (q + 7 + v3) 2)) dd_Plans_stateThrough_10 fd_5_110 (io_d hq (by omega)) (congrArg (fun z : Int => (Sum.inl z : LV)) (rfl)) rfl ?_
  refine R_ld (v := .inr (.inr 77)) dd_Plans_stateThrough_13 rfl rfl rfl rfl ?_
  refine R_gf (v := .inl (rd h 77 4)) dd_Plans_stateThrough_14 fd_5_82 io_77 (congrArg (fun z : Int => (Sum.inl z : LV)) (rfl)) rfl ?_
  refine R_ic dd_Plans_stateThrough_17 (by decide) rfl ?_
  obtain ⟨s1, k⟩ := k
  refine R_idiv dd_Plans_stateThrough_18 s1 (by decide) rfl ?_
  refine R_icmp dd_Plans_stateThrough_19 rfl rfl (fun (c10 : (rd h (q + 7 + v3) 2) ≠ ((rd h 77 4) / 2)) => ?_) (fun (c10 : (rd h (q + 7 + v3) 2) = ((rd h 77 4) / 2)) => ?_)
  · replace k := k.1 c10
    refine R_ld (v := .inr (.inr (q + 7 + v3))) dd_Plans_stateThrough_30 rfl rfl rfl rfl ?_
    refine R_gf (v := .inl (rd h (q + 7 + v3) 2)) dd_Plans_stateThrough_32 fd_5_110 (io_d hq (by omega)) (congrArg (fun z : Int => (Sum.inl z : LV)) (rfl)) rfl ?_
    refine R_st (ls' := [some (.inr (.inr 77)), some (.inr (.inr q)), some (.inl v2), some (.inl v3), some (.inr (.inr (q + 7 + v3))), some (.inl (rd h (q + 7 + v3) 2))]) dd_Plans_stateThrough_35 rfl rfl rfl (Nat.le_of_ble_eq_true rfl) rfl rfl ?_
    refine R_ld (v := .inl (rd h (q + 7 + v3) 2)) dd_Plans_stateThrough_37 rfl rfl rfl rfl ?_
    refine R_ic dd_Plans_stateThrough_39 (by decide) rfl ?_
    obtain ⟨s2, k⟩ := k
    refine R_imul (c := 2 * (rd h (q + 7 + v3) 2)) dd_Plans_stateThrough_40 (by omega) s2 rfl ?_
    refine R_ld (v := .inl (rd h (q + 7 + v3) 2)) dd_Plans_stateThrough_41 rfl rfl rfl rfl ?_
    refine R_ld (v := .inl v2) dd_Plans_stateThrough_43 rfl rfl rfl rfl ?_
    refine R_icmp dd_Plans_stateThrough_44 rfl rfl (fun (c11 : (rd h (q + 7 + v3) 2) ≠ v2) => ?_) (fun (c11 : (rd h (q + 7 + v3) 2) = v2) => ?_)
    · replace k := k.1 c11
      refine R_ld (v := .inr (.inr 77)) dd_Plans_stateThrough_51 rfl rfl rfl rfl ?_
      refine R_gf (v := .inl (rd h 77 4)) dd_Plans_stateThrough_52 fd_5_82 io_77 (congrArg (fun z : Int => (Sum.inl z : LV)) (rfl)) rfl ?_
      refine R_ic dd_Plans_stateThrough_55 (by decide) rfl ?_
      obtain ⟨s3, k⟩ := k
      refine R_irem dd_Plans_stateThrough_56 s3 (by decide) rfl ?_
      obtain ⟨s4, k⟩ := k
      refine R_iadd (c := 2 * (rd h (q + 7 + v3) 2) + ((rd h 77 4) % 2)) dd_Plans_stateThrough_57 (by omega) s4 rfl ?_
      exact R_iret dd_Plans_stateThrough_58 rfl k
    · replace k := k.2 c11
      refine R_ic dd_Plans_stateThrough_47 (by decide) rfl ?_
      refine R_goto dd_Plans_stateThrough_48 rfl ?_
      obtain ⟨s5, k⟩ := k
      refine R_iadd (c := 2 * (rd h (q + 7 + v3) 2) + 1) dd_Plans_stateThrough_57 (by omega) s5 rfl ?_
      exact R_iret dd_Plans_stateThrough_58 rfl k
  · replace k := k.2 c10
    refine R_ld (v := .inr (.inr (q + 7 + v3))) dd_Plans_stateThrough_22 rfl rfl rfl rfl ?_
    refine R_gf (v := .inl (rd h (q + 7 + v3) 3)) dd_Plans_stateThrough_24 fd_5_115 (io_d hq (by omega)) (congrArg (fun z : Int => (Sum.inl z : LV)) (rfl)) rfl ?_
    refine R_goto dd_Plans_stateThrough_27 rfl ?_
    refine R_st (ls' := [some (.inr (.inr 77)), some (.inr (.inr q)), some (.inl v2), some (.inl v3), some (.inr (.inr (q + 7 + v3))), some (.inl (rd h (q + 7 + v3) 3))]) dd_Plans_stateThrough_35 rfl rfl rfl (Nat.le_of_ble_eq_true rfl) rfl rfl ?_
    refine R_ld (v := .inl (rd h (q + 7 + v3) 3)) dd_Plans_stateThrough_37 rfl rfl rfl rfl ?_
    refine R_ic dd_Plans_stateThrough_39 (by decide) rfl ?_
    obtain ⟨s6, k⟩ := k
    refine R_imul (c := 2 * (rd h (q + 7 + v3) 3)) dd_Plans_stateThrough_40 (by omega) s6 rfl ?_
    refine R_ld (v := .inl (rd h (q + 7 + v3) 3)) dd_Plans_stateThrough_41 rfl rfl rfl rfl ?_
    refine R_ld (v := .inl v2) dd_Plans_stateThrough_43 rfl rfl rfl rfl ?_
    refine R_icmp dd_Plans_stateThrough_44 rfl rfl (fun (c12 : (rd h (q + 7 + v3) 3) ≠ v2) => ?_) (fun (c12 : (rd h (q + 7 + v3) 3) = v2) => ?_)
    · replace k := k.1 c12
      refine R_ld (v := .inr (.inr 77)) dd_Plans_stateThrough_51 rfl rfl rfl rfl ?_
      refine R_gf (v := .inl (rd h 77 4)) dd_Plans_stateThrough_52 fd_5_82 io_77 (congrArg (fun z : Int => (Sum.inl z : LV)) (rfl)) rfl ?_
      refine R_ic dd_Plans_stateThrough_55 (by decide) rfl ?_
      obtain ⟨s7, k⟩ := k
      refine R_irem dd_Plans_stateThrough_56 s7 (by decide) rfl ?_
      obtain ⟨s8, k⟩ := k
      refine R_iadd (c := 2 * (rd h (q + 7 + v3) 3) + ((rd h 77 4) % 2)) dd_Plans_stateThrough_57 (by omega) s8 rfl ?_
      exact R_iret dd_Plans_stateThrough_58 rfl k
    · replace k := k.2 c12
      refine R_ic dd_Plans_stateThrough_47 (by decide) rfl ?_
      refine R_goto dd_Plans_stateThrough_48 rfl ?_
      obtain ⟨s9, k⟩ := k
      refine R_iadd (c := 2 * (rd h (q + 7 + v3) 3) + 1) dd_Plans_stateThrough_57 (by omega) s9 rfl ?_
      exact R_iret dd_Plans_stateThrough_58 rfl k
theorem B_Plans_nextDoor_0 {xs : Nat → Int} {xl e : Nat} {h : LH} {Q : Option LV → LH → Prop} {v3 v4 : Int} {q : Int} (hq : q = 5 ∨ q = 32) {p : Int} (hp : q + 21 ≤ p ∧ p ≤ q + 26) (hF : RF h)
    (k : Rn xs xl e mm_Plans_nextDoor 3 [some (.inr (.inr 77)), some (.inr (.inr q)), some (.inr (.inr p)), some (.inl v3), some (.inl v4), some (.inl 0), none, none] [] h Q) :
    Rn xs xl e mm_Plans_nextDoor 0 [some (.inr (.inr 77)), some (.inr (.inr q)), some (.inr (.inr p)), some (.inl v3), some (.inl v4), none, none, none] [] h Q := by
  refine R_ic dd_Plans_nextDoor_0 (by decide) rfl ?_
  refine R_st (ls' := [some (.inr (.inr 77)), some (.inr (.inr q)), some (.inr (.inr p)), some (.inl v3), some (.inl v4), some (.inl 0), none, none]) dd_Plans_nextDoor_1 rfl rfl rfl (Nat.le_of_ble_eq_true rfl) rfl rfl ?_
  exact k
theorem B_Plans_nextDoor_3 {xs : Nat → Int} {xl e : Nat} {h : LH} {Q : Option LV → LH → Prop} {v3 v4 v5 : Int} {q : Int} (hq : q = 5 ∨ q = 32) {p : Int} (hp : q + 21 ≤ p ∧ p ≤ q + 26) {o6 : Option LV} {o7 : Option LV} (hF : RF h) (r_v5 : 0 ≤ v5 ∧ v5 ≤ 14) (r_v4 : 0 ≤ v4 ∧ v4 ≤ 23)
    (k : ((rd h q 2) ≤ v5 →
        Q (some (.inl (-1))) h) ∧
      (v5 < (rd h q 2) →
        (∃ c, c < e ∧ Rn xs xl c mm_Plans_hourThrough 0 [some (.inr (.inr 77)), some (.inr (.inr q)), some (.inl (rd h p 1)), some (.inl v3), some (.inl v5), some (.inl v4), none] [] h (fun r h' => Rn xs xl e mm_Plans_nextDoor 26 [some (.inr (.inr 77)), some (.inr (.inr q)), some (.inr (.inr p)), some (.inl v3), some (.inl v4), some (.inl v5), o6, o7] (r.toList ++ []) h' Q)))) :
    Rn xs xl e mm_Plans_nextDoor 3 [some (.inr (.inr 77)), some (.inr (.inr q)), some (.inr (.inr p)), some (.inl v3), some (.inl v4), some (.inl v5), o6, o7] [] h Q := by
  refine R_ld (v := .inl v5) dd_Plans_nextDoor_3 rfl rfl rfl rfl ?_
  refine R_ld (v := .inr (.inr q)) dd_Plans_nextDoor_5 rfl rfl rfl rfl ?_
  refine R_gf (v := .inl (rd h q 2)) dd_Plans_nextDoor_6 fd_5_103 (io_q hq) (congrArg (fun z : Int => (Sum.inl z : LV)) (rfl)) rfl ?_
  refine R_icmp dd_Plans_nextDoor_9 rfl rfl (fun (c2 : (rd h q 2) ≤ v5) => ?_) (fun (c2 : v5 < (rd h q 2)) => ?_)
  · replace k := k.1 c2
    refine R_ic dd_Plans_nextDoor_96 (by decide) rfl ?_
    exact R_iret dd_Plans_nextDoor_97 rfl k
  · replace k := k.2 c2
    refine R_ld (v := .inr (.inr 77)) dd_Plans_nextDoor_12 rfl rfl rfl rfl ?_
    refine R_ld (v := .inr (.inr q)) dd_Plans_nextDoor_13 rfl rfl rfl rfl ?_
    refine R_ld (v := .inr (.inr p)) dd_Plans_nextDoor_14 rfl rfl rfl rfl ?_
    refine R_gf (v := .inl (rd h p 1)) dd_Plans_nextDoor_15 fd_5_33 (io_p hq hp) (congrArg (fun z : Int => (Sum.inl z : LV)) (rfl)) rfl ?_
    refine R_ld (v := .inl v3) dd_Plans_nextDoor_18 rfl rfl rfl rfl ?_
    refine R_ld (v := .inl v5) dd_Plans_nextDoor_19 rfl rfl rfl rfl ?_
    refine R_ld (v := .inl v4) dd_Plans_nextDoor_21 rfl rfl rfl rfl ?_
    obtain ⟨c, hc, k⟩ := k
    exact R_call (as := [.inr (.inr 77), .inr (.inr q), .inl (rd h p 1), .inl v3, .inl v5, .inl v4]) (rest := []) (M' := mm_Plans_hourThrough) (ls0 := [some (.inr (.inr 77)), some (.inr (.inr q)), some (.inl (rd h p 1)), some (.inl v3), some (.inl v5), some (.inl v4), none]) dd_Plans_nextDoor_23 rfl rfl (cw_v cw_5_89 io_77 rfl rfl (Nat.le_of_ble_eq_true rfl) (Nat.le_of_ble_eq_true rfl)) mt_Plans_hourThrough rfl hc rfl k
theorem B_Plans_nextDoor_26 {xs : Nat → Int} {xl e : Nat} {h : LH} {Q : Option LV → LH → Prop} {v3 v4 v5 w0 : Int} {q : Int} (hq : q = 5 ∨ q = 32) {p : Int} (hp : q + 21 ≤ p ∧ p ≤ q + 26) {o6 : Option LV} {o7 : Option LV} (hF : RF h) (r_v5 : 0 ≤ v5 ∧ v5 ≤ 13)
    (k : (w0 ≠ (-1) →
        (-2147483648 ≤ w0 + 1 ∧ w0 + 1 ≤ 2147483647) ∧
        (-2147483648 ≤ 20 * w0 + 20 ∧ 20 * w0 + 20 ≤ 2147483647) ∧
        (∃ c, c < e ∧ Rn xs xl c mm_Plans_stateThrough 0 [some (.inr (.inr 77)), some (.inr (.inr q)), some (.inl (rd h p 3)), some (.inl v5), none, none] [] h (fun r h' => Rn xs xl e mm_Plans_nextDoor 55 [some (.inr (.inr 77)), some (.inr (.inr q)), some (.inr (.inr p)), some (.inl v3), some (.inl v4), some (.inl v5), some (.inl w0), o7] (r.toList ++ [.inl (20 * w0 + 20)]) h' Q))) ∧
      (w0 = (-1) →
        Rn xs xl e mm_Plans_nextDoor 90 [some (.inr (.inr 77)), some (.inr (.inr q)), some (.inr (.inr p)), some (.inl v3), some (.inl v4), some (.inl v5), some (.inl w0), o7] [] h Q)) :
    Rn xs xl e mm_Plans_nextDoor 26 [some (.inr (.inr 77)), some (.inr (.inr q)), some (.inr (.inr p)), some (.inl v3), some (.inl v4), some (.inl v5), o6, o7] [.inl w0] h Q := by
  refine R_st (ls' := [some (.inr (.inr 77)), some (.inr (.inr q)), some (.inr (.inr p)), some (.inl v3), some (.inl v4), some (.inl v5), some (.inl w0), o7]) dd_Plans_nextDoor_26 rfl rfl rfl (Nat.le_of_ble_eq_true rfl) rfl rfl ?_
  refine R_ld (v := .inl w0) dd_Plans_nextDoor_28 rfl rfl rfl rfl ?_
  refine R_ic dd_Plans_nextDoor_30 (by decide) rfl ?_
  refine R_icmp dd_Plans_nextDoor_31 rfl rfl (fun (c4 : w0 ≠ (-1)) => ?_) (fun (c4 : w0 = (-1)) => ?_)
  · replace k := k.1 c4
    refine R_ld (v := .inl w0) dd_Plans_nextDoor_37 rfl rfl rfl rfl ?_
    refine R_ic dd_Plans_nextDoor_39 (by decide) rfl ?_
    obtain ⟨s1, k⟩ := k
    refine R_iadd (c := w0 + 1) dd_Plans_nextDoor_40 (by omega) s1 rfl ?_
    refine R_bi dd_Plans_nextDoor_41 (by decide) rfl ?_
    obtain ⟨s2, k⟩ := k
    refine R_imul (c := 20 * w0 + 20) dd_Plans_nextDoor_43 (by omega) s2 rfl ?_
    refine R_ld (v := .inr (.inr 77)) dd_Plans_nextDoor_44 rfl rfl rfl rfl ?_
    refine R_ld (v := .inr (.inr q)) dd_Plans_nextDoor_45 rfl rfl rfl rfl ?_
    refine R_ld (v := .inr (.inr p)) dd_Plans_nextDoor_46 rfl rfl rfl rfl ?_
    refine R_gf (v := .inl (rd h p 3)) dd_Plans_nextDoor_47 fd_5_59 (io_p hq hp) (congrArg (fun z : Int => (Sum.inl z : LV)) (rfl)) rfl ?_
    refine R_ld (v := .inl v5) dd_Plans_nextDoor_50 rfl rfl rfl rfl ?_
    obtain ⟨c, hc, k⟩ := k
    exact R_call (as := [.inr (.inr 77), .inr (.inr q), .inl (rd h p 3), .inl v5]) (rest := [.inl (20 * w0 + 20)]) (M' := mm_Plans_stateThrough) (ls0 := [some (.inr (.inr 77)), some (.inr (.inr q)), some (.inl (rd h p 3)), some (.inl v5), none, none]) dd_Plans_nextDoor_52 rfl rfl (cw_v cw_5_93 io_77 rfl rfl (Nat.le_of_ble_eq_true rfl) (Nat.le_of_ble_eq_true rfl)) mt_Plans_stateThrough rfl hc rfl k
  · replace k := k.2 c4
    refine R_goto dd_Plans_nextDoor_34 rfl ?_
    exact k
theorem B_Plans_nextDoor_55 {xs : Nat → Int} {xl e : Nat} {h : LH} {Q : Option LV → LH → Prop} {v3 v4 v5 v6 w0 w1 : Int} {q : Int} (hq : q = 5 ∨ q = 32) {p : Int} (hp : q + 21 ≤ p ∧ p ≤ q + 26) {o7 : Option LV} (hF : RF h) (r_v5 : 0 ≤ v5 ∧ v5 ≤ 13) (r_v6 : 0 ≤ v6 ∧ v6 ≤ 23)
    (k : (-2147483648 ≤ w0 + w1 ∧ w0 + w1 ≤ 2147483647) ∧
      (0 ≤ w0 + w1 ∧ w0 + w1 < 500) ∧
      (-2147483648 ≤ 20 * (rd h 77 3) ∧ 20 * (rd h 77 3) ≤ 2147483647) ∧
      (-2147483648 ≤ 20 * (rd h 77 3) + (rd h 77 4) ∧ 20 * (rd h 77 3) + (rd h 77 4) ≤ 2147483647) ∧
      (0 ≤ 20 * (rd h 77 3) + (rd h 77 4) ∧ 20 * (rd h 77 3) + (rd h 77 4) < 500) ∧
      (-2147483648 ≤ (rd h 79 (20 * (rd h 77 3) + (rd h 77 4))) - 1 ∧ (rd h 79 (20 * (rd h 77 3) + (rd h 77 4))) - 1 ≤ 2147483647) ∧
      ((rd h 79 (w0 + w1)) ≠ ((rd h 79 (20 * (rd h 77 3) + (rd h 77 4))) - 1) →
        Rn xs xl e mm_Plans_nextDoor 90 [some (.inr (.inr 77)), some (.inr (.inr q)), some (.inr (.inr p)), some (.inl v3), some (.inl v4), some (.inl v5), some (.inl v6), some (.inl (w0 + w1))] [] h Q) ∧
      ((rd h 79 (w0 + w1)) = ((rd h 79 (20 * (rd h 77 3) + (rd h 77 4))) - 1) →
        Q (some (.inl v5)) h)) :
    Rn xs xl e mm_Plans_nextDoor 55 [some (.inr (.inr 77)), some (.inr (.inr q)), some (.inr (.inr p)), some (.inl v3), some (.inl v4), some (.inl v5), some (.inl v6), o7] [.inl w1, .inl w0] h Q := by
  obtain ⟨s1, k⟩ := k
  refine R_iadd (c := w0 + w1) dd_Plans_nextDoor_55 (by omega) s1 rfl ?_
  refine R_st (ls' := [some (.inr (.inr 77)), some (.inr (.inr q)), some (.inr (.inr p)), some (.inl v3), some (.inl v4), some (.inl v5), some (.inl v6), some (.inl (w0 + w1))]) dd_Plans_nextDoor_56 rfl rfl rfl (Nat.le_of_ble_eq_true rfl) rfl rfl ?_
  refine R_ld (v := .inr (.inr 77)) dd_Plans_nextDoor_58 rfl rfl rfl rfl ?_
  refine R_gf (v := .inr (.inr 79)) dd_Plans_nextDoor_59 fd_5_15 io_77 (congrArg (fun z : Int => (Sum.inr (Sum.inr z) : LV)) (rf_77_2 hF)) rfl ?_
  refine R_ld (v := .inl (w0 + w1)) dd_Plans_nextDoor_62 rfl rfl rfl rfl ?_
  obtain ⟨s2, k⟩ := k
  refine R_iald (v := (rd h 79 (w0 + w1))) (n := 500) dd_Plans_nextDoor_64 ia_79 la_79 s2 (rfl) rfl ?_
  refine R_ld (v := .inr (.inr 77)) dd_Plans_nextDoor_65 rfl rfl rfl rfl ?_
  refine R_gf (v := .inr (.inr 79)) dd_Plans_nextDoor_66 fd_5_15 io_77 (congrArg (fun z : Int => (Sum.inr (Sum.inr z) : LV)) (rf_77_2 hF)) rfl ?_
  refine R_ld (v := .inr (.inr 77)) dd_Plans_nextDoor_69 rfl rfl rfl rfl ?_
  refine R_gf (v := .inl (rd h 77 3)) dd_Plans_nextDoor_70 fd_5_75 io_77 (congrArg (fun z : Int => (Sum.inl z : LV)) (rfl)) rfl ?_
  refine R_bi dd_Plans_nextDoor_73 (by decide) rfl ?_
  obtain ⟨s3, k⟩ := k
  refine R_imul (c := 20 * (rd h 77 3)) dd_Plans_nextDoor_75 (by omega) s3 rfl ?_
  refine R_ld (v := .inr (.inr 77)) dd_Plans_nextDoor_76 rfl rfl rfl rfl ?_
  refine R_gf (v := .inl (rd h 77 4)) dd_Plans_nextDoor_77 fd_5_82 io_77 (congrArg (fun z : Int => (Sum.inl z : LV)) (rfl)) rfl ?_
  obtain ⟨s4, k⟩ := k
  refine R_iadd (c := 20 * (rd h 77 3) + (rd h 77 4)) dd_Plans_nextDoor_80 (by omega) s4 rfl ?_
  obtain ⟨s5, k⟩ := k
  refine R_iald (v := (rd h 79 (20 * (rd h 77 3) + (rd h 77 4)))) (n := 500) dd_Plans_nextDoor_81 ia_79 la_79 s5 (rfl) rfl ?_
  refine R_ic dd_Plans_nextDoor_82 (by decide) rfl ?_
  obtain ⟨s6, k⟩ := k
  refine R_isub (c := (rd h 79 (20 * (rd h 77 3) + (rd h 77 4))) - 1) dd_Plans_nextDoor_83 (by omega) s6 rfl ?_
  refine R_icmp dd_Plans_nextDoor_84 rfl rfl (fun (c7 : (rd h 79 (w0 + w1)) ≠ ((rd h 79 (20 * (rd h 77 3) + (rd h 77 4))) - 1)) => ?_) (fun (c7 : (rd h 79 (w0 + w1)) = ((rd h 79 (20 * (rd h 77 3) + (rd h 77 4))) - 1)) => ?_)
  · replace k := k.1 c7
    exact k
  · replace k := k.2 c7
    refine R_ld (v := .inl v5) dd_Plans_nextDoor_87 rfl rfl rfl rfl ?_
    exact R_iret dd_Plans_nextDoor_89 rfl k
theorem B_Plans_nextDoor_90 {xs : Nat → Int} {xl e : Nat} {h : LH} {Q : Option LV → LH → Prop} {v3 v4 v5 v6 : Int} {q : Int} (hq : q = 5 ∨ q = 32) {p : Int} (hp : q + 21 ≤ p ∧ p ≤ q + 26) {o7 : Option LV} (hF : RF h) (r_v5 : 0 ≤ v5 ∧ v5 ≤ 13)
    (k : Rn xs xl e mm_Plans_nextDoor 3 [some (.inr (.inr 77)), some (.inr (.inr q)), some (.inr (.inr p)), some (.inl v3), some (.inl v4), some (.inl (v5 + 1)), some (.inl v6), o7] [] h Q) :
    Rn xs xl e mm_Plans_nextDoor 90 [some (.inr (.inr 77)), some (.inr (.inr q)), some (.inr (.inr p)), some (.inl v3), some (.inl v4), some (.inl v5), some (.inl v6), o7] [] h Q := by
  refine R_inc (y := v5 + 1) (ls' := [some (.inr (.inr 77)), some (.inr (.inr q)), some (.inr (.inr p)), some (.inl v3), some (.inl v4), some (.inl (v5 + 1)), some (.inl v6), o7]) dd_Plans_nextDoor_90 rfl (by decide) (by omega) (by omega) rfl rfl ?_
  refine R_goto dd_Plans_nextDoor_93 rfl ?_
  exact k
theorem B_Plans_findWay_0 {xs : Nat → Int} {xl e : Nat} {h : LH} {Q : Option LV → LH → Prop} {v3 : Int} {q : Int} (hq : q = 5 ∨ q = 32) {sc : Int} (hsc : scn sc) (hc0 : 60 ≤ sc) (hF : RF h) (r_v3 : 0 ≤ v3 ∧ v3 ≤ 5)
    (k : (∃ c, c < e ∧ Rn xs xl c mm_Plans_homeHour 0 [some (.inr (.inr 77)), some (.inr (.inr q)), some (.inr (.inr sc)), some (.inl v3), none, none, none, none, none, none, none] [] (wr h 77 0 0) (fun r h' => Rn xs xl e mm_Plans_findWay 12 [some (.inr (.inr 77)), some (.inr (.inr q)), some (.inr (.inr sc)), some (.inl v3), none, none, none, none, none] (r.toList ++ []) h' Q))) :
    Rn xs xl e mm_Plans_findWay 0 [some (.inr (.inr 77)), some (.inr (.inr q)), some (.inr (.inr sc)), some (.inl v3), none, none, none, none, none] [] h Q := by
  refine R_ld (v := .inr (.inr 77)) dd_Plans_findWay_0 rfl rfl rfl rfl ?_
  refine R_ic dd_Plans_findWay_1 (by decide) rfl ?_
  refine R_pf (z := 0) dd_Plans_findWay_2 fd_5_68 io_77 fn_5_0 rfl rfl ?_
  refine R_ld (v := .inr (.inr 77)) dd_Plans_findWay_5 rfl rfl rfl rfl ?_
  refine R_ld (v := .inr (.inr q)) dd_Plans_findWay_6 rfl rfl rfl rfl ?_
  refine R_ld (v := .inr (.inr sc)) dd_Plans_findWay_7 rfl rfl rfl rfl ?_
  refine R_ld (v := .inl v3) dd_Plans_findWay_8 rfl rfl rfl rfl ?_
  obtain ⟨c, hc, k⟩ := k
  exact R_call (as := [.inr (.inr 77), .inr (.inr q), .inr (.inr sc), .inl v3]) (rest := []) (M' := mm_Plans_homeHour) (ls0 := [some (.inr (.inr 77)), some (.inr (.inr q)), some (.inr (.inr sc)), some (.inl v3), none, none, none, none, none, none, none]) dd_Plans_findWay_9 rfl rfl (cw_v cw_5_71 io_77 rfl rfl (Nat.le_of_ble_eq_true rfl) (Nat.le_of_ble_eq_true rfl)) mt_Plans_homeHour rfl hc rfl k
theorem B_Plans_findWay_12 {xs : Nat → Int} {xl e : Nat} {h : LH} {Q : Option LV → LH → Prop} {v3 w0 : Int} {q : Int} (hq : q = 5 ∨ q = 32) {sc : Int} (hsc : scn sc) (hc0 : 60 ≤ sc) (hF : RF h) (r_v3 : 0 ≤ v3 ∧ v3 ≤ 5) (he : 1 ≤ e)
    (k : (-2147483648 ≤ (rd h sc 0) + (zand (zshr (rd h sc 2) v3) 1) ∧ (rd h sc 0) + (zand (zshr (rd h sc 2) v3) 1) ≤ 2147483647) ∧
      Rn xs xl e mm_Plans_findWay 23 [some (.inr (.inr 77)), some (.inr (.inr q)), some (.inr (.inr sc)), some (.inl v3), some (.inl w0), none, none, none, none] [] (wr h 77 3 ((rd h sc 0) + (zand (zshr (rd h sc 2) v3) 1))) Q) :
    Rn xs xl e mm_Plans_findWay 12 [some (.inr (.inr 77)), some (.inr (.inr q)), some (.inr (.inr sc)), some (.inl v3), none, none, none, none, none] [.inl w0] h Q := by
  refine R_st (ls' := [some (.inr (.inr 77)), some (.inr (.inr q)), some (.inr (.inr sc)), some (.inl v3), some (.inl w0), none, none, none, none]) dd_Plans_findWay_12 rfl rfl rfl (Nat.le_of_ble_eq_true rfl) rfl rfl ?_
  refine R_ld (v := .inr (.inr 77)) dd_Plans_findWay_14 rfl rfl rfl rfl ?_
  refine R_ld (v := .inr (.inr sc)) dd_Plans_findWay_15 rfl rfl rfl rfl ?_
  refine R_ld (v := .inl v3) dd_Plans_findWay_16 rfl rfl rfl rfl ?_
  refine R_call (as := [.inr (.inr sc), .inl v3]) (rest := [.inr (.inr 77)]) (M' := mm_Scene_firstFreeHour) (ls0 := [some (.inr (.inr sc)), some (.inl v3)]) dd_Plans_findWay_17 rfl rfl (cw_v cw_5_38 (io_c hsc) rfl rfl (Nat.le_of_ble_eq_true rfl) (Nat.le_of_ble_eq_true rfl)) mt_Scene_firstFreeHour rfl (c := e - 1) (by omega) rfl ?_
  refine R_ld (v := .inr (.inr sc)) dd_Scene_firstFreeHour_0 rfl rfl rfl rfl ?_
  refine R_gf (v := .inl (rd h sc 0)) dd_Scene_firstFreeHour_1 fd_9_18 (io_c hsc) (congrArg (fun z : Int => (Sum.inl z : LV)) (rfl)) rfl ?_
  refine R_ld (v := .inr (.inr sc)) dd_Scene_firstFreeHour_4 rfl rfl rfl rfl ?_
  refine R_gf (v := .inl (rd h sc 2)) dd_Scene_firstFreeHour_5 fd_9_25 (io_c hsc) (congrArg (fun z : Int => (Sum.inl z : LV)) (rfl)) rfl ?_
  refine R_ld (v := .inl v3) dd_Scene_firstFreeHour_8 rfl rfl rfl rfl ?_
  refine R_A dd_Scene_firstFreeHour_9 rfl rfl rfl rfl ?_
  refine R_ic dd_Scene_firstFreeHour_10 (by decide) rfl ?_
  refine R_A dd_Scene_firstFreeHour_11 rfl rfl rfl rfl ?_
  obtain ⟨s1, k⟩ := k
  refine R_iadd (c := (rd h sc 0) + (zand (zshr (rd h sc 2) v3) 1)) dd_Scene_firstFreeHour_12 (by omega) s1 rfl ?_
  refine R_iret dd_Scene_firstFreeHour_13 rfl ?_
  change Rn xs xl e mm_Plans_findWay 20 [some (.inr (.inr 77)), some (.inr (.inr q)), some (.inr (.inr sc)), some (.inl v3), some (.inl w0), none, none, none, none] [.inl ((rd h sc 0) + (zand (zshr (rd h sc 2) v3) 1)), .inr (.inr 77)] h _
  refine R_pf (z := ((rd h sc 0) + (zand (zshr (rd h sc 2) v3) 1))) dd_Plans_findWay_20 fd_5_75 io_77 fn_5_3 rfl rfl ?_
  exact k
theorem B_Plans_findWay_23 {xs : Nat → Int} {xl e : Nat} {h : LH} {Q : Option LV → LH → Prop} {v3 v4 : Int} {q : Int} (hq : q = 5 ∨ q = 32) {sc : Int} (hsc : scn sc) (hc0 : 60 ≤ sc) (hF : RF h) (hP : PT h) (r_v3 : 0 ≤ v3 ∧ v3 ≤ 5)
    (k : (v4 = (-1) →
        Q none h) ∧
      (v4 ≠ (-1) →
        (24 ≤ v4 →
          Q none h) ∧
        (v4 < 24 →
          ((rd h 77 3) ≤ v4 →
            (∃ c, c < e ∧ Rn xs xl c mm_Plans_fillNeed 0 [some (.inr (.inr 77)), some (.inr (.inr q)), some (.inr (.inr (q + 21 + v3))), some (.inl (rd h sc 1)), some (.inl (rd h 77 3)), some (.inl v4), none, none, none, none, none, none] [] h (fun r h' => Rn xs xl e mm_Plans_findWay 71 [some (.inr (.inr 77)), some (.inr (.inr q)), some (.inr (.inr sc)), some (.inl v3), some (.inl v4), some (.inr (.inr (q + 21 + v3))), none, none, none] (r.toList ++ []) h' Q))) ∧
          (v4 < (rd h 77 3) →
            Q none h)))) :
    Rn xs xl e mm_Plans_findWay 23 [some (.inr (.inr 77)), some (.inr (.inr q)), some (.inr (.inr sc)), some (.inl v3), some (.inl v4), none, none, none, none] [] h Q := by
  refine R_ld (v := .inl v4) dd_Plans_findWay_23 rfl rfl rfl rfl ?_
  refine R_ic dd_Plans_findWay_25 (by decide) rfl ?_
  refine R_icmp dd_Plans_findWay_26 rfl rfl (fun (c2 : v4 = (-1)) => ?_) (fun (c2 : v4 ≠ (-1)) => ?_)
  · replace k := k.1 c2
    exact R_vret dd_Plans_findWay_45 rfl k
  · replace k := k.2 c2
    refine R_ld (v := .inl v4) dd_Plans_findWay_29 rfl rfl rfl rfl ?_
    refine R_bi dd_Plans_findWay_31 (by decide) rfl ?_
    refine R_icmp dd_Plans_findWay_33 rfl rfl (fun (c3 : 24 ≤ v4) => ?_) (fun (c3 : v4 < 24) => ?_)
    · replace k := k.1 c3
      exact R_vret dd_Plans_findWay_45 rfl k
    · replace k := k.2 c3
      refine R_ld (v := .inr (.inr 77)) dd_Plans_findWay_36 rfl rfl rfl rfl ?_
      refine R_gf (v := .inl (rd h 77 3)) dd_Plans_findWay_37 fd_5_75 io_77 (congrArg (fun z : Int => (Sum.inl z : LV)) (rfl)) rfl ?_
      refine R_ld (v := .inl v4) dd_Plans_findWay_40 rfl rfl rfl rfl ?_
      refine R_icmp dd_Plans_findWay_42 rfl rfl (fun (c4 : (rd h 77 3) ≤ v4) => ?_) (fun (c4 : v4 < (rd h 77 3)) => ?_)
      · replace k := k.1 c4
        refine R_ld (v := .inr (.inr q)) dd_Plans_findWay_46 rfl rfl rfl rfl ?_
        refine R_gf (v := .inr (.inr (q + 2))) dd_Plans_findWay_47 fd_5_27 (io_q hq) (congrArg (fun z : Int => (Sum.inr (Sum.inr z) : LV)) (rq_ppl hF hq)) rfl ?_
        refine R_ld (v := .inl v3) dd_Plans_findWay_50 rfl rfl rfl rfl ?_
        refine R_aald (v := (q + 21 + v3)) (n := 6) dd_Plans_findWay_51 (ia_pq hq) (la_pq hq) (by omega) (rq_p hP hq (by omega)) rfl ?_
        refine R_st (ls' := [some (.inr (.inr 77)), some (.inr (.inr q)), some (.inr (.inr sc)), some (.inl v3), some (.inl v4), some (.inr (.inr (q + 21 + v3))), none, none, none]) dd_Plans_findWay_52 rfl rfl rfl (Nat.le_of_ble_eq_true rfl) rfl rfl ?_
        refine R_ld (v := .inr (.inr 77)) dd_Plans_findWay_54 rfl rfl rfl rfl ?_
        refine R_ld (v := .inr (.inr q)) dd_Plans_findWay_55 rfl rfl rfl rfl ?_
        refine R_ld (v := .inr (.inr (q + 21 + v3))) dd_Plans_findWay_56 rfl rfl rfl rfl ?_
        refine R_ld (v := .inr (.inr sc)) dd_Plans_findWay_58 rfl rfl rfl rfl ?_
        refine R_gf (v := .inl (rd h sc 1)) dd_Plans_findWay_59 fd_5_46 (io_c hsc) (congrArg (fun z : Int => (Sum.inl z : LV)) (rfl)) rfl ?_
        refine R_ld (v := .inr (.inr 77)) dd_Plans_findWay_62 rfl rfl rfl rfl ?_
        refine R_gf (v := .inl (rd h 77 3)) dd_Plans_findWay_63 fd_5_75 io_77 (congrArg (fun z : Int => (Sum.inl z : LV)) (rfl)) rfl ?_
        refine R_ld (v := .inl v4) dd_Plans_findWay_66 rfl rfl rfl rfl ?_
        obtain ⟨c, hc, k⟩ := k
        exact R_call (as := [.inr (.inr 77), .inr (.inr q), .inr (.inr (q + 21 + v3)), .inl (rd h sc 1), .inl (rd h 77 3), .inl v4]) (rest := []) (M' := mm_Plans_fillNeed) (ls0 := [some (.inr (.inr 77)), some (.inr (.inr q)), some (.inr (.inr (q + 21 + v3))), some (.inl (rd h sc 1)), some (.inl (rd h 77 3)), some (.inl v4), none, none, none, none, none, none]) dd_Plans_findWay_68 rfl rfl (cw_v cw_5_78 io_77 rfl rfl (Nat.le_of_ble_eq_true rfl) (Nat.le_of_ble_eq_true rfl)) mt_Plans_fillNeed rfl hc rfl k
      · replace k := k.2 c4
        exact R_vret dd_Plans_findWay_45 rfl k
theorem B_Plans_findWay_71 {xs : Nat → Int} {xl e : Nat} {h : LH} {Q : Option LV → LH → Prop} {v3 v4 : Int} {q : Int} (hq : q = 5 ∨ q = 32) {sc : Int} (hsc : scn sc) (hc0 : 60 ≤ sc) {p : Int} (hp : q + 21 ≤ p ∧ p ≤ q + 26) (hF : RF h) (r_v3 : 0 ≤ v3 ∧ v3 ≤ 5)
    (k : (-2147483648 ≤ 2 * (rd h (sc + 1) v3) ∧ 2 * (rd h (sc + 1) v3) ≤ 2147483647) ∧
      (-2147483648 ≤ 2 * (rd h (sc + 1) v3) + (zand (zshr (rd h sc 3) v3) 1) ∧ 2 * (rd h (sc + 1) v3) + (zand (zshr (rd h sc 3) v3) 1) ≤ 2147483647) ∧
      (-2147483648 ≤ 20 * (rd h 77 3) ∧ 20 * (rd h 77 3) ≤ 2147483647) ∧
      (-2147483648 ≤ 20 * (rd h 77 3) + (2 * (rd h (sc + 1) v3) + (zand (zshr (rd h sc 3) v3) 1)) ∧ 20 * (rd h 77 3) + (2 * (rd h (sc + 1) v3) + (zand (zshr (rd h sc 3) v3) 1)) ≤ 2147483647) ∧
      (0 ≤ 20 * (rd h 77 3) + (2 * (rd h (sc + 1) v3) + (zand (zshr (rd h sc 3) v3) 1)) ∧ 20 * (rd h 77 3) + (2 * (rd h (sc + 1) v3) + (zand (zshr (rd h sc 3) v3) 1)) < 500) ∧
      Rn xs xl e mm_Plans_findWay 114 [some (.inr (.inr 77)), some (.inr (.inr q)), some (.inr (.inr sc)), some (.inl v3), some (.inl v4), some (.inr (.inr p)), some (.inl (rd h 79 (20 * (rd h 77 3) + (2 * (rd h (sc + 1) v3) + (zand (zshr (rd h sc 3) v3) 1))))), some (.inl 0), none] [] (wr h 77 4 (2 * (rd h (sc + 1) v3) + (zand (zshr (rd h sc 3) v3) 1))) Q) :
    Rn xs xl e mm_Plans_findWay 71 [some (.inr (.inr 77)), some (.inr (.inr q)), some (.inr (.inr sc)), some (.inl v3), some (.inl v4), some (.inr (.inr p)), none, none, none] [] h Q := by
  refine R_ld (v := .inr (.inr 77)) dd_Plans_findWay_71 rfl rfl rfl rfl ?_
  refine R_ld (v := .inr (.inr sc)) dd_Plans_findWay_72 rfl rfl rfl rfl ?_
  refine R_gf (v := .inr (.inr (sc + 1))) dd_Plans_findWay_73 fd_5_18 (io_c hsc) (congrArg (fun z : Int => (Sum.inr (Sum.inr z) : LV)) (rs_wh hF hsc)) rfl ?_
  refine R_ld (v := .inl v3) dd_Plans_findWay_76 rfl rfl rfl rfl ?_
  refine R_iald (v := (rd h (sc + 1) v3)) (n := 6) dd_Plans_findWay_77 (ia_wc hsc) (la_wc hsc) (by omega) (rfl) rfl ?_
  refine R_ic dd_Plans_findWay_78 (by decide) rfl ?_
  obtain ⟨s1, k⟩ := k
  refine R_imul (c := 2 * (rd h (sc + 1) v3)) dd_Plans_findWay_79 (by omega) s1 rfl ?_
  refine R_ld (v := .inr (.inr sc)) dd_Plans_findWay_80 rfl rfl rfl rfl ?_
  refine R_gf (v := .inl (rd h sc 3)) dd_Plans_findWay_81 fd_5_62 (io_c hsc) (congrArg (fun z : Int => (Sum.inl z : LV)) (rfl)) rfl ?_
  refine R_ld (v := .inl v3) dd_Plans_findWay_84 rfl rfl rfl rfl ?_
  refine R_A dd_Plans_findWay_85 rfl rfl rfl rfl ?_
  refine R_ic dd_Plans_findWay_86 (by decide) rfl ?_
  refine R_A dd_Plans_findWay_87 rfl rfl rfl rfl ?_
  obtain ⟨s2, k⟩ := k
  refine R_iadd (c := 2 * (rd h (sc + 1) v3) + (zand (zshr (rd h sc 3) v3) 1)) dd_Plans_findWay_88 (by omega) s2 rfl ?_
  refine R_pf (z := (2 * (rd h (sc + 1) v3) + (zand (zshr (rd h sc 3) v3) 1))) dd_Plans_findWay_89 fd_5_82 io_77 fn_5_4 rfl rfl ?_
  refine R_ld (v := .inr (.inr 77)) dd_Plans_findWay_92 rfl rfl rfl rfl ?_
  refine R_gf (v := .inr (.inr 79)) dd_Plans_findWay_93 fd_5_15 io_77 (congrArg (fun z : Int => (Sum.inr (Sum.inr z) : LV)) ((rdw_nei (by omega)).trans (rf_77_2 hF))) rfl ?_
  refine R_ld (v := .inr (.inr 77)) dd_Plans_findWay_96 rfl rfl rfl rfl ?_
  refine R_gf (v := .inl (rd h 77 3)) dd_Plans_findWay_97 fd_5_75 io_77 (congrArg (fun z : Int => (Sum.inl z : LV)) (rdw_nei (by omega))) rfl ?_
  refine R_bi dd_Plans_findWay_100 (by decide) rfl ?_
  obtain ⟨s3, k⟩ := k
  refine R_imul (c := 20 * (rd h 77 3)) dd_Plans_findWay_102 (by omega) s3 rfl ?_
  refine R_ld (v := .inr (.inr 77)) dd_Plans_findWay_103 rfl rfl rfl rfl ?_
  refine R_gf (v := .inl (2 * (rd h (sc + 1) v3) + (zand (zshr (rd h sc 3) v3) 1))) dd_Plans_findWay_104 fd_5_82 io_77 (congrArg (fun z : Int => (Sum.inl z : LV)) (rdw_eq)) rfl ?_
  obtain ⟨s4, k⟩ := k
  refine R_iadd (c := 20 * (rd h 77 3) + (2 * (rd h (sc + 1) v3) + (zand (zshr (rd h sc 3) v3) 1))) dd_Plans_findWay_107 (by omega) s4 rfl ?_
  obtain ⟨s5, k⟩ := k
  refine R_iald (v := (rd h 79 (20 * (rd h 77 3) + (2 * (rd h (sc + 1) v3) + (zand (zshr (rd h sc 3) v3) 1))))) (n := 500) dd_Plans_findWay_108 ia_79 la_79 s5 (rdw_ne (by decide)) rfl ?_
  refine R_st (ls' := [some (.inr (.inr 77)), some (.inr (.inr q)), some (.inr (.inr sc)), some (.inl v3), some (.inl v4), some (.inr (.inr p)), some (.inl (rd h 79 (20 * (rd h 77 3) + (2 * (rd h (sc + 1) v3) + (zand (zshr (rd h sc 3) v3) 1))))), none, none]) dd_Plans_findWay_109 rfl rfl rfl (Nat.le_of_ble_eq_true rfl) rfl rfl ?_
  refine R_ic dd_Plans_findWay_111 (by decide) rfl ?_
  refine R_st (ls' := [some (.inr (.inr 77)), some (.inr (.inr q)), some (.inr (.inr sc)), some (.inl v3), some (.inl v4), some (.inr (.inr p)), some (.inl (rd h 79 (20 * (rd h 77 3) + (2 * (rd h (sc + 1) v3) + (zand (zshr (rd h sc 3) v3) 1))))), some (.inl 0), none]) dd_Plans_findWay_112 rfl rfl rfl (Nat.le_of_ble_eq_true rfl) rfl rfl ?_
  exact k
theorem B_Plans_findWay_114 {xs : Nat → Int} {xl e : Nat} {h : LH} {Q : Option LV → LH → Prop} {v3 v4 v6 v7 : Int} {q : Int} (hq : q = 5 ∨ q = 32) {sc : Int} (hsc : scn sc) (hc0 : 60 ≤ sc) {p : Int} (hp : q + 21 ≤ p ∧ p ≤ q + 26) {o8 : Option LV} (hF : RF h) (r_v7 : 0 ≤ v7 ∧ v7 ≤ 24)
    (k : (v6 ≤ v7 →
        Q none h) ∧
      (v7 < v6 →
        (24 ≤ v7 →
          Q none h) ∧
        (v7 < 24 →
          (∃ c, c < e ∧ Rn xs xl c mm_Plans_nextDoor 0 [some (.inr (.inr 77)), some (.inr (.inr q)), some (.inr (.inr p)), some (.inl (rd h sc 1)), some (.inl v4), none, none, none] [] h (fun r h' => Rn xs xl e mm_Plans_findWay 141 [some (.inr (.inr 77)), some (.inr (.inr q)), some (.inr (.inr sc)), some (.inl v3), some (.inl v4), some (.inr (.inr p)), some (.inl v6), some (.inl v7), o8] (r.toList ++ []) h' Q))))) :
    Rn xs xl e mm_Plans_findWay 114 [some (.inr (.inr 77)), some (.inr (.inr q)), some (.inr (.inr sc)), some (.inl v3), some (.inl v4), some (.inr (.inr p)), some (.inl v6), some (.inl v7), o8] [] h Q := by
  refine R_ld (v := .inl v7) dd_Plans_findWay_114 rfl rfl rfl rfl ?_
  refine R_ld (v := .inl v6) dd_Plans_findWay_116 rfl rfl rfl rfl ?_
  refine R_icmp dd_Plans_findWay_118 rfl rfl (fun (c2 : v6 ≤ v7) => ?_) (fun (c2 : v7 < v6) => ?_)
  · replace k := k.1 c2
    exact R_vret dd_Plans_findWay_217 rfl k
  · replace k := k.2 c2
    refine R_ld (v := .inl v7) dd_Plans_findWay_121 rfl rfl rfl rfl ?_
    refine R_bi dd_Plans_findWay_123 (by decide) rfl ?_
    refine R_icmp dd_Plans_findWay_125 rfl rfl (fun (c3 : 24 ≤ v7) => ?_) (fun (c3 : v7 < 24) => ?_)
    · replace k := k.1 c3
      exact R_vret dd_Plans_findWay_217 rfl k
    · replace k := k.2 c3
      refine R_ld (v := .inr (.inr 77)) dd_Plans_findWay_128 rfl rfl rfl rfl ?_
      refine R_ld (v := .inr (.inr q)) dd_Plans_findWay_129 rfl rfl rfl rfl ?_
      refine R_ld (v := .inr (.inr p)) dd_Plans_findWay_130 rfl rfl rfl rfl ?_
      refine R_ld (v := .inr (.inr sc)) dd_Plans_findWay_132 rfl rfl rfl rfl ?_
      refine R_gf (v := .inl (rd h sc 1)) dd_Plans_findWay_133 fd_5_46 (io_c hsc) (congrArg (fun z : Int => (Sum.inl z : LV)) (rfl)) rfl ?_
      refine R_ld (v := .inl v4) dd_Plans_findWay_136 rfl rfl rfl rfl ?_
      obtain ⟨c, hc, k⟩ := k
      exact R_call (as := [.inr (.inr 77), .inr (.inr q), .inr (.inr p), .inl (rd h sc 1), .inl v4]) (rest := []) (M' := mm_Plans_nextDoor) (ls0 := [some (.inr (.inr 77)), some (.inr (.inr q)), some (.inr (.inr p)), some (.inl (rd h sc 1)), some (.inl v4), none, none, none]) dd_Plans_findWay_138 rfl rfl (cw_v cw_5_85 io_77 rfl rfl (Nat.le_of_ble_eq_true rfl) (Nat.le_of_ble_eq_true rfl)) mt_Plans_nextDoor rfl hc rfl k
theorem B_Plans_findWay_141 {xs : Nat → Int} {xl e : Nat} {h : LH} {Q : Option LV → LH → Prop} {v3 v4 v6 v7 w0 : Int} {q : Int} (hq : q = 5 ∨ q = 32) {sc : Int} (hsc : scn sc) (hc0 : 60 ≤ sc) {p : Int} (hp : q + 21 ≤ p ∧ p ≤ q + 26) {o8 : Option LV} (hF : RF h) (r_v7 : 0 ≤ v7 ∧ v7 ≤ 23)
    (k : (w0 ≠ (-1) →
        (0 ≤ (rd h 77 0) ∧ (rd h 77 0) < 24) ∧
        (-2147483648 ≤ (rd h 77 0) + 1 ∧ (rd h 77 0) + 1 ≤ 2147483647) ∧
        Rn xs xl e mm_Plans_findWay 171 [some (.inr (.inr 77)), some (.inr (.inr q)), some (.inr (.inr sc)), some (.inl v3), some (.inl v4), some (.inr (.inr p)), some (.inl v6), some (.inl v7), some (.inl w0)] [] (wr (wr h 78 (rd h 77 0) w0) 77 0 ((rd h 77 0) + 1)) Q) ∧
      (w0 = (-1) →
        Q none h)) :
    Rn xs xl e mm_Plans_findWay 141 [some (.inr (.inr 77)), some (.inr (.inr q)), some (.inr (.inr sc)), some (.inl v3), some (.inl v4), some (.inr (.inr p)), some (.inl v6), some (.inl v7), o8] [.inl w0] h Q := by
  refine R_st (ls' := [some (.inr (.inr 77)), some (.inr (.inr q)), some (.inr (.inr sc)), some (.inl v3), some (.inl v4), some (.inr (.inr p)), some (.inl v6), some (.inl v7), some (.inl w0)]) dd_Plans_findWay_141 rfl rfl rfl (Nat.le_of_ble_eq_true rfl) rfl rfl ?_
  refine R_ld (v := .inl w0) dd_Plans_findWay_143 rfl rfl rfl rfl ?_
  refine R_ic dd_Plans_findWay_145 (by decide) rfl ?_
  refine R_icmp dd_Plans_findWay_146 rfl rfl (fun (c3 : w0 ≠ (-1)) => ?_) (fun (c3 : w0 = (-1)) => ?_)
  · replace k := k.1 c3
    refine R_ld (v := .inr (.inr 77)) dd_Plans_findWay_150 rfl rfl rfl rfl ?_
    refine R_gf (v := .inr (.inr 78)) dd_Plans_findWay_151 fd_5_9 io_77 (congrArg (fun z : Int => (Sum.inr (Sum.inr z) : LV)) (rf_77_1 hF)) rfl ?_
    refine R_ld (v := .inr (.inr 77)) dd_Plans_findWay_154 rfl rfl rfl rfl ?_
    refine R_gf (v := .inl (rd h 77 0)) dd_Plans_findWay_155 fd_5_68 io_77 (congrArg (fun z : Int => (Sum.inl z : LV)) (rfl)) rfl ?_
    refine R_ld (v := .inl w0) dd_Plans_findWay_158 rfl rfl rfl rfl ?_
    obtain ⟨s1, k⟩ := k
    refine R_iast (n := 24) dd_Plans_findWay_160 ia_78 la_78 s1 rfl ?_
    refine R_ld (v := .inr (.inr 77)) dd_Plans_findWay_161 rfl rfl rfl rfl ?_
    refine R_A dd_Plans_findWay_162 rfl rfl rfl rfl ?_
    refine R_gf (v := .inl (rd h 77 0)) dd_Plans_findWay_163 fd_5_68 io_77 (congrArg (fun z : Int => (Sum.inl z : LV)) (rdw_ne (by decide))) rfl ?_
    refine R_ic dd_Plans_findWay_166 (by decide) rfl ?_
    obtain ⟨s2, k⟩ := k
    refine R_iadd (c := (rd h 77 0) + 1) dd_Plans_findWay_167 (by omega) s2 rfl ?_
    refine R_pf (z := ((rd h 77 0) + 1)) dd_Plans_findWay_168 fd_5_68 io_77 fn_5_0 rfl rfl ?_
    exact k
  · replace k := k.2 c3
    exact R_vret dd_Plans_findWay_149 rfl k
theorem B_Plans_findWay_171 {xs : Nat → Int} {xl e : Nat} {h : LH} {Q : Option LV → LH → Prop} {v3 v4 v6 v7 v8 : Int} {q : Int} (hq : q = 5 ∨ q = 32) {sc : Int} (hsc : scn sc) (hc0 : 60 ≤ sc) {p : Int} (hp : q + 21 ≤ p ∧ p ≤ q + 26) (hF : RF h) (r_v7 : 0 ≤ v7 ∧ v7 ≤ 23)
    (k : (∃ c, c < e ∧ Rn xs xl c mm_Plans_hourThrough 0 [some (.inr (.inr 77)), some (.inr (.inr q)), some (.inl (rd h p 1)), some (.inl (rd h sc 1)), some (.inl v8), some (.inl v4), none] [] h (fun r h' => Rn xs xl e mm_Plans_findWay 190 [some (.inr (.inr 77)), some (.inr (.inr q)), some (.inr (.inr sc)), some (.inl v3), some (.inl v4), some (.inr (.inr p)), some (.inl v6), some (.inl v7), some (.inl v8)] (r.toList ++ [.inr (.inr 77)]) h' Q))) :
    Rn xs xl e mm_Plans_findWay 171 [some (.inr (.inr 77)), some (.inr (.inr q)), some (.inr (.inr sc)), some (.inl v3), some (.inl v4), some (.inr (.inr p)), some (.inl v6), some (.inl v7), some (.inl v8)] [] h Q := by
  refine R_ld (v := .inr (.inr 77)) dd_Plans_findWay_171 rfl rfl rfl rfl ?_
  refine R_ld (v := .inr (.inr 77)) dd_Plans_findWay_172 rfl rfl rfl rfl ?_
  refine R_ld (v := .inr (.inr q)) dd_Plans_findWay_173 rfl rfl rfl rfl ?_
  refine R_ld (v := .inr (.inr p)) dd_Plans_findWay_174 rfl rfl rfl rfl ?_
  refine R_gf (v := .inl (rd h p 1)) dd_Plans_findWay_176 fd_5_33 (io_p hq hp) (congrArg (fun z : Int => (Sum.inl z : LV)) (rfl)) rfl ?_
  refine R_ld (v := .inr (.inr sc)) dd_Plans_findWay_179 rfl rfl rfl rfl ?_
  refine R_gf (v := .inl (rd h sc 1)) dd_Plans_findWay_180 fd_5_46 (io_c hsc) (congrArg (fun z : Int => (Sum.inl z : LV)) (rfl)) rfl ?_
  refine R_ld (v := .inl v8) dd_Plans_findWay_183 rfl rfl rfl rfl ?_
  refine R_ld (v := .inl v4) dd_Plans_findWay_185 rfl rfl rfl rfl ?_
  obtain ⟨c, hc, k⟩ := k
  exact R_call (as := [.inr (.inr 77), .inr (.inr q), .inl (rd h p 1), .inl (rd h sc 1), .inl v8, .inl v4]) (rest := [.inr (.inr 77)]) (M' := mm_Plans_hourThrough) (ls0 := [some (.inr (.inr 77)), some (.inr (.inr q)), some (.inl (rd h p 1)), some (.inl (rd h sc 1)), some (.inl v8), some (.inl v4), none]) dd_Plans_findWay_187 rfl rfl (cw_v cw_5_89 io_77 rfl rfl (Nat.le_of_ble_eq_true rfl) (Nat.le_of_ble_eq_true rfl)) mt_Plans_hourThrough rfl hc rfl k
theorem B_Plans_findWay_190 {xs : Nat → Int} {xl e : Nat} {h : LH} {Q : Option LV → LH → Prop} {v3 v4 v6 v7 v8 w1 : Int} {q : Int} (hq : q = 5 ∨ q = 32) {sc : Int} (hsc : scn sc) (hc0 : 60 ≤ sc) {p : Int} (hp : q + 21 ≤ p ∧ p ≤ q + 26) (hF : RF h) (r_v7 : 0 ≤ v7 ∧ v7 ≤ 23)
    (k : (-2147483648 ≤ w1 + 1 ∧ w1 + 1 ≤ 2147483647) ∧
      Rn xs xl e mm_Plans_findWay 195 [some (.inr (.inr 77)), some (.inr (.inr q)), some (.inr (.inr sc)), some (.inl v3), some (.inl v4), some (.inr (.inr p)), some (.inl v6), some (.inl v7), some (.inl v8)] [] (wr h 77 3 (w1 + 1)) Q) :
    Rn xs xl e mm_Plans_findWay 190 [some (.inr (.inr 77)), some (.inr (.inr q)), some (.inr (.inr sc)), some (.inl v3), some (.inl v4), some (.inr (.inr p)), some (.inl v6), some (.inl v7), some (.inl v8)] [.inl w1, .inr (.inr 77)] h Q := by
  refine R_ic dd_Plans_findWay_190 (by decide) rfl ?_
  obtain ⟨s1, k⟩ := k
  refine R_iadd (c := w1 + 1) dd_Plans_findWay_191 (by omega) s1 rfl ?_
  refine R_pf (z := (w1 + 1)) dd_Plans_findWay_192 fd_5_75 io_77 fn_5_3 rfl rfl ?_
  exact k
theorem B_Plans_findWay_195 {xs : Nat → Int} {xl e : Nat} {h : LH} {Q : Option LV → LH → Prop} {v3 v4 v6 v7 v8 : Int} {q : Int} (hq : q = 5 ∨ q = 32) {sc : Int} (hsc : scn sc) (hc0 : 60 ≤ sc) {p : Int} (hp : q + 21 ≤ p ∧ p ≤ q + 26) (hF : RF h) (r_v7 : 0 ≤ v7 ∧ v7 ≤ 23)
    (k : (∃ c, c < e ∧ Rn xs xl c mm_Plans_stateThrough 0 [some (.inr (.inr 77)), some (.inr (.inr q)), some (.inl (rd h p 3)), some (.inl v8), none, none] [] h (fun r h' => Rn xs xl e mm_Plans_findWay 208 [some (.inr (.inr 77)), some (.inr (.inr q)), some (.inr (.inr sc)), some (.inl v3), some (.inl v4), some (.inr (.inr p)), some (.inl v6), some (.inl v7), some (.inl v8)] (r.toList ++ [.inr (.inr 77)]) h' Q))) :
    Rn xs xl e mm_Plans_findWay 195 [some (.inr (.inr 77)), some (.inr (.inr q)), some (.inr (.inr sc)), some (.inl v3), some (.inl v4), some (.inr (.inr p)), some (.inl v6), some (.inl v7), some (.inl v8)] [] h Q := by
  refine R_ld (v := .inr (.inr 77)) dd_Plans_findWay_195 rfl rfl rfl rfl ?_
  refine R_ld (v := .inr (.inr 77)) dd_Plans_findWay_196 rfl rfl rfl rfl ?_
  refine R_ld (v := .inr (.inr q)) dd_Plans_findWay_197 rfl rfl rfl rfl ?_
  refine R_ld (v := .inr (.inr p)) dd_Plans_findWay_198 rfl rfl rfl rfl ?_
  refine R_gf (v := .inl (rd h p 3)) dd_Plans_findWay_200 fd_5_59 (io_p hq hp) (congrArg (fun z : Int => (Sum.inl z : LV)) (rfl)) rfl ?_
  refine R_ld (v := .inl v8) dd_Plans_findWay_203 rfl rfl rfl rfl ?_
  obtain ⟨c, hc, k⟩ := k
  exact R_call (as := [.inr (.inr 77), .inr (.inr q), .inl (rd h p 3), .inl v8]) (rest := [.inr (.inr 77)]) (M' := mm_Plans_stateThrough) (ls0 := [some (.inr (.inr 77)), some (.inr (.inr q)), some (.inl (rd h p 3)), some (.inl v8), none, none]) dd_Plans_findWay_205 rfl rfl (cw_v cw_5_93 io_77 rfl rfl (Nat.le_of_ble_eq_true rfl) (Nat.le_of_ble_eq_true rfl)) mt_Plans_stateThrough rfl hc rfl k
theorem B_Plans_findWay_208 {xs : Nat → Int} {xl e : Nat} {h : LH} {Q : Option LV → LH → Prop} {v3 v4 v6 v7 v8 w1 : Int} {q : Int} (hq : q = 5 ∨ q = 32) {sc : Int} (hsc : scn sc) (hc0 : 60 ≤ sc) {p : Int} (hp : q + 21 ≤ p ∧ p ≤ q + 26) (hF : RF h) (r_v7 : 0 ≤ v7 ∧ v7 ≤ 23)
    (k : Rn xs xl e mm_Plans_findWay 114 [some (.inr (.inr 77)), some (.inr (.inr q)), some (.inr (.inr sc)), some (.inl v3), some (.inl v4), some (.inr (.inr p)), some (.inl v6), some (.inl (v7 + 1)), some (.inl v8)] [] (wr h 77 4 w1) Q) :
    Rn xs xl e mm_Plans_findWay 208 [some (.inr (.inr 77)), some (.inr (.inr q)), some (.inr (.inr sc)), some (.inl v3), some (.inl v4), some (.inr (.inr p)), some (.inl v6), some (.inl v7), some (.inl v8)] [.inl w1, .inr (.inr 77)] h Q := by
  refine R_pf (z := w1) dd_Plans_findWay_208 fd_5_82 io_77 fn_5_4 rfl rfl ?_
  refine R_inc (y := v7 + 1) (ls' := [some (.inr (.inr 77)), some (.inr (.inr q)), some (.inr (.inr sc)), some (.inl v3), some (.inl v4), some (.inr (.inr p)), some (.inl v6), some (.inl (v7 + 1)), some (.inl v8)]) dd_Plans_findWay_211 rfl (by decide) (by omega) (by omega) rfl rfl ?_
  refine R_goto dd_Plans_findWay_214 rfl ?_
  exact k
theorem B_OneSided_errand_0 {xs : Nat → Int} {xl e : Nat} {h : LH} {Q : Option LV → LH → Prop} {v1 v2 : Int} {q : Int} (hq : q = 5 ∨ q = 32) (hQ : rd h 1 ((1 : Nat) : Int) = q) (hF : RF h) (hP : PT h) (he : 1 ≤ e)
    (k : (v1 < 0 →
        Q (some (.inl (-2))) h) ∧
      (0 ≤ v1 →
        ((rd h q 4) ≤ v1 →
          Q (some (.inl (-2))) h) ∧
        (v1 < (rd h q 4) →
          ((-1) ≤ v2 →
            (∃ c, c < e ∧ Rn xs xl c mm_Plans_homeHour 0 [some (.inr (.inr 77)), some (.inr (.inr q)), some (.inr (.inr 60)), some (.inl v1), none, none, none, none, none, none, none] [] h (fun r h' => Rn xs xl e mm_OneSided_errand 35 [some (.inr (.inr 1)), some (.inl v1), some (.inl v2), none] (r.toList ++ []) h' Q))) ∧
          (v2 < (-1) →
            Q (some (.inl (-2))) h)))) :
    Rn xs xl e mm_OneSided_errand 0 [some (.inr (.inr 1)), some (.inl v1), some (.inl v2), none] [] h Q := by
  refine R_ld (v := .inr (.inr 1)) dd_OneSided_errand_0 rfl rfl rfl rfl ?_
  refine R_ld (v := .inl v1) dd_OneSided_errand_1 rfl rfl rfl rfl ?_
  refine R_call (as := [.inr (.inr 1), .inl v1]) (rest := []) (M' := mm_OneSided_isPerson) (ls0 := [some (.inr (.inr 1)), some (.inl v1)]) dd_OneSided_errand_2 rfl rfl (cw_v cw_11_160 io_1 rfl rfl (Nat.le_of_ble_eq_true rfl) (Nat.le_of_ble_eq_true rfl)) mt_OneSided_isPerson rfl (c := e - 1) (by omega) rfl ?_
  refine R_ld (v := .inl v1) dd_OneSided_isPerson_0 rfl rfl rfl rfl ?_
  refine R_if dd_OneSided_isPerson_1 rfl rfl (fun (c2 : v1 < 0) => ?_) (fun (c2 : 0 ≤ v1) => ?_)
  · replace k := k.1 c2
    refine R_ic dd_OneSided_isPerson_19 (by decide) rfl ?_
    refine R_zret dd_OneSided_isPerson_20 rfl (by decide) ?_
    change Rn xs xl e mm_OneSided_errand 5 [some (.inr (.inr 1)), some (.inl v1), some (.inl v2), none] [.inl 0] h _
    refine R_if dd_OneSided_errand_5 rfl rfl (fun (c3 : 0 = 0) => ?_) (fun (c3 : 0 ≠ 0) => ?_)
    · skip
      refine R_bi dd_OneSided_errand_13 (by decide) rfl ?_
      exact R_iret dd_OneSided_errand_15 rfl k
    · exact absurd c3 (by omega)
  · replace k := k.2 c2
    refine R_ld (v := .inl v1) dd_OneSided_isPerson_4 rfl rfl rfl rfl ?_
    refine R_ld (v := .inr (.inr 1)) dd_OneSided_isPerson_5 rfl rfl rfl rfl ?_
    refine R_gf (v := .inr (.inr q)) dd_OneSided_isPerson_6 fd_11_19 io_1 (congrArg (fun z : Int => (Sum.inr (Sum.inr z) : LV)) hQ) rfl ?_
    refine R_gf (v := .inl (rd h q 4)) dd_OneSided_isPerson_9 fd_11_254 (io_q hq) (congrArg (fun z : Int => (Sum.inl z : LV)) (rfl)) rfl ?_
    refine R_icmp dd_OneSided_isPerson_12 rfl rfl (fun (c4 : (rd h q 4) ≤ v1) => ?_) (fun (c4 : v1 < (rd h q 4)) => ?_)
    · replace k := k.1 c4
      refine R_ic dd_OneSided_isPerson_19 (by decide) rfl ?_
      refine R_zret dd_OneSided_isPerson_20 rfl (by decide) ?_
      change Rn xs xl e mm_OneSided_errand 5 [some (.inr (.inr 1)), some (.inl v1), some (.inl v2), none] [.inl 0] h _
      refine R_if dd_OneSided_errand_5 rfl rfl (fun (c5 : 0 = 0) => ?_) (fun (c5 : 0 ≠ 0) => ?_)
      · skip
        refine R_bi dd_OneSided_errand_13 (by decide) rfl ?_
        exact R_iret dd_OneSided_errand_15 rfl k
      · exact absurd c5 (by omega)
    · replace k := k.2 c4
      refine R_ic dd_OneSided_isPerson_15 (by decide) rfl ?_
      refine R_goto dd_OneSided_isPerson_16 rfl ?_
      refine R_zret dd_OneSided_isPerson_20 rfl (by decide) ?_
      change Rn xs xl e mm_OneSided_errand 5 [some (.inr (.inr 1)), some (.inl v1), some (.inl v2), none] [.inl 1] h _
      refine R_if dd_OneSided_errand_5 rfl rfl (fun (c6 : 1 = 0) => ?_) (fun (c6 : 1 ≠ 0) => ?_)
      · exact absurd c6 (by omega)
      · skip
        refine R_ld (v := .inl v2) dd_OneSided_errand_8 rfl rfl rfl rfl ?_
        refine R_ic dd_OneSided_errand_9 (by decide) rfl ?_
        refine R_icmp dd_OneSided_errand_10 rfl rfl (fun (c7 : (-1) ≤ v2) => ?_) (fun (c7 : v2 < (-1)) => ?_)
        · replace k := k.1 c7
          refine R_ld (v := .inr (.inr 1)) dd_OneSided_errand_16 rfl rfl rfl rfl ?_
          refine R_gf (v := .inr (.inr 77)) dd_OneSided_errand_17 fd_11_49 io_1 (congrArg (fun z : Int => (Sum.inr (Sum.inr z) : LV)) (rf_1_10 hF)) rfl ?_
          refine R_ld (v := .inr (.inr 1)) dd_OneSided_errand_20 rfl rfl rfl rfl ?_
          refine R_gf (v := .inr (.inr q)) dd_OneSided_errand_21 fd_11_19 io_1 (congrArg (fun z : Int => (Sum.inr (Sum.inr z) : LV)) hQ) rfl ?_
          refine R_ld (v := .inr (.inr 1)) dd_OneSided_errand_24 rfl rfl rfl rfl ?_
          refine R_gf (v := .inr (.inr 59)) dd_OneSided_errand_25 fd_11_29 io_1 (congrArg (fun z : Int => (Sum.inr (Sum.inr z) : LV)) (rf_1_3 hF)) rfl ?_
          refine R_gf (v := .inr (.inr 60)) dd_OneSided_errand_28 fd_11_149 io_59 (congrArg (fun z : Int => (Sum.inr (Sum.inr z) : LV)) (rf_59_0 hF)) rfl ?_
          refine R_ld (v := .inl v1) dd_OneSided_errand_31 rfl rfl rfl rfl ?_
          obtain ⟨c, hc, k⟩ := k
          exact R_call (as := [.inr (.inr 77), .inr (.inr q), .inr (.inr 60), .inl v1]) (rest := []) (M' := mm_Plans_homeHour) (ls0 := [some (.inr (.inr 77)), some (.inr (.inr q)), some (.inr (.inr 60)), some (.inl v1), none, none, none, none, none, none, none]) dd_OneSided_errand_32 rfl rfl (cw_v cw_11_237 io_77 rfl rfl (Nat.le_of_ble_eq_true rfl) (Nat.le_of_ble_eq_true rfl)) mt_Plans_homeHour rfl hc rfl k
        · replace k := k.2 c7
          refine R_bi dd_OneSided_errand_13 (by decide) rfl ?_
          exact R_iret dd_OneSided_errand_15 rfl k
theorem B_OneSided_errand_35 {xs : Nat → Int} {xl e : Nat} {h : LH} {Q : Option LV → LH → Prop} {v1 v2 w0 : Int} {q : Int} (hq : q = 5 ∨ q = 32) (hQ : rd h 1 ((1 : Nat) : Int) = q) (hF : RF h) (hP : PT h) (r_v1 : 0 ≤ v1 ∧ v1 ≤ 5)
    (k : (w0 ≠ (-1) →
        (v2 ≠ (-1) →
          (v2 ≠ 0 →
            (∃ c, c < e ∧ Rn xs xl c mm_Plans_findWay 0 [some (.inr (.inr 77)), some (.inr (.inr q)), some (.inr (.inr 60)), some (.inl v1), none, none, none, none, none] [] h (fun r h' => Rn xs xl e mm_OneSided_errand 96 [some (.inr (.inr 1)), some (.inl v1), some (.inl v2), some (.inl w0)] (r.toList ++ []) h' Q))) ∧
          (v2 = 0 →
            ((rd h (q + 21 + v1) 4) < w0 →
              Q (some (.inl 0)) h) ∧
            (w0 ≤ (rd h (q + 21 + v1) 4) →
              Q (some (.inl 1)) h))) ∧
        (v2 = (-1) →
          Q (some (.inl w0)) h)) ∧
      (w0 = (-1) →
        Q (some (.inl (-2))) h)) :
    Rn xs xl e mm_OneSided_errand 35 [some (.inr (.inr 1)), some (.inl v1), some (.inl v2), none] [.inl w0] h Q := by
  refine R_st (ls' := [some (.inr (.inr 1)), some (.inl v1), some (.inl v2), some (.inl w0)]) dd_OneSided_errand_35 rfl rfl rfl (Nat.le_of_ble_eq_true rfl) rfl rfl ?_
  refine R_ld (v := .inl w0) dd_OneSided_errand_36 rfl rfl rfl rfl ?_
  refine R_ic dd_OneSided_errand_37 (by decide) rfl ?_
  refine R_icmp dd_OneSided_errand_38 rfl rfl (fun (c2 : w0 ≠ (-1)) => ?_) (fun (c2 : w0 = (-1)) => ?_)
  · replace k := k.1 c2
    refine R_ld (v := .inl v2) dd_OneSided_errand_44 rfl rfl rfl rfl ?_
    refine R_ic dd_OneSided_errand_45 (by decide) rfl ?_
    refine R_icmp dd_OneSided_errand_46 rfl rfl (fun (c3 : v2 ≠ (-1)) => ?_) (fun (c3 : v2 = (-1)) => ?_)
    · replace k := k.1 c3
      refine R_ld (v := .inl v2) dd_OneSided_errand_51 rfl rfl rfl rfl ?_
      refine R_if dd_OneSided_errand_52 rfl rfl (fun (c4 : v2 ≠ 0) => ?_) (fun (c4 : v2 = 0) => ?_)
      · replace k := k.1 c4
        refine R_ld (v := .inr (.inr 1)) dd_OneSided_errand_77 rfl rfl rfl rfl ?_
        refine R_gf (v := .inr (.inr 77)) dd_OneSided_errand_78 fd_11_49 io_1 (congrArg (fun z : Int => (Sum.inr (Sum.inr z) : LV)) (rf_1_10 hF)) rfl ?_
        refine R_ld (v := .inr (.inr 1)) dd_OneSided_errand_81 rfl rfl rfl rfl ?_
        refine R_gf (v := .inr (.inr q)) dd_OneSided_errand_82 fd_11_19 io_1 (congrArg (fun z : Int => (Sum.inr (Sum.inr z) : LV)) hQ) rfl ?_
        refine R_ld (v := .inr (.inr 1)) dd_OneSided_errand_85 rfl rfl rfl rfl ?_
        refine R_gf (v := .inr (.inr 59)) dd_OneSided_errand_86 fd_11_29 io_1 (congrArg (fun z : Int => (Sum.inr (Sum.inr z) : LV)) (rf_1_3 hF)) rfl ?_
        refine R_gf (v := .inr (.inr 60)) dd_OneSided_errand_89 fd_11_149 io_59 (congrArg (fun z : Int => (Sum.inr (Sum.inr z) : LV)) (rf_59_0 hF)) rfl ?_
        refine R_ld (v := .inl v1) dd_OneSided_errand_92 rfl rfl rfl rfl ?_
        obtain ⟨c, hc, k⟩ := k
        exact R_call (as := [.inr (.inr 77), .inr (.inr q), .inr (.inr 60), .inl v1]) (rest := []) (M' := mm_Plans_findWay) (ls0 := [some (.inr (.inr 77)), some (.inr (.inr q)), some (.inr (.inr 60)), some (.inl v1), none, none, none, none, none]) dd_OneSided_errand_93 rfl rfl (cw_v cw_11_241 io_77 rfl rfl (Nat.le_of_ble_eq_true rfl) (Nat.le_of_ble_eq_true rfl)) mt_Plans_findWay rfl hc rfl k
      · replace k := k.2 c4
        refine R_ld (v := .inl w0) dd_OneSided_errand_55 rfl rfl rfl rfl ?_
        refine R_ld (v := .inr (.inr 1)) dd_OneSided_errand_56 rfl rfl rfl rfl ?_
        refine R_gf (v := .inr (.inr q)) dd_OneSided_errand_57 fd_11_19 io_1 (congrArg (fun z : Int => (Sum.inr (Sum.inr z) : LV)) hQ) rfl ?_
        refine R_gf (v := .inr (.inr (q + 2))) dd_OneSided_errand_60 fd_11_163 (io_q hq) (congrArg (fun z : Int => (Sum.inr (Sum.inr z) : LV)) (rq_ppl hF hq)) rfl ?_
        refine R_ld (v := .inl v1) dd_OneSided_errand_63 rfl rfl rfl rfl ?_
        refine R_aald (v := (q + 21 + v1)) (n := 6) dd_OneSided_errand_64 (ia_pq hq) (la_pq hq) (by omega) (rq_p hP hq (by omega)) rfl ?_
        refine R_gf (v := .inl (rd h (q + 21 + v1) 4)) dd_OneSided_errand_65 fd_11_178 (io_p hq (by omega)) (congrArg (fun z : Int => (Sum.inl z : LV)) (rfl)) rfl ?_
        refine R_icmp dd_OneSided_errand_68 rfl rfl (fun (c5 : (rd h (q + 21 + v1) 4) < w0) => ?_) (fun (c5 : w0 ≤ (rd h (q + 21 + v1) 4)) => ?_)
        · replace k := k.1 c5
          refine R_ic dd_OneSided_errand_75 (by decide) rfl ?_
          exact R_iret dd_OneSided_errand_76 rfl k
        · replace k := k.2 c5
          refine R_ic dd_OneSided_errand_71 (by decide) rfl ?_
          refine R_goto dd_OneSided_errand_72 rfl ?_
          exact R_iret dd_OneSided_errand_76 rfl k
    · replace k := k.2 c3
      refine R_ld (v := .inl w0) dd_OneSided_errand_49 rfl rfl rfl rfl ?_
      exact R_iret dd_OneSided_errand_50 rfl k
  · replace k := k.2 c2
    refine R_bi dd_OneSided_errand_41 (by decide) rfl ?_
    exact R_iret dd_OneSided_errand_43 rfl k
theorem B_OneSided_errand_96 {xs : Nat → Int} {xl e : Nat} {h : LH} {Q : Option LV → LH → Prop} {v1 v2 v3 : Int} (hF : RF h) (r_v2 : 1 ≤ v2 ∧ v2 ≤ 2147483647)
    (k : ((rd h 77 0) < v2 →
        Q (some (.inl (-2))) h) ∧
      (v2 ≤ (rd h 77 0) →
        (0 ≤ v2 - 1 ∧ v2 - 1 < 24) ∧
        Q (some (.inl (rd h 78 (v2 - 1)))) h)) :
    Rn xs xl e mm_OneSided_errand 96 [some (.inr (.inr 1)), some (.inl v1), some (.inl v2), some (.inl v3)] [] h Q := by
  refine R_ld (v := .inl v2) dd_OneSided_errand_96 rfl rfl rfl rfl ?_
  refine R_ld (v := .inr (.inr 1)) dd_OneSided_errand_97 rfl rfl rfl rfl ?_
  refine R_gf (v := .inr (.inr 77)) dd_OneSided_errand_98 fd_11_49 io_1 (congrArg (fun z : Int => (Sum.inr (Sum.inr z) : LV)) (rf_1_10 hF)) rfl ?_
  refine R_gf (v := .inl (rd h 77 0)) dd_OneSided_errand_101 fd_11_245 io_77 (congrArg (fun z : Int => (Sum.inl z : LV)) (rfl)) rfl ?_
  refine R_icmp dd_OneSided_errand_104 rfl rfl (fun (c2 : (rd h 77 0) < v2) => ?_) (fun (c2 : v2 ≤ (rd h 77 0)) => ?_)
  · replace k := k.1 c2
    refine R_bi dd_OneSided_errand_121 (by decide) rfl ?_
    exact R_iret dd_OneSided_errand_123 rfl k
  · replace k := k.2 c2
    refine R_ld (v := .inr (.inr 1)) dd_OneSided_errand_107 rfl rfl rfl rfl ?_
    refine R_gf (v := .inr (.inr 77)) dd_OneSided_errand_108 fd_11_49 io_1 (congrArg (fun z : Int => (Sum.inr (Sum.inr z) : LV)) (rf_1_10 hF)) rfl ?_
    refine R_gf (v := .inr (.inr 78)) dd_OneSided_errand_111 fd_11_248 io_77 (congrArg (fun z : Int => (Sum.inr (Sum.inr z) : LV)) (rf_77_1 hF)) rfl ?_
    refine R_ld (v := .inl v2) dd_OneSided_errand_114 rfl rfl rfl rfl ?_
    refine R_ic dd_OneSided_errand_115 (by decide) rfl ?_
    refine R_isub (c := v2 - 1) dd_OneSided_errand_116 (by omega) (by omega) rfl ?_
    obtain ⟨s1, k⟩ := k
    refine R_iald (v := (rd h 78 (v2 - 1))) (n := 24) dd_OneSided_errand_117 ia_78 la_78 s1 (rfl) rfl ?_
    refine R_goto dd_OneSided_errand_118 rfl ?_
    exact R_iret dd_OneSided_errand_123 rfl k
