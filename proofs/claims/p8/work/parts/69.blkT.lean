/-! LM, by program (wip/p2/hand.py): rows of go, passes, judged -/
def mm_passes : LM_M := (⟨"OneSidedModel", "passes", "(I)V"⟩, prog_14_method_63_code, 3, none, 12, 2, 0, 1633, 1632, 1000106)
def mm_go : LM_M := (⟨"OneSidedModel", "go", "(II)I"⟩, prog_14_method_62_code, 3, (some .int), 12, 3, 0, 1613, 1611, 1612)
def mm_isPerson : LM_M := (⟨"OneSidedModel", "isPerson", "(I)Z"⟩, prog_14_method_53_code, 2, (some .boolean), 12, 2, 0, 1571, 1570, 1000095)
def mm_people : LM_M := (⟨"OneSidedModel", "people", "()I"⟩, prog_14_method_48_code, 1, (some .int), 12, 1, 0, 1575, 1574, 1000096)
def mm_isDoor : LM_M := (⟨"OneSidedModel", "isDoor", "(I)Z"⟩, prog_14_method_52_code, 2, (some .boolean), 12, 2, 0, 1555, 1554, 1000092)
def mm_judged : LM_M := (⟨"OneSidedModel", "judged", "(I)I"⟩, prog_14_method_67_code, 6, (some .int), 12, 2, 0, 1645, 1643, 1644)
theorem dd_passes_0 : decode mm_passes.2.1 0 = .ok (.aload_n 0, 1) := by decide +kernel
theorem dd_passes_1 : decode mm_passes.2.1 1 = .ok (.getfield 125, 3) := by decide +kernel
theorem dd_passes_4 : decode mm_passes.2.1 4 = .ok (.iload_n 1, 1) := by decide +kernel
theorem dd_passes_5 : decode mm_passes.2.1 5 = .ok (.iconst 0, 1) := by decide +kernel
theorem dd_passes_6 : decode mm_passes.2.1 6 = .ok (.iadd, 1) := by decide +kernel
theorem dd_passes_7 : decode mm_passes.2.1 7 = .ok (.dup2, 1) := by decide +kernel
theorem dd_passes_8 : decode mm_passes.2.1 8 = .ok (.iaload, 1) := by decide +kernel
theorem dd_passes_9 : decode mm_passes.2.1 9 = .ok (.aload_n 0, 1) := by decide +kernel
theorem dd_passes_10 : decode mm_passes.2.1 10 = .ok (.getfield 125, 3) := by decide +kernel
theorem dd_passes_13 : decode mm_passes.2.1 13 = .ok (.iload_n 1, 1) := by decide +kernel
theorem dd_passes_14 : decode mm_passes.2.1 14 = .ok (.iconst 0, 1) := by decide +kernel
theorem dd_passes_15 : decode mm_passes.2.1 15 = .ok (.iadd, 1) := by decide +kernel
theorem dd_passes_16 : decode mm_passes.2.1 16 = .ok (.iaload, 1) := by decide +kernel
theorem dd_passes_17 : decode mm_passes.2.1 17 = .ok (.bipush 24, 2) := by decide +kernel
theorem dd_passes_19 : decode mm_passes.2.1 19 = .ok (.if_icmp .ge (7), 3) := by decide +kernel
theorem dd_passes_26 : decode mm_passes.2.1 26 = .ok (.iconst 0, 1) := by decide +kernel
theorem dd_passes_27 : decode mm_passes.2.1 27 = .ok (.iadd, 1) := by decide +kernel
theorem dd_passes_28 : decode mm_passes.2.1 28 = .ok (.iastore, 1) := by decide +kernel
theorem dd_passes_29 : decode mm_passes.2.1 29 = .ok (.iconst 0, 1) := by decide +kernel
theorem dd_passes_30 : decode mm_passes.2.1 30 = .ok (.istore_n 2, 1) := by decide +kernel
theorem dd_passes_22 : decode mm_passes.2.1 22 = .ok (.iconst 1, 1) := by decide +kernel
theorem dd_passes_23 : decode mm_passes.2.1 23 = .ok (.goto 4, 3) := by decide +kernel
theorem dd_passes_31 : decode mm_passes.2.1 31 = .ok (.iload_n 2, 1) := by decide +kernel
theorem dd_passes_32 : decode mm_passes.2.1 32 = .ok (.bipush 6, 2) := by decide +kernel
theorem dd_passes_34 : decode mm_passes.2.1 34 = .ok (.if_icmp .ge (21), 3) := by decide +kernel
theorem dd_passes_55 : decode mm_passes.2.1 55 = .ok (.iconst 0, 1) := by decide +kernel
theorem dd_passes_56 : decode mm_passes.2.1 56 = .ok (.istore_n 2, 1) := by decide +kernel
theorem dd_passes_37 : decode mm_passes.2.1 37 = .ok (.aload_n 0, 1) := by decide +kernel
theorem dd_passes_38 : decode mm_passes.2.1 38 = .ok (.getfield 125, 3) := by decide +kernel
theorem dd_passes_41 : decode mm_passes.2.1 41 = .ok (.iload_n 1, 1) := by decide +kernel
theorem dd_passes_42 : decode mm_passes.2.1 42 = .ok (.bipush 14, 2) := by decide +kernel
theorem dd_passes_44 : decode mm_passes.2.1 44 = .ok (.iadd, 1) := by decide +kernel
theorem dd_passes_45 : decode mm_passes.2.1 45 = .ok (.iload_n 2, 1) := by decide +kernel
theorem dd_passes_46 : decode mm_passes.2.1 46 = .ok (.iadd, 1) := by decide +kernel
theorem dd_passes_47 : decode mm_passes.2.1 47 = .ok (.iconst 0, 1) := by decide +kernel
theorem dd_passes_48 : decode mm_passes.2.1 48 = .ok (.iastore, 1) := by decide +kernel
theorem dd_passes_49 : decode mm_passes.2.1 49 = .ok (.iinc 2 1, 3) := by decide +kernel
theorem dd_passes_52 : decode mm_passes.2.1 52 = .ok (.goto (-21), 3) := by decide +kernel
theorem dd_passes_57 : decode mm_passes.2.1 57 = .ok (.iload_n 2, 1) := by decide +kernel
theorem dd_passes_58 : decode mm_passes.2.1 58 = .ok (.bipush 14, 2) := by decide +kernel
theorem dd_passes_60 : decode mm_passes.2.1 60 = .ok (.if_icmp .ge (21), 3) := by decide +kernel
theorem dd_passes_81 : decode mm_passes.2.1 81 = .ok (.return_, 1) := by decide +kernel
theorem dd_passes_63 : decode mm_passes.2.1 63 = .ok (.aload_n 0, 1) := by decide +kernel
theorem dd_passes_64 : decode mm_passes.2.1 64 = .ok (.getfield 125, 3) := by decide +kernel
theorem dd_passes_67 : decode mm_passes.2.1 67 = .ok (.iload_n 1, 1) := by decide +kernel
theorem dd_passes_68 : decode mm_passes.2.1 68 = .ok (.bipush 20, 2) := by decide +kernel
theorem dd_passes_70 : decode mm_passes.2.1 70 = .ok (.iadd, 1) := by decide +kernel
theorem dd_passes_71 : decode mm_passes.2.1 71 = .ok (.iload_n 2, 1) := by decide +kernel
theorem dd_passes_72 : decode mm_passes.2.1 72 = .ok (.iadd, 1) := by decide +kernel
theorem dd_passes_73 : decode mm_passes.2.1 73 = .ok (.iconst 0, 1) := by decide +kernel
theorem dd_passes_74 : decode mm_passes.2.1 74 = .ok (.iastore, 1) := by decide +kernel
theorem dd_passes_75 : decode mm_passes.2.1 75 = .ok (.iinc 2 1, 3) := by decide +kernel
theorem dd_passes_78 : decode mm_passes.2.1 78 = .ok (.goto (-21), 3) := by decide +kernel
theorem dd_go_0 : decode mm_go.2.1 0 = .ok (.aload_n 0, 1) := by decide +kernel
theorem dd_go_1 : decode mm_go.2.1 1 = .ok (.iconst 0, 1) := by decide +kernel
theorem dd_go_2 : decode mm_go.2.1 2 = .ok (.putfield 1, 3) := by decide +kernel
theorem dd_go_5 : decode mm_go.2.1 5 = .ok (.aload_n 0, 1) := by decide +kernel
theorem dd_go_6 : decode mm_go.2.1 6 = .ok (.iload_n 1, 1) := by decide +kernel
theorem dd_go_7 : decode mm_go.2.1 7 = .ok (.invokevirtual 367, 3) := by decide +kernel
theorem cw_12_367 : cwOk 12 367 0 201 2 2 12 = true := by decide +kernel
theorem mt_isPerson : MTB 201 = some mm_isPerson := rfl
theorem dd_isPerson_0 : decode mm_isPerson.2.1 0 = .ok (.iload_n 1, 1) := by decide +kernel
theorem dd_isPerson_1 : decode mm_isPerson.2.1 1 = .ok (.ifCond .lt (15), 3) := by decide +kernel
theorem dd_isPerson_16 : decode mm_isPerson.2.1 16 = .ok (.iconst 0, 1) := by decide +kernel
theorem dd_isPerson_17 : decode mm_isPerson.2.1 17 = .ok (.ireturn, 1) := by decide +kernel
theorem dd_go_10 : decode mm_go.2.1 10 = .ok (.ifCond .eq (11), 3) := by decide +kernel
theorem dd_go_21 : decode mm_go.2.1 21 = .ok (.iconst (-1), 1) := by decide +kernel
theorem dd_go_22 : decode mm_go.2.1 22 = .ok (.ireturn, 1) := by decide +kernel
theorem dd_isPerson_4 : decode mm_isPerson.2.1 4 = .ok (.iload_n 1, 1) := by decide +kernel
theorem dd_isPerson_5 : decode mm_isPerson.2.1 5 = .ok (.aload_n 0, 1) := by decide +kernel
theorem dd_isPerson_6 : decode mm_isPerson.2.1 6 = .ok (.invokevirtual 338, 3) := by decide +kernel
theorem cw_12_338 : cwOk 12 338 0 202 1 1 12 = true := by decide +kernel
theorem mt_people : MTB 202 = some mm_people := rfl
theorem dd_people_0 : decode mm_people.2.1 0 = .ok (.aload_n 0, 1) := by decide +kernel
theorem dd_people_1 : decode mm_people.2.1 1 = .ok (.getfield 95, 3) := by decide +kernel
theorem dd_people_4 : decode mm_people.2.1 4 = .ok (.iconst 2, 1) := by decide +kernel
theorem dd_people_5 : decode mm_people.2.1 5 = .ok (.iaload, 1) := by decide +kernel
theorem dd_people_6 : decode mm_people.2.1 6 = .ok (.ireturn, 1) := by decide +kernel
theorem dd_isPerson_9 : decode mm_isPerson.2.1 9 = .ok (.if_icmp .ge (7), 3) := by decide +kernel
theorem dd_isPerson_12 : decode mm_isPerson.2.1 12 = .ok (.iconst 1, 1) := by decide +kernel
theorem dd_isPerson_13 : decode mm_isPerson.2.1 13 = .ok (.goto 4, 3) := by decide +kernel
theorem dd_go_13 : decode mm_go.2.1 13 = .ok (.aload_n 0, 1) := by decide +kernel
theorem dd_go_14 : decode mm_go.2.1 14 = .ok (.iload_n 2, 1) := by decide +kernel
theorem dd_go_15 : decode mm_go.2.1 15 = .ok (.invokevirtual 364, 3) := by decide +kernel
theorem cw_12_364 : cwOk 12 364 0 197 2 2 12 = true := by decide +kernel
theorem mt_isDoor : MTB 197 = some mm_isDoor := rfl
theorem dd_isDoor_0 : decode mm_isDoor.2.1 0 = .ok (.iload_n 1, 1) := by decide +kernel
theorem dd_isDoor_1 : decode mm_isDoor.2.1 1 = .ok (.ifCond .lt (15), 3) := by decide +kernel
theorem dd_isDoor_16 : decode mm_isDoor.2.1 16 = .ok (.iconst 0, 1) := by decide +kernel
theorem dd_isDoor_17 : decode mm_isDoor.2.1 17 = .ok (.ireturn, 1) := by decide +kernel
theorem dd_go_18 : decode mm_go.2.1 18 = .ok (.ifCond .ne (5), 3) := by decide +kernel
theorem dd_isDoor_4 : decode mm_isDoor.2.1 4 = .ok (.iload_n 1, 1) := by decide +kernel
theorem dd_isDoor_5 : decode mm_isDoor.2.1 5 = .ok (.aload_n 0, 1) := by decide +kernel
theorem dd_isDoor_6 : decode mm_isDoor.2.1 6 = .ok (.invokevirtual 335, 3) := by decide +kernel
theorem dd_isDoor_9 : decode mm_isDoor.2.1 9 = .ok (.if_icmp .ge (7), 3) := by decide +kernel
theorem dd_isDoor_12 : decode mm_isDoor.2.1 12 = .ok (.iconst 1, 1) := by decide +kernel
theorem dd_isDoor_13 : decode mm_isDoor.2.1 13 = .ok (.goto 4, 3) := by decide +kernel
theorem dd_go_23 : decode mm_go.2.1 23 = .ok (.aload_n 0, 1) := by decide +kernel
theorem dd_go_24 : decode mm_go.2.1 24 = .ok (.iconst 0, 1) := by decide +kernel
theorem dd_go_25 : decode mm_go.2.1 25 = .ok (.sipush 1470, 3) := by decide +kernel
theorem dd_go_28 : decode mm_go.2.1 28 = .ok (.bipush 34, 2) := by decide +kernel
theorem dd_go_30 : decode mm_go.2.1 30 = .ok (.invokevirtual 328, 3) := by decide +kernel
theorem dd_go_33 : decode mm_go.2.1 33 = .ok (.aload_n 0, 1) := by decide +kernel
theorem dd_go_34 : decode mm_go.2.1 34 = .ok (.sipush 1470, 3) := by decide +kernel
theorem dd_go_37 : decode mm_go.2.1 37 = .ok (.iload_n 1, 1) := by decide +kernel
theorem dd_go_38 : decode mm_go.2.1 38 = .ok (.iload_n 2, 1) := by decide +kernel
theorem dd_go_39 : decode mm_go.2.1 39 = .ok (.invokevirtual 377, 3) := by decide +kernel
theorem cw_12_377 : cwOk 12 377 0 214 4 5 12 = true := by decide +kernel
theorem mt_goes : MTB 214 = some mm_goes := rfl
theorem dd_go_42 : decode mm_go.2.1 42 = .ok (.ifCond .ge (5), 3) := by decide +kernel
theorem dd_go_47 : decode mm_go.2.1 47 = .ok (.aload_n 0, 1) := by decide +kernel
theorem dd_go_48 : decode mm_go.2.1 48 = .ok (.invokevirtual 380, 3) := by decide +kernel
theorem cw_12_380 : cwOk 12 380 0 215 1 2 12 = true := by decide +kernel
theorem mt_keeps : MTB 215 = some mm_keeps := rfl
theorem dd_go_45 : decode mm_go.2.1 45 = .ok (.iconst (-1), 1) := by decide +kernel
theorem dd_go_46 : decode mm_go.2.1 46 = .ok (.ireturn, 1) := by decide +kernel
theorem dd_go_51 : decode mm_go.2.1 51 = .ok (.aload_n 0, 1) := by decide +kernel
theorem dd_go_52 : decode mm_go.2.1 52 = .ok (.iconst 0, 1) := by decide +kernel
theorem dd_go_53 : decode mm_go.2.1 53 = .ok (.iload_n 1, 1) := by decide +kernel
theorem dd_go_54 : decode mm_go.2.1 54 = .ok (.iload_n 2, 1) := by decide +kernel
theorem dd_go_55 : decode mm_go.2.1 55 = .ok (.invokevirtual 377, 3) := by decide +kernel
theorem dd_go_58 : decode mm_go.2.1 58 = .ok (.ireturn, 1) := by decide +kernel
theorem dd_judged_0 : decode mm_judged.2.1 0 = .ok (.aload_n 0, 1) := by decide +kernel
theorem dd_judged_1 : decode mm_judged.2.1 1 = .ok (.iconst 0, 1) := by decide +kernel
theorem dd_judged_2 : decode mm_judged.2.1 2 = .ok (.putfield 1, 3) := by decide +kernel
theorem dd_judged_5 : decode mm_judged.2.1 5 = .ok (.iload_n 1, 1) := by decide +kernel
theorem dd_judged_6 : decode mm_judged.2.1 6 = .ok (.iconst (-1), 1) := by decide +kernel
theorem dd_judged_7 : decode mm_judged.2.1 7 = .ok (.if_icmp .eq (14), 3) := by decide +kernel
theorem dd_judged_21 : decode mm_judged.2.1 21 = .ok (.aload_n 0, 1) := by decide +kernel
theorem dd_judged_22 : decode mm_judged.2.1 22 = .ok (.sipush 1470, 3) := by decide +kernel
theorem dd_judged_25 : decode mm_judged.2.1 25 = .ok (.invokevirtual 319, 3) := by decide +kernel
theorem dd_judged_10 : decode mm_judged.2.1 10 = .ok (.aload_n 0, 1) := by decide +kernel
theorem dd_judged_11 : decode mm_judged.2.1 11 = .ok (.iload_n 1, 1) := by decide +kernel
theorem dd_judged_12 : decode mm_judged.2.1 12 = .ok (.invokevirtual 367, 3) := by decide +kernel
theorem dd_judged_15 : decode mm_judged.2.1 15 = .ok (.ifCond .ne (6), 3) := by decide +kernel
theorem dd_judged_18 : decode mm_judged.2.1 18 = .ok (.bipush (-2), 2) := by decide +kernel
theorem dd_judged_20 : decode mm_judged.2.1 20 = .ok (.ireturn, 1) := by decide +kernel
theorem dd_judged_28 : decode mm_judged.2.1 28 = .ok (.aload_n 0, 1) := by decide +kernel
theorem dd_judged_29 : decode mm_judged.2.1 29 = .ok (.getfield 125, 3) := by decide +kernel
theorem dd_judged_32 : decode mm_judged.2.1 32 = .ok (.sipush 1471, 3) := by decide +kernel
theorem dd_judged_35 : decode mm_judged.2.1 35 = .ok (.iconst 0, 1) := by decide +kernel
theorem dd_judged_36 : decode mm_judged.2.1 36 = .ok (.iastore, 1) := by decide +kernel
theorem dd_judged_37 : decode mm_judged.2.1 37 = .ok (.iconst (-1), 1) := by decide +kernel
theorem dd_judged_38 : decode mm_judged.2.1 38 = .ok (.istore_n 2, 1) := by decide +kernel
theorem dd_judged_39 : decode mm_judged.2.1 39 = .ok (.iconst 0, 1) := by decide +kernel
theorem dd_judged_40 : decode mm_judged.2.1 40 = .ok (.istore_n 3, 1) := by decide +kernel
theorem dd_judged_41 : decode mm_judged.2.1 41 = .ok (.iload_n 3, 1) := by decide +kernel
theorem dd_judged_42 : decode mm_judged.2.1 42 = .ok (.aload_n 0, 1) := by decide +kernel
theorem dd_judged_43 : decode mm_judged.2.1 43 = .ok (.getfield 116, 3) := by decide +kernel
theorem dd_judged_46 : decode mm_judged.2.1 46 = .ok (.iconst 0, 1) := by decide +kernel
theorem dd_judged_47 : decode mm_judged.2.1 47 = .ok (.iaload, 1) := by decide +kernel
theorem dd_judged_48 : decode mm_judged.2.1 48 = .ok (.if_icmp .ge (103), 3) := by decide +kernel
theorem dd_judged_51 : decode mm_judged.2.1 51 = .ok (.aload_n 0, 1) := by decide +kernel
theorem dd_judged_52 : decode mm_judged.2.1 52 = .ok (.getfield 116, 3) := by decide +kernel
theorem dd_judged_55 : decode mm_judged.2.1 55 = .ok (.iconst 1, 1) := by decide +kernel
theorem dd_judged_56 : decode mm_judged.2.1 56 = .ok (.iconst 2, 1) := by decide +kernel
theorem dd_judged_57 : decode mm_judged.2.1 57 = .ok (.iload_n 3, 1) := by decide +kernel
theorem dd_judged_58 : decode mm_judged.2.1 58 = .ok (.imul, 1) := by decide +kernel
theorem dd_judged_59 : decode mm_judged.2.1 59 = .ok (.iadd, 1) := by decide +kernel
theorem dd_judged_60 : decode mm_judged.2.1 60 = .ok (.iaload, 1) := by decide +kernel
theorem dd_judged_61 : decode mm_judged.2.1 61 = .ok (.istore 4, 2) := by decide +kernel
theorem dd_judged_63 : decode mm_judged.2.1 63 = .ok (.iload 4, 2) := by decide +kernel
theorem dd_judged_65 : decode mm_judged.2.1 65 = .ok (.ifCond .ge (24), 3) := by decide +kernel
theorem dd_judged_89 : decode mm_judged.2.1 89 = .ok (.aload_n 0, 1) := by decide +kernel
theorem dd_judged_90 : decode mm_judged.2.1 90 = .ok (.sipush 1470, 3) := by decide +kernel
theorem dd_judged_93 : decode mm_judged.2.1 93 = .ok (.iload 4, 2) := by decide +kernel
theorem dd_judged_95 : decode mm_judged.2.1 95 = .ok (.aload_n 0, 1) := by decide +kernel
theorem dd_judged_96 : decode mm_judged.2.1 96 = .ok (.getfield 116, 3) := by decide +kernel
theorem dd_judged_99 : decode mm_judged.2.1 99 = .ok (.iconst 2, 1) := by decide +kernel
theorem dd_judged_100 : decode mm_judged.2.1 100 = .ok (.iconst 2, 1) := by decide +kernel
theorem dd_judged_101 : decode mm_judged.2.1 101 = .ok (.iload_n 3, 1) := by decide +kernel
theorem dd_judged_102 : decode mm_judged.2.1 102 = .ok (.imul, 1) := by decide +kernel
theorem dd_judged_103 : decode mm_judged.2.1 103 = .ok (.iadd, 1) := by decide +kernel
theorem dd_judged_104 : decode mm_judged.2.1 104 = .ok (.iaload, 1) := by decide +kernel
theorem dd_judged_105 : decode mm_judged.2.1 105 = .ok (.invokevirtual 377, 3) := by decide +kernel
theorem dd_judged_68 : decode mm_judged.2.1 68 = .ok (.aload_n 0, 1) := by decide +kernel
theorem dd_judged_69 : decode mm_judged.2.1 69 = .ok (.getfield 125, 3) := by decide +kernel
theorem dd_judged_72 : decode mm_judged.2.1 72 = .ok (.sipush 1470, 3) := by decide +kernel
theorem dd_judged_75 : decode mm_judged.2.1 75 = .ok (.iaload, 1) := by decide +kernel
theorem dd_judged_76 : decode mm_judged.2.1 76 = .ok (.bipush 24, 2) := by decide +kernel
theorem dd_judged_78 : decode mm_judged.2.1 78 = .ok (.if_icmp .ge (7), 3) := by decide +kernel
theorem dd_judged_85 : decode mm_judged.2.1 85 = .ok (.iconst 0, 1) := by decide +kernel
theorem dd_judged_86 : decode mm_judged.2.1 86 = .ok (.goto 30, 3) := by decide +kernel
theorem dd_judged_116 : decode mm_judged.2.1 116 = .ok (.istore 5, 2) := by decide +kernel
theorem dd_judged_81 : decode mm_judged.2.1 81 = .ok (.iconst 1, 1) := by decide +kernel
theorem dd_judged_82 : decode mm_judged.2.1 82 = .ok (.goto 34, 3) := by decide +kernel
theorem dd_judged_108 : decode mm_judged.2.1 108 = .ok (.ifCond .lt (7), 3) := by decide +kernel
theorem dd_judged_115 : decode mm_judged.2.1 115 = .ok (.iconst 0, 1) := by decide +kernel
theorem dd_judged_111 : decode mm_judged.2.1 111 = .ok (.iconst 1, 1) := by decide +kernel
theorem dd_judged_112 : decode mm_judged.2.1 112 = .ok (.goto 4, 3) := by decide +kernel
theorem dd_judged_118 : decode mm_judged.2.1 118 = .ok (.iload 4, 2) := by decide +kernel
theorem dd_judged_120 : decode mm_judged.2.1 120 = .ok (.ifCond .ge (10), 3) := by decide +kernel
theorem dd_judged_123 : decode mm_judged.2.1 123 = .ok (.aload_n 0, 1) := by decide +kernel
theorem dd_judged_124 : decode mm_judged.2.1 124 = .ok (.sipush 1470, 3) := by decide +kernel
theorem dd_judged_127 : decode mm_judged.2.1 127 = .ok (.invokevirtual 383, 3) := by decide +kernel
theorem cw_12_383 : cwOk 12 383 0 217 2 3 12 = true := by decide +kernel
theorem mt_passes : MTB 217 = some mm_passes := rfl
theorem dd_judged_130 : decode mm_judged.2.1 130 = .ok (.iload 5, 2) := by decide +kernel
theorem dd_judged_132 : decode mm_judged.2.1 132 = .ok (.ifCond .ne (11), 3) := by decide +kernel
theorem dd_judged_143 : decode mm_judged.2.1 143 = .ok (.iload_n 2, 1) := by decide +kernel
theorem dd_judged_144 : decode mm_judged.2.1 144 = .ok (.istore_n 2, 1) := by decide +kernel
theorem dd_judged_145 : decode mm_judged.2.1 145 = .ok (.iinc 3 1, 3) := by decide +kernel
theorem dd_judged_148 : decode mm_judged.2.1 148 = .ok (.goto (-107), 3) := by decide +kernel
theorem dd_judged_135 : decode mm_judged.2.1 135 = .ok (.iload_n 2, 1) := by decide +kernel
theorem dd_judged_136 : decode mm_judged.2.1 136 = .ok (.ifCond .ge (7), 3) := by decide +kernel
theorem dd_judged_139 : decode mm_judged.2.1 139 = .ok (.iload_n 3, 1) := by decide +kernel
theorem dd_judged_140 : decode mm_judged.2.1 140 = .ok (.goto 4, 3) := by decide +kernel
theorem dd_judged_151 : decode mm_judged.2.1 151 = .ok (.iload_n 1, 1) := by decide +kernel
theorem dd_judged_152 : decode mm_judged.2.1 152 = .ok (.ifCond .ge (7), 3) := by decide +kernel
theorem dd_judged_159 : decode mm_judged.2.1 159 = .ok (.aload_n 0, 1) := by decide +kernel
theorem dd_judged_160 : decode mm_judged.2.1 160 = .ok (.getfield 125, 3) := by decide +kernel
theorem dd_judged_163 : decode mm_judged.2.1 163 = .ok (.sipush 1472, 3) := by decide +kernel
theorem dd_judged_166 : decode mm_judged.2.1 166 = .ok (.iload_n 1, 1) := by decide +kernel
theorem dd_judged_167 : decode mm_judged.2.1 167 = .ok (.iadd, 1) := by decide +kernel
theorem dd_judged_168 : decode mm_judged.2.1 168 = .ok (.iaload, 1) := by decide +kernel
theorem dd_judged_169 : decode mm_judged.2.1 169 = .ok (.ireturn, 1) := by decide +kernel
theorem dd_judged_155 : decode mm_judged.2.1 155 = .ok (.iload_n 2, 1) := by decide +kernel
theorem dd_judged_156 : decode mm_judged.2.1 156 = .ok (.goto 13, 3) := by decide +kernel
theorem B_passes_0 {xs : Nat → Int} {xl e : Nat} {h : LH} {Q : Option LV → LH → Prop} {v1 : Int} (hF : RF h) (r_v1 : 0 ≤ v1 ∧ v1 ≤ 1540)
    (k : (24 ≤ (rd h 198 v1) →
        (-2147483648 ≤ (rd h 198 v1) ∧ (rd h 198 v1) ≤ 2147483647) ∧
        Rn xs xl e mm_passes 31 [some (.inr (.inr 182)), some (.inl v1), some (.inl 0)] [] (wr h 198 v1 (rd h 198 v1)) Q) ∧
      ((rd h 198 v1) < 24 →
        (-2147483648 ≤ (rd h 198 v1) + 1 ∧ (rd h 198 v1) + 1 ≤ 2147483647) ∧
        Rn xs xl e mm_passes 31 [some (.inr (.inr 182)), some (.inl v1), some (.inl 0)] [] (wr h 198 v1 ((rd h 198 v1) + 1)) Q)) :
    Rn xs xl e mm_passes 0 [some (.inr (.inr 182)), some (.inl v1), none] [] h Q := by
  refine R_ld (v := .inr (.inr 182)) dd_passes_0 rfl rfl rfl rfl ?_
  refine R_gf (v := .inr (.inr 198)) dd_passes_1 fd_12_125 io_182 (congrArg (fun z : Int => (Sum.inr (Sum.inr z) : LV)) (rf_182_24 hF)) rfl ?_
  refine R_ld (v := .inl v1) dd_passes_4 rfl rfl rfl rfl ?_
  refine R_ic dd_passes_5 (by decide) rfl ?_
  refine R_iadd (c := v1) dd_passes_6 (by omega) (by omega) rfl ?_
  refine R_A dd_passes_7 rfl rfl rfl rfl ?_
  refine R_iald (v := (rd h 198 v1)) (n := 1610) dd_passes_8 ia_198 la_198 (by omega) (rfl) rfl ?_
  refine R_ld (v := .inr (.inr 182)) dd_passes_9 rfl rfl rfl rfl ?_
  refine R_gf (v := .inr (.inr 198)) dd_passes_10 fd_12_125 io_182 (congrArg (fun z : Int => (Sum.inr (Sum.inr z) : LV)) (rf_182_24 hF)) rfl ?_
  refine R_ld (v := .inl v1) dd_passes_13 rfl rfl rfl rfl ?_
  refine R_ic dd_passes_14 (by decide) rfl ?_
  refine R_iadd (c := v1) dd_passes_15 (by omega) (by omega) rfl ?_
  refine R_iald (v := (rd h 198 v1)) (n := 1610) dd_passes_16 ia_198 la_198 (by omega) (rfl) rfl ?_
  refine R_bi dd_passes_17 (by decide) rfl ?_
  refine R_icmp dd_passes_19 rfl rfl (fun (c3 : 24 ≤ (rd h 198 v1)) => ?_) (fun (c3 : (rd h 198 v1) < 24) => ?_)
  · replace k := k.1 c3
    refine R_ic dd_passes_26 (by decide) rfl ?_
    obtain ⟨s1, k⟩ := k
    refine R_iadd (c := (rd h 198 v1)) dd_passes_27 (by omega) s1 rfl ?_
    refine R_iast (n := 1610) dd_passes_28 ia_198 la_198 (by omega) rfl ?_
    refine R_ic dd_passes_29 (by decide) rfl ?_
    refine R_st (ls' := [some (.inr (.inr 182)), some (.inl v1), some (.inl 0)]) dd_passes_30 rfl rfl rfl (Nat.le_of_ble_eq_true rfl) rfl rfl ?_
    exact k
  · replace k := k.2 c3
    refine R_ic dd_passes_22 (by decide) rfl ?_
    refine R_goto dd_passes_23 rfl ?_
    obtain ⟨s2, k⟩ := k
    refine R_iadd (c := (rd h 198 v1) + 1) dd_passes_27 (by omega) s2 rfl ?_
    refine R_iast (n := 1610) dd_passes_28 ia_198 la_198 (by omega) rfl ?_
    refine R_ic dd_passes_29 (by decide) rfl ?_
    refine R_st (ls' := [some (.inr (.inr 182)), some (.inl v1), some (.inl 0)]) dd_passes_30 rfl rfl rfl (Nat.le_of_ble_eq_true rfl) rfl rfl ?_
    exact k
theorem B_passes_31 {xs : Nat → Int} {xl e : Nat} {h : LH} {Q : Option LV → LH → Prop} {v1 v2 : Int} (hF : RF h) (r_v1 : 0 ≤ v1 ∧ v1 ≤ 1540) (r_v2 : 0 ≤ v2 ∧ v2 ≤ 6)
    (k : (6 ≤ v2 →
        Rn xs xl e mm_passes 57 [some (.inr (.inr 182)), some (.inl v1), some (.inl 0)] [] h Q) ∧
      (v2 < 6 →
        Rn xs xl e mm_passes 31 [some (.inr (.inr 182)), some (.inl v1), some (.inl (v2 + 1))] [] (wr h 198 (v1 + v2 + 14) 0) Q)) :
    Rn xs xl e mm_passes 31 [some (.inr (.inr 182)), some (.inl v1), some (.inl v2)] [] h Q := by
  refine R_ld (v := .inl v2) dd_passes_31 rfl rfl rfl rfl ?_
  refine R_bi dd_passes_32 (by decide) rfl ?_
  refine R_icmp dd_passes_34 rfl rfl (fun (c1 : 6 ≤ v2) => ?_) (fun (c1 : v2 < 6) => ?_)
  · replace k := k.1 c1
    refine R_ic dd_passes_55 (by decide) rfl ?_
    refine R_st (ls' := [some (.inr (.inr 182)), some (.inl v1), some (.inl 0)]) dd_passes_56 rfl rfl rfl (Nat.le_of_ble_eq_true rfl) rfl rfl ?_
    exact k
  · replace k := k.2 c1
    refine R_ld (v := .inr (.inr 182)) dd_passes_37 rfl rfl rfl rfl ?_
    refine R_gf (v := .inr (.inr 198)) dd_passes_38 fd_12_125 io_182 (congrArg (fun z : Int => (Sum.inr (Sum.inr z) : LV)) (rf_182_24 hF)) rfl ?_
    refine R_ld (v := .inl v1) dd_passes_41 rfl rfl rfl rfl ?_
    refine R_bi dd_passes_42 (by decide) rfl ?_
    refine R_iadd (c := v1 + 14) dd_passes_44 (by omega) (by omega) rfl ?_
    refine R_ld (v := .inl v2) dd_passes_45 rfl rfl rfl rfl ?_
    refine R_iadd (c := v1 + v2 + 14) dd_passes_46 (by omega) (by omega) rfl ?_
    refine R_ic dd_passes_47 (by decide) rfl ?_
    refine R_iast (n := 1610) dd_passes_48 ia_198 la_198 (by omega) rfl ?_
    refine R_inc (y := v2 + 1) (ls' := [some (.inr (.inr 182)), some (.inl v1), some (.inl (v2 + 1))]) dd_passes_49 rfl (by decide) (by omega) (by omega) rfl rfl ?_
    refine R_goto dd_passes_52 rfl ?_
    exact k
theorem B_passes_57 {xs : Nat → Int} {xl e : Nat} {h : LH} {Q : Option LV → LH → Prop} {v1 v2 : Int} (hF : RF h) (r_v1 : 0 ≤ v1 ∧ v1 ≤ 1540) (r_v2 : 0 ≤ v2 ∧ v2 ≤ 14)
    (k : (14 ≤ v2 →
        Q none h) ∧
      (v2 < 14 →
        Rn xs xl e mm_passes 57 [some (.inr (.inr 182)), some (.inl v1), some (.inl (v2 + 1))] [] (wr h 198 (v1 + v2 + 20) 0) Q)) :
    Rn xs xl e mm_passes 57 [some (.inr (.inr 182)), some (.inl v1), some (.inl v2)] [] h Q := by
  refine R_ld (v := .inl v2) dd_passes_57 rfl rfl rfl rfl ?_
  refine R_bi dd_passes_58 (by decide) rfl ?_
  refine R_icmp dd_passes_60 rfl rfl (fun (c1 : 14 ≤ v2) => ?_) (fun (c1 : v2 < 14) => ?_)
  · replace k := k.1 c1
    exact R_vret dd_passes_81 rfl k
  · replace k := k.2 c1
    refine R_ld (v := .inr (.inr 182)) dd_passes_63 rfl rfl rfl rfl ?_
    refine R_gf (v := .inr (.inr 198)) dd_passes_64 fd_12_125 io_182 (congrArg (fun z : Int => (Sum.inr (Sum.inr z) : LV)) (rf_182_24 hF)) rfl ?_
    refine R_ld (v := .inl v1) dd_passes_67 rfl rfl rfl rfl ?_
    refine R_bi dd_passes_68 (by decide) rfl ?_
    refine R_iadd (c := v1 + 20) dd_passes_70 (by omega) (by omega) rfl ?_
    refine R_ld (v := .inl v2) dd_passes_71 rfl rfl rfl rfl ?_
    refine R_iadd (c := v1 + v2 + 20) dd_passes_72 (by omega) (by omega) rfl ?_
    refine R_ic dd_passes_73 (by decide) rfl ?_
    refine R_iast (n := 1610) dd_passes_74 ia_198 la_198 (by omega) rfl ?_
    refine R_inc (y := v2 + 1) (ls' := [some (.inr (.inr 182)), some (.inl v1), some (.inl (v2 + 1))]) dd_passes_75 rfl (by decide) (by omega) (by omega) rfl rfl ?_
    refine R_goto dd_passes_78 rfl ?_
    exact k
theorem B_go_0 {xs : Nat → Int} {xl e : Nat} {h : LH} {Q : Option LV → LH → Prop} {v1 v2 : Int} (hF : RF h) (he : 2 ≤ e)
    (k : (v1 < 0 →
        Q (some (.inl (-1))) (wr h 182 0 0)) ∧
      (0 ≤ v1 →
        ((rd h 188 2) ≤ v1 →
          Q (some (.inl (-1))) (wr h 182 0 0)) ∧
        (v1 < (rd h 188 2) →
          (v2 < 0 →
            Q (some (.inl (-1))) (wr h 182 0 0)) ∧
          (0 ≤ v2 →
            ((rd h 188 1) ≤ v2 →
              Q (some (.inl (-1))) (wr h 182 0 0)) ∧
            (v2 < (rd h 188 1) →
              (∃ c, c < e ∧ Rn xs xl c mm_copies 0 [some (.inr (.inr 182)), some (.inl 0), some (.inl 1470), some (.inl 34), none] [] (wr h 182 0 0) (fun r h' => Rn xs xl e mm_go 33 [some (.inr (.inr 182)), some (.inl v1), some (.inl v2)] (r.toList ++ []) h' Q))))))) :
    Rn xs xl e mm_go 0 [some (.inr (.inr 182)), some (.inl v1), some (.inl v2)] [] h Q := by
  refine R_ld (v := .inr (.inr 182)) dd_go_0 rfl rfl rfl rfl ?_
  refine R_ic dd_go_1 (by decide) rfl ?_
  refine R_pf (z := 0) dd_go_2 fd_12_1 io_182 fn_12_0 rfl rfl ?_
  refine R_ld (v := .inr (.inr 182)) dd_go_5 rfl rfl rfl rfl ?_
  refine R_ld (v := .inl v1) dd_go_6 rfl rfl rfl rfl ?_
  refine R_call (as := [.inr (.inr 182), .inl v1]) (rest := []) (M' := mm_isPerson) (ls0 := [some (.inr (.inr 182)), some (.inl v1)]) dd_go_7 rfl rfl (cw_v cw_12_367 io_182 rfl rfl (Nat.le_of_ble_eq_true rfl) (Nat.le_of_ble_eq_true rfl)) mt_isPerson rfl (c := e - 1) (by omega) rfl ?_
  refine R_ld (v := .inl v1) dd_isPerson_0 rfl rfl rfl rfl ?_
  refine R_if dd_isPerson_1 rfl rfl (fun (c2 : v1 < 0) => ?_) (fun (c2 : 0 ≤ v1) => ?_)
  · replace k := k.1 c2
    refine R_ic dd_isPerson_16 (by decide) rfl ?_
    refine R_zret dd_isPerson_17 rfl (by decide) ?_
    change Rn xs xl e mm_go 10 [some (.inr (.inr 182)), some (.inl v1), some (.inl v2)] [.inl 0] (wr h 182 0 0) _
    refine R_if dd_go_10 rfl rfl (fun (c3 : 0 = 0) => ?_) (fun (c3 : 0 ≠ 0) => ?_)
    · skip
      refine R_ic dd_go_21 (by decide) rfl ?_
      exact R_iret dd_go_22 rfl k
    · exact absurd c3 (by omega)
  · replace k := k.2 c2
    refine R_ld (v := .inl v1) dd_isPerson_4 rfl rfl rfl rfl ?_
    refine R_ld (v := .inr (.inr 182)) dd_isPerson_5 rfl rfl rfl rfl ?_
    refine R_call (as := [.inr (.inr 182)]) (rest := [.inl v1]) (M' := mm_people) (ls0 := [some (.inr (.inr 182))]) dd_isPerson_6 rfl rfl (cw_v cw_12_338 io_182 rfl rfl (Nat.le_of_ble_eq_true rfl) (Nat.le_of_ble_eq_true rfl)) mt_people rfl (c := e - 2) (by omega) rfl ?_
    refine R_ld (v := .inr (.inr 182)) dd_people_0 rfl rfl rfl rfl ?_
    refine R_gf (v := .inr (.inr 188)) dd_people_1 fd_12_95 io_182 (congrArg (fun z : Int => (Sum.inr (Sum.inr z) : LV)) ((rdw_nei (by omega)).trans (rf_182_10 hF))) rfl ?_
    refine R_ic dd_people_4 (by decide) rfl ?_
    refine R_iald (v := (rd h 188 2)) (n := 300) dd_people_5 ia_188 la_188 (by decide) (rdw_ne (by decide)) rfl ?_
    refine R_iret dd_people_6 rfl ?_
    change Rn xs xl (e - 1) mm_isPerson 9 [some (.inr (.inr 182)), some (.inl v1)] [.inl (rd h 188 2), .inl v1] (wr h 182 0 0) _
    refine R_icmp dd_isPerson_9 rfl rfl (fun (c4 : (rd h 188 2) ≤ v1) => ?_) (fun (c4 : v1 < (rd h 188 2)) => ?_)
    · replace k := k.1 c4
      refine R_ic dd_isPerson_16 (by decide) rfl ?_
      refine R_zret dd_isPerson_17 rfl (by decide) ?_
      change Rn xs xl e mm_go 10 [some (.inr (.inr 182)), some (.inl v1), some (.inl v2)] [.inl 0] (wr h 182 0 0) _
      refine R_if dd_go_10 rfl rfl (fun (c5 : 0 = 0) => ?_) (fun (c5 : 0 ≠ 0) => ?_)
      · skip
        refine R_ic dd_go_21 (by decide) rfl ?_
        exact R_iret dd_go_22 rfl k
      · exact absurd c5 (by omega)
    · replace k := k.2 c4
      refine R_ic dd_isPerson_12 (by decide) rfl ?_
      refine R_goto dd_isPerson_13 rfl ?_
      refine R_zret dd_isPerson_17 rfl (by decide) ?_
      change Rn xs xl e mm_go 10 [some (.inr (.inr 182)), some (.inl v1), some (.inl v2)] [.inl 1] (wr h 182 0 0) _
      refine R_if dd_go_10 rfl rfl (fun (c6 : 1 = 0) => ?_) (fun (c6 : 1 ≠ 0) => ?_)
      · exact absurd c6 (by omega)
      · skip
        refine R_ld (v := .inr (.inr 182)) dd_go_13 rfl rfl rfl rfl ?_
        refine R_ld (v := .inl v2) dd_go_14 rfl rfl rfl rfl ?_
        refine R_call (as := [.inr (.inr 182), .inl v2]) (rest := []) (M' := mm_isDoor) (ls0 := [some (.inr (.inr 182)), some (.inl v2)]) dd_go_15 rfl rfl (cw_v cw_12_364 io_182 rfl rfl (Nat.le_of_ble_eq_true rfl) (Nat.le_of_ble_eq_true rfl)) mt_isDoor rfl (c := e - 1) (by omega) rfl ?_
        refine R_ld (v := .inl v2) dd_isDoor_0 rfl rfl rfl rfl ?_
        refine R_if dd_isDoor_1 rfl rfl (fun (c7 : v2 < 0) => ?_) (fun (c7 : 0 ≤ v2) => ?_)
        · replace k := k.1 c7
          refine R_ic dd_isDoor_16 (by decide) rfl ?_
          refine R_zret dd_isDoor_17 rfl (by decide) ?_
          change Rn xs xl e mm_go 18 [some (.inr (.inr 182)), some (.inl v1), some (.inl v2)] [.inl 0] (wr h 182 0 0) _
          refine R_if dd_go_18 rfl rfl (fun (c8 : 0 ≠ 0) => ?_) (fun (c8 : 0 = 0) => ?_)
          · exact absurd c8 (by omega)
          · skip
            refine R_ic dd_go_21 (by decide) rfl ?_
            exact R_iret dd_go_22 rfl k
        · replace k := k.2 c7
          refine R_ld (v := .inl v2) dd_isDoor_4 rfl rfl rfl rfl ?_
          refine R_ld (v := .inr (.inr 182)) dd_isDoor_5 rfl rfl rfl rfl ?_
          refine R_call (as := [.inr (.inr 182)]) (rest := [.inl v2]) (M' := mm_doors) (ls0 := [some (.inr (.inr 182))]) dd_isDoor_6 rfl rfl (cw_v cw_12_335 io_182 rfl rfl (Nat.le_of_ble_eq_true rfl) (Nat.le_of_ble_eq_true rfl)) mt_doors rfl (c := e - 2) (by omega) rfl ?_
          refine R_ld (v := .inr (.inr 182)) dd_doors_0 rfl rfl rfl rfl ?_
          refine R_gf (v := .inr (.inr 188)) dd_doors_1 fd_12_95 io_182 (congrArg (fun z : Int => (Sum.inr (Sum.inr z) : LV)) ((rdw_nei (by omega)).trans (rf_182_10 hF))) rfl ?_
          refine R_ic dd_doors_4 (by decide) rfl ?_
          refine R_iald (v := (rd h 188 1)) (n := 300) dd_doors_5 ia_188 la_188 (by decide) (rdw_ne (by decide)) rfl ?_
          refine R_iret dd_doors_6 rfl ?_
          change Rn xs xl (e - 1) mm_isDoor 9 [some (.inr (.inr 182)), some (.inl v2)] [.inl (rd h 188 1), .inl v2] (wr h 182 0 0) _
          refine R_icmp dd_isDoor_9 rfl rfl (fun (c9 : (rd h 188 1) ≤ v2) => ?_) (fun (c9 : v2 < (rd h 188 1)) => ?_)
          · replace k := k.1 c9
            refine R_ic dd_isDoor_16 (by decide) rfl ?_
            refine R_zret dd_isDoor_17 rfl (by decide) ?_
            change Rn xs xl e mm_go 18 [some (.inr (.inr 182)), some (.inl v1), some (.inl v2)] [.inl 0] (wr h 182 0 0) _
            refine R_if dd_go_18 rfl rfl (fun (c10 : 0 ≠ 0) => ?_) (fun (c10 : 0 = 0) => ?_)
            · exact absurd c10 (by omega)
            · skip
              refine R_ic dd_go_21 (by decide) rfl ?_
              exact R_iret dd_go_22 rfl k
          · replace k := k.2 c9
            refine R_ic dd_isDoor_12 (by decide) rfl ?_
            refine R_goto dd_isDoor_13 rfl ?_
            refine R_zret dd_isDoor_17 rfl (by decide) ?_
            change Rn xs xl e mm_go 18 [some (.inr (.inr 182)), some (.inl v1), some (.inl v2)] [.inl 1] (wr h 182 0 0) _
            refine R_if dd_go_18 rfl rfl (fun (c11 : 1 ≠ 0) => ?_) (fun (c11 : 1 = 0) => ?_)
            · skip
              refine R_ld (v := .inr (.inr 182)) dd_go_23 rfl rfl rfl rfl ?_
              refine R_ic dd_go_24 (by decide) rfl ?_
              refine R_si dd_go_25 (by decide) rfl ?_
              refine R_bi dd_go_28 (by decide) rfl ?_
              obtain ⟨c, hc, k⟩ := k
              exact R_call (as := [.inr (.inr 182), .inl 0, .inl 1470, .inl 34]) (rest := []) (M' := mm_copies) (ls0 := [some (.inr (.inr 182)), some (.inl 0), some (.inl 1470), some (.inl 34), none]) dd_go_30 rfl rfl (cw_v cw_12_328 io_182 rfl rfl (Nat.le_of_ble_eq_true rfl) (Nat.le_of_ble_eq_true rfl)) mt_copies rfl hc rfl k
            · exact absurd c11 (by omega)
theorem B_go_33 {xs : Nat → Int} {xl e : Nat} {h : LH} {Q : Option LV → LH → Prop} {v1 v2 : Int} (hF : RF h)
    (k : (∃ c, c < e ∧ Rn xs xl c mm_goes 0 [some (.inr (.inr 182)), some (.inl 1470), some (.inl v1), some (.inl v2), none] [] h (fun r h' => Rn xs xl e mm_go 42 [some (.inr (.inr 182)), some (.inl v1), some (.inl v2)] (r.toList ++ []) h' Q))) :
    Rn xs xl e mm_go 33 [some (.inr (.inr 182)), some (.inl v1), some (.inl v2)] [] h Q := by
  refine R_ld (v := .inr (.inr 182)) dd_go_33 rfl rfl rfl rfl ?_
  refine R_si dd_go_34 (by decide) rfl ?_
  refine R_ld (v := .inl v1) dd_go_37 rfl rfl rfl rfl ?_
  refine R_ld (v := .inl v2) dd_go_38 rfl rfl rfl rfl ?_
  obtain ⟨c, hc, k⟩ := k
  exact R_call (as := [.inr (.inr 182), .inl 1470, .inl v1, .inl v2]) (rest := []) (M' := mm_goes) (ls0 := [some (.inr (.inr 182)), some (.inl 1470), some (.inl v1), some (.inl v2), none]) dd_go_39 rfl rfl (cw_v cw_12_377 io_182 rfl rfl (Nat.le_of_ble_eq_true rfl) (Nat.le_of_ble_eq_true rfl)) mt_goes rfl hc rfl k
theorem B_go_42 {xs : Nat → Int} {xl e : Nat} {h : LH} {Q : Option LV → LH → Prop} {v1 v2 w0 : Int} (hF : RF h)
    (k : (0 ≤ w0 →
        (∃ c, c < e ∧ Rn xs xl c mm_keeps 0 [some (.inr (.inr 182)), none] [] h (fun r h' => Rn xs xl e mm_go 51 [some (.inr (.inr 182)), some (.inl v1), some (.inl v2)] (r.toList ++ []) h' Q))) ∧
      (w0 < 0 →
        Q (some (.inl (-1))) h)) :
    Rn xs xl e mm_go 42 [some (.inr (.inr 182)), some (.inl v1), some (.inl v2)] [.inl w0] h Q := by
  refine R_if dd_go_42 rfl rfl (fun (c2 : 0 ≤ w0) => ?_) (fun (c2 : w0 < 0) => ?_)
  · replace k := k.1 c2
    refine R_ld (v := .inr (.inr 182)) dd_go_47 rfl rfl rfl rfl ?_
    obtain ⟨c, hc, k⟩ := k
    exact R_call (as := [.inr (.inr 182)]) (rest := []) (M' := mm_keeps) (ls0 := [some (.inr (.inr 182)), none]) dd_go_48 rfl rfl (cw_v cw_12_380 io_182 rfl rfl (Nat.le_of_ble_eq_true rfl) (Nat.le_of_ble_eq_true rfl)) mt_keeps rfl hc rfl k
  · replace k := k.2 c2
    refine R_ic dd_go_45 (by decide) rfl ?_
    exact R_iret dd_go_46 rfl k
theorem B_go_51 {xs : Nat → Int} {xl e : Nat} {h : LH} {Q : Option LV → LH → Prop} {v1 v2 : Int} (hF : RF h)
    (k : (∃ c, c < e ∧ Rn xs xl c mm_goes 0 [some (.inr (.inr 182)), some (.inl 0), some (.inl v1), some (.inl v2), none] [] h (fun r h' => Rn xs xl e mm_go 58 [some (.inr (.inr 182)), some (.inl v1), some (.inl v2)] (r.toList ++ []) h' Q))) :
    Rn xs xl e mm_go 51 [some (.inr (.inr 182)), some (.inl v1), some (.inl v2)] [] h Q := by
  refine R_ld (v := .inr (.inr 182)) dd_go_51 rfl rfl rfl rfl ?_
  refine R_ic dd_go_52 (by decide) rfl ?_
  refine R_ld (v := .inl v1) dd_go_53 rfl rfl rfl rfl ?_
  refine R_ld (v := .inl v2) dd_go_54 rfl rfl rfl rfl ?_
  obtain ⟨c, hc, k⟩ := k
  exact R_call (as := [.inr (.inr 182), .inl 0, .inl v1, .inl v2]) (rest := []) (M' := mm_goes) (ls0 := [some (.inr (.inr 182)), some (.inl 0), some (.inl v1), some (.inl v2), none]) dd_go_55 rfl rfl (cw_v cw_12_377 io_182 rfl rfl (Nat.le_of_ble_eq_true rfl) (Nat.le_of_ble_eq_true rfl)) mt_goes rfl hc rfl k
theorem B_go_58 {xs : Nat → Int} {xl e : Nat} {h : LH} {Q : Option LV → LH → Prop} {v1 v2 w0 : Int} (hF : RF h)
    (k : Q (some (.inl w0)) h) :
    Rn xs xl e mm_go 58 [some (.inr (.inr 182)), some (.inl v1), some (.inl v2)] [.inl w0] h Q := by
  exact R_iret dd_go_58 rfl k
theorem B_judged_0 {xs : Nat → Int} {xl e : Nat} {h : LH} {Q : Option LV → LH → Prop} {v1 : Int} (hF : RF h) (he : 2 ≤ e)
    (k : (v1 = (-1) →
        (∃ c, c < e ∧ Rn xs xl c mm_startsDay 0 [some (.inr (.inr 182)), some (.inl 1470), none] [] (wr h 182 0 0) (fun r h' => Rn xs xl e mm_judged 28 [some (.inr (.inr 182)), some (.inl v1), none, none, none, none] (r.toList ++ []) h' Q))) ∧
      (v1 ≠ (-1) →
        (v1 < 0 →
          Q (some (.inl (-2))) (wr h 182 0 0)) ∧
        (0 ≤ v1 →
          ((rd h 188 2) ≤ v1 →
            Q (some (.inl (-2))) (wr h 182 0 0)) ∧
          (v1 < (rd h 188 2) →
            (∃ c, c < e ∧ Rn xs xl c mm_startsDay 0 [some (.inr (.inr 182)), some (.inl 1470), none] [] (wr h 182 0 0) (fun r h' => Rn xs xl e mm_judged 28 [some (.inr (.inr 182)), some (.inl v1), none, none, none, none] (r.toList ++ []) h' Q)))))) :
    Rn xs xl e mm_judged 0 [some (.inr (.inr 182)), some (.inl v1), none, none, none, none] [] h Q := by
  refine R_ld (v := .inr (.inr 182)) dd_judged_0 rfl rfl rfl rfl ?_
  refine R_ic dd_judged_1 (by decide) rfl ?_
  refine R_pf (z := 0) dd_judged_2 fd_12_1 io_182 fn_12_0 rfl rfl ?_
  refine R_ld (v := .inl v1) dd_judged_5 rfl rfl rfl rfl ?_
  refine R_ic dd_judged_6 (by decide) rfl ?_
  refine R_icmp dd_judged_7 rfl rfl (fun (c3 : v1 = (-1)) => ?_) (fun (c3 : v1 ≠ (-1)) => ?_)
  · replace k := k.1 c3
    refine R_ld (v := .inr (.inr 182)) dd_judged_21 rfl rfl rfl rfl ?_
    refine R_si dd_judged_22 (by decide) rfl ?_
    obtain ⟨c, hc, k⟩ := k
    exact R_call (as := [.inr (.inr 182), .inl 1470]) (rest := []) (M' := mm_startsDay) (ls0 := [some (.inr (.inr 182)), some (.inl 1470), none]) dd_judged_25 rfl rfl (cw_v cw_12_319 io_182 rfl rfl (Nat.le_of_ble_eq_true rfl) (Nat.le_of_ble_eq_true rfl)) mt_startsDay rfl hc rfl k
  · replace k := k.2 c3
    refine R_ld (v := .inr (.inr 182)) dd_judged_10 rfl rfl rfl rfl ?_
    refine R_ld (v := .inl v1) dd_judged_11 rfl rfl rfl rfl ?_
    refine R_call (as := [.inr (.inr 182), .inl v1]) (rest := []) (M' := mm_isPerson) (ls0 := [some (.inr (.inr 182)), some (.inl v1)]) dd_judged_12 rfl rfl (cw_v cw_12_367 io_182 rfl rfl (Nat.le_of_ble_eq_true rfl) (Nat.le_of_ble_eq_true rfl)) mt_isPerson rfl (c := e - 1) (by omega) rfl ?_
    refine R_ld (v := .inl v1) dd_isPerson_0 rfl rfl rfl rfl ?_
    refine R_if dd_isPerson_1 rfl rfl (fun (c4 : v1 < 0) => ?_) (fun (c4 : 0 ≤ v1) => ?_)
    · replace k := k.1 c4
      refine R_ic dd_isPerson_16 (by decide) rfl ?_
      refine R_zret dd_isPerson_17 rfl (by decide) ?_
      change Rn xs xl e mm_judged 15 [some (.inr (.inr 182)), some (.inl v1), none, none, none, none] [.inl 0] (wr h 182 0 0) _
      refine R_if dd_judged_15 rfl rfl (fun (c5 : 0 ≠ 0) => ?_) (fun (c5 : 0 = 0) => ?_)
      · exact absurd c5 (by omega)
      · skip
        refine R_bi dd_judged_18 (by decide) rfl ?_
        exact R_iret dd_judged_20 rfl k
    · replace k := k.2 c4
      refine R_ld (v := .inl v1) dd_isPerson_4 rfl rfl rfl rfl ?_
      refine R_ld (v := .inr (.inr 182)) dd_isPerson_5 rfl rfl rfl rfl ?_
      refine R_call (as := [.inr (.inr 182)]) (rest := [.inl v1]) (M' := mm_people) (ls0 := [some (.inr (.inr 182))]) dd_isPerson_6 rfl rfl (cw_v cw_12_338 io_182 rfl rfl (Nat.le_of_ble_eq_true rfl) (Nat.le_of_ble_eq_true rfl)) mt_people rfl (c := e - 2) (by omega) rfl ?_
      refine R_ld (v := .inr (.inr 182)) dd_people_0 rfl rfl rfl rfl ?_
      refine R_gf (v := .inr (.inr 188)) dd_people_1 fd_12_95 io_182 (congrArg (fun z : Int => (Sum.inr (Sum.inr z) : LV)) ((rdw_nei (by omega)).trans (rf_182_10 hF))) rfl ?_
      refine R_ic dd_people_4 (by decide) rfl ?_
      refine R_iald (v := (rd h 188 2)) (n := 300) dd_people_5 ia_188 la_188 (by decide) (rdw_ne (by decide)) rfl ?_
      refine R_iret dd_people_6 rfl ?_
      change Rn xs xl (e - 1) mm_isPerson 9 [some (.inr (.inr 182)), some (.inl v1)] [.inl (rd h 188 2), .inl v1] (wr h 182 0 0) _
      refine R_icmp dd_isPerson_9 rfl rfl (fun (c6 : (rd h 188 2) ≤ v1) => ?_) (fun (c6 : v1 < (rd h 188 2)) => ?_)
      · replace k := k.1 c6
        refine R_ic dd_isPerson_16 (by decide) rfl ?_
        refine R_zret dd_isPerson_17 rfl (by decide) ?_
        change Rn xs xl e mm_judged 15 [some (.inr (.inr 182)), some (.inl v1), none, none, none, none] [.inl 0] (wr h 182 0 0) _
        refine R_if dd_judged_15 rfl rfl (fun (c7 : 0 ≠ 0) => ?_) (fun (c7 : 0 = 0) => ?_)
        · exact absurd c7 (by omega)
        · skip
          refine R_bi dd_judged_18 (by decide) rfl ?_
          exact R_iret dd_judged_20 rfl k
      · replace k := k.2 c6
        refine R_ic dd_isPerson_12 (by decide) rfl ?_
        refine R_goto dd_isPerson_13 rfl ?_
        refine R_zret dd_isPerson_17 rfl (by decide) ?_
        change Rn xs xl e mm_judged 15 [some (.inr (.inr 182)), some (.inl v1), none, none, none, none] [.inl 1] (wr h 182 0 0) _
        refine R_if dd_judged_15 rfl rfl (fun (c8 : 1 ≠ 0) => ?_) (fun (c8 : 1 = 0) => ?_)
        · skip
          refine R_ld (v := .inr (.inr 182)) dd_judged_21 rfl rfl rfl rfl ?_
          refine R_si dd_judged_22 (by decide) rfl ?_
          obtain ⟨c, hc, k⟩ := k
          exact R_call (as := [.inr (.inr 182), .inl 1470]) (rest := []) (M' := mm_startsDay) (ls0 := [some (.inr (.inr 182)), some (.inl 1470), none]) dd_judged_25 rfl rfl (cw_v cw_12_319 io_182 rfl rfl (Nat.le_of_ble_eq_true rfl) (Nat.le_of_ble_eq_true rfl)) mt_startsDay rfl hc rfl k
        · exact absurd c8 (by omega)
theorem B_judged_28 {xs : Nat → Int} {xl e : Nat} {h : LH} {Q : Option LV → LH → Prop} {v1 : Int} (hF : RF h)
    (k : Rn xs xl e mm_judged 41 [some (.inr (.inr 182)), some (.inl v1), some (.inl (-1)), some (.inl 0), none, none] [] (wr h 198 1471 0) Q) :
    Rn xs xl e mm_judged 28 [some (.inr (.inr 182)), some (.inl v1), none, none, none, none] [] h Q := by
  refine R_ld (v := .inr (.inr 182)) dd_judged_28 rfl rfl rfl rfl ?_
  refine R_gf (v := .inr (.inr 198)) dd_judged_29 fd_12_125 io_182 (congrArg (fun z : Int => (Sum.inr (Sum.inr z) : LV)) (rf_182_24 hF)) rfl ?_
  refine R_si dd_judged_32 (by decide) rfl ?_
  refine R_ic dd_judged_35 (by decide) rfl ?_
  refine R_iast (n := 1610) dd_judged_36 ia_198 la_198 (by decide) rfl ?_
  refine R_ic dd_judged_37 (by decide) rfl ?_
  refine R_st (ls' := [some (.inr (.inr 182)), some (.inl v1), some (.inl (-1)), none, none, none]) dd_judged_38 rfl rfl rfl (Nat.le_of_ble_eq_true rfl) rfl rfl ?_
  refine R_ic dd_judged_39 (by decide) rfl ?_
  refine R_st (ls' := [some (.inr (.inr 182)), some (.inl v1), some (.inl (-1)), some (.inl 0), none, none]) dd_judged_40 rfl rfl rfl (Nat.le_of_ble_eq_true rfl) rfl rfl ?_
  exact k
theorem B_judged_41 {xs : Nat → Int} {xl e : Nat} {h : LH} {Q : Option LV → LH → Prop} {v1 v2 v3 : Int} {o4 : Option LV} {o5 : Option LV} (hF : RF h) (r_v3 : 0 ≤ v3 ∧ v3 ≤ 24)
    (k : ((rd h 195 0) ≤ v3 →
        Rn xs xl e mm_judged 151 [some (.inr (.inr 182)), some (.inl v1), some (.inl v2), some (.inl v3), o4, o5] [] h Q) ∧
      (v3 < (rd h 195 0) →
        (0 ≤ (rd h 195 (2 * v3 + 1)) →
          (∃ c, c < e ∧ Rn xs xl c mm_goes 0 [some (.inr (.inr 182)), some (.inl 1470), some (.inl (rd h 195 (2 * v3 + 1))), some (.inl (rd h 195 (2 * v3 + 2))), none] [] h (fun r h' => Rn xs xl e mm_judged 108 [some (.inr (.inr 182)), some (.inl v1), some (.inl v2), some (.inl v3), some (.inl (rd h 195 (2 * v3 + 1))), o5] (r.toList ++ []) h' Q))) ∧
        ((rd h 195 (2 * v3 + 1)) < 0 →
          (24 ≤ (rd h 198 1470) →
            Rn xs xl e mm_judged 118 [some (.inr (.inr 182)), some (.inl v1), some (.inl v2), some (.inl v3), some (.inl (rd h 195 (2 * v3 + 1))), some (.inl 0)] [] h Q) ∧
          ((rd h 198 1470) < 24 →
            Rn xs xl e mm_judged 118 [some (.inr (.inr 182)), some (.inl v1), some (.inl v2), some (.inl v3), some (.inl (rd h 195 (2 * v3 + 1))), some (.inl 1)] [] h Q)))) :
    Rn xs xl e mm_judged 41 [some (.inr (.inr 182)), some (.inl v1), some (.inl v2), some (.inl v3), o4, o5] [] h Q := by
  refine R_ld (v := .inl v3) dd_judged_41 rfl rfl rfl rfl ?_
  refine R_ld (v := .inr (.inr 182)) dd_judged_42 rfl rfl rfl rfl ?_
  refine R_gf (v := .inr (.inr 195)) dd_judged_43 fd_12_116 io_182 (congrArg (fun z : Int => (Sum.inr (Sum.inr z) : LV)) (rf_182_20 hF)) rfl ?_
  refine R_ic dd_judged_46 (by decide) rfl ?_
  refine R_iald (v := (rd h 195 0)) (n := 100) dd_judged_47 ia_195 la_195 (by decide) (rfl) rfl ?_
  refine R_icmp dd_judged_48 rfl rfl (fun (c2 : (rd h 195 0) ≤ v3) => ?_) (fun (c2 : v3 < (rd h 195 0)) => ?_)
  · replace k := k.1 c2
    exact k
  · replace k := k.2 c2
    refine R_ld (v := .inr (.inr 182)) dd_judged_51 rfl rfl rfl rfl ?_
    refine R_gf (v := .inr (.inr 195)) dd_judged_52 fd_12_116 io_182 (congrArg (fun z : Int => (Sum.inr (Sum.inr z) : LV)) (rf_182_20 hF)) rfl ?_
    refine R_ic dd_judged_55 (by decide) rfl ?_
    refine R_ic dd_judged_56 (by decide) rfl ?_
    refine R_ld (v := .inl v3) dd_judged_57 rfl rfl rfl rfl ?_
    refine R_imul (c := 2 * v3) dd_judged_58 (by omega) (by omega) rfl ?_
    refine R_iadd (c := 2 * v3 + 1) dd_judged_59 (by omega) (by omega) rfl ?_
    refine R_iald (v := (rd h 195 (2 * v3 + 1))) (n := 100) dd_judged_60 ia_195 la_195 (by omega) (rfl) rfl ?_
    refine R_st (ls' := [some (.inr (.inr 182)), some (.inl v1), some (.inl v2), some (.inl v3), some (.inl (rd h 195 (2 * v3 + 1))), o5]) dd_judged_61 rfl rfl rfl (Nat.le_of_ble_eq_true rfl) rfl rfl ?_
    refine R_ld (v := .inl (rd h 195 (2 * v3 + 1))) dd_judged_63 rfl rfl rfl rfl ?_
    refine R_if dd_judged_65 rfl rfl (fun (c3 : 0 ≤ (rd h 195 (2 * v3 + 1))) => ?_) (fun (c3 : (rd h 195 (2 * v3 + 1)) < 0) => ?_)
    · replace k := k.1 c3
      refine R_ld (v := .inr (.inr 182)) dd_judged_89 rfl rfl rfl rfl ?_
      refine R_si dd_judged_90 (by decide) rfl ?_
      refine R_ld (v := .inl (rd h 195 (2 * v3 + 1))) dd_judged_93 rfl rfl rfl rfl ?_
      refine R_ld (v := .inr (.inr 182)) dd_judged_95 rfl rfl rfl rfl ?_
      refine R_gf (v := .inr (.inr 195)) dd_judged_96 fd_12_116 io_182 (congrArg (fun z : Int => (Sum.inr (Sum.inr z) : LV)) (rf_182_20 hF)) rfl ?_
      refine R_ic dd_judged_99 (by decide) rfl ?_
      refine R_ic dd_judged_100 (by decide) rfl ?_
      refine R_ld (v := .inl v3) dd_judged_101 rfl rfl rfl rfl ?_
      refine R_imul (c := 2 * v3) dd_judged_102 (by omega) (by omega) rfl ?_
      refine R_iadd (c := 2 * v3 + 2) dd_judged_103 (by omega) (by omega) rfl ?_
      refine R_iald (v := (rd h 195 (2 * v3 + 2))) (n := 100) dd_judged_104 ia_195 la_195 (by omega) (rfl) rfl ?_
      obtain ⟨c, hc, k⟩ := k
      exact R_call (as := [.inr (.inr 182), .inl 1470, .inl (rd h 195 (2 * v3 + 1)), .inl (rd h 195 (2 * v3 + 2))]) (rest := []) (M' := mm_goes) (ls0 := [some (.inr (.inr 182)), some (.inl 1470), some (.inl (rd h 195 (2 * v3 + 1))), some (.inl (rd h 195 (2 * v3 + 2))), none]) dd_judged_105 rfl rfl (cw_v cw_12_377 io_182 rfl rfl (Nat.le_of_ble_eq_true rfl) (Nat.le_of_ble_eq_true rfl)) mt_goes rfl hc rfl k
    · replace k := k.2 c3
      refine R_ld (v := .inr (.inr 182)) dd_judged_68 rfl rfl rfl rfl ?_
      refine R_gf (v := .inr (.inr 198)) dd_judged_69 fd_12_125 io_182 (congrArg (fun z : Int => (Sum.inr (Sum.inr z) : LV)) (rf_182_24 hF)) rfl ?_
      refine R_si dd_judged_72 (by decide) rfl ?_
      refine R_iald (v := (rd h 198 1470)) (n := 1610) dd_judged_75 ia_198 la_198 (by decide) (rfl) rfl ?_
      refine R_bi dd_judged_76 (by decide) rfl ?_
      refine R_icmp dd_judged_78 rfl rfl (fun (c4 : 24 ≤ (rd h 198 1470)) => ?_) (fun (c4 : (rd h 198 1470) < 24) => ?_)
      · replace k := k.1 c4
        refine R_ic dd_judged_85 (by decide) rfl ?_
        refine R_goto dd_judged_86 rfl ?_
        refine R_st (ls' := [some (.inr (.inr 182)), some (.inl v1), some (.inl v2), some (.inl v3), some (.inl (rd h 195 (2 * v3 + 1))), some (.inl 0)]) dd_judged_116 rfl rfl rfl (Nat.le_of_ble_eq_true rfl) rfl rfl ?_
        exact k
      · replace k := k.2 c4
        refine R_ic dd_judged_81 (by decide) rfl ?_
        refine R_goto dd_judged_82 rfl ?_
        refine R_st (ls' := [some (.inr (.inr 182)), some (.inl v1), some (.inl v2), some (.inl v3), some (.inl (rd h 195 (2 * v3 + 1))), some (.inl 1)]) dd_judged_116 rfl rfl rfl (Nat.le_of_ble_eq_true rfl) rfl rfl ?_
        exact k
theorem B_judged_108 {xs : Nat → Int} {xl e : Nat} {h : LH} {Q : Option LV → LH → Prop} {v1 v2 v3 v4 w0 : Int} {o5 : Option LV} (hF : RF h)
    (k : (w0 < 0 →
        Rn xs xl e mm_judged 118 [some (.inr (.inr 182)), some (.inl v1), some (.inl v2), some (.inl v3), some (.inl v4), some (.inl 0)] [] h Q) ∧
      (0 ≤ w0 →
        Rn xs xl e mm_judged 118 [some (.inr (.inr 182)), some (.inl v1), some (.inl v2), some (.inl v3), some (.inl v4), some (.inl 1)] [] h Q)) :
    Rn xs xl e mm_judged 108 [some (.inr (.inr 182)), some (.inl v1), some (.inl v2), some (.inl v3), some (.inl v4), o5] [.inl w0] h Q := by
  refine R_if dd_judged_108 rfl rfl (fun (c1 : w0 < 0) => ?_) (fun (c1 : 0 ≤ w0) => ?_)
  · replace k := k.1 c1
    refine R_ic dd_judged_115 (by decide) rfl ?_
    refine R_st (ls' := [some (.inr (.inr 182)), some (.inl v1), some (.inl v2), some (.inl v3), some (.inl v4), some (.inl 0)]) dd_judged_116 rfl rfl rfl (Nat.le_of_ble_eq_true rfl) rfl rfl ?_
    exact k
  · replace k := k.2 c1
    refine R_ic dd_judged_111 (by decide) rfl ?_
    refine R_goto dd_judged_112 rfl ?_
    refine R_st (ls' := [some (.inr (.inr 182)), some (.inl v1), some (.inl v2), some (.inl v3), some (.inl v4), some (.inl 1)]) dd_judged_116 rfl rfl rfl (Nat.le_of_ble_eq_true rfl) rfl rfl ?_
    exact k
theorem B_judged_118 {xs : Nat → Int} {xl e : Nat} {h : LH} {Q : Option LV → LH → Prop} {v1 v2 v3 v4 v5 : Int} (hF : RF h)
    (k : (0 ≤ v4 →
        Rn xs xl e mm_judged 130 [some (.inr (.inr 182)), some (.inl v1), some (.inl v2), some (.inl v3), some (.inl v4), some (.inl v5)] [] h Q) ∧
      (v4 < 0 →
        (∃ c, c < e ∧ Rn xs xl c mm_passes 0 [some (.inr (.inr 182)), some (.inl 1470), none] [] h (fun r h' => Rn xs xl e mm_judged 130 [some (.inr (.inr 182)), some (.inl v1), some (.inl v2), some (.inl v3), some (.inl v4), some (.inl v5)] (r.toList ++ []) h' Q)))) :
    Rn xs xl e mm_judged 118 [some (.inr (.inr 182)), some (.inl v1), some (.inl v2), some (.inl v3), some (.inl v4), some (.inl v5)] [] h Q := by
  refine R_ld (v := .inl v4) dd_judged_118 rfl rfl rfl rfl ?_
  refine R_if dd_judged_120 rfl rfl (fun (c2 : 0 ≤ v4) => ?_) (fun (c2 : v4 < 0) => ?_)
  · replace k := k.1 c2
    exact k
  · replace k := k.2 c2
    refine R_ld (v := .inr (.inr 182)) dd_judged_123 rfl rfl rfl rfl ?_
    refine R_si dd_judged_124 (by decide) rfl ?_
    obtain ⟨c, hc, k⟩ := k
    exact R_call (as := [.inr (.inr 182), .inl 1470]) (rest := []) (M' := mm_passes) (ls0 := [some (.inr (.inr 182)), some (.inl 1470), none]) dd_judged_127 rfl rfl (cw_v cw_12_383 io_182 rfl rfl (Nat.le_of_ble_eq_true rfl) (Nat.le_of_ble_eq_true rfl)) mt_passes rfl hc rfl k
theorem B_judged_130 {xs : Nat → Int} {xl e : Nat} {h : LH} {Q : Option LV → LH → Prop} {v1 v2 v3 v4 v5 : Int} (hF : RF h) (r_v3 : 0 ≤ v3 ∧ v3 ≤ 23)
    (k : (v5 ≠ 0 →
        Rn xs xl e mm_judged 41 [some (.inr (.inr 182)), some (.inl v1), some (.inl v2), some (.inl (v3 + 1)), some (.inl v4), some (.inl v5)] [] h Q) ∧
      (v5 = 0 →
        (0 ≤ v2 →
          Rn xs xl e mm_judged 41 [some (.inr (.inr 182)), some (.inl v1), some (.inl v2), some (.inl (v3 + 1)), some (.inl v4), some (.inl v5)] [] h Q) ∧
        (v2 < 0 →
          Rn xs xl e mm_judged 41 [some (.inr (.inr 182)), some (.inl v1), some (.inl v3), some (.inl (v3 + 1)), some (.inl v4), some (.inl v5)] [] h Q))) :
    Rn xs xl e mm_judged 130 [some (.inr (.inr 182)), some (.inl v1), some (.inl v2), some (.inl v3), some (.inl v4), some (.inl v5)] [] h Q := by
  refine R_ld (v := .inl v5) dd_judged_130 rfl rfl rfl rfl ?_
  refine R_if dd_judged_132 rfl rfl (fun (c1 : v5 ≠ 0) => ?_) (fun (c1 : v5 = 0) => ?_)
  · replace k := k.1 c1
    refine R_ld (v := .inl v2) dd_judged_143 rfl rfl rfl rfl ?_
    refine R_st (ls' := [some (.inr (.inr 182)), some (.inl v1), some (.inl v2), some (.inl v3), some (.inl v4), some (.inl v5)]) dd_judged_144 rfl rfl rfl (Nat.le_of_ble_eq_true rfl) rfl rfl ?_
    refine R_inc (y := v3 + 1) (ls' := [some (.inr (.inr 182)), some (.inl v1), some (.inl v2), some (.inl (v3 + 1)), some (.inl v4), some (.inl v5)]) dd_judged_145 rfl (by decide) (by omega) (by omega) rfl rfl ?_
    refine R_goto dd_judged_148 rfl ?_
    exact k
  · replace k := k.2 c1
    refine R_ld (v := .inl v2) dd_judged_135 rfl rfl rfl rfl ?_
    refine R_if dd_judged_136 rfl rfl (fun (c2 : 0 ≤ v2) => ?_) (fun (c2 : v2 < 0) => ?_)
    · replace k := k.1 c2
      refine R_ld (v := .inl v2) dd_judged_143 rfl rfl rfl rfl ?_
      refine R_st (ls' := [some (.inr (.inr 182)), some (.inl v1), some (.inl v2), some (.inl v3), some (.inl v4), some (.inl v5)]) dd_judged_144 rfl rfl rfl (Nat.le_of_ble_eq_true rfl) rfl rfl ?_
      refine R_inc (y := v3 + 1) (ls' := [some (.inr (.inr 182)), some (.inl v1), some (.inl v2), some (.inl (v3 + 1)), some (.inl v4), some (.inl v5)]) dd_judged_145 rfl (by decide) (by omega) (by omega) rfl rfl ?_
      refine R_goto dd_judged_148 rfl ?_
      exact k
    · replace k := k.2 c2
      refine R_ld (v := .inl v3) dd_judged_139 rfl rfl rfl rfl ?_
      refine R_goto dd_judged_140 rfl ?_
      refine R_st (ls' := [some (.inr (.inr 182)), some (.inl v1), some (.inl v3), some (.inl v3), some (.inl v4), some (.inl v5)]) dd_judged_144 rfl rfl rfl (Nat.le_of_ble_eq_true rfl) rfl rfl ?_
      refine R_inc (y := v3 + 1) (ls' := [some (.inr (.inr 182)), some (.inl v1), some (.inl v3), some (.inl (v3 + 1)), some (.inl v4), some (.inl v5)]) dd_judged_145 rfl (by decide) (by omega) (by omega) rfl rfl ?_
      refine R_goto dd_judged_148 rfl ?_
      exact k
theorem B_judged_151 {xs : Nat → Int} {xl e : Nat} {h : LH} {Q : Option LV → LH → Prop} {v1 v2 v3 : Int} {o4 : Option LV} {o5 : Option LV} (hF : RF h)
    (k : (0 ≤ v1 →
        (-2147483648 ≤ v1 + 1472 ∧ v1 + 1472 ≤ 2147483647) ∧
        (0 ≤ v1 + 1472 ∧ v1 + 1472 < 1610) ∧
        Q (some (.inl (rd h 198 (v1 + 1472)))) h) ∧
      (v1 < 0 →
        Q (some (.inl v2)) h)) :
    Rn xs xl e mm_judged 151 [some (.inr (.inr 182)), some (.inl v1), some (.inl v2), some (.inl v3), o4, o5] [] h Q := by
  refine R_ld (v := .inl v1) dd_judged_151 rfl rfl rfl rfl ?_
  refine R_if dd_judged_152 rfl rfl (fun (c3 : 0 ≤ v1) => ?_) (fun (c3 : v1 < 0) => ?_)
  · replace k := k.1 c3
    refine R_ld (v := .inr (.inr 182)) dd_judged_159 rfl rfl rfl rfl ?_
    refine R_gf (v := .inr (.inr 198)) dd_judged_160 fd_12_125 io_182 (congrArg (fun z : Int => (Sum.inr (Sum.inr z) : LV)) (rf_182_24 hF)) rfl ?_
    refine R_si dd_judged_163 (by decide) rfl ?_
    refine R_ld (v := .inl v1) dd_judged_166 rfl rfl rfl rfl ?_
    obtain ⟨s1, k⟩ := k
    refine R_iadd (c := v1 + 1472) dd_judged_167 (by omega) s1 rfl ?_
    obtain ⟨s2, k⟩ := k
    refine R_iald (v := (rd h 198 (v1 + 1472))) (n := 1610) dd_judged_168 ia_198 la_198 s2 (rfl) rfl ?_
    exact R_iret dd_judged_169 rfl k
  · replace k := k.2 c3
    refine R_ld (v := .inl v2) dd_judged_155 rfl rfl rfl rfl ?_
    refine R_goto dd_judged_156 rfl ?_
    exact R_iret dd_judged_169 rfl k
