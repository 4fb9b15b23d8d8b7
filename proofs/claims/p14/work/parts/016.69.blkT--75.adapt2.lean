section
/-! LM, by program (wip/p2/hand.py): rows of go, passes, judged -/
def mm_passes : LM_M := (⟨"OneSidedModel", "passes", "(I)V"⟩, prog_14_method_63_code, 3, none, 12, 2, 0, 1633, 1632, 1000106)
def mm_go : LM_M := (⟨"OneSidedModel", "go", "(II)I"⟩, prog_14_method_62_code, 3, (some .int), 12, 3, 0, 1613, 1611, 1612)
def mm_isPerson : LM_M := (⟨"OneSidedModel", "isPerson", "(I)Z"⟩, prog_14_method_53_code, 2, (some .boolean), 12, 2, 0, 1571, 1570, 1000095)
def mm_people : LM_M := (⟨"OneSidedModel", "people", "()I"⟩, prog_14_method_48_code, 1, (some .int), 12, 1, 0, 1575, 1574, 1000096)
def mm_isDoor : LM_M := (⟨"OneSidedModel", "isDoor", "(I)Z"⟩, prog_14_method_52_code, 2, (some .boolean), 12, 2, 0, 1555, 1554, 1000092)
def mm_judged : LM_M := (⟨"OneSidedModel", "judged", "(I)I"⟩, prog_14_method_67_code, 6, (some .int), 12, 2, 0, 1645, 1643, 1644)
theorem dd_passes_0 : decode mm_passes.2.1 0 = .ok (.aload_n 0, 1) := by decide +kernel
theorem dd_passes_1 : decode mm_passes.2.1 1 = .ok (.getfield 125, 3) := by decide +kernel
theorem dd_passes_4 : decode mm_passes.2.1 4 = .ok (.iload_n 1, 1) := by decide +kernel
theorem dd_passes_5 : decode mm_passes.2.1 5 = .ok (.iconst 0, 1) := by decide +kernel
theorem dd_passes_6 : decode mm_passes.2.1 6 = .ok (.iadd, 1) := by decide +kernel
theorem dd_passes_7 : decode mm_passes.2.1 7 = .ok (.dup2, 1) := by decide +kernel
theorem dd_passes_8 : decode mm_passes.2.1 8 = .ok (.iaload, 1) := by decide +kernel
theorem dd_passes_9 : decode mm_passes.2.1 9 = .ok (.aload_n 0, 1) := by decide +kernel
theorem dd_passes_10 : decode mm_passes.2.1 10 = .ok (.getfield 125, 3) := by decide +kernel
theorem dd_passes_13 : decode mm_passes.2.1 13 = .ok (.iload_n 1, 1) := by decide +kernel
theorem dd_passes_14 : decode mm_passes.2.1 14 = .ok (.iconst 0, 1) := by decide +kernel
theorem dd_passes_15 : decode mm_passes.2.1 15 = .ok (.iadd, 1) := by decide +kernel
theorem dd_passes_16 : decode mm_passes.2.1 16 = .ok (.iaload, 1) := by decide +kernel
theorem dd_passes_17 : decode mm_passes.2.1 17 = .ok (.bipush 24, 2) := by decide +kernel
theorem dd_passes_19 : decode mm_passes.2.1 19 = .ok (.if_icmp .ge (7), 3) := by decide +kernel
theorem dd_passes_26 : decode mm_passes.2.1 26 = .ok (.iconst 0, 1) := by decide +kernel
theorem dd_passes_27 : decode mm_passes.2.1 27 = .ok (.iadd, 1) := by decide +kernel
theorem dd_passes_28 : decode mm_passes.2.1 28 = .ok (.iastore, 1) := by decide +kernel
theorem dd_passes_29 : decode mm_passes.2.1 29 = .ok (.iconst 0, 1) := by decide +kernel
theorem dd_passes_30 : decode mm_passes.2.1 30 = .ok (.istore_n 2, 1) := by decide +kernel
theorem dd_passes_22 : decode mm_passes.2.1 22 = .ok (.iconst 1, 1) := by decide +kernel
theorem dd_passes_23 : decode mm_passes.2.1 23 = .ok (.goto 4, 3) := by decide +kernel
theorem dd_passes_31 : decode mm_passes.2.1 31 = .ok (.iload_n 2, 1) := by decide +kernel
theorem dd_passes_32 : decode mm_passes.2.1 32 = .ok (.bipush 6, 2) := by decide +kernel
theorem dd_passes_34 : decode mm_passes.2.1 34 = .ok (.if_icmp .ge (21), 3) := by decide +kernel
theorem dd_passes_55 : decode mm_passes.2.1 55 = .ok (.iconst 0, 1) := by decide +kernel
theorem dd_passes_56 : decode mm_passes.2.1 56 = .ok (.istore_n 2, 1) := by decide +kernel
theorem dd_passes_37 : decode mm_passes.2.1 37 = .ok (.aload_n 0, 1) := by decide +kernel
theorem dd_passes_38 : decode mm_passes.2.1 38 = .ok (.getfield 125, 3) := by decide +kernel
theorem dd_passes_41 : decode mm_passes.2.1 41 = .ok (.iload_n 1, 1) := by decide +kernel
theorem dd_passes_42 : decode mm_passes.2.1 42 = .ok (.bipush 14, 2) := by decide +kernel
theorem dd_passes_44 : decode mm_passes.2.1 44 = .ok (.iadd, 1) := by decide +kernel
theorem dd_passes_45 : decode mm_passes.2.1 45 = .ok (.iload_n 2, 1) := by decide +kernel
theorem dd_passes_46 : decode mm_passes.2.1 46 = .ok (.iadd, 1) := by decide +kernel
theorem dd_passes_47 : decode mm_passes.2.1 47 = .ok (.iconst 0, 1) := by decide +kernel
theorem dd_passes_48 : decode mm_passes.2.1 48 = .ok (.iastore, 1) := by decide +kernel
theorem dd_passes_49 : decode mm_passes.2.1 49 = .ok (.iinc 2 1, 3) := by decide +kernel
theorem dd_passes_52 : decode mm_passes.2.1 52 = .ok (.goto (-21), 3) := by decide +kernel
theorem dd_passes_57 : decode mm_passes.2.1 57 = .ok (.iload_n 2, 1) := by decide +kernel
theorem dd_passes_58 : decode mm_passes.2.1 58 = .ok (.bipush 14, 2) := by decide +kernel
theorem dd_passes_60 : decode mm_passes.2.1 60 = .ok (.if_icmp .ge (21), 3) := by decide +kernel
theorem dd_passes_81 : decode mm_passes.2.1 81 = .ok (.return_, 1) := by decide +kernel
theorem dd_passes_63 : decode mm_passes.2.1 63 = .ok (.aload_n 0, 1) := by decide +kernel
theorem dd_passes_64 : decode mm_passes.2.1 64 = .ok (.getfield 125, 3) := by decide +kernel
theorem dd_passes_67 : decode mm_passes.2.1 67 = .ok (.iload_n 1, 1) := by decide +kernel
theorem dd_passes_68 : decode mm_passes.2.1 68 = .ok (.bipush 20, 2) := by decide +kernel
theorem dd_passes_70 : decode mm_passes.2.1 70 = .ok (.iadd, 1) := by decide +kernel
theorem dd_passes_71 : decode mm_passes.2.1 71 = .ok (.iload_n 2, 1) := by decide +kernel
theorem dd_passes_72 : decode mm_passes.2.1 72 = .ok (.iadd, 1) := by decide +kernel
theorem dd_passes_73 : decode mm_passes.2.1 73 = .ok (.iconst 0, 1) := by decide +kernel
theorem dd_passes_74 : decode mm_passes.2.1 74 = .ok (.iastore, 1) := by decide +kernel
theorem dd_passes_75 : decode mm_passes.2.1 75 = .ok (.iinc 2 1, 3) := by decide +kernel
theorem dd_passes_78 : decode mm_passes.2.1 78 = .ok (.goto (-21), 3) := by decide +kernel
theorem dd_go_0 : decode mm_go.2.1 0 = .ok (.aload_n 0, 1) := by decide +kernel
theorem dd_go_1 : decode mm_go.2.1 1 = .ok (.iconst 0, 1) := by decide +kernel
theorem dd_go_2 : decode mm_go.2.1 2 = .ok (.putfield 1, 3) := by decide +kernel
theorem dd_go_5 : decode mm_go.2.1 5 = .ok (.aload_n 0, 1) := by decide +kernel
theorem dd_go_6 : decode mm_go.2.1 6 = .ok (.iload_n 1, 1) := by decide +kernel
theorem dd_go_7 : decode mm_go.2.1 7 = .ok (.invokevirtual 367, 3) := by decide +kernel
theorem cw_12_367 : cwOk 12 367 0 201 2 2 12 = true := by decide +kernel
theorem mt_isPerson : MTB 201 = some mm_isPerson := rfl
theorem dd_isPerson_0 : decode mm_isPerson.2.1 0 = .ok (.iload_n 1, 1) := by decide +kernel
theorem dd_isPerson_1 : decode mm_isPerson.2.1 1 = .ok (.ifCond .lt (15), 3) := by decide +kernel
theorem dd_isPerson_16 : decode mm_isPerson.2.1 16 = .ok (.iconst 0, 1) := by decide +kernel
theorem dd_isPerson_17 : decode mm_isPerson.2.1 17 = .ok (.ireturn, 1) := by decide +kernel
theorem dd_go_10 : decode mm_go.2.1 10 = .ok (.ifCond .eq (11), 3) := by decide +kernel
theorem dd_go_21 : decode mm_go.2.1 21 = .ok (.iconst (-1), 1) := by decide +kernel
theorem dd_go_22 : decode mm_go.2.1 22 = .ok (.ireturn, 1) := by decide +kernel
theorem dd_isPerson_4 : decode mm_isPerson.2.1 4 = .ok (.iload_n 1, 1) := by decide +kernel
theorem dd_isPerson_5 : decode mm_isPerson.2.1 5 = .ok (.aload_n 0, 1) := by decide +kernel
theorem dd_isPerson_6 : decode mm_isPerson.2.1 6 = .ok (.invokevirtual 338, 3) := by decide +kernel
theorem cw_12_338 : cwOk 12 338 0 202 1 1 12 = true := by decide +kernel
theorem mt_people : MTB 202 = some mm_people := rfl
theorem dd_people_0 : decode mm_people.2.1 0 = .ok (.aload_n 0, 1) := by decide +kernel
theorem dd_people_1 : decode mm_people.2.1 1 = .ok (.getfield 95, 3) := by decide +kernel
theorem dd_people_4 : decode mm_people.2.1 4 = .ok (.iconst 2, 1) := by decide +kernel
theorem dd_people_5 : decode mm_people.2.1 5 = .ok (.iaload, 1) := by decide +kernel
theorem dd_people_6 : decode mm_people.2.1 6 = .ok (.ireturn, 1) := by decide +kernel
theorem dd_isPerson_9 : decode mm_isPerson.2.1 9 = .ok (.if_icmp .ge (7), 3) := by decide +kernel
theorem dd_isPerson_12 : decode mm_isPerson.2.1 12 = .ok (.iconst 1, 1) := by decide +kernel
theorem dd_isPerson_13 : decode mm_isPerson.2.1 13 = .ok (.goto 4, 3) := by decide +kernel
theorem dd_go_13 : decode mm_go.2.1 13 = .ok (.aload_n 0, 1) := by decide +kernel
theorem dd_go_14 : decode mm_go.2.1 14 = .ok (.iload_n 2, 1) := by decide +kernel
theorem dd_go_15 : decode mm_go.2.1 15 = .ok (.invokevirtual 364, 3) := by decide +kernel
theorem cw_12_364 : cwOk 12 364 0 197 2 2 12 = true := by decide +kernel
theorem mt_isDoor : MTB 197 = some mm_isDoor := rfl
theorem dd_isDoor_0 : decode mm_isDoor.2.1 0 = .ok (.iload_n 1, 1) := by decide +kernel
theorem dd_isDoor_1 : decode mm_isDoor.2.1 1 = .ok (.ifCond .lt (15), 3) := by decide +kernel
theorem dd_isDoor_16 : decode mm_isDoor.2.1 16 = .ok (.iconst 0, 1) := by decide +kernel
theorem dd_isDoor_17 : decode mm_isDoor.2.1 17 = .ok (.ireturn, 1) := by decide +kernel
theorem dd_go_18 : decode mm_go.2.1 18 = .ok (.ifCond .ne (5), 3) := by decide +kernel
theorem dd_isDoor_4 : decode mm_isDoor.2.1 4 = .ok (.iload_n 1, 1) := by decide +kernel
theorem dd_isDoor_5 : decode mm_isDoor.2.1 5 = .ok (.aload_n 0, 1) := by decide +kernel
theorem dd_isDoor_6 : decode mm_isDoor.2.1 6 = .ok (.invokevirtual 335, 3) := by decide +kernel
theorem dd_isDoor_9 : decode mm_isDoor.2.1 9 = .ok (.if_icmp .ge (7), 3) := by decide +kernel
theorem dd_isDoor_12 : decode mm_isDoor.2.1 12 = .ok (.iconst 1, 1) := by decide +kernel
theorem dd_isDoor_13 : decode mm_isDoor.2.1 13 = .ok (.goto 4, 3) := by decide +kernel
theorem dd_go_23 : decode mm_go.2.1 23 = .ok (.aload_n 0, 1) := by decide +kernel
theorem dd_go_24 : decode mm_go.2.1 24 = .ok (.iconst 0, 1) := by decide +kernel
theorem dd_go_25 : decode mm_go.2.1 25 = .ok (.sipush 1470, 3) := by decide +kernel
theorem dd_go_28 : decode mm_go.2.1 28 = .ok (.bipush 34, 2) := by decide +kernel
theorem dd_go_30 : decode mm_go.2.1 30 = .ok (.invokevirtual 328, 3) := by decide +kernel
theorem dd_go_33 : decode mm_go.2.1 33 = .ok (.aload_n 0, 1) := by decide +kernel
theorem dd_go_34 : decode mm_go.2.1 34 = .ok (.sipush 1470, 3) := by decide +kernel
theorem dd_go_37 : decode mm_go.2.1 37 = .ok (.iload_n 1, 1) := by decide +kernel
theorem dd_go_38 : decode mm_go.2.1 38 = .ok (.iload_n 2, 1) := by decide +kernel
theorem dd_go_39 : decode mm_go.2.1 39 = .ok (.invokevirtual 377, 3) := by decide +kernel
theorem cw_12_377 : cwOk 12 377 0 214 4 5 12 = true := by decide +kernel
theorem mt_goes : MTB 214 = some mm_goes := rfl
theorem dd_go_42 : decode mm_go.2.1 42 = .ok (.ifCond .ge (5), 3) := by decide +kernel
theorem dd_go_47 : decode mm_go.2.1 47 = .ok (.aload_n 0, 1) := by decide +kernel
theorem dd_go_48 : decode mm_go.2.1 48 = .ok (.invokevirtual 380, 3) := by decide +kernel
theorem cw_12_380 : cwOk 12 380 0 215 1 2 12 = true := by decide +kernel
theorem mt_keeps : MTB 215 = some mm_keeps := rfl
theorem dd_go_45 : decode mm_go.2.1 45 = .ok (.iconst (-1), 1) := by decide +kernel
theorem dd_go_46 : decode mm_go.2.1 46 = .ok (.ireturn, 1) := by decide +kernel
theorem dd_go_51 : decode mm_go.2.1 51 = .ok (.aload_n 0, 1) := by decide +kernel
theorem dd_go_52 : decode mm_go.2.1 52 = .ok (.iconst 0, 1) := by decide +kernel
theorem dd_go_53 : decode mm_go.2.1 53 = .ok (.iload_n 1, 1) := by decide +kernel
theorem dd_go_54 : decode mm_go.2.1 54 = .ok (.iload_n 2, 1) := by decide +kernel
theorem dd_go_55 : decode mm_go.2.1 55 = .ok (.invokevirtual 377, 3) := by decide +kernel
theorem dd_go_58 : decode mm_go.2.1 58 = .ok (.ireturn, 1) := by decide +kernel
theorem dd_judged_0 : decode mm_judged.2.1 0 = .ok (.aload_n 0, 1) := by decide +kernel
theorem dd_judged_1 : decode mm_judged.2.1 1 = .ok (.iconst 0, 1) := by decide +kernel
theorem dd_judged_2 : decode mm_judged.2.1 2 = .ok (.putfield 1, 3) := by decide +kernel
theorem dd_judged_5 : decode mm_judged.2.1 5 = .ok (.iload_n 1, 1) := by decide +kernel
theorem dd_judged_6 : decode mm_judged.2.1 6 = .ok (.iconst (-1), 1) := by decide +kernel
theorem dd_judged_7 : decode mm_judged.2.1 7 = .ok (.if_icmp .eq (14), 3) := by decide +kernel
theorem dd_judged_21 : decode mm_judged.2.1 21 = .ok (.aload_n 0, 1) := by decide +kernel
theorem dd_judged_22 : decode mm_judged.2.1 22 = .ok (.sipush 1470, 3) := by decide +kernel
theorem dd_judged_25 : decode mm_judged.2.1 25 = .ok (.invokevirtual 319, 3) := by decide +kernel
theorem dd_judged_10 : decode mm_judged.2.1 10 = .ok (.aload_n 0, 1) := by decide +kernel
theorem dd_judged_11 : decode mm_judged.2.1 11 = .ok (.iload_n 1, 1) := by decide +kernel
theorem dd_judged_12 : decode mm_judged.2.1 12 = .ok (.invokevirtual 367, 3) := by decide +kernel
theorem dd_judged_15 : decode mm_judged.2.1 15 = .ok (.ifCond .ne (6), 3) := by decide +kernel
theorem dd_judged_18 : decode mm_judged.2.1 18 = .ok (.bipush (-2), 2) := by decide +kernel
theorem dd_judged_20 : decode mm_judged.2.1 20 = .ok (.ireturn, 1) := by decide +kernel
theorem dd_judged_28 : decode mm_judged.2.1 28 = .ok (.aload_n 0, 1) := by decide +kernel
theorem dd_judged_29 : decode mm_judged.2.1 29 = .ok (.getfield 125, 3) := by decide +kernel
theorem dd_judged_32 : decode mm_judged.2.1 32 = .ok (.sipush 1471, 3) := by decide +kernel
theorem dd_judged_35 : decode mm_judged.2.1 35 = .ok (.iconst 0, 1) := by decide +kernel
theorem dd_judged_36 : decode mm_judged.2.1 36 = .ok (.iastore, 1) := by decide +kernel
theorem dd_judged_37 : decode mm_judged.2.1 37 = .ok (.iconst (-1), 1) := by decide +kernel
theorem dd_judged_38 : decode mm_judged.2.1 38 = .ok (.istore_n 2, 1) := by decide +kernel
theorem dd_judged_39 : decode mm_judged.2.1 39 = .ok (.iconst 0, 1) := by decide +kernel
theorem dd_judged_40 : decode mm_judged.2.1 40 = .ok (.istore_n 3, 1) := by decide +kernel
theorem dd_judged_41 : decode mm_judged.2.1 41 = .ok (.iload_n 3, 1) := by decide +kernel
theorem dd_judged_42 : decode mm_judged.2.1 42 = .ok (.aload_n 0, 1) := by decide +kernel
theorem dd_judged_43 : decode mm_judged.2.1 43 = .ok (.getfield 116, 3) := by decide +kernel
theorem dd_judged_46 : decode mm_judged.2.1 46 = .ok (.iconst 0, 1) := by decide +kernel
theorem dd_judged_47 : decode mm_judged.2.1 47 = .ok (.iaload, 1) := by decide +kernel
theorem dd_judged_48 : decode mm_judged.2.1 48 = .ok (.if_icmp .ge (103), 3) := by decide +kernel
theorem dd_judged_51 : decode mm_judged.2.1 51 = .ok (.aload_n 0, 1) := by decide +kernel
theorem dd_judged_52 : decode mm_judged.2.1 52 = .ok (.getfield 116, 3) := by decide +kernel
theorem dd_judged_55 : decode mm_judged.2.1 55 = .ok (.iconst 1, 1) := by decide +kernel
theorem dd_judged_56 : decode mm_judged.2.1 56 = .ok (.iconst 2, 1) := by decide +kernel
theorem dd_judged_57 : decode mm_judged.2.1 57 = .ok (.iload_n 3, 1) := by decide +kernel
theorem dd_judged_58 : decode mm_judged.2.1 58 = .ok (.imul, 1) := by decide +kernel
theorem dd_judged_59 : decode mm_judged.2.1 59 = .ok (.iadd, 1) := by decide +kernel
theorem dd_judged_60 : decode mm_judged.2.1 60 = .ok (.iaload, 1) := by decide +kernel
theorem dd_judged_61 : decode mm_judged.2.1 61 = .ok (.istore 4, 2) := by decide +kernel
theorem dd_judged_63 : decode mm_judged.2.1 63 = .ok (.iload 4, 2) := by decide +kernel
theorem dd_judged_65 : decode mm_judged.2.1 65 = .ok (.ifCond .ge (24), 3) := by decide +kernel
theorem dd_judged_89 : decode mm_judged.2.1 89 = .ok (.aload_n 0, 1) := by decide +kernel
theorem dd_judged_90 : decode mm_judged.2.1 90 = .ok (.sipush 1470, 3) := by decide +kernel
theorem dd_judged_93 : decode mm_judged.2.1 93 = .ok (.iload 4, 2) := by decide +kernel
theorem dd_judged_95 : decode mm_judged.2.1 95 = .ok (.aload_n 0, 1) := by decide +kernel
theorem dd_judged_96 : decode mm_judged.2.1 96 = .ok (.getfield 116, 3) := by decide +kernel
theorem dd_judged_99 : decode mm_judged.2.1 99 = .ok (.iconst 2, 1) := by decide +kernel
theorem dd_judged_100 : decode mm_judged.2.1 100 = .ok (.iconst 2, 1) := by decide +kernel
theorem dd_judged_101 : decode mm_judged.2.1 101 = .ok (.iload_n 3, 1) := by decide +kernel
theorem dd_judged_102 : decode mm_judged.2.1 102 = .ok (.imul, 1) := by decide +kernel
theorem dd_judged_103 : decode mm_judged.2.1 103 = .ok (.iadd, 1) := by decide +kernel
theorem dd_judged_104 : decode mm_judged.2.1 104 = .ok (.iaload, 1) := by decide +kernel
theorem dd_judged_105 : decode mm_judged.2.1 105 = .ok (.invokevirtual 377, 3) := by decide +kernel
theorem dd_judged_68 : decode mm_judged.2.1 68 = .ok (.aload_n 0, 1) := by decide +kernel
theorem dd_judged_69 : decode mm_judged.2.1 69 = .ok (.getfield 125, 3) := by decide +kernel
theorem dd_judged_72 : decode mm_judged.2.1 72 = .ok (.sipush 1470, 3) := by decide +kernel
theorem dd_judged_75 : decode mm_judged.2.1 75 = .ok (.iaload, 1) := by decide +kernel
theorem dd_judged_76 : decode mm_judged.2.1 76 = .ok (.bipush 24, 2) := by decide +kernel
theorem dd_judged_78 : decode mm_judged.2.1 78 = .ok (.if_icmp .ge (7), 3) := by decide +kernel
theorem dd_judged_85 : decode mm_judged.2.1 85 = .ok (.iconst 0, 1) := by decide +kernel
theorem dd_judged_86 : decode mm_judged.2.1 86 = .ok (.goto 30, 3) := by decide +kernel
theorem dd_judged_116 : decode mm_judged.2.1 116 = .ok (.istore 5, 2) := by decide +kernel
theorem dd_judged_81 : decode mm_judged.2.1 81 = .ok (.iconst 1, 1) := by decide +kernel
theorem dd_judged_82 : decode mm_judged.2.1 82 = .ok (.goto 34, 3) := by decide +kernel
theorem dd_judged_108 : decode mm_judged.2.1 108 = .ok (.ifCond .lt (7), 3) := by decide +kernel
theorem dd_judged_115 : decode mm_judged.2.1 115 = .ok (.iconst 0, 1) := by decide +kernel
theorem dd_judged_111 : decode mm_judged.2.1 111 = .ok (.iconst 1, 1) := by decide +kernel
theorem dd_judged_112 : decode mm_judged.2.1 112 = .ok (.goto 4, 3) := by decide +kernel
theorem dd_judged_118 : decode mm_judged.2.1 118 = .ok (.iload 4, 2) := by decide +kernel
theorem dd_judged_120 : decode mm_judged.2.1 120 = .ok (.ifCond .ge (10), 3) := by decide +kernel
theorem dd_judged_123 : decode mm_judged.2.1 123 = .ok (.aload_n 0, 1) := by decide +kernel
theorem dd_judged_124 : decode mm_judged.2.1 124 = .ok (.sipush 1470, 3) := by decide +kernel
theorem dd_judged_127 : decode mm_judged.2.1 127 = .ok (.invokevirtual 383, 3) := by decide +kernel
theorem cw_12_383 : cwOk 12 383 0 217 2 3 12 = true := by decide +kernel
theorem mt_passes : MTB 217 = some mm_passes := rfl
theorem dd_judged_130 : decode mm_judged.2.1 130 = .ok (.iload 5, 2) := by decide +kernel
theorem dd_judged_132 : decode mm_judged.2.1 132 = .ok (.ifCond .ne (11), 3) := by decide +kernel
theorem dd_judged_143 : decode mm_judged.2.1 143 = .ok (.iload_n 2, 1) := by decide +kernel
theorem dd_judged_144 : decode mm_judged.2.1 144 = .ok (.istore_n 2, 1) := by decide +kernel
theorem dd_judged_145 : decode mm_judged.2.1 145 = .ok (.iinc 3 1, 3) := by decide +kernel
theorem dd_judged_148 : decode mm_judged.2.1 148 = .ok (.goto (-107), 3) := by decide +kernel
theorem dd_judged_135 : decode mm_judged.2.1 135 = .ok (.iload_n 2, 1) := by decide +kernel
theorem dd_judged_136 : decode mm_judged.2.1 136 = .ok (.ifCond .ge (7), 3) := by decide +kernel
theorem dd_judged_139 : decode mm_judged.2.1 139 = .ok (.iload_n 3, 1) := by decide +kernel
theorem dd_judged_140 : decode mm_judged.2.1 140 = .ok (.goto 4, 3) := by decide +kernel
theorem dd_judged_151 : decode mm_judged.2.1 151 = .ok (.iload_n 1, 1) := by decide +kernel
theorem dd_judged_152 : decode mm_judged.2.1 152 = .ok (.ifCond .ge (7), 3) := by decide +kernel
theorem dd_judged_159 : decode mm_judged.2.1 159 = .ok (.aload_n 0, 1) := by decide +kernel
theorem dd_judged_160 : decode mm_judged.2.1 160 = .ok (.getfield 125, 3) := by decide +kernel
theorem dd_judged_163 : decode mm_judged.2.1 163 = .ok (.sipush 1472, 3) := by decide +kernel
theorem dd_judged_166 : decode mm_judged.2.1 166 = .ok (.iload_n 1, 1) := by decide +kernel
theorem dd_judged_167 : decode mm_judged.2.1 167 = .ok (.iadd, 1) := by decide +kernel
theorem dd_judged_168 : decode mm_judged.2.1 168 = .ok (.iaload, 1) := by decide +kernel
theorem dd_judged_169 : decode mm_judged.2.1 169 = .ok (.ireturn, 1) := by decide +kernel
theorem dd_judged_155 : decode mm_judged.2.1 155 = .ok (.iload_n 2, 1) := by decide +kernel
theorem dd_judged_156 : decode mm_judged.2.1 156 = .ok (.goto 13, 3) := by decide +kernel
theorem B_passes_0 {xs : Nat → Int} {xl e : Nat} {h : LH} {Q : Option LV → LH → Prop} {v1 : Int} (hF : RF h) (r_v1 : 0 ≤ v1 ∧ v1 ≤ 1540)
    (k : (24 ≤ (rd h 198 v1) →
        (-2147483648 ≤ (rd h 198 v1) ∧ (rd h 198 v1) ≤ 2147483647) ∧
        Rn xs xl e mm_passes 31 [some (.inr (.inr 182)), some (.inl v1), some (.inl 0)] [] (wr h 198 v1 (rd h 198 v1)) Q) ∧
      ((rd h 198 v1) < 24 →
        (-2147483648 ≤ (rd h 198 v1) + 1 ∧ (rd h 198 v1) + 1 ≤ 2147483647) ∧
        Rn xs xl e mm_passes 31 [some (.inr (.inr 182)), some (.inl v1), some (.inl 0)] [] (wr h 198 v1 ((rd h 198 v1) + 1)) Q)) :
    Rn xs xl e mm_passes 0 [some (.inr (.inr 182)), some (.inl v1), none] [] h Q := by
  refine R_ld (v := .inr (.inr 182)) dd_passes_0 rfl rfl rfl rfl ?_
  refine R_gf (v := .inr (.inr 198)) dd_passes_1 fd_12_125 io_182 (congrArg (fun z : Int => (Sum.inr (Sum.inr z) : LV)) (rf_182_24 hF)) rfl ?_
  refine R_ld (v := .inl v1) dd_passes_4 rfl rfl rfl rfl ?_
  refine R_ic dd_passes_5 (by decide) rfl ?_
  refine R_iadd (c := v1) dd_passes_6 (by omega) (by omega) rfl ?_
  refine R_A dd_passes_7 rfl rfl rfl rfl ?_
  refine R_iald (v := (rd h 198 v1)) (n := 1610) dd_passes_8 ia_198 la_198 (by omega) (rfl) rfl ?_
  refine R_ld (v := .inr (.inr 182)) dd_passes_9 rfl rfl rfl rfl ?_
  refine R_gf (v := .inr (.inr 198)) dd_passes_10 fd_12_125 io_182 (congrArg (fun z : Int => (Sum.inr (Sum.inr z) : LV)) (rf_182_24 hF)) rfl ?_
  refine R_ld (v := .inl v1) dd_passes_13 rfl rfl rfl rfl ?_
  refine R_ic dd_passes_14 (by decide) rfl ?_
  refine R_iadd (c := v1) dd_passes_15 (by omega) (by omega) rfl ?_
  refine R_iald (v := (rd h 198 v1)) (n := 1610) dd_passes_16 ia_198 la_198 (by omega) (rfl) rfl ?_
  refine R_bi dd_passes_17 (by decide) rfl ?_
  refine R_icmp dd_passes_19 rfl rfl (fun (c3 : 24 ≤ (rd h 198 v1)) => ?_) (fun (c3 : (rd h 198 v1) < 24) => ?_)
  · replace k := k.1 c3
    refine R_ic dd_passes_26 (by decide) rfl ?_
    obtain ⟨s1, k⟩ := k
    refine R_iadd (c := (rd h 198 v1)) dd_passes_27 (by omega) s1 rfl ?_
    refine R_iast (n := 1610) dd_passes_28 ia_198 la_198 (by omega) rfl ?_
    refine R_ic dd_passes_29 (by decide) rfl ?_
    refine R_st (ls' := [some (.inr (.inr 182)), some (.inl v1), some (.inl 0)]) dd_passes_30 rfl rfl rfl (Nat.le_of_ble_eq_true rfl) rfl rfl ?_
    exact k
  · replace k := k.2 c3
    refine R_ic dd_passes_22 (by decide) rfl ?_
    refine R_goto dd_passes_23 rfl ?_
    obtain ⟨s2, k⟩ := k
    refine R_iadd (c := (rd h 198 v1) + 1) dd_passes_27 (by omega) s2 rfl ?_
    refine R_iast (n := 1610) dd_passes_28 ia_198 la_198 (by omega) rfl ?_
    refine R_ic dd_passes_29 (by decide) rfl ?_
    refine R_st (ls' := [some (.inr (.inr 182)), some (.inl v1), some (.inl 0)]) dd_passes_30 rfl rfl rfl (Nat.le_of_ble_eq_true rfl) rfl rfl ?_
    exact k
theorem B_passes_31 {xs : Nat → Int} {xl e : Nat} {h : LH} {Q : Option LV → LH → Prop} {v1 v2 : Int} (hF : RF h) (r_v1 : 0 ≤ v1 ∧ v1 ≤ 1540) (r_v2 : 0 ≤ v2 ∧ v2 ≤ 6)
    (k : (6 ≤ v2 →
        Rn xs xl e mm_passes 57 [some (.inr (.inr 182)), some (.inl v1), some (.inl 0)] [] h Q) ∧
      (v2 < 6 →
        Rn xs xl e mm_passes 31 [some (.inr (.inr 182)), some (.inl v1), some (.inl (v2 + 1))] [] (wr h 198 (v1 + v2 + 14) 0) Q)) :
    Rn xs xl e mm_passes 31 [some (.inr (.inr 182)), some (.inl v1), some (.inl v2)] [] h Q := by
  refine R_ld (v := .inl v2) dd_passes_31 rfl rfl rfl rfl ?_
  refine R_bi dd_passes_32 (by decide) rfl ?_
  refine R_icmp dd_passes_34 rfl rfl (fun (c1 : 6 ≤ v2) => ?_) (fun (c1 : v2 < 6) => ?_)
  · replace k := k.1 c1
    refine R_ic dd_passes_55 (by decide) rfl ?_
    refine R_st (ls' := [some (.inr (.inr 182)), some (.inl v1), some (.inl 0)]) dd_passes_56 rfl rfl rfl (Nat.le_of_ble_eq_true rfl) rfl rfl ?_
    exact k
  · replace k := k.2 c1
    refine R_ld (v := .inr (.inr 182)) dd_passes_37 rfl rfl rfl rfl ?_
    refine R_gf (v := .inr (.inr 198)) dd_passes_38 fd_12_125 io_182 (congrArg (fun z : Int => (Sum.inr (Sum.inr z) : LV)) (rf_182_24 hF)) rfl ?_
    refine R_ld (v := .inl v1) dd_passes_41 rfl rfl rfl rfl ?_
    refine R_bi dd_passes_42 (by decide) rfl ?_
    refine R_iadd (c := v1 + 14) dd_passes_44 (by omega) (by omega) rfl ?_
    refine R_ld (v := .inl v2) dd_passes_45 rfl rfl rfl rfl ?_
    refine R_iadd (c := v1 + v2 + 14) dd_passes_46 (by omega) (by omega) rfl ?_
    refine R_ic dd_passes_47 (by decide) rfl ?_
    refine R_iast (n := 1610) dd_passes_48 ia_198 la_198 (by omega) rfl ?_
    refine R_inc (y := v2 + 1) (ls' := [some (.inr (.inr 182)), some (.inl v1), some (.inl (v2 + 1))]) dd_passes_49 rfl (by decide) (by omega) (by omega) rfl rfl ?_
    refine R_goto dd_passes_52 rfl ?_
    exact k
theorem B_passes_57 {xs : Nat → Int} {xl e : Nat} {h : LH} {Q : Option LV → LH → Prop} {v1 v2 : Int} (hF : RF h) (r_v1 : 0 ≤ v1 ∧ v1 ≤ 1540) (r_v2 : 0 ≤ v2 ∧ v2 ≤ 14)
    (k : (14 ≤ v2 →
        Q none h) ∧
      (v2 < 14 →
        Rn xs xl e mm_passes 57 [some (.inr (.inr 182)), some (.inl v1), some (.inl (v2 + 1))] [] (wr h 198 (v1 + v2 + 20) 0) Q)) :
    Rn xs xl e mm_passes 57 [some (.inr (.inr 182)), some (.inl v1), some (.inl v2)] [] h Q := by
  refine R_ld (v := .inl v2) dd_passes_57 rfl rfl rfl rfl ?_
  refine R_bi dd_passes_58 (by decide) rfl ?_
  refine R_icmp dd_passes_60 rfl rfl (fun (c1 : 14 ≤ v2) => ?_) (fun (c1 : v2 < 14) => ?_)
  · replace k := k.1 c1
    exact R_vret dd_passes_81 rfl k
  · replace k := k.2 c1
    refine R_ld (v := .inr (.inr 182)) dd_passes_63 rfl rfl rfl rfl ?_
    refine R_gf (v := .inr (.inr 198)) dd_passes_64 fd_12_125 io_182 (congrArg (fun z : Int => (Sum.inr (Sum.inr z) : LV)) (rf_182_24 hF)) rfl ?_
    refine R_ld (v := .inl v1) dd_passes_67 rfl rfl rfl rfl ?_
    refine R_bi dd_passes_68 (by decide) rfl ?_
    refine R_iadd (c := v1 + 20) dd_passes_70 (by omega) (by omega) rfl ?_
    refine R_ld (v := .inl v2) dd_passes_71 rfl rfl rfl rfl ?_
    refine R_iadd (c := v1 + v2 + 20) dd_passes_72 (by omega) (by omega) rfl ?_
    refine R_ic dd_passes_73 (by decide) rfl ?_
    refine R_iast (n := 1610) dd_passes_74 ia_198 la_198 (by omega) rfl ?_
    refine R_inc (y := v2 + 1) (ls' := [some (.inr (.inr 182)), some (.inl v1), some (.inl (v2 + 1))]) dd_passes_75 rfl (by decide) (by omega) (by omega) rfl rfl ?_
    refine R_goto dd_passes_78 rfl ?_
    exact k
theorem B_go_0 {xs : Nat → Int} {xl e : Nat} {h : LH} {Q : Option LV → LH → Prop} {v1 v2 : Int} (hF : RF h) (he : 2 ≤ e)
    (k : (v1 < 0 →
        Q (some (.inl (-1))) (wr h 182 0 0)) ∧
      (0 ≤ v1 →
        ((rd h 188 2) ≤ v1 →
          Q (some (.inl (-1))) (wr h 182 0 0)) ∧
        (v1 < (rd h 188 2) →
          (v2 < 0 →
            Q (some (.inl (-1))) (wr h 182 0 0)) ∧
          (0 ≤ v2 →
            ((rd h 188 1) ≤ v2 →
              Q (some (.inl (-1))) (wr h 182 0 0)) ∧
            (v2 < (rd h 188 1) →
              (∃ c, c < e ∧ Rn xs xl c mm_copies 0 [some (.inr (.inr 182)), some (.inl 0), some (.inl 1470), some (.inl 34), none] [] (wr h 182 0 0) (fun r h' => Rn xs xl e mm_go 33 [some (.inr (.inr 182)), some (.inl v1), some (.inl v2)] (r.toList ++ []) h' Q))))))) :
    Rn xs xl e mm_go 0 [some (.inr (.inr 182)), some (.inl v1), some (.inl v2)] [] h Q := by
  refine R_ld (v := .inr (.inr 182)) dd_go_0 rfl rfl rfl rfl ?_
  refine R_ic dd_go_1 (by decide) rfl ?_
  refine R_pf (z := 0) dd_go_2 fd_12_1 io_182 fn_12_0 rfl rfl ?_
  refine R_ld (v := .inr (.inr 182)) dd_go_5 rfl rfl rfl rfl ?_
  refine R_ld (v := .inl v1) dd_go_6 rfl rfl rfl rfl ?_
  refine R_call (as := [.inr (.inr 182), .inl v1]) (rest := []) (M' := mm_isPerson) (ls0 := [some (.inr (.inr 182)), some (.inl v1)]) dd_go_7 rfl rfl (cw_v cw_12_367 io_182 rfl rfl (Nat.le_of_ble_eq_true rfl) (Nat.le_of_ble_eq_true rfl)) mt_isPerson rfl (c := e - 1) (by omega) rfl ?_
  refine R_ld (v := .inl v1) dd_isPerson_0 rfl rfl rfl rfl ?_
  refine R_if dd_isPerson_1 rfl rfl (fun (c2 : v1 < 0) => ?_) (fun (c2 : 0 ≤ v1) => ?_)
  · replace k := k.1 c2
    refine R_ic dd_isPerson_16 (by decide) rfl ?_
    refine R_zret dd_isPerson_17 rfl (by decide) ?_
    change Rn xs xl e mm_go 10 [some (.inr (.inr 182)), some (.inl v1), some (.inl v2)] [.inl 0] (wr h 182 0 0) _
    refine R_if dd_go_10 rfl rfl (fun (c3 : 0 = 0) => ?_) (fun (c3 : 0 ≠ 0) => ?_)
    · skip
      refine R_ic dd_go_21 (by decide) rfl ?_
      exact R_iret dd_go_22 rfl k
    · exact absurd c3 (by omega)
  · replace k := k.2 c2
    refine R_ld (v := .inl v1) dd_isPerson_4 rfl rfl rfl rfl ?_
    refine R_ld (v := .inr (.inr 182)) dd_isPerson_5 rfl rfl rfl rfl ?_
    refine R_call (as := [.inr (.inr 182)]) (rest := [.inl v1]) (M' := mm_people) (ls0 := [some (.inr (.inr 182))]) dd_isPerson_6 rfl rfl (cw_v cw_12_338 io_182 rfl rfl (Nat.le_of_ble_eq_true rfl) (Nat.le_of_ble_eq_true rfl)) mt_people rfl (c := e - 2) (by omega) rfl ?_
    refine R_ld (v := .inr (.inr 182)) dd_people_0 rfl rfl rfl rfl ?_
    refine R_gf (v := .inr (.inr 188)) dd_people_1 fd_12_95 io_182 (congrArg (fun z : Int => (Sum.inr (Sum.inr z) : LV)) ((rdw_nei (by omega)).trans (rf_182_10 hF))) rfl ?_
    refine R_ic dd_people_4 (by decide) rfl ?_
    refine R_iald (v := (rd h 188 2)) (n := 300) dd_people_5 ia_188 la_188 (by decide) (rdw_ne (by decide)) rfl ?_
    refine R_iret dd_people_6 rfl ?_
    change Rn xs xl (e - 1) mm_isPerson 9 [some (.inr (.inr 182)), some (.inl v1)] [.inl (rd h 188 2), .inl v1] (wr h 182 0 0) _
    refine R_icmp dd_isPerson_9 rfl rfl (fun (c4 : (rd h 188 2) ≤ v1) => ?_) (fun (c4 : v1 < (rd h 188 2)) => ?_)
    · replace k := k.1 c4
      refine R_ic dd_isPerson_16 (by decide) rfl ?_
      refine R_zret dd_isPerson_17 rfl (by decide) ?_
      change Rn xs xl e mm_go 10 [some (.inr (.inr 182)), some (.inl v1), some (.inl v2)] [.inl 0] (wr h 182 0 0) _
      refine R_if dd_go_10 rfl rfl (fun (c5 : 0 = 0) => ?_) (fun (c5 : 0 ≠ 0) => ?_)
      · skip
        refine R_ic dd_go_21 (by decide) rfl ?_
        exact R_iret dd_go_22 rfl k
      · exact absurd c5 (by omega)
    · replace k := k.2 c4
      refine R_ic dd_isPerson_12 (by decide) rfl ?_
      refine R_goto dd_isPerson_13 rfl ?_
      refine R_zret dd_isPerson_17 rfl (by decide) ?_
      change Rn xs xl e mm_go 10 [some (.inr (.inr 182)), some (.inl v1), some (.inl v2)] [.inl 1] (wr h 182 0 0) _
      refine R_if dd_go_10 rfl rfl (fun (c6 : 1 = 0) => ?_) (fun (c6 : 1 ≠ 0) => ?_)
      · exact absurd c6 (by omega)
      · skip
        refine R_ld (v := .inr (.inr 182)) dd_go_13 rfl rfl rfl rfl ?_
        refine R_ld (v := .inl v2) dd_go_14 rfl rfl rfl rfl ?_
        refine R_call (as := [.inr (.inr 182), .inl v2]) (rest := []) (M' := mm_isDoor) (ls0 := [some (.inr (.inr 182)), some (.inl v2)]) dd_go_15 rfl rfl (cw_v cw_12_364 io_182 rfl rfl (Nat.le_of_ble_eq_true rfl) (Nat.le_of_ble_eq_true rfl)) mt_isDoor rfl (c := e - 1) (by omega) rfl ?_
        refine R_ld (v := .inl v2) dd_isDoor_0 rfl rfl rfl rfl ?_
        refine R_if dd_isDoor_1 rfl rfl (fun (c7 : v2 < 0) => ?_) (fun (c7 : 0 ≤ v2) => ?_)
        · replace k := k.1 c7
          refine R_ic dd_isDoor_16 (by decide) rfl ?_
          refine R_zret dd_isDoor_17 rfl (by decide) ?_
          change Rn xs xl e mm_go 18 [some (.inr (.inr 182)), some (.inl v1), some (.inl v2)] [.inl 0] (wr h 182 0 0) _
          refine R_if dd_go_18 rfl rfl (fun (c8 : 0 ≠ 0) => ?_) (fun (c8 : 0 = 0) => ?_)
          · exact absurd c8 (by omega)
          · skip
            refine R_ic dd_go_21 (by decide) rfl ?_
            exact R_iret dd_go_22 rfl k
        · replace k := k.2 c7
          refine R_ld (v := .inl v2) dd_isDoor_4 rfl rfl rfl rfl ?_
          refine R_ld (v := .inr (.inr 182)) dd_isDoor_5 rfl rfl rfl rfl ?_
          refine R_call (as := [.inr (.inr 182)]) (rest := [.inl v2]) (M' := mm_doors) (ls0 := [some (.inr (.inr 182))]) dd_isDoor_6 rfl rfl (cw_v cw_12_335 io_182 rfl rfl (Nat.le_of_ble_eq_true rfl) (Nat.le_of_ble_eq_true rfl)) mt_doors rfl (c := e - 2) (by omega) rfl ?_
          refine R_ld (v := .inr (.inr 182)) dd_doors_0 rfl rfl rfl rfl ?_
          refine R_gf (v := .inr (.inr 188)) dd_doors_1 fd_12_95 io_182 (congrArg (fun z : Int => (Sum.inr (Sum.inr z) : LV)) ((rdw_nei (by omega)).trans (rf_182_10 hF))) rfl ?_
          refine R_ic dd_doors_4 (by decide) rfl ?_
          refine R_iald (v := (rd h 188 1)) (n := 300) dd_doors_5 ia_188 la_188 (by decide) (rdw_ne (by decide)) rfl ?_
          refine R_iret dd_doors_6 rfl ?_
          change Rn xs xl (e - 1) mm_isDoor 9 [some (.inr (.inr 182)), some (.inl v2)] [.inl (rd h 188 1), .inl v2] (wr h 182 0 0) _
          refine R_icmp dd_isDoor_9 rfl rfl (fun (c9 : (rd h 188 1) ≤ v2) => ?_) (fun (c9 : v2 < (rd h 188 1)) => ?_)
          · replace k := k.1 c9
            refine R_ic dd_isDoor_16 (by decide) rfl ?_
            refine R_zret dd_isDoor_17 rfl (by decide) ?_
            change Rn xs xl e mm_go 18 [some (.inr (.inr 182)), some (.inl v1), some (.inl v2)] [.inl 0] (wr h 182 0 0) _
            refine R_if dd_go_18 rfl rfl (fun (c10 : 0 ≠ 0) => ?_) (fun (c10 : 0 = 0) => ?_)
            · exact absurd c10 (by omega)
            · skip
              refine R_ic dd_go_21 (by decide) rfl ?_
              exact R_iret dd_go_22 rfl k
          · replace k := k.2 c9
            refine R_ic dd_isDoor_12 (by decide) rfl ?_
            refine R_goto dd_isDoor_13 rfl ?_
            refine R_zret dd_isDoor_17 rfl (by decide) ?_
            change Rn xs xl e mm_go 18 [some (.inr (.inr 182)), some (.inl v1), some (.inl v2)] [.inl 1] (wr h 182 0 0) _
            refine R_if dd_go_18 rfl rfl (fun (c11 : 1 ≠ 0) => ?_) (fun (c11 : 1 = 0) => ?_)
            · skip
              refine R_ld (v := .inr (.inr 182)) dd_go_23 rfl rfl rfl rfl ?_
              refine R_ic dd_go_24 (by decide) rfl ?_
              refine R_si dd_go_25 (by decide) rfl ?_
              refine R_bi dd_go_28 (by decide) rfl ?_
              obtain ⟨c, hc, k⟩ := k
              exact R_call (as := [.inr (.inr 182), .inl 0, .inl 1470, .inl 34]) (rest := []) (M' := mm_copies) (ls0 := [some (.inr (.inr 182)), some (.inl 0), some (.inl 1470), some (.inl 34), none]) dd_go_30 rfl rfl (cw_v cw_12_328 io_182 rfl rfl (Nat.le_of_ble_eq_true rfl) (Nat.le_of_ble_eq_true rfl)) mt_copies rfl hc rfl k
            · exact absurd c11 (by omega)
theorem B_go_33 {xs : Nat → Int} {xl e : Nat} {h : LH} {Q : Option LV → LH → Prop} {v1 v2 : Int} (hF : RF h)
    (k : (∃ c, c < e ∧ Rn xs xl c mm_goes 0 [some (.inr (.inr 182)), some (.inl 1470), some (.inl v1), some (.inl v2), none] [] h (fun r h' => Rn xs xl e mm_go 42 [some (.inr (.inr 182)), some (.inl v1), some (.inl v2)] (r.toList ++ []) h' Q))) :
    Rn xs xl e mm_go 33 [some (.inr (.inr 182)), some (.inl v1), some (.inl v2)] [] h Q := by
  refine R_ld (v := .inr (.inr 182)) dd_go_33 rfl rfl rfl rfl ?_
  refine R_si dd_go_34 (by decide) rfl ?_
  refine R_ld (v := .inl v1) dd_go_37 rfl rfl rfl rfl ?_
  refine R_ld (v := .inl v2) dd_go_38 rfl rfl rfl rfl ?_
  obtain ⟨c, hc, k⟩ := k
  exact R_call (as := [.inr (.inr 182), .inl 1470, .inl v1, .inl v2]) (rest := []) (M' := mm_goes) (ls0 := [some (.inr (.inr 182)), some (.inl 1470), some (.inl v1), some (.inl v2), none]) dd_go_39 rfl rfl (cw_v cw_12_377 io_182 rfl rfl (Nat.le_of_ble_eq_true rfl) (Nat.le_of_ble_eq_true rfl)) mt_goes rfl hc rfl k
theorem B_go_42 {xs : Nat → Int} {xl e : Nat} {h : LH} {Q : Option LV → LH → Prop} {v1 v2 w0 : Int} (hF : RF h)
    (k : (0 ≤ w0 →
        (∃ c, c < e ∧ Rn xs xl c mm_keeps 0 [some (.inr (.inr 182)), none] [] h (fun r h' => Rn xs xl e mm_go 51 [some (.inr (.inr 182)), some (.inl v1), some (.inl v2)] (r.toList ++ []) h' Q))) ∧
      (w0 < 0 →
        Q (some (.inl (-1))) h)) :
    Rn xs xl e mm_go 42 [some (.inr (.inr 182)), some (.inl v1), some (.inl v2)] [.inl w0] h Q := by
  refine R_if dd_go_42 rfl rfl (fun (c2 : 0 ≤ w0) => ?_) (fun (c2 : w0 < 0) => ?_)
  · replace k := k.1 c2
    refine R_ld (v := .inr (.inr 182)) dd_go_47 rfl rfl rfl rfl ?_
    obtain ⟨c, hc, k⟩ := k
    exact R_call (as := [.inr (.inr 182)]) (rest := []) (M' := mm_keeps) (ls0 := [some (.inr (.inr 182)), none]) dd_go_48 rfl rfl (cw_v cw_12_380 io_182 rfl rfl (Nat.le_of_ble_eq_true rfl) (Nat.le_of_ble_eq_true rfl)) mt_keeps rfl hc rfl k
  · replace k := k.2 c2
    refine R_ic dd_go_45 (by decide) rfl ?_
    exact R_iret dd_go_46 rfl k
theorem B_go_51 {xs : Nat → Int} {xl e : Nat} {h : LH} {Q : Option LV → LH → Prop} {v1 v2 : Int} (hF : RF h)
    (k : (∃ c, c < e ∧ Rn xs xl c mm_goes 0 [some (.inr (.inr 182)), some (.inl 0), some (.inl v1), some (.inl v2), none] [] h (fun r h' => Rn xs xl e mm_go 58 [some (.inr (.inr 182)), some (.inl v1), some (.inl v2)] (r.toList ++ []) h' Q))) :
    Rn xs xl e mm_go 51 [some (.inr (.inr 182)), some (.inl v1), some (.inl v2)] [] h Q := by
  refine R_ld (v := .inr (.inr 182)) dd_go_51 rfl rfl rfl rfl ?_
  refine R_ic dd_go_52 (by decide) rfl ?_
  refine R_ld (v := .inl v1) dd_go_53 rfl rfl rfl rfl ?_
  refine R_ld (v := .inl v2) dd_go_54 rfl rfl rfl rfl ?_
  obtain ⟨c, hc, k⟩ := k
  exact R_call (as := [.inr (.inr 182), .inl 0, .inl v1, .inl v2]) (rest := []) (M' := mm_goes) (ls0 := [some (.inr (.inr 182)), some (.inl 0), some (.inl v1), some (.inl v2), none]) dd_go_55 rfl rfl (cw_v cw_12_377 io_182 rfl rfl (Nat.le_of_ble_eq_true rfl) (Nat.le_of_ble_eq_true rfl)) mt_goes rfl hc rfl k
theorem B_go_58 {xs : Nat → Int} {xl e : Nat} {h : LH} {Q : Option LV → LH → Prop} {v1 v2 w0 : Int} (hF : RF h)
    (k : Q (some (.inl w0)) h) :
    Rn xs xl e mm_go 58 [some (.inr (.inr 182)), some (.inl v1), some (.inl v2)] [.inl w0] h Q := by
  exact R_iret dd_go_58 rfl k
theorem B_judged_0 {xs : Nat → Int} {xl e : Nat} {h : LH} {Q : Option LV → LH → Prop} {v1 : Int} (hF : RF h) (he : 2 ≤ e)
    (k : (v1 = (-1) →
        (∃ c, c < e ∧ Rn xs xl c mm_startsDay 0 [some (.inr (.inr 182)), some (.inl 1470), none] [] (wr h 182 0 0) (fun r h' => Rn xs xl e mm_judged 28 [some (.inr (.inr 182)), some (.inl v1), none, none, none, none] (r.toList ++ []) h' Q))) ∧
      (v1 ≠ (-1) →
        (v1 < 0 →
          Q (some (.inl (-2))) (wr h 182 0 0)) ∧
        (0 ≤ v1 →
          ((rd h 188 2) ≤ v1 →
            Q (some (.inl (-2))) (wr h 182 0 0)) ∧
          (v1 < (rd h 188 2) →
            (∃ c, c < e ∧ Rn xs xl c mm_startsDay 0 [some (.inr (.inr 182)), some (.inl 1470), none] [] (wr h 182 0 0) (fun r h' => Rn xs xl e mm_judged 28 [some (.inr (.inr 182)), some (.inl v1), none, none, none, none] (r.toList ++ []) h' Q)))))) :
    Rn xs xl e mm_judged 0 [some (.inr (.inr 182)), some (.inl v1), none, none, none, none] [] h Q := by
  refine R_ld (v := .inr (.inr 182)) dd_judged_0 rfl rfl rfl rfl ?_
  refine R_ic dd_judged_1 (by decide) rfl ?_
  refine R_pf (z := 0) dd_judged_2 fd_12_1 io_182 fn_12_0 rfl rfl ?_
  refine R_ld (v := .inl v1) dd_judged_5 rfl rfl rfl rfl ?_
  refine R_ic dd_judged_6 (by decide) rfl ?_
  refine R_icmp dd_judged_7 rfl rfl (fun (c3 : v1 = (-1)) => ?_) (fun (c3 : v1 ≠ (-1)) => ?_)
  · replace k := k.1 c3
    refine R_ld (v := .inr (.inr 182)) dd_judged_21 rfl rfl rfl rfl ?_
    refine R_si dd_judged_22 (by decide) rfl ?_
    obtain ⟨c, hc, k⟩ := k
    exact R_call (as := [.inr (.inr 182), .inl 1470]) (rest := []) (M' := mm_startsDay) (ls0 := [some (.inr (.inr 182)), some (.inl 1470), none]) dd_judged_25 rfl rfl (cw_v cw_12_319 io_182 rfl rfl (Nat.le_of_ble_eq_true rfl) (Nat.le_of_ble_eq_true rfl)) mt_startsDay rfl hc rfl k
  · replace k := k.2 c3
    refine R_ld (v := .inr (.inr 182)) dd_judged_10 rfl rfl rfl rfl ?_
    refine R_ld (v := .inl v1) dd_judged_11 rfl rfl rfl rfl ?_
    refine R_call (as := [.inr (.inr 182), .inl v1]) (rest := []) (M' := mm_isPerson) (ls0 := [some (.inr (.inr 182)), some (.inl v1)]) dd_judged_12 rfl rfl (cw_v cw_12_367 io_182 rfl rfl (Nat.le_of_ble_eq_true rfl) (Nat.le_of_ble_eq_true rfl)) mt_isPerson rfl (c := e - 1) (by omega) rfl ?_
    refine R_ld (v := .inl v1) dd_isPerson_0 rfl rfl rfl rfl ?_
    refine R_if dd_isPerson_1 rfl rfl (fun (c4 : v1 < 0) => ?_) (fun (c4 : 0 ≤ v1) => ?_)
    · replace k := k.1 c4
      refine R_ic dd_isPerson_16 (by decide) rfl ?_
      refine R_zret dd_isPerson_17 rfl (by decide) ?_
      change Rn xs xl e mm_judged 15 [some (.inr (.inr 182)), some (.inl v1), none, none, none, none] [.inl 0] (wr h 182 0 0) _
      refine R_if dd_judged_15 rfl rfl (fun (c5 : 0 ≠ 0) => ?_) (fun (c5 : 0 = 0) => ?_)
      · exact absurd c5 (by omega)
      · skip
        refine R_bi dd_judged_18 (by decide) rfl ?_
        exact R_iret dd_judged_20 rfl k
    · replace k := k.2 c4
      refine R_ld (v := .inl v1) dd_isPerson_4 rfl rfl rfl rfl ?_
      refine R_ld (v := .inr (.inr 182)) dd_isPerson_5 rfl rfl rfl rfl ?_
      refine R_call (as := [.inr (.inr 182)]) (rest := [.inl v1]) (M' := mm_people) (ls0 := [some (.inr (.inr 182))]) dd_isPerson_6 rfl rfl (cw_v cw_12_338 io_182 rfl rfl (Nat.le_of_ble_eq_true rfl) (Nat.le_of_ble_eq_true rfl)) mt_people rfl (c := e - 2) (by omega) rfl ?_
      refine R_ld (v := .inr (.inr 182)) dd_people_0 rfl rfl rfl rfl ?_
      refine R_gf (v := .inr (.inr 188)) dd_people_1 fd_12_95 io_182 (congrArg (fun z : Int => (Sum.inr (Sum.inr z) : LV)) ((rdw_nei (by omega)).trans (rf_182_10 hF))) rfl ?_
      refine R_ic dd_people_4 (by decide) rfl ?_
      refine R_iald (v := (rd h 188 2)) (n := 300) dd_people_5 ia_188 la_188 (by decide) (rdw_ne (by decide)) rfl ?_
      refine R_iret dd_people_6 rfl ?_
      change Rn xs xl (e - 1) mm_isPerson 9 [some (.inr (.inr 182)), some (.inl v1)] [.inl (rd h 188 2), .inl v1] (wr h 182 0 0) _
      refine R_icmp dd_isPerson_9 rfl rfl (fun (c6 : (rd h 188 2) ≤ v1) => ?_) (fun (c6 : v1 < (rd h 188 2)) => ?_)
      · replace k := k.1 c6
        refine R_ic dd_isPerson_16 (by decide) rfl ?_
        refine R_zret dd_isPerson_17 rfl (by decide) ?_
        change Rn xs xl e mm_judged 15 [some (.inr (.inr 182)), some (.inl v1), none, none, none, none] [.inl 0] (wr h 182 0 0) _
        refine R_if dd_judged_15 rfl rfl (fun (c7 : 0 ≠ 0) => ?_) (fun (c7 : 0 = 0) => ?_)
        · exact absurd c7 (by omega)
        · skip
          refine R_bi dd_judged_18 (by decide) rfl ?_
          exact R_iret dd_judged_20 rfl k
      · replace k := k.2 c6
        refine R_ic dd_isPerson_12 (by decide) rfl ?_
        refine R_goto dd_isPerson_13 rfl ?_
        refine R_zret dd_isPerson_17 rfl (by decide) ?_
        change Rn xs xl e mm_judged 15 [some (.inr (.inr 182)), some (.inl v1), none, none, none, none] [.inl 1] (wr h 182 0 0) _
        refine R_if dd_judged_15 rfl rfl (fun (c8 : 1 ≠ 0) => ?_) (fun (c8 : 1 = 0) => ?_)
        · skip
          refine R_ld (v := .inr (.inr 182)) dd_judged_21 rfl rfl rfl rfl ?_
          refine R_si dd_judged_22 (by decide) rfl ?_
          obtain ⟨c, hc, k⟩ := k
          exact R_call (as := [.inr (.inr 182), .inl 1470]) (rest := []) (M' := mm_startsDay) (ls0 := [some (.inr (.inr 182)), some (.inl 1470), none]) dd_judged_25 rfl rfl (cw_v cw_12_319 io_182 rfl rfl (Nat.le_of_ble_eq_true rfl) (Nat.le_of_ble_eq_true rfl)) mt_startsDay rfl hc rfl k
        · exact absurd c8 (by omega)
theorem B_judged_28 {xs : Nat → Int} {xl e : Nat} {h : LH} {Q : Option LV → LH → Prop} {v1 : Int} (hF : RF h)
    (k : Rn xs xl e mm_judged 41 [some (.inr (.inr 182)), some (.inl v1), some (.inl (-1)), some (.inl 0), none, none] [] (wr h 198 1471 0) Q) :
    Rn xs xl e mm_judged 28 [some (.inr (.inr 182)), some (.inl v1), none, none, none, none] [] h Q := by
  refine R_ld (v := .inr (.inr 182)) dd_judged_28 rfl rfl rfl rfl ?_
  refine R_gf (v := .inr (.inr 198)) dd_judged_29 fd_12_125 io_182 (congrArg (fun z : Int => (Sum.inr (Sum.inr z) : LV)) (rf_182_24 hF)) rfl ?_
  refine R_si dd_judged_32 (by decide) rfl ?_
  refine R_ic dd_judged_35 (by decide) rfl ?_
  refine R_iast (n := 1610) dd_judged_36 ia_198 la_198 (by decide) rfl ?_
  refine R_ic dd_judged_37 (by decide) rfl ?_
  refine R_st (ls' := [some (.inr (.inr 182)), some (.inl v1), some (.inl (-1)), none, none, none]) dd_judged_38 rfl rfl rfl (Nat.le_of_ble_eq_true rfl) rfl rfl ?_
  refine R_ic dd_judged_39 (by decide) rfl ?_
  refine R_st (ls' := [some (.inr (.inr 182)), some (.inl v1), some (.inl (-1)), some (.inl 0), none, none]) dd_judged_40 rfl rfl rfl (Nat.le_of_ble_eq_true rfl) rfl rfl ?_
  exact k
theorem B_judged_41 {xs : Nat → Int} {xl e : Nat} {h : LH} {Q : Option LV → LH → Prop} {v1 v2 v3 : Int} {o4 : Option LV} {o5 : Option LV} (hF : RF h) (r_v3 : 0 ≤ v3 ∧ v3 ≤ 24)
    (k : ((rd h 195 0) ≤ v3 →
        Rn xs xl e mm_judged 151 [some (.inr (.inr 182)), some (.inl v1), some (.inl v2), some (.inl v3), o4, o5] [] h Q) ∧
      (v3 < (rd h 195 0) →
        (0 ≤ (rd h 195 (2 * v3 + 1)) →
          (∃ c, c < e ∧ Rn xs xl c mm_goes 0 [some (.inr (.inr 182)), some (.inl 1470), some (.inl (rd h 195 (2 * v3 + 1))), some (.inl (rd h 195 (2 * v3 + 2))), none] [] h (fun r h' => Rn xs xl e mm_judged 108 [some (.inr (.inr 182)), some (.inl v1), some (.inl v2), some (.inl v3), some (.inl (rd h 195 (2 * v3 + 1))), o5] (r.toList ++ []) h' Q))) ∧
        ((rd h 195 (2 * v3 + 1)) < 0 →
          (24 ≤ (rd h 198 1470) →
            Rn xs xl e mm_judged 118 [some (.inr (.inr 182)), some (.inl v1), some (.inl v2), some (.inl v3), some (.inl (rd h 195 (2 * v3 + 1))), some (.inl 0)] [] h Q) ∧
          ((rd h 198 1470) < 24 →
            Rn xs xl e mm_judged 118 [some (.inr (.inr 182)), some (.inl v1), some (.inl v2), some (.inl v3), some (.inl (rd h 195 (2 * v3 + 1))), some (.inl 1)] [] h Q)))) :
    Rn xs xl e mm_judged 41 [some (.inr (.inr 182)), some (.inl v1), some (.inl v2), some (.inl v3), o4, o5] [] h Q := by
  refine R_ld (v := .inl v3) dd_judged_41 rfl rfl rfl rfl ?_
  refine R_ld (v := .inr (.inr 182)) dd_judged_42 rfl rfl rfl rfl ?_
  refine R_gf (v := .inr (.inr 195)) dd_judged_43 fd_12_116 io_182 (congrArg (fun z : Int => (Sum.inr (Sum.inr z) : LV)) (rf_182_20 hF)) rfl ?_
  refine R_ic dd_judged_46 (by decide) rfl ?_
  refine R_iald (v := (rd h 195 0)) (n := 100) dd_judged_47 ia_195 la_195 (by decide) (rfl) rfl ?_
  refine R_icmp dd_judged_48 rfl rfl (fun (c2 : (rd h 195 0) ≤ v3) => ?_) (fun (c2 : v3 < (rd h 195 0)) => ?_)
  · replace k := k.1 c2
    exact k
  · replace k := k.2 c2
    refine R_ld (v := .inr (.inr 182)) dd_judged_51 rfl rfl rfl rfl ?_
    refine R_gf (v := .inr (.inr 195)) dd_judged_52 fd_12_116 io_182 (congrArg (fun z : Int => (Sum.inr (Sum.inr z) : LV)) (rf_182_20 hF)) rfl ?_
    refine R_ic dd_judged_55 (by decide) rfl ?_
    refine R_ic dd_judged_56 (by decide) rfl ?_
    refine R_ld (v := .inl v3) dd_judged_57 rfl rfl rfl rfl ?_
    refine R_imul (c := 2 * v3) dd_judged_58 (by omega) (by omega) rfl ?_
    refine R_iadd (c := 2 * v3 + 1) dd_judged_59 (by omega) (by omega) rfl ?_
    refine R_iald (v := (rd h 195 (2 * v3 + 1))) (n := 100) dd_judged_60 ia_195 la_195 (by omega) (rfl) rfl ?_
    refine R_st (ls' := [some (.inr (.inr 182)), some (.inl v1), some (.inl v2), some (.inl v3), some (.inl (rd h 195 (2 * v3 + 1))), o5]) dd_judged_61 rfl rfl rfl (Nat.le_of_ble_eq_true rfl) rfl rfl ?_
    refine R_ld (v := .inl (rd h 195 (2 * v3 + 1))) dd_judged_63 rfl rfl rfl rfl ?_
    refine R_if dd_judged_65 rfl rfl (fun (c3 : 0 ≤ (rd h 195 (2 * v3 + 1))) => ?_) (fun (c3 : (rd h 195 (2 * v3 + 1)) < 0) => ?_)
    · replace k := k.1 c3
      refine R_ld (v := .inr (.inr 182)) dd_judged_89 rfl rfl rfl rfl ?_
      refine R_si dd_judged_90 (by decide) rfl ?_
      refine R_ld (v := .inl (rd h 195 (2 * v3 + 1))) dd_judged_93 rfl rfl rfl rfl ?_
      refine R_ld (v := .inr (.inr 182)) dd_judged_95 rfl rfl rfl rfl ?_
      refine R_gf (v := .inr (.inr 195)) dd_judged_96 fd_12_116 io_182 (congrArg (fun z : Int => (Sum.inr (Sum.inr z) : LV)) (rf_182_20 hF)) rfl ?_
      refine R_ic dd_judged_99 (by decide) rfl ?_
      refine R_ic dd_judged_100 (by decide) rfl ?_
      refine R_ld (v := .inl v3) dd_judged_101 rfl rfl rfl rfl ?_
      refine R_imul (c := 2 * v3) dd_judged_102 (by omega) (by omega) rfl ?_
      refine R_iadd (c := 2 * v3 + 2) dd_judged_103 (by omega) (by omega) rfl ?_
      refine R_iald (v := (rd h 195 (2 * v3 + 2))) (n := 100) dd_judged_104 ia_195 la_195 (by omega) (rfl) rfl ?_
      obtain ⟨c, hc, k⟩ := k
      exact R_call (as := [.inr (.inr 182), .inl 1470, .inl (rd h 195 (2 * v3 + 1)), .inl (rd h 195 (2 * v3 + 2))]) (rest := []) (M' := mm_goes) (ls0 := [some (.inr (.inr 182)), some (.inl 1470), some (.inl (rd h 195 (2 * v3 + 1))), some (.inl (rd h 195 (2 * v3 + 2))), none]) dd_judged_105 rfl rfl (cw_v cw_12_377 io_182 rfl rfl (Nat.le_of_ble_eq_true rfl) (Nat.le_of_ble_eq_true rfl)) mt_goes rfl hc rfl k
    · replace k := k.2 c3
      refine R_ld (v := .inr (.inr 182)) dd_judged_68 rfl rfl rfl rfl ?_
      refine R_gf (v := .inr (.inr 198)) dd_judged_69 fd_12_125 io_182 (congrArg (fun z : Int => (Sum.inr (Sum.inr z) : LV)) (rf_182_24 hF)) rfl ?_
      refine R_si dd_judged_72 (by decide) rfl ?_
      refine R_iald (v := (rd h 198 1470)) (n := 1610) dd_judged_75 ia_198 la_198 (by decide) (rfl) rfl ?_
      refine R_bi dd_judged_76 (by decide) rfl ?_
      refine R_icmp dd_judged_78 rfl rfl (fun (c4 : 24 ≤ (rd h 198 1470)) => ?_) (fun (c4 : (rd h 198 1470) < 24) => ?_)
      · replace k := k.1 c4
        refine R_ic dd_judged_85 (by decide) rfl ?_
        refine R_goto dd_judged_86 rfl ?_
        refine R_st (ls' := [some (.inr (.inr 182)), some (.inl v1), some (.inl v2), some (.inl v3), some (.inl (rd h 195 (2 * v3 + 1))), some (.inl 0)]) dd_judged_116 rfl rfl rfl (Nat.le_of_ble_eq_true rfl) rfl rfl ?_
        exact k
      · replace k := k.2 c4
        refine R_ic dd_judged_81 (by decide) rfl ?_
        refine R_goto dd_judged_82 rfl ?_
        refine R_st (ls' := [some (.inr (.inr 182)), some (.inl v1), some (.inl v2), some (.inl v3), some (.inl (rd h 195 (2 * v3 + 1))), some (.inl 1)]) dd_judged_116 rfl rfl rfl (Nat.le_of_ble_eq_true rfl) rfl rfl ?_
        exact k
theorem B_judged_108 {xs : Nat → Int} {xl e : Nat} {h : LH} {Q : Option LV → LH → Prop} {v1 v2 v3 v4 w0 : Int} {o5 : Option LV} (hF : RF h)
    (k : (w0 < 0 →
        Rn xs xl e mm_judged 118 [some (.inr (.inr 182)), some (.inl v1), some (.inl v2), some (.inl v3), some (.inl v4), some (.inl 0)] [] h Q) ∧
      (0 ≤ w0 →
        Rn xs xl e mm_judged 118 [some (.inr (.inr 182)), some (.inl v1), some (.inl v2), some (.inl v3), some (.inl v4), some (.inl 1)] [] h Q)) :
    Rn xs xl e mm_judged 108 [some (.inr (.inr 182)), some (.inl v1), some (.inl v2), some (.inl v3), some (.inl v4), o5] [.inl w0] h Q := by
  refine R_if dd_judged_108 rfl rfl (fun (c1 : w0 < 0) => ?_) (fun (c1 : 0 ≤ w0) => ?_)
  · replace k := k.1 c1
    refine R_ic dd_judged_115 (by decide) rfl ?_
    refine R_st (ls' := [some (.inr (.inr 182)), some (.inl v1), some (.inl v2), some (.inl v3), some (.inl v4), some (.inl 0)]) dd_judged_116 rfl rfl rfl (Nat.le_of_ble_eq_true rfl) rfl rfl ?_
    exact k
  · replace k := k.2 c1
    refine R_ic dd_judged_111 (by decide) rfl ?_
    refine R_goto dd_judged_112 rfl ?_
    refine R_st (ls' := [some (.inr (.inr 182)), some (.inl v1), some (.inl v2), some (.inl v3), some (.inl v4), some (.inl 1)]) dd_judged_116 rfl rfl rfl (Nat.le_of_ble_eq_true rfl) rfl rfl ?_
    exact k
theorem B_judged_118 {xs : Nat → Int} {xl e : Nat} {h : LH} {Q : Option LV → LH → Prop} {v1 v2 v3 v4 v5 : Int} (hF : RF h)
    (k : (0 ≤ v4 →
        Rn xs xl e mm_judged 130 [some (.inr (.inr 182)), some (.inl v1), some (.inl v2), some (.inl v3), some (.inl v4), some (.inl v5)] [] h Q) ∧
      (v4 < 0 →
        (∃ c, c < e ∧ Rn xs xl c mm_passes 0 [some (.inr (.inr 182)), some (.inl 1470), none] [] h (fun r h' => Rn xs xl e mm_judged 130 [some (.inr (.inr 182)), some (.inl v1), some (.inl v2), some (.inl v3), some (.inl v4), some (.inl v5)] (r.toList ++ []) h' Q)))) :
    Rn xs xl e mm_judged 118 [some (.inr (.inr 182)), some (.inl v1), some (.inl v2), some (.inl v3), some (.inl v4), some (.inl v5)] [] h Q := by
  refine R_ld (v := .inl v4) dd_judged_118 rfl rfl rfl rfl ?_
  refine R_if dd_judged_120 rfl rfl (fun (c2 : 0 ≤ v4) => ?_) (fun (c2 : v4 < 0) => ?_)
  · replace k := k.1 c2
    exact k
  · replace k := k.2 c2
    refine R_ld (v := .inr (.inr 182)) dd_judged_123 rfl rfl rfl rfl ?_
    refine R_si dd_judged_124 (by decide) rfl ?_
    obtain ⟨c, hc, k⟩ := k
    exact R_call (as := [.inr (.inr 182), .inl 1470]) (rest := []) (M' := mm_passes) (ls0 := [some (.inr (.inr 182)), some (.inl 1470), none]) dd_judged_127 rfl rfl (cw_v cw_12_383 io_182 rfl rfl (Nat.le_of_ble_eq_true rfl) (Nat.le_of_ble_eq_true rfl)) mt_passes rfl hc rfl k
theorem B_judged_130 {xs : Nat → Int} {xl e : Nat} {h : LH} {Q : Option LV → LH → Prop} {v1 v2 v3 v4 v5 : Int} (hF : RF h) (r_v3 : 0 ≤ v3 ∧ v3 ≤ 23)
    (k : (v5 ≠ 0 →
        Rn xs xl e mm_judged 41 [some (.inr (.inr 182)), some (.inl v1), some (.inl v2), some (.inl (v3 + 1)), some (.inl v4), some (.inl v5)] [] h Q) ∧
      (v5 = 0 →
        (0 ≤ v2 →
          Rn xs xl e mm_judged 41 [some (.inr (.inr 182)), some (.inl v1), some (.inl v2), some (.inl (v3 + 1)), some (.inl v4), some (.inl v5)] [] h Q) ∧
        (v2 < 0 →
          Rn xs xl e mm_judged 41 [some (.inr (.inr 182)), some (.inl v1), some (.inl v3), some (.inl (v3 + 1)), some (.inl v4), some (.inl v5)] [] h Q))) :
    Rn xs xl e mm_judged 130 [some (.inr (.inr 182)), some (.inl v1), some (.inl v2), some (.inl v3), some (.inl v4), some (.inl v5)] [] h Q := by
  refine R_ld (v := .inl v5) dd_judged_130 rfl rfl rfl rfl ?_
  refine R_if dd_judged_132 rfl rfl (fun (c1 : v5 ≠ 0) => ?_) (fun (c1 : v5 = 0) => ?_)
  · replace k := k.1 c1
    refine R_ld (v := .inl v2) dd_judged_143 rfl rfl rfl rfl ?_
    refine R_st (ls' := [some (.inr (.inr 182)), some (.inl v1), some (.inl v2), some (.inl v3), some (.inl v4), some (.inl v5)]) dd_judged_144 rfl rfl rfl (Nat.le_of_ble_eq_true rfl) rfl rfl ?_
    refine R_inc (y := v3 + 1) (ls' := [some (.inr (.inr 182)), some (.inl v1), some (.inl v2), some (.inl (v3 + 1)), some (.inl v4), some (.inl v5)]) dd_judged_145 rfl (by decide) (by omega) (by omega) rfl rfl ?_
    refine R_goto dd_judged_148 rfl ?_
    exact k
  · replace k := k.2 c1
    refine R_ld (v := .inl v2) dd_judged_135 rfl rfl rfl rfl ?_
    refine R_if dd_judged_136 rfl rfl (fun (c2 : 0 ≤ v2) => ?_) (fun (c2 : v2 < 0) => ?_)
    · replace k := k.1 c2
      refine R_ld (v := .inl v2) dd_judged_143 rfl rfl rfl rfl ?_
      refine R_st (ls' := [some (.inr (.inr 182)), some (.inl v1), some (.inl v2), some (.inl v3), some (.inl v4), some (.inl v5)]) dd_judged_144 rfl rfl rfl (Nat.le_of_ble_eq_true rfl) rfl rfl ?_
      refine R_inc (y := v3 + 1) (ls' := [some (.inr (.inr 182)), some (.inl v1), some (.inl v2), some (.inl (v3 + 1)), some (.inl v4), some (.inl v5)]) dd_judged_145 rfl (by decide) (by omega) (by omega) rfl rfl ?_
      refine R_goto dd_judged_148 rfl ?_
      exact k
    · replace k := k.2 c2
      refine R_ld (v := .inl v3) dd_judged_139 rfl rfl rfl rfl ?_
      refine R_goto dd_judged_140 rfl ?_
      refine R_st (ls' := [some (.inr (.inr 182)), some (.inl v1), some (.inl v3), some (.inl v3), some (.inl v4), some (.inl v5)]) dd_judged_144 rfl rfl rfl (Nat.le_of_ble_eq_true rfl) rfl rfl ?_
      refine R_inc (y := v3 + 1) (ls' := [some (.inr (.inr 182)), some (.inl v1), some (.inl v3), some (.inl (v3 + 1)), some (.inl v4), some (.inl v5)]) dd_judged_145 rfl (by decide) (by omega) (by omega) rfl rfl ?_
      refine R_goto dd_judged_148 rfl ?_
      exact k
theorem B_judged_151 {xs : Nat → Int} {xl e : Nat} {h : LH} {Q : Option LV → LH → Prop} {v1 v2 v3 : Int} {o4 : Option LV} {o5 : Option LV} (hF : RF h)
    (k : (0 ≤ v1 →
        (-2147483648 ≤ v1 + 1472 ∧ v1 + 1472 ≤ 2147483647) ∧
        (0 ≤ v1 + 1472 ∧ v1 + 1472 < 1610) ∧
        Q (some (.inl (rd h 198 (v1 + 1472)))) h) ∧
      (v1 < 0 →
        Q (some (.inl v2)) h)) :
    Rn xs xl e mm_judged 151 [some (.inr (.inr 182)), some (.inl v1), some (.inl v2), some (.inl v3), o4, o5] [] h Q := by
  refine R_ld (v := .inl v1) dd_judged_151 rfl rfl rfl rfl ?_
  refine R_if dd_judged_152 rfl rfl (fun (c3 : 0 ≤ v1) => ?_) (fun (c3 : v1 < 0) => ?_)
  · replace k := k.1 c3
    refine R_ld (v := .inr (.inr 182)) dd_judged_159 rfl rfl rfl rfl ?_
    refine R_gf (v := .inr (.inr 198)) dd_judged_160 fd_12_125 io_182 (congrArg (fun z : Int => (Sum.inr (Sum.inr z) : LV)) (rf_182_24 hF)) rfl ?_
    refine R_si dd_judged_163 (by decide) rfl ?_
    refine R_ld (v := .inl v1) dd_judged_166 rfl rfl rfl rfl ?_
    obtain ⟨s1, k⟩ := k
    refine R_iadd (c := v1 + 1472) dd_judged_167 (by omega) s1 rfl ?_
    obtain ⟨s2, k⟩ := k
    refine R_iald (v := (rd h 198 (v1 + 1472))) (n := 1610) dd_judged_168 ia_198 la_198 s2 (rfl) rfl ?_
    exact R_iret dd_judged_169 rfl k
  · replace k := k.2 c3
    refine R_ld (v := .inl v2) dd_judged_155 rfl rfl rfl rfl ?_
    refine R_goto dd_judged_156 rfl ?_
    exact R_iret dd_judged_169 rfl k
end
section
/-! LM, part 70: the reference's passes, go, judged -/
theorem INV_far {h g : LH} (hI : INV h) (r : RNG g) (f : ∀ a i, ¬ (a = 198 ∧ 1470 ≤ i) → a ≠ 196 → a ≠ 197 → rd g a i = rd h a i) : INV g := by
  refine ⟨r, SP_of (fun b j hb => f b j ?_ ?_ ?_) hI.2⟩
  · rintro ⟨rfl, q⟩
    unfold sens at hb
    omega
  · rintro rfl
    unfold sens at hb
    omega
  · rintro rfl
    unfold sens at hb
    omega
theorem INV_ws {h : LH} {i v : Int} (hI : INV h) (r : RNG (wr h 198 i v)) (n : ¬ (2 ≤ i % 70 ∧ i % 70 ≤ 7)) : INV (wr h 198 i v) := by
  refine ⟨r, SP_of (fun b j hb => ?_) hI.2⟩
  rw [rd_wr, if_neg]
  rintro ⟨rfl, rfl⟩
  unfold sens at hb
  omega
section JU
variable {xs : Nat → Int} {xl e : Nat} {h : LH} {Q : Option LV → LH → Prop}
/-- passes -/
theorem D_passes {b : Int} (hI : INV h) (b0 : b % 70 = 0) (hb : 0 ≤ b ∧ b ≤ 1540) (k : ∀ g, INV g → (∀ a i, ¬ (a = 198 ∧ (i = b ∨ (b + 14 ≤ i ∧ i ≤ b + 33))) → rd g a i = rd h a i) → (rd h 198 b < 24 → rd g 198 b = rd h 198 b + 1) → Q none g) : Rn xs xl e mm_passes 0 [some (.inr (.inr 182)), some (.inl b), none] [] h Q := by
  have qh := rs_now hI.1 (i := b) b 0 (by omega) (by omega) (by omega) (by omega) (by omega) (by omega)
  have l57 : ∀ (n : Nat) (g : LH) (v2 : Int), 14 - v2 < n → 0 ≤ v2 → v2 ≤ 14 → INV g → (∀ a i, ¬ (a = 198 ∧ (i = b ∨ (b + 14 ≤ i ∧ i ≤ b + 33))) → rd g a i = rd h a i) → (rd h 198 b < 24 → rd g 198 b = rd h 198 b + 1) → Rn xs xl e mm_passes 57 [some (.inr (.inr 182)), some (.inl b), some (.inl v2)] [] g Q := by
    intro n
    induction n with
    | zero =>
      intro g v2 hn
      omega
    | succ n ih =>
      intro g v2 hn a0 a1 gI gf gt
      refine B_passes_57 (RF_of gI.1) hb ⟨a0, a1⟩ ⟨fun _ => k g gI gf gt, fun c => ?_⟩
      have r1 := ws gI.1 (i := b + v2 + 20) (v := 0) 20 33 (-2147483648) 2147483647 (by omega) (by omega) (by omega) (by decide +kernel) (by omega) (by omega) (by unfold i32; omega)
      refine ih _ (v2 + 1) (by omega) (by omega) (by omega) (INV_ws gI r1 (by omega)) (fun a i q => ?_) (fun q => ?_)
      · rw [rd_wr, if_neg (by omega)]
        exact gf a i q
      · rw [rdw_nei (by omega)]
        exact gt q
  have l31 : ∀ (n : Nat) (g : LH) (v2 : Int), 6 - v2 < n → 0 ≤ v2 → v2 ≤ 6 → INV g → (∀ a i, ¬ (a = 198 ∧ (i = b ∨ (b + 14 ≤ i ∧ i ≤ b + 33))) → rd g a i = rd h a i) → (rd h 198 b < 24 → rd g 198 b = rd h 198 b + 1) → Rn xs xl e mm_passes 31 [some (.inr (.inr 182)), some (.inl b), some (.inl v2)] [] g Q := by
    intro n
    induction n with
    | zero =>
      intro g v2 hn
      omega
    | succ n ih =>
      intro g v2 hn a0 a1 gI gf gt
      refine B_passes_31 (RF_of gI.1) hb ⟨a0, a1⟩ ⟨fun _ => l57 15 g 0 (by omega) (by omega) (by omega) gI gf gt, fun c => ?_⟩
      have r1 := ws gI.1 (i := b + v2 + 14) (v := 0) 14 19 0 1 (by omega) (by omega) (by omega) (by decide +kernel) (by omega) (by omega) (by unfold i32; omega)
      refine ih _ (v2 + 1) (by omega) (by omega) (by omega) (INV_ws gI r1 (by omega)) (fun a i q => ?_) (fun q => ?_)
      · rw [rd_wr, if_neg (by omega)]
        exact gf a i q
      · rw [rdw_nei (by omega)]
        exact gt q
  have st : ∀ v : Int, 0 ≤ v → v ≤ 24 → (rd h 198 b < 24 → v = rd h 198 b + 1) → Rn xs xl e mm_passes 31 [some (.inr (.inr 182)), some (.inl b), some (.inl 0)] [] (wr h 198 b v) Q := by
    intro v v0 v1 v2
    have r1 := ws hI.1 (i := b) (v := v) 0 0 0 24 (by omega) (by omega) (by omega) (by decide +kernel) (by omega) (by omega) (by unfold i32; omega)
    refine l31 7 _ 0 (by omega) (by omega) (by omega) (INV_ws hI r1 (by omega)) (fun a i q => ?_) (fun q => ?_)
    · rw [rd_wr, if_neg (by omega)]
    · rw [rdw_eq]
      exact v2 q
  exact B_passes_0 (RF_of hI.1) hb ⟨fun c => ⟨by omega, st _ (by omega) (by omega) (by omega)⟩, fun c => ⟨by omega, st _ (by omega) (by omega) (by omega)⟩⟩
/-- go, a root -/
theorem D_go {v1 v2 : Int} (he : 6 ≤ e) (hI : INV h) (k : ∀ r g, INV g → (∀ a i, a ≠ 196 → a ≠ 197 → a ≠ 198 → ¬ (a = 182 ∧ (i = 0 ∨ i = 25)) → rd g a i = rd h a i) → Q (some (.inl r)) g) : Rn xs xl e mm_go 0 [some (.inr (.inr 182)), some (.inl v1), some (.inl v2)] [] h Q := by
  have i0 : INV (wr h 182 0 0) := wF_thrown hI (by omega) (by omega)
  have f0 : ∀ a i, ¬ (a = 182 ∧ i = 0) → rd (wr h 182 0 0) a i = rd h a i := fun a i n => by
    rw [rd_wr, if_neg (by omega)]
  have wrong : Q (some (.inl (-1))) (wr h 182 0 0) := k _ _ i0 (fun a i _ _ _ n => f0 a i (by omega))
  have np := rq_people hI.1
  have nd := rq_doors hI.1
  refine B_go_0 (RF_of hI.1) (by omega) ⟨fun _ => wrong, fun c1 => ⟨fun _ => wrong, fun c2 => ⟨fun _ => wrong, fun c3 => ⟨fun _ => wrong, fun c4 => ⟨0, by omega, ?_⟩⟩⟩⟩⟩
  refine D_copies i0.1 (by omega) (by omega) (by omega) (fun u ur uf uc => ?_)
  have uI : INV u := INV_far i0 ur (fun a i n _ _ => uf a i (by omega))
  have fu : ∀ a i, a ≠ 198 → ¬ (a = 182 ∧ i = 0) → rd u a i = rd h a i := fun a i n1 n2 => (uf a i (by omega)).trans (f0 a i n2)
  refine B_go_33 (RF_of ur) ⟨5, by omega, D_goes (by omega) uI (by omega) (by omega) (by omega) (by omega) (fun r g gI r0 r1 _ gf => ?_)⟩
  have fg : ∀ a i, a ≠ 196 → a ≠ 197 → a ≠ 198 → ¬ (a = 182 ∧ i = 0) → rd g a i = rd h a i := fun a i n1 n2 n3 n4 => (gf.1 a i n1 n2 (fun q => n3 q.1)).trans (fu a i n3 n4)
  refine B_go_42 (RF_of gI.1) ⟨fun _ => ⟨1, by omega, D_keeps (by omega) gI (fun w wI wf => ?_)⟩, fun _ => k _ _ gI (fun a i n1 n2 n3 n4 => fg a i n1 n2 n3 (by omega))⟩
  have fw : ∀ a i, a ≠ 196 → a ≠ 197 → a ≠ 198 → ¬ (a = 182 ∧ (i = 0 ∨ i = 25)) → rd w a i = rd h a i := fun a i n1 n2 n3 n4 => (wf a i (by omega) (by omega)).trans (fg a i n1 n2 n3 (by omega))
  refine B_go_51 (RF_of wI.1) ⟨5, by omega, D_goes (by omega) wI (by omega) (by omega) (by omega) (fun _ => by rw [fw 188 1 (by decide) (by decide) (by decide) (by omega)]; exact c4) (fun r g gI r0 r1 _ gf => ?_)⟩
  exact B_go_58 (RF_of gI.1) (k _ _ gI (fun a i n1 n2 n3 n4 => (gf.1 a i n1 n2 (fun q => n3 q.1)).trans (fw a i n1 n2 n3 n4)))
/-- judged, a root -/
theorem D_judged {v1 : Int} (he : 6 ≤ e) (hI : INV h) (k : ∀ r g, INV g → (∀ a i, a ≠ 196 → a ≠ 197 → a ≠ 198 → ¬ (a = 182 ∧ i = 0) → rd g a i = rd h a i) → Q (some (.inl r)) g) : Rn xs xl e mm_judged 0 [some (.inr (.inr 182)), some (.inl v1), none, none, none, none] [] h Q := by
  have i0 : INV (wr h 182 0 0) := wF_thrown hI (by omega) (by omega)
  have f0 : ∀ a i, ¬ (a = 182 ∧ i = 0) → rd (wr h 182 0 0) a i = rd h a i := fun a i n => by
    rw [rd_wr, if_neg (by omega)]
  have wrong : Q (some (.inl (-2))) (wr h 182 0 0) := k _ _ i0 (fun a i _ _ _ n => f0 a i n)
  have np := rq_people hI.1
  have l41 : ∀ (n : Nat) (g : LH) (v2 v3 : Int) (o4 o5 : Option LV), 24 - v3 < n → 0 ≤ v3 → v3 ≤ 24 → (v1 = -1 ∨ (0 ≤ v1 ∧ v1 ≤ 5)) → INV g → (∀ a i, a ≠ 196 → a ≠ 197 → a ≠ 198 → ¬ (a = 182 ∧ i = 0) → rd g a i = rd h a i) → Rn xs xl e mm_judged 41 [some (.inr (.inr 182)), some (.inl v1), some (.inl v2), some (.inl v3), o4, o5] [] g Q := by
    intro n
    induction n with
    | zero =>
      intro g v2 v3 o4 o5 hn
      omega
    | succ n ih =>
      intro g v2 v3 o4 o5 hn a0 a1 hv gI gf
      have n0 := rX_lines gI.1 (i := 0) (by omega) (ix := (0, 0, 0, 0)) (lo := 0) (hi := 24) (st := 1) (by decide +kernel) (pt 0)
      have t130 : ∀ (u : LH) (v4 v5 : Int), v3 ≤ 23 → INV u → (∀ a i, a ≠ 196 → a ≠ 197 → a ≠ 198 → ¬ (a = 182 ∧ i = 0) → rd u a i = rd h a i) → Rn xs xl e mm_judged 130 [some (.inr (.inr 182)), some (.inl v1), some (.inl v2), some (.inl v3), some (.inl v4), some (.inl v5)] [] u Q := fun u v4 v5 l uI uf => B_judged_130 (RF_of uI.1) ⟨a0, l⟩ ⟨fun _ => ih u _ _ _ _ (by omega) (by omega) (by omega) hv uI uf, fun _ => ⟨fun _ => ih u _ _ _ _ (by omega) (by omega) (by omega) hv uI uf, fun _ => ih u _ _ _ _ (by omega) (by omega) (by omega) hv uI uf⟩⟩
      have t118 : ∀ (u : LH) (v4 v5 : Int), v3 ≤ 23 → INV u → (∀ a i, a ≠ 196 → a ≠ 197 → a ≠ 198 → ¬ (a = 182 ∧ i = 0) → rd u a i = rd h a i) → Rn xs xl e mm_judged 118 [some (.inr (.inr 182)), some (.inl v1), some (.inl v2), some (.inl v3), some (.inl v4), some (.inl v5)] [] u Q := fun u v4 v5 l uI uf => B_judged_118 (RF_of uI.1) ⟨fun _ => t130 u v4 v5 l uI uf, fun _ => ⟨0, by omega, D_passes uI (by omega) (by omega) (fun w wI wf _ => t130 w v4 v5 l wI (fun a i n1 n2 n3 n4 => (wf a i (fun q => n3 q.1)).trans (uf a i n1 n2 n3 n4)))⟩⟩
      refine B_judged_41 (RF_of gI.1) ⟨a0, a1⟩ ⟨fun _ => ?_, fun c => ⟨fun c2 => ⟨5, by omega, ?_⟩, fun c2 => ⟨fun _ => t118 g _ _ (by omega) gI gf, fun _ => t118 g _ _ (by omega) gI gf⟩⟩⟩
      · exact B_judged_151 (RF_of gI.1) ⟨fun _ => ⟨by omega, by omega, k _ _ gI gf⟩, fun _ => k _ _ gI gf⟩
      · have p1 := rX_lines gI.1 (i := 2 * v3 + 1) (by omega) (ix := (0, 1, 47, 2)) (lo := -1) (hi := 5) (st := 1) (by decide +kernel) (invs (s := 2) (k := v3) (by omega) (by omega) (by omega))
        have p2 := rX_lines gI.1 (i := 2 * v3 + 2) (by omega) (ix := (0, 2, 48, 2)) (lo := -1) (hi := 13) (st := 1) (by decide +kernel) (invs (s := 2) (k := v3) (by omega) (by omega) (by omega))
        have p3 := (INV4 gI).1.2.2.2.2.2.2.1 v3 a0 (by omega) (by rw [show 1 + 2 * v3 = 2 * v3 + 1 by omega]; exact c2)
        rw [show 1 + 2 * v3 + 1 = 2 * v3 + 2 by omega] at p3
        refine D_goes (by omega) gI (by omega) (by omega) (by omega) (by omega) (fun r u uI r0 r1 _ uf => ?_)
        have fu : ∀ a i, a ≠ 196 → a ≠ 197 → a ≠ 198 → ¬ (a = 182 ∧ i = 0) → rd u a i = rd h a i := fun a i n1 n2 n3 n4 => (uf.1 a i n1 n2 (fun q => n3 q.1)).trans (gf a i n1 n2 n3 n4)
        exact B_judged_108 (RF_of uI.1) ⟨fun _ => t118 u _ _ (by omega) uI fu, fun _ => t118 u _ _ (by omega) uI fu⟩
  have go : (v1 = -1 ∨ (0 ≤ v1 ∧ v1 ≤ 5)) → (∃ c, c < e ∧ Rn xs xl c mm_startsDay 0 [some (.inr (.inr 182)), some (.inl 1470), none] [] (wr h 182 0 0) (fun r h' => Rn xs xl e mm_judged 28 [some (.inr (.inr 182)), some (.inl v1), none, none, none, none] (r.toList ++ []) h' Q)) := by
    intro hv
    refine ⟨1, by omega, D_startsDay (by omega) i0.1 (by omega) (by omega) (by omega) (fun u ur _ uf => ?_)⟩
    have uI : INV u := INV_far i0 ur (fun a i n _ _ => uf a i (by omega))
    have r1 := ws ur (i := 1471) (v := 0) 1 1 (-2147483648) 2147483647 (by omega) (by omega) (by omega) (by decide +kernel) (by omega) (by omega) (by unfold i32; omega)
    refine B_judged_28 (RF_of ur) (l41 25 _ _ 0 _ _ (by omega) (by omega) (by omega) hv (INV_ws uI r1 (by omega)) (fun a i n1 n2 n3 n4 => ?_))
    rw [rdw_ne (fun q => n3 q.symm), uf a i (fun q => n3 q.1)]
    exact f0 a i n4
  exact B_judged_0 (RF_of hI.1) (by omega) ⟨fun c => go (by omega), fun _ => ⟨fun _ => wrong, fun c1 => ⟨fun _ => wrong, fun c2 => go (by omega)⟩⟩⟩
end JU
end
section
/-! LM, by program (wip/p2/hand.py): rows of run, findRun -/
def mm_findRun : LM_M := (⟨"OneSidedModel", "findRun", "()V"⟩, prog_14_method_105_code, 6, none, 12, 1, 0, 1801, 1800, 1000129)
def mm_run : LM_M := (⟨"OneSidedModel", "run", "(I)I"⟩, prog_14_method_106_code, 2, (some .int), 12, 2, 0, 1797, 1795, 1796)
theorem dd_findRun_0 : decode mm_findRun.2.1 0 = .ok (.aload_n 0, 1) := by decide +kernel
theorem dd_findRun_1 : decode mm_findRun.2.1 1 = .ok (.iconst 0, 1) := by decide +kernel
theorem dd_findRun_2 : decode mm_findRun.2.1 2 = .ok (.sipush 1540, 3) := by decide +kernel
theorem dd_findRun_5 : decode mm_findRun.2.1 5 = .ok (.bipush 34, 2) := by decide +kernel
theorem dd_findRun_7 : decode mm_findRun.2.1 7 = .ok (.invokevirtual 328, 3) := by decide +kernel
theorem dd_findRun_10 : decode mm_findRun.2.1 10 = .ok (.iconst 0, 1) := by decide +kernel
theorem dd_findRun_11 : decode mm_findRun.2.1 11 = .ok (.istore_n 1, 1) := by decide +kernel
theorem dd_findRun_12 : decode mm_findRun.2.1 12 = .ok (.aload_n 0, 1) := by decide +kernel
theorem dd_findRun_13 : decode mm_findRun.2.1 13 = .ok (.iconst 0, 1) := by decide +kernel
theorem dd_findRun_14 : decode mm_findRun.2.1 14 = .ok (.putfield 483, 3) := by decide +kernel
theorem fd_12_483 : fld 12 483 = some (12, 52) := by decide +kernel
theorem fn_12_52 : fin 12 52 = false := by decide +kernel
theorem dd_findRun_17 : decode mm_findRun.2.1 17 = .ok (.iconst 1, 1) := by decide +kernel
theorem dd_findRun_18 : decode mm_findRun.2.1 18 = .ok (.istore_n 2, 1) := by decide +kernel
theorem dd_findRun_19 : decode mm_findRun.2.1 19 = .ok (.iload_n 2, 1) := by decide +kernel
theorem dd_findRun_20 : decode mm_findRun.2.1 20 = .ok (.ifCond .eq (239), 3) := by decide +kernel
theorem dd_findRun_23 : decode mm_findRun.2.1 23 = .ok (.aload_n 0, 1) := by decide +kernel
theorem dd_findRun_24 : decode mm_findRun.2.1 24 = .ok (.getfield 125, 3) := by decide +kernel
theorem dd_findRun_27 : decode mm_findRun.2.1 27 = .ok (.sipush 1540, 3) := by decide +kernel
theorem dd_findRun_30 : decode mm_findRun.2.1 30 = .ok (.iaload, 1) := by decide +kernel
theorem dd_findRun_31 : decode mm_findRun.2.1 31 = .ok (.istore_n 3, 1) := by decide +kernel
theorem dd_findRun_32 : decode mm_findRun.2.1 32 = .ok (.iconst 0, 1) := by decide +kernel
theorem dd_findRun_33 : decode mm_findRun.2.1 33 = .ok (.istore 4, 2) := by decide +kernel
theorem dd_findRun_35 : decode mm_findRun.2.1 35 = .ok (.iload 4, 2) := by decide +kernel
theorem dd_findRun_37 : decode mm_findRun.2.1 37 = .ok (.aload_n 0, 1) := by decide +kernel
theorem dd_findRun_38 : decode mm_findRun.2.1 38 = .ok (.invokevirtual 338, 3) := by decide +kernel
theorem dd_findRun_41 : decode mm_findRun.2.1 41 = .ok (.if_icmp .ge (76), 3) := by decide +kernel
theorem dd_findRun_44 : decode mm_findRun.2.1 44 = .ok (.iload_n 3, 1) := by decide +kernel
theorem dd_findRun_45 : decode mm_findRun.2.1 45 = .ok (.bipush 24, 2) := by decide +kernel
theorem dd_findRun_47 : decode mm_findRun.2.1 47 = .ok (.if_icmp .ge (40), 3) := by decide +kernel
theorem dd_findRun_87 : decode mm_findRun.2.1 87 = .ok (.iconst 0, 1) := by decide +kernel
theorem dd_findRun_88 : decode mm_findRun.2.1 88 = .ok (.istore 5, 2) := by decide +kernel
theorem dd_findRun_50 : decode mm_findRun.2.1 50 = .ok (.aload_n 0, 1) := by decide +kernel
theorem dd_findRun_51 : decode mm_findRun.2.1 51 = .ok (.getfield 125, 3) := by decide +kernel
theorem dd_findRun_54 : decode mm_findRun.2.1 54 = .ok (.sipush 1554, 3) := by decide +kernel
theorem dd_findRun_57 : decode mm_findRun.2.1 57 = .ok (.iload 4, 2) := by decide +kernel
theorem dd_findRun_59 : decode mm_findRun.2.1 59 = .ok (.iadd, 1) := by decide +kernel
theorem dd_findRun_60 : decode mm_findRun.2.1 60 = .ok (.iaload, 1) := by decide +kernel
theorem dd_findRun_61 : decode mm_findRun.2.1 61 = .ok (.ifCond .ne (26), 3) := by decide +kernel
theorem dd_findRun_64 : decode mm_findRun.2.1 64 = .ok (.aload_n 0, 1) := by decide +kernel
theorem dd_findRun_65 : decode mm_findRun.2.1 65 = .ok (.sipush 1540, 3) := by decide +kernel
theorem dd_findRun_68 : decode mm_findRun.2.1 68 = .ok (.iload 4, 2) := by decide +kernel
theorem dd_findRun_70 : decode mm_findRun.2.1 70 = .ok (.invokevirtual 416, 3) := by decide +kernel
theorem cw_12_416 : cwOk 12 416 0 226 3 8 12 = true := by decide +kernel
theorem mt_findWay : MTB 226 = some mm_findWay := rfl
theorem dd_findRun_73 : decode mm_findRun.2.1 73 = .ok (.ifCond .lt (14), 3) := by decide +kernel
theorem dd_findRun_76 : decode mm_findRun.2.1 76 = .ok (.aload_n 0, 1) := by decide +kernel
theorem dd_findRun_77 : decode mm_findRun.2.1 77 = .ok (.getfield 400, 3) := by decide +kernel
theorem dd_findRun_80 : decode mm_findRun.2.1 80 = .ok (.ifCond .le (7), 3) := by decide +kernel
theorem dd_findRun_83 : decode mm_findRun.2.1 83 = .ok (.iconst 1, 1) := by decide +kernel
theorem dd_findRun_84 : decode mm_findRun.2.1 84 = .ok (.goto 4, 3) := by decide +kernel
theorem dd_findRun_90 : decode mm_findRun.2.1 90 = .ok (.iload 5, 2) := by decide +kernel
theorem dd_findRun_92 : decode mm_findRun.2.1 92 = .ok (.ifCond .eq (19), 3) := by decide +kernel
theorem dd_findRun_111 : decode mm_findRun.2.1 111 = .ok (.iinc 4 1, 3) := by decide +kernel
theorem dd_findRun_114 : decode mm_findRun.2.1 114 = .ok (.goto (-79), 3) := by decide +kernel
theorem dd_findRun_95 : decode mm_findRun.2.1 95 = .ok (.aload_n 0, 1) := by decide +kernel
theorem dd_findRun_96 : decode mm_findRun.2.1 96 = .ok (.sipush 1540, 3) := by decide +kernel
theorem dd_findRun_99 : decode mm_findRun.2.1 99 = .ok (.iload 4, 2) := by decide +kernel
theorem dd_findRun_101 : decode mm_findRun.2.1 101 = .ok (.aload_n 0, 1) := by decide +kernel
theorem dd_findRun_102 : decode mm_findRun.2.1 102 = .ok (.getfield 144, 3) := by decide +kernel
theorem dd_findRun_105 : decode mm_findRun.2.1 105 = .ok (.iconst 0, 1) := by decide +kernel
theorem dd_findRun_106 : decode mm_findRun.2.1 106 = .ok (.iaload, 1) := by decide +kernel
theorem dd_findRun_107 : decode mm_findRun.2.1 107 = .ok (.invokevirtual 377, 3) := by decide +kernel
theorem dd_findRun_110 : decode mm_findRun.2.1 110 = .ok (.pop, 1) := by decide +kernel
theorem dd_findRun_117 : decode mm_findRun.2.1 117 = .ok (.iconst 0, 1) := by decide +kernel
theorem dd_findRun_118 : decode mm_findRun.2.1 118 = .ok (.istore 4, 2) := by decide +kernel
theorem dd_findRun_120 : decode mm_findRun.2.1 120 = .ok (.iload 4, 2) := by decide +kernel
theorem dd_findRun_122 : decode mm_findRun.2.1 122 = .ok (.aload_n 0, 1) := by decide +kernel
theorem dd_findRun_123 : decode mm_findRun.2.1 123 = .ok (.invokevirtual 338, 3) := by decide +kernel
theorem dd_findRun_126 : decode mm_findRun.2.1 126 = .ok (.if_icmp .ge (107), 3) := by decide +kernel
theorem dd_findRun_129 : decode mm_findRun.2.1 129 = .ok (.aload_n 0, 1) := by decide +kernel
theorem dd_findRun_130 : decode mm_findRun.2.1 130 = .ok (.getfield 125, 3) := by decide +kernel
theorem dd_findRun_133 : decode mm_findRun.2.1 133 = .ok (.sipush 1548, 3) := by decide +kernel
theorem dd_findRun_136 : decode mm_findRun.2.1 136 = .ok (.iload 4, 2) := by decide +kernel
theorem dd_findRun_138 : decode mm_findRun.2.1 138 = .ok (.iadd, 1) := by decide +kernel
theorem dd_findRun_139 : decode mm_findRun.2.1 139 = .ok (.iaload, 1) := by decide +kernel
theorem dd_findRun_140 : decode mm_findRun.2.1 140 = .ok (.iconst 1, 1) := by decide +kernel
theorem dd_findRun_141 : decode mm_findRun.2.1 141 = .ok (.if_icmp .ne (28), 3) := by decide +kernel
theorem dd_findRun_169 : decode mm_findRun.2.1 169 = .ok (.iconst 0, 1) := by decide +kernel
theorem dd_findRun_170 : decode mm_findRun.2.1 170 = .ok (.istore 5, 2) := by decide +kernel
theorem dd_findRun_144 : decode mm_findRun.2.1 144 = .ok (.aload_n 0, 1) := by decide +kernel
theorem dd_findRun_145 : decode mm_findRun.2.1 145 = .ok (.getfield 125, 3) := by decide +kernel
theorem dd_findRun_148 : decode mm_findRun.2.1 148 = .ok (.sipush 1542, 3) := by decide +kernel
theorem dd_findRun_151 : decode mm_findRun.2.1 151 = .ok (.iload 4, 2) := by decide +kernel
theorem dd_findRun_153 : decode mm_findRun.2.1 153 = .ok (.iadd, 1) := by decide +kernel
theorem dd_findRun_154 : decode mm_findRun.2.1 154 = .ok (.iaload, 1) := by decide +kernel
theorem dd_findRun_155 : decode mm_findRun.2.1 155 = .ok (.aload_n 0, 1) := by decide +kernel
theorem dd_findRun_156 : decode mm_findRun.2.1 156 = .ok (.iload 4, 2) := by decide +kernel
theorem dd_findRun_158 : decode mm_findRun.2.1 158 = .ok (.iconst 1, 1) := by decide +kernel
theorem dd_findRun_159 : decode mm_findRun.2.1 159 = .ok (.invokevirtual 325, 3) := by decide +kernel
theorem dd_findRun_162 : decode mm_findRun.2.1 162 = .ok (.if_icmp .ne (7), 3) := by decide +kernel
theorem dd_findRun_165 : decode mm_findRun.2.1 165 = .ok (.iconst 1, 1) := by decide +kernel
theorem dd_findRun_166 : decode mm_findRun.2.1 166 = .ok (.goto 4, 3) := by decide +kernel
theorem dd_findRun_172 : decode mm_findRun.2.1 172 = .ok (.aload_n 0, 1) := by decide +kernel
theorem dd_findRun_173 : decode mm_findRun.2.1 173 = .ok (.dup, 1) := by decide +kernel
theorem dd_findRun_174 : decode mm_findRun.2.1 174 = .ok (.getfield 483, 3) := by decide +kernel
theorem dd_findRun_177 : decode mm_findRun.2.1 177 = .ok (.iload 5, 2) := by decide +kernel
theorem dd_findRun_179 : decode mm_findRun.2.1 179 = .ok (.ifCond .eq (27), 3) := by decide +kernel
theorem dd_findRun_206 : decode mm_findRun.2.1 206 = .ok (.iconst 0, 1) := by decide +kernel
theorem dd_findRun_207 : decode mm_findRun.2.1 207 = .ok (.iadd, 1) := by decide +kernel
theorem dd_findRun_208 : decode mm_findRun.2.1 208 = .ok (.putfield 483, 3) := by decide +kernel
theorem dd_findRun_211 : decode mm_findRun.2.1 211 = .ok (.iload_n 1, 1) := by decide +kernel
theorem dd_findRun_212 : decode mm_findRun.2.1 212 = .ok (.iload 5, 2) := by decide +kernel
theorem dd_findRun_214 : decode mm_findRun.2.1 214 = .ok (.ifCond .eq (10), 3) := by decide +kernel
theorem dd_findRun_224 : decode mm_findRun.2.1 224 = .ok (.iconst 0, 1) := by decide +kernel
theorem dd_findRun_225 : decode mm_findRun.2.1 225 = .ok (.ior, 1) := by decide +kernel
theorem dd_findRun_226 : decode mm_findRun.2.1 226 = .ok (.istore_n 1, 1) := by decide +kernel
theorem dd_findRun_227 : decode mm_findRun.2.1 227 = .ok (.iinc 4 1, 3) := by decide +kernel
theorem dd_findRun_230 : decode mm_findRun.2.1 230 = .ok (.goto (-110), 3) := by decide +kernel
theorem dd_findRun_182 : decode mm_findRun.2.1 182 = .ok (.iload_n 1, 1) := by decide +kernel
theorem dd_findRun_183 : decode mm_findRun.2.1 183 = .ok (.iload 4, 2) := by decide +kernel
theorem dd_findRun_185 : decode mm_findRun.2.1 185 = .ok (.invokestatic 350, 3) := by decide +kernel
theorem dd_findRun_188 : decode mm_findRun.2.1 188 = .ok (.ifCond .ne (18), 3) := by decide +kernel
theorem dd_findRun_191 : decode mm_findRun.2.1 191 = .ok (.iload_n 3, 1) := by decide +kernel
theorem dd_findRun_192 : decode mm_findRun.2.1 192 = .ok (.aload_n 0, 1) := by decide +kernel
theorem dd_findRun_193 : decode mm_findRun.2.1 193 = .ok (.iload 4, 2) := by decide +kernel
theorem dd_findRun_195 : decode mm_findRun.2.1 195 = .ok (.iconst 3, 1) := by decide +kernel
theorem dd_findRun_196 : decode mm_findRun.2.1 196 = .ok (.invokevirtual 325, 3) := by decide +kernel
theorem dd_findRun_199 : decode mm_findRun.2.1 199 = .ok (.if_icmp .gt (7), 3) := by decide +kernel
theorem dd_findRun_217 : decode mm_findRun.2.1 217 = .ok (.iconst 1, 1) := by decide +kernel
theorem dd_findRun_218 : decode mm_findRun.2.1 218 = .ok (.iload 4, 2) := by decide +kernel
theorem dd_findRun_220 : decode mm_findRun.2.1 220 = .ok (.ishl, 1) := by decide +kernel
theorem dd_findRun_221 : decode mm_findRun.2.1 221 = .ok (.goto 4, 3) := by decide +kernel
theorem dd_findRun_202 : decode mm_findRun.2.1 202 = .ok (.iconst 1, 1) := by decide +kernel
theorem dd_findRun_203 : decode mm_findRun.2.1 203 = .ok (.goto 4, 3) := by decide +kernel
theorem dd_findRun_233 : decode mm_findRun.2.1 233 = .ok (.iload_n 3, 1) := by decide +kernel
theorem dd_findRun_234 : decode mm_findRun.2.1 234 = .ok (.bipush 24, 2) := by decide +kernel
theorem dd_findRun_236 : decode mm_findRun.2.1 236 = .ok (.if_icmp .ge (7), 3) := by decide +kernel
theorem dd_findRun_243 : decode mm_findRun.2.1 243 = .ok (.iconst 0, 1) := by decide +kernel
theorem dd_findRun_244 : decode mm_findRun.2.1 244 = .ok (.istore_n 2, 1) := by decide +kernel
theorem dd_findRun_245 : decode mm_findRun.2.1 245 = .ok (.iload_n 2, 1) := by decide +kernel
theorem dd_findRun_246 : decode mm_findRun.2.1 246 = .ok (.ifCond .eq (10), 3) := by decide +kernel
theorem dd_findRun_256 : decode mm_findRun.2.1 256 = .ok (.goto (-237), 3) := by decide +kernel
theorem dd_findRun_239 : decode mm_findRun.2.1 239 = .ok (.iconst 1, 1) := by decide +kernel
theorem dd_findRun_240 : decode mm_findRun.2.1 240 = .ok (.goto 4, 3) := by decide +kernel
theorem dd_findRun_249 : decode mm_findRun.2.1 249 = .ok (.aload_n 0, 1) := by decide +kernel
theorem dd_findRun_250 : decode mm_findRun.2.1 250 = .ok (.sipush 1540, 3) := by decide +kernel
theorem dd_findRun_253 : decode mm_findRun.2.1 253 = .ok (.invokevirtual 383, 3) := by decide +kernel
theorem dd_findRun_259 : decode mm_findRun.2.1 259 = .ok (.aload_n 0, 1) := by decide +kernel
theorem dd_findRun_260 : decode mm_findRun.2.1 260 = .ok (.iconst 0, 1) := by decide +kernel
theorem dd_findRun_261 : decode mm_findRun.2.1 261 = .ok (.putfield 486, 3) := by decide +kernel
theorem fd_12_486 : fld 12 486 = some (12, 53) := by decide +kernel
theorem fn_12_53 : fin 12 53 = false := by decide +kernel
theorem dd_findRun_264 : decode mm_findRun.2.1 264 = .ok (.iconst 0, 1) := by decide +kernel
theorem dd_findRun_265 : decode mm_findRun.2.1 265 = .ok (.istore_n 3, 1) := by decide +kernel
theorem dd_findRun_266 : decode mm_findRun.2.1 266 = .ok (.iload_n 3, 1) := by decide +kernel
theorem dd_findRun_267 : decode mm_findRun.2.1 267 = .ok (.aload_n 0, 1) := by decide +kernel
theorem dd_findRun_268 : decode mm_findRun.2.1 268 = .ok (.invokevirtual 338, 3) := by decide +kernel
theorem dd_findRun_271 : decode mm_findRun.2.1 271 = .ok (.if_icmp .ge (56), 3) := by decide +kernel
theorem dd_findRun_327 : decode mm_findRun.2.1 327 = .ok (.return_, 1) := by decide +kernel
theorem dd_findRun_274 : decode mm_findRun.2.1 274 = .ok (.aload_n 0, 1) := by decide +kernel
theorem dd_findRun_275 : decode mm_findRun.2.1 275 = .ok (.dup, 1) := by decide +kernel
theorem dd_findRun_276 : decode mm_findRun.2.1 276 = .ok (.getfield 486, 3) := by decide +kernel
theorem dd_findRun_279 : decode mm_findRun.2.1 279 = .ok (.aload_n 0, 1) := by decide +kernel
theorem dd_findRun_280 : decode mm_findRun.2.1 280 = .ok (.getfield 125, 3) := by decide +kernel
theorem dd_findRun_283 : decode mm_findRun.2.1 283 = .ok (.sipush 1548, 3) := by decide +kernel
theorem dd_findRun_286 : decode mm_findRun.2.1 286 = .ok (.iload_n 3, 1) := by decide +kernel
theorem dd_findRun_287 : decode mm_findRun.2.1 287 = .ok (.iadd, 1) := by decide +kernel
theorem dd_findRun_288 : decode mm_findRun.2.1 288 = .ok (.iaload, 1) := by decide +kernel
theorem dd_findRun_289 : decode mm_findRun.2.1 289 = .ok (.iconst 1, 1) := by decide +kernel
theorem dd_findRun_290 : decode mm_findRun.2.1 290 = .ok (.if_icmp .ne (26), 3) := by decide +kernel
theorem dd_findRun_316 : decode mm_findRun.2.1 316 = .ok (.iconst 1, 1) := by decide +kernel
theorem dd_findRun_317 : decode mm_findRun.2.1 317 = .ok (.iadd, 1) := by decide +kernel
theorem dd_findRun_318 : decode mm_findRun.2.1 318 = .ok (.putfield 486, 3) := by decide +kernel
theorem dd_findRun_321 : decode mm_findRun.2.1 321 = .ok (.iinc 3 1, 3) := by decide +kernel
theorem dd_findRun_324 : decode mm_findRun.2.1 324 = .ok (.goto (-58), 3) := by decide +kernel
theorem dd_findRun_293 : decode mm_findRun.2.1 293 = .ok (.aload_n 0, 1) := by decide +kernel
theorem dd_findRun_294 : decode mm_findRun.2.1 294 = .ok (.getfield 125, 3) := by decide +kernel
theorem dd_findRun_297 : decode mm_findRun.2.1 297 = .ok (.sipush 1542, 3) := by decide +kernel
theorem dd_findRun_300 : decode mm_findRun.2.1 300 = .ok (.iload_n 3, 1) := by decide +kernel
theorem dd_findRun_301 : decode mm_findRun.2.1 301 = .ok (.iadd, 1) := by decide +kernel
theorem dd_findRun_302 : decode mm_findRun.2.1 302 = .ok (.iaload, 1) := by decide +kernel
theorem dd_findRun_303 : decode mm_findRun.2.1 303 = .ok (.aload_n 0, 1) := by decide +kernel
theorem dd_findRun_304 : decode mm_findRun.2.1 304 = .ok (.iload_n 3, 1) := by decide +kernel
theorem dd_findRun_305 : decode mm_findRun.2.1 305 = .ok (.iconst 1, 1) := by decide +kernel
theorem dd_findRun_306 : decode mm_findRun.2.1 306 = .ok (.invokevirtual 325, 3) := by decide +kernel
theorem dd_findRun_309 : decode mm_findRun.2.1 309 = .ok (.if_icmp .ne (7), 3) := by decide +kernel
theorem dd_findRun_312 : decode mm_findRun.2.1 312 = .ok (.iconst 0, 1) := by decide +kernel
theorem dd_findRun_313 : decode mm_findRun.2.1 313 = .ok (.goto 4, 3) := by decide +kernel
theorem dd_run_0 : decode mm_run.2.1 0 = .ok (.aload_n 0, 1) := by decide +kernel
theorem dd_run_1 : decode mm_run.2.1 1 = .ok (.iconst 0, 1) := by decide +kernel
theorem dd_run_2 : decode mm_run.2.1 2 = .ok (.putfield 1, 3) := by decide +kernel
theorem dd_run_5 : decode mm_run.2.1 5 = .ok (.aload_n 0, 1) := by decide +kernel
theorem dd_run_6 : decode mm_run.2.1 6 = .ok (.invokevirtual 489, 3) := by decide +kernel
theorem cw_12_489 : cwOk 12 489 0 259 1 6 12 = true := by decide +kernel
theorem mt_findRun : MTB 259 = some mm_findRun := rfl
theorem dd_run_9 : decode mm_run.2.1 9 = .ok (.iload_n 1, 1) := by decide +kernel
theorem dd_run_10 : decode mm_run.2.1 10 = .ok (.ifCond .ne (10), 3) := by decide +kernel
theorem dd_run_20 : decode mm_run.2.1 20 = .ok (.iload_n 1, 1) := by decide +kernel
theorem dd_run_21 : decode mm_run.2.1 21 = .ok (.iconst 1, 1) := by decide +kernel
theorem dd_run_22 : decode mm_run.2.1 22 = .ok (.if_icmp .ne (10), 3) := by decide +kernel
theorem dd_run_32 : decode mm_run.2.1 32 = .ok (.iconst (-1), 1) := by decide +kernel
theorem dd_run_33 : decode mm_run.2.1 33 = .ok (.ireturn, 1) := by decide +kernel
theorem dd_run_25 : decode mm_run.2.1 25 = .ok (.aload_n 0, 1) := by decide +kernel
theorem dd_run_26 : decode mm_run.2.1 26 = .ok (.getfield 486, 3) := by decide +kernel
theorem dd_run_29 : decode mm_run.2.1 29 = .ok (.goto 4, 3) := by decide +kernel
theorem dd_run_13 : decode mm_run.2.1 13 = .ok (.aload_n 0, 1) := by decide +kernel
theorem dd_run_14 : decode mm_run.2.1 14 = .ok (.getfield 483, 3) := by decide +kernel
theorem dd_run_17 : decode mm_run.2.1 17 = .ok (.goto 16, 3) := by decide +kernel
theorem B_findRun_0 {xs : Nat → Int} {xl e : Nat} {h : LH} {Q : Option LV → LH → Prop} (hF : RF h)
    (k : (∃ c, c < e ∧ Rn xs xl c mm_copies 0 [some (.inr (.inr 182)), some (.inl 0), some (.inl 1540), some (.inl 34), none] [] h (fun r h' => Rn xs xl e mm_findRun 10 [some (.inr (.inr 182)), none, none, none, none, none] (r.toList ++ []) h' Q))) :
    Rn xs xl e mm_findRun 0 [some (.inr (.inr 182)), none, none, none, none, none] [] h Q := by
  refine R_ld (v := .inr (.inr 182)) dd_findRun_0 rfl rfl rfl rfl ?_
  refine R_ic dd_findRun_1 (by decide) rfl ?_
  refine R_si dd_findRun_2 (by decide) rfl ?_
  refine R_bi dd_findRun_5 (by decide) rfl ?_
  obtain ⟨c, hc, k⟩ := k
  exact R_call (as := [.inr (.inr 182), .inl 0, .inl 1540, .inl 34]) (rest := []) (M' := mm_copies) (ls0 := [some (.inr (.inr 182)), some (.inl 0), some (.inl 1540), some (.inl 34), none]) dd_findRun_7 rfl rfl (cw_v cw_12_328 io_182 rfl rfl (Nat.le_of_ble_eq_true rfl) (Nat.le_of_ble_eq_true rfl)) mt_copies rfl hc rfl k
theorem B_findRun_10 {xs : Nat → Int} {xl e : Nat} {h : LH} {Q : Option LV → LH → Prop} (hF : RF h)
    (k : Rn xs xl e mm_findRun 19 [some (.inr (.inr 182)), some (.inl 0), some (.inl 1), none, none, none] [] (wr h 182 52 0) Q) :
    Rn xs xl e mm_findRun 10 [some (.inr (.inr 182)), none, none, none, none, none] [] h Q := by
  refine R_ic dd_findRun_10 (by decide) rfl ?_
  refine R_st (ls' := [some (.inr (.inr 182)), some (.inl 0), none, none, none, none]) dd_findRun_11 rfl rfl rfl (Nat.le_of_ble_eq_true rfl) rfl rfl ?_
  refine R_ld (v := .inr (.inr 182)) dd_findRun_12 rfl rfl rfl rfl ?_
  refine R_ic dd_findRun_13 (by decide) rfl ?_
  refine R_pf (z := 0) dd_findRun_14 fd_12_483 io_182 fn_12_52 rfl rfl ?_
  refine R_ic dd_findRun_17 (by decide) rfl ?_
  refine R_st (ls' := [some (.inr (.inr 182)), some (.inl 0), some (.inl 1), none, none, none]) dd_findRun_18 rfl rfl rfl (Nat.le_of_ble_eq_true rfl) rfl rfl ?_
  exact k
theorem B_findRun_19 {xs : Nat → Int} {xl e : Nat} {h : LH} {Q : Option LV → LH → Prop} {v1 v2 : Int} {o3 : Option LV} {o4 : Option LV} {o5 : Option LV} (hF : RF h)
    (k : (v2 = 0 →
        Rn xs xl e mm_findRun 259 [some (.inr (.inr 182)), some (.inl v1), some (.inl v2), o3, o4, o5] [] h Q) ∧
      (v2 ≠ 0 →
        Rn xs xl e mm_findRun 35 [some (.inr (.inr 182)), some (.inl v1), some (.inl v2), some (.inl (rd h 198 1540)), some (.inl 0), o5] [] h Q)) :
    Rn xs xl e mm_findRun 19 [some (.inr (.inr 182)), some (.inl v1), some (.inl v2), o3, o4, o5] [] h Q := by
  refine R_ld (v := .inl v2) dd_findRun_19 rfl rfl rfl rfl ?_
  refine R_if dd_findRun_20 rfl rfl (fun (c1 : v2 = 0) => ?_) (fun (c1 : v2 ≠ 0) => ?_)
  · replace k := k.1 c1
    exact k
  · replace k := k.2 c1
    refine R_ld (v := .inr (.inr 182)) dd_findRun_23 rfl rfl rfl rfl ?_
    refine R_gf (v := .inr (.inr 198)) dd_findRun_24 fd_12_125 io_182 (congrArg (fun z : Int => (Sum.inr (Sum.inr z) : LV)) (rf_182_24 hF)) rfl ?_
    refine R_si dd_findRun_27 (by decide) rfl ?_
    refine R_iald (v := (rd h 198 1540)) (n := 1610) dd_findRun_30 ia_198 la_198 (by decide) (rfl) rfl ?_
    refine R_st (ls' := [some (.inr (.inr 182)), some (.inl v1), some (.inl v2), some (.inl (rd h 198 1540)), o4, o5]) dd_findRun_31 rfl rfl rfl (Nat.le_of_ble_eq_true rfl) rfl rfl ?_
    refine R_ic dd_findRun_32 (by decide) rfl ?_
    refine R_st (ls' := [some (.inr (.inr 182)), some (.inl v1), some (.inl v2), some (.inl (rd h 198 1540)), some (.inl 0), o5]) dd_findRun_33 rfl rfl rfl (Nat.le_of_ble_eq_true rfl) rfl rfl ?_
    exact k
theorem B_findRun_35 {xs : Nat → Int} {xl e : Nat} {h : LH} {Q : Option LV → LH → Prop} {v1 v2 v3 v4 : Int} {o5 : Option LV} (hF : RF h) (r_v4 : 0 ≤ v4 ∧ v4 ≤ 6) (he : 1 ≤ e)
    (k : ((rd h 188 2) ≤ v4 →
        Rn xs xl e mm_findRun 117 [some (.inr (.inr 182)), some (.inl v1), some (.inl v2), some (.inl v3), some (.inl v4), o5] [] h Q) ∧
      (v4 < (rd h 188 2) →
        (24 ≤ v3 →
          Rn xs xl e mm_findRun 90 [some (.inr (.inr 182)), some (.inl v1), some (.inl v2), some (.inl v3), some (.inl v4), some (.inl 0)] [] h Q) ∧
        (v3 < 24 →
          ((rd h 198 (v4 + 1554)) ≠ 0 →
            Rn xs xl e mm_findRun 90 [some (.inr (.inr 182)), some (.inl v1), some (.inl v2), some (.inl v3), some (.inl v4), some (.inl 0)] [] h Q) ∧
          ((rd h 198 (v4 + 1554)) = 0 →
            (∃ c, c < e ∧ Rn xs xl c mm_findWay 0 [some (.inr (.inr 182)), some (.inl 1540), some (.inl v4), none, none, none, none, none] [] h (fun r h' => Rn xs xl e mm_findRun 73 [some (.inr (.inr 182)), some (.inl v1), some (.inl v2), some (.inl v3), some (.inl v4), o5] (r.toList ++ []) h' Q)))))) :
    Rn xs xl e mm_findRun 35 [some (.inr (.inr 182)), some (.inl v1), some (.inl v2), some (.inl v3), some (.inl v4), o5] [] h Q := by
  refine R_ld (v := .inl v4) dd_findRun_35 rfl rfl rfl rfl ?_
  refine R_ld (v := .inr (.inr 182)) dd_findRun_37 rfl rfl rfl rfl ?_
  refine R_call (as := [.inr (.inr 182)]) (rest := [.inl v4]) (M' := mm_people) (ls0 := [some (.inr (.inr 182))]) dd_findRun_38 rfl rfl (cw_v cw_12_338 io_182 rfl rfl (Nat.le_of_ble_eq_true rfl) (Nat.le_of_ble_eq_true rfl)) mt_people rfl (c := e - 1) (by omega) rfl ?_
  refine R_ld (v := .inr (.inr 182)) dd_people_0 rfl rfl rfl rfl ?_
  refine R_gf (v := .inr (.inr 188)) dd_people_1 fd_12_95 io_182 (congrArg (fun z : Int => (Sum.inr (Sum.inr z) : LV)) (rf_182_10 hF)) rfl ?_
  refine R_ic dd_people_4 (by decide) rfl ?_
  refine R_iald (v := (rd h 188 2)) (n := 300) dd_people_5 ia_188 la_188 (by decide) (rfl) rfl ?_
  refine R_iret dd_people_6 rfl ?_
  change Rn xs xl e mm_findRun 41 [some (.inr (.inr 182)), some (.inl v1), some (.inl v2), some (.inl v3), some (.inl v4), o5] [.inl (rd h 188 2), .inl v4] h _
  refine R_icmp dd_findRun_41 rfl rfl (fun (c2 : (rd h 188 2) ≤ v4) => ?_) (fun (c2 : v4 < (rd h 188 2)) => ?_)
  · replace k := k.1 c2
    exact k
  · replace k := k.2 c2
    refine R_ld (v := .inl v3) dd_findRun_44 rfl rfl rfl rfl ?_
    refine R_bi dd_findRun_45 (by decide) rfl ?_
    refine R_icmp dd_findRun_47 rfl rfl (fun (c3 : 24 ≤ v3) => ?_) (fun (c3 : v3 < 24) => ?_)
    · replace k := k.1 c3
      refine R_ic dd_findRun_87 (by decide) rfl ?_
      refine R_st (ls' := [some (.inr (.inr 182)), some (.inl v1), some (.inl v2), some (.inl v3), some (.inl v4), some (.inl 0)]) dd_findRun_88 rfl rfl rfl (Nat.le_of_ble_eq_true rfl) rfl rfl ?_
      exact k
    · replace k := k.2 c3
      refine R_ld (v := .inr (.inr 182)) dd_findRun_50 rfl rfl rfl rfl ?_
      refine R_gf (v := .inr (.inr 198)) dd_findRun_51 fd_12_125 io_182 (congrArg (fun z : Int => (Sum.inr (Sum.inr z) : LV)) (rf_182_24 hF)) rfl ?_
      refine R_si dd_findRun_54 (by decide) rfl ?_
      refine R_ld (v := .inl v4) dd_findRun_57 rfl rfl rfl rfl ?_
      refine R_iadd (c := v4 + 1554) dd_findRun_59 (by omega) (by omega) rfl ?_
      refine R_iald (v := (rd h 198 (v4 + 1554))) (n := 1610) dd_findRun_60 ia_198 la_198 (by omega) (rfl) rfl ?_
      refine R_if dd_findRun_61 rfl rfl (fun (c4 : (rd h 198 (v4 + 1554)) ≠ 0) => ?_) (fun (c4 : (rd h 198 (v4 + 1554)) = 0) => ?_)
      · replace k := k.1 c4
        refine R_ic dd_findRun_87 (by decide) rfl ?_
        refine R_st (ls' := [some (.inr (.inr 182)), some (.inl v1), some (.inl v2), some (.inl v3), some (.inl v4), some (.inl 0)]) dd_findRun_88 rfl rfl rfl (Nat.le_of_ble_eq_true rfl) rfl rfl ?_
        exact k
      · replace k := k.2 c4
        refine R_ld (v := .inr (.inr 182)) dd_findRun_64 rfl rfl rfl rfl ?_
        refine R_si dd_findRun_65 (by decide) rfl ?_
        refine R_ld (v := .inl v4) dd_findRun_68 rfl rfl rfl rfl ?_
        obtain ⟨c, hc, k⟩ := k
        exact R_call (as := [.inr (.inr 182), .inl 1540, .inl v4]) (rest := []) (M' := mm_findWay) (ls0 := [some (.inr (.inr 182)), some (.inl 1540), some (.inl v4), none, none, none, none, none]) dd_findRun_70 rfl rfl (cw_v cw_12_416 io_182 rfl rfl (Nat.le_of_ble_eq_true rfl) (Nat.le_of_ble_eq_true rfl)) mt_findWay rfl hc rfl k
theorem B_findRun_73 {xs : Nat → Int} {xl e : Nat} {h : LH} {Q : Option LV → LH → Prop} {v1 v2 v3 v4 w0 : Int} {o5 : Option LV} (hF : RF h)
    (k : (w0 < 0 →
        Rn xs xl e mm_findRun 90 [some (.inr (.inr 182)), some (.inl v1), some (.inl v2), some (.inl v3), some (.inl v4), some (.inl 0)] [] h Q) ∧
      (0 ≤ w0 →
        ((rd h 182 34) ≤ 0 →
          Rn xs xl e mm_findRun 90 [some (.inr (.inr 182)), some (.inl v1), some (.inl v2), some (.inl v3), some (.inl v4), some (.inl 0)] [] h Q) ∧
        (0 < (rd h 182 34) →
          Rn xs xl e mm_findRun 90 [some (.inr (.inr 182)), some (.inl v1), some (.inl v2), some (.inl v3), some (.inl v4), some (.inl 1)] [] h Q))) :
    Rn xs xl e mm_findRun 73 [some (.inr (.inr 182)), some (.inl v1), some (.inl v2), some (.inl v3), some (.inl v4), o5] [.inl w0] h Q := by
  refine R_if dd_findRun_73 rfl rfl (fun (c1 : w0 < 0) => ?_) (fun (c1 : 0 ≤ w0) => ?_)
  · replace k := k.1 c1
    refine R_ic dd_findRun_87 (by decide) rfl ?_
    refine R_st (ls' := [some (.inr (.inr 182)), some (.inl v1), some (.inl v2), some (.inl v3), some (.inl v4), some (.inl 0)]) dd_findRun_88 rfl rfl rfl (Nat.le_of_ble_eq_true rfl) rfl rfl ?_
    exact k
  · replace k := k.2 c1
    refine R_ld (v := .inr (.inr 182)) dd_findRun_76 rfl rfl rfl rfl ?_
    refine R_gf (v := .inl (rd h 182 34)) dd_findRun_77 fd_12_400 io_182 (congrArg (fun z : Int => (Sum.inl z : LV)) (rfl)) rfl ?_
    refine R_if dd_findRun_80 rfl rfl (fun (c2 : (rd h 182 34) ≤ 0) => ?_) (fun (c2 : 0 < (rd h 182 34)) => ?_)
    · replace k := k.1 c2
      refine R_ic dd_findRun_87 (by decide) rfl ?_
      refine R_st (ls' := [some (.inr (.inr 182)), some (.inl v1), some (.inl v2), some (.inl v3), some (.inl v4), some (.inl 0)]) dd_findRun_88 rfl rfl rfl (Nat.le_of_ble_eq_true rfl) rfl rfl ?_
      exact k
    · replace k := k.2 c2
      refine R_ic dd_findRun_83 (by decide) rfl ?_
      refine R_goto dd_findRun_84 rfl ?_
      refine R_st (ls' := [some (.inr (.inr 182)), some (.inl v1), some (.inl v2), some (.inl v3), some (.inl v4), some (.inl 1)]) dd_findRun_88 rfl rfl rfl (Nat.le_of_ble_eq_true rfl) rfl rfl ?_
      exact k
theorem B_findRun_90 {xs : Nat → Int} {xl e : Nat} {h : LH} {Q : Option LV → LH → Prop} {v1 v2 v3 v4 v5 : Int} (hF : RF h) (r_v4 : 0 ≤ v4 ∧ v4 ≤ 5)
    (k : (v5 = 0 →
        Rn xs xl e mm_findRun 35 [some (.inr (.inr 182)), some (.inl v1), some (.inl v2), some (.inl v3), some (.inl (v4 + 1)), some (.inl v5)] [] h Q) ∧
      (v5 ≠ 0 →
        (∃ c, c < e ∧ Rn xs xl c mm_goes 0 [some (.inr (.inr 182)), some (.inl 1540), some (.inl v4), some (.inl (rd h 202 0)), none] [] h (fun r h' => Rn xs xl e mm_findRun 110 [some (.inr (.inr 182)), some (.inl v1), some (.inl v2), some (.inl v3), some (.inl v4), some (.inl v5)] (r.toList ++ []) h' Q)))) :
    Rn xs xl e mm_findRun 90 [some (.inr (.inr 182)), some (.inl v1), some (.inl v2), some (.inl v3), some (.inl v4), some (.inl v5)] [] h Q := by
  refine R_ld (v := .inl v5) dd_findRun_90 rfl rfl rfl rfl ?_
  refine R_if dd_findRun_92 rfl rfl (fun (c2 : v5 = 0) => ?_) (fun (c2 : v5 ≠ 0) => ?_)
  · replace k := k.1 c2
    refine R_inc (y := v4 + 1) (ls' := [some (.inr (.inr 182)), some (.inl v1), some (.inl v2), some (.inl v3), some (.inl (v4 + 1)), some (.inl v5)]) dd_findRun_111 rfl (by decide) (by omega) (by omega) rfl rfl ?_
    refine R_goto dd_findRun_114 rfl ?_
    exact k
  · replace k := k.2 c2
    refine R_ld (v := .inr (.inr 182)) dd_findRun_95 rfl rfl rfl rfl ?_
    refine R_si dd_findRun_96 (by decide) rfl ?_
    refine R_ld (v := .inl v4) dd_findRun_99 rfl rfl rfl rfl ?_
    refine R_ld (v := .inr (.inr 182)) dd_findRun_101 rfl rfl rfl rfl ?_
    refine R_gf (v := .inr (.inr 202)) dd_findRun_102 fd_12_144 io_182 (congrArg (fun z : Int => (Sum.inr (Sum.inr z) : LV)) (rf_182_33 hF)) rfl ?_
    refine R_ic dd_findRun_105 (by decide) rfl ?_
    refine R_iald (v := (rd h 202 0)) (n := 30) dd_findRun_106 ia_202 la_202 (by decide) (rfl) rfl ?_
    obtain ⟨c, hc, k⟩ := k
    exact R_call (as := [.inr (.inr 182), .inl 1540, .inl v4, .inl (rd h 202 0)]) (rest := []) (M' := mm_goes) (ls0 := [some (.inr (.inr 182)), some (.inl 1540), some (.inl v4), some (.inl (rd h 202 0)), none]) dd_findRun_107 rfl rfl (cw_v cw_12_377 io_182 rfl rfl (Nat.le_of_ble_eq_true rfl) (Nat.le_of_ble_eq_true rfl)) mt_goes rfl hc rfl k
theorem B_findRun_110 {xs : Nat → Int} {xl e : Nat} {h : LH} {Q : Option LV → LH → Prop} {v1 v2 v3 v4 v5 w0 : Int} (hF : RF h) (r_v4 : 0 ≤ v4 ∧ v4 ≤ 5)
    (k : Rn xs xl e mm_findRun 35 [some (.inr (.inr 182)), some (.inl v1), some (.inl v2), some (.inl v3), some (.inl (v4 + 1)), some (.inl v5)] [] h Q) :
    Rn xs xl e mm_findRun 110 [some (.inr (.inr 182)), some (.inl v1), some (.inl v2), some (.inl v3), some (.inl v4), some (.inl v5)] [.inl w0] h Q := by
  refine R_A dd_findRun_110 rfl rfl rfl rfl ?_
  refine R_inc (y := v4 + 1) (ls' := [some (.inr (.inr 182)), some (.inl v1), some (.inl v2), some (.inl v3), some (.inl (v4 + 1)), some (.inl v5)]) dd_findRun_111 rfl (by decide) (by omega) (by omega) rfl rfl ?_
  refine R_goto dd_findRun_114 rfl ?_
  exact k
theorem B_findRun_117 {xs : Nat → Int} {xl e : Nat} {h : LH} {Q : Option LV → LH → Prop} {v1 v2 v3 v4 : Int} {o5 : Option LV} (hF : RF h)
    (k : Rn xs xl e mm_findRun 120 [some (.inr (.inr 182)), some (.inl v1), some (.inl v2), some (.inl v3), some (.inl 0), o5] [] h Q) :
    Rn xs xl e mm_findRun 117 [some (.inr (.inr 182)), some (.inl v1), some (.inl v2), some (.inl v3), some (.inl v4), o5] [] h Q := by
  refine R_ic dd_findRun_117 (by decide) rfl ?_
  refine R_st (ls' := [some (.inr (.inr 182)), some (.inl v1), some (.inl v2), some (.inl v3), some (.inl 0), o5]) dd_findRun_118 rfl rfl rfl (Nat.le_of_ble_eq_true rfl) rfl rfl ?_
  exact k
theorem B_findRun_120 {xs : Nat → Int} {xl e : Nat} {h : LH} {Q : Option LV → LH → Prop} {v1 v2 v3 v4 : Int} {o5 : Option LV} (hF : RF h) (r_v4 : 0 ≤ v4 ∧ v4 ≤ 6) (he : 1 ≤ e)
    (k : ((rd h 188 2) ≤ v4 →
        Rn xs xl e mm_findRun 233 [some (.inr (.inr 182)), some (.inl v1), some (.inl v2), some (.inl v3), some (.inl v4), o5] [] h Q) ∧
      (v4 < (rd h 188 2) →
        ((rd h 198 (v4 + 1548)) ≠ 1 →
          Rn xs xl e mm_findRun 172 [some (.inr (.inr 182)), some (.inl v1), some (.inl v2), some (.inl v3), some (.inl v4), some (.inl 0)] [] h Q) ∧
        ((rd h 198 (v4 + 1548)) = 1 →
          ((rd h 198 (v4 + 1542)) ≠ (rd h 188 (4 * v4 + 117)) →
            Rn xs xl e mm_findRun 172 [some (.inr (.inr 182)), some (.inl v1), some (.inl v2), some (.inl v3), some (.inl v4), some (.inl 0)] [] h Q) ∧
          ((rd h 198 (v4 + 1542)) = (rd h 188 (4 * v4 + 117)) →
            Rn xs xl e mm_findRun 172 [some (.inr (.inr 182)), some (.inl v1), some (.inl v2), some (.inl v3), some (.inl v4), some (.inl 1)] [] h Q)))) :
    Rn xs xl e mm_findRun 120 [some (.inr (.inr 182)), some (.inl v1), some (.inl v2), some (.inl v3), some (.inl v4), o5] [] h Q := by
  refine R_ld (v := .inl v4) dd_findRun_120 rfl rfl rfl rfl ?_
  refine R_ld (v := .inr (.inr 182)) dd_findRun_122 rfl rfl rfl rfl ?_
  refine R_call (as := [.inr (.inr 182)]) (rest := [.inl v4]) (M' := mm_people) (ls0 := [some (.inr (.inr 182))]) dd_findRun_123 rfl rfl (cw_v cw_12_338 io_182 rfl rfl (Nat.le_of_ble_eq_true rfl) (Nat.le_of_ble_eq_true rfl)) mt_people rfl (c := e - 1) (by omega) rfl ?_
  refine R_ld (v := .inr (.inr 182)) dd_people_0 rfl rfl rfl rfl ?_
  refine R_gf (v := .inr (.inr 188)) dd_people_1 fd_12_95 io_182 (congrArg (fun z : Int => (Sum.inr (Sum.inr z) : LV)) (rf_182_10 hF)) rfl ?_
  refine R_ic dd_people_4 (by decide) rfl ?_
  refine R_iald (v := (rd h 188 2)) (n := 300) dd_people_5 ia_188 la_188 (by decide) (rfl) rfl ?_
  refine R_iret dd_people_6 rfl ?_
  change Rn xs xl e mm_findRun 126 [some (.inr (.inr 182)), some (.inl v1), some (.inl v2), some (.inl v3), some (.inl v4), o5] [.inl (rd h 188 2), .inl v4] h _
  refine R_icmp dd_findRun_126 rfl rfl (fun (c1 : (rd h 188 2) ≤ v4) => ?_) (fun (c1 : v4 < (rd h 188 2)) => ?_)
  · replace k := k.1 c1
    exact k
  · replace k := k.2 c1
    refine R_ld (v := .inr (.inr 182)) dd_findRun_129 rfl rfl rfl rfl ?_
    refine R_gf (v := .inr (.inr 198)) dd_findRun_130 fd_12_125 io_182 (congrArg (fun z : Int => (Sum.inr (Sum.inr z) : LV)) (rf_182_24 hF)) rfl ?_
    refine R_si dd_findRun_133 (by decide) rfl ?_
    refine R_ld (v := .inl v4) dd_findRun_136 rfl rfl rfl rfl ?_
    refine R_iadd (c := v4 + 1548) dd_findRun_138 (by omega) (by omega) rfl ?_
    refine R_iald (v := (rd h 198 (v4 + 1548))) (n := 1610) dd_findRun_139 ia_198 la_198 (by omega) (rfl) rfl ?_
    refine R_ic dd_findRun_140 (by decide) rfl ?_
    refine R_icmp dd_findRun_141 rfl rfl (fun (c2 : (rd h 198 (v4 + 1548)) ≠ 1) => ?_) (fun (c2 : (rd h 198 (v4 + 1548)) = 1) => ?_)
    · replace k := k.1 c2
      refine R_ic dd_findRun_169 (by decide) rfl ?_
      refine R_st (ls' := [some (.inr (.inr 182)), some (.inl v1), some (.inl v2), some (.inl v3), some (.inl v4), some (.inl 0)]) dd_findRun_170 rfl rfl rfl (Nat.le_of_ble_eq_true rfl) rfl rfl ?_
      exact k
    · replace k := k.2 c2
      refine R_ld (v := .inr (.inr 182)) dd_findRun_144 rfl rfl rfl rfl ?_
      refine R_gf (v := .inr (.inr 198)) dd_findRun_145 fd_12_125 io_182 (congrArg (fun z : Int => (Sum.inr (Sum.inr z) : LV)) (rf_182_24 hF)) rfl ?_
      refine R_si dd_findRun_148 (by decide) rfl ?_
      refine R_ld (v := .inl v4) dd_findRun_151 rfl rfl rfl rfl ?_
      refine R_iadd (c := v4 + 1542) dd_findRun_153 (by omega) (by omega) rfl ?_
      refine R_iald (v := (rd h 198 (v4 + 1542))) (n := 1610) dd_findRun_154 ia_198 la_198 (by omega) (rfl) rfl ?_
      refine R_ld (v := .inr (.inr 182)) dd_findRun_155 rfl rfl rfl rfl ?_
      refine R_ld (v := .inl v4) dd_findRun_156 rfl rfl rfl rfl ?_
      refine R_ic dd_findRun_158 (by decide) rfl ?_
      refine R_call (as := [.inr (.inr 182), .inl v4, .inl 1]) (rest := [.inl (rd h 198 (v4 + 1542))]) (M' := mm_personOf) (ls0 := [some (.inr (.inr 182)), some (.inl v4), some (.inl 1)]) dd_findRun_159 rfl rfl (cw_v cw_12_325 io_182 rfl rfl (Nat.le_of_ble_eq_true rfl) (Nat.le_of_ble_eq_true rfl)) mt_personOf rfl (c := e - 1) (by omega) rfl ?_
      refine R_ld (v := .inr (.inr 182)) dd_personOf_0 rfl rfl rfl rfl ?_
      refine R_gf (v := .inr (.inr 188)) dd_personOf_1 fd_12_95 io_182 (congrArg (fun z : Int => (Sum.inr (Sum.inr z) : LV)) (rf_182_10 hF)) rfl ?_
      refine R_bi dd_personOf_4 (by decide) rfl ?_
      refine R_ic dd_personOf_6 (by decide) rfl ?_
      refine R_ld (v := .inl v4) dd_personOf_7 rfl rfl rfl rfl ?_
      refine R_imul (c := 4 * v4) dd_personOf_8 (by omega) (by omega) rfl ?_
      refine R_iadd (c := 4 * v4 + 116) dd_personOf_9 (by omega) (by omega) rfl ?_
      refine R_ld (v := .inl 1) dd_personOf_10 rfl rfl rfl rfl ?_
      refine R_iadd (c := 4 * v4 + 117) dd_personOf_11 (by omega) (by omega) rfl ?_
      refine R_iald (v := (rd h 188 (4 * v4 + 117))) (n := 300) dd_personOf_12 ia_188 la_188 (by omega) (rfl) rfl ?_
      refine R_iret dd_personOf_13 rfl ?_
      change Rn xs xl e mm_findRun 162 [some (.inr (.inr 182)), some (.inl v1), some (.inl v2), some (.inl v3), some (.inl v4), o5] [.inl (rd h 188 (4 * v4 + 117)), .inl (rd h 198 (v4 + 1542))] h _
      refine R_icmp dd_findRun_162 rfl rfl (fun (c3 : (rd h 198 (v4 + 1542)) ≠ (rd h 188 (4 * v4 + 117))) => ?_) (fun (c3 : (rd h 198 (v4 + 1542)) = (rd h 188 (4 * v4 + 117))) => ?_)
      · replace k := k.1 c3
        refine R_ic dd_findRun_169 (by decide) rfl ?_
        refine R_st (ls' := [some (.inr (.inr 182)), some (.inl v1), some (.inl v2), some (.inl v3), some (.inl v4), some (.inl 0)]) dd_findRun_170 rfl rfl rfl (Nat.le_of_ble_eq_true rfl) rfl rfl ?_
        exact k
      · replace k := k.2 c3
        refine R_ic dd_findRun_165 (by decide) rfl ?_
        refine R_goto dd_findRun_166 rfl ?_
        refine R_st (ls' := [some (.inr (.inr 182)), some (.inl v1), some (.inl v2), some (.inl v3), some (.inl v4), some (.inl 1)]) dd_findRun_170 rfl rfl rfl (Nat.le_of_ble_eq_true rfl) rfl rfl ?_
        exact k
theorem B_findRun_172 {xs : Nat → Int} {xl e : Nat} {h : LH} {Q : Option LV → LH → Prop} {v1 v2 v3 v4 v5 : Int} (hF : RF h) (r_v4 : 0 ≤ v4 ∧ v4 ≤ 5) (he : 1 ≤ e)
    (k : (v5 = 0 →
        Rn xs xl e mm_findRun 120 [some (.inr (.inr 182)), some (.inl (zor v1 0)), some (.inl v2), some (.inl v3), some (.inl (v4 + 1)), some (.inl v5)] [] (wr h 182 52 (w32 ((rd h 182 52) + 0))) Q) ∧
      (v5 ≠ 0 →
        ((zand (zshr v1 v4) 1) ≠ 1 →
          ((rd h 188 (4 * v4 + 119)) < v3 →
            Rn xs xl e mm_findRun 120 [some (.inr (.inr 182)), some (.inl (zor v1 (zshl 1 v4))), some (.inl v2), some (.inl v3), some (.inl (v4 + 1)), some (.inl v5)] [] (wr h 182 52 (w32 ((rd h 182 52) + 0))) Q) ∧
          (v3 ≤ (rd h 188 (4 * v4 + 119)) →
            Rn xs xl e mm_findRun 120 [some (.inr (.inr 182)), some (.inl (zor v1 (zshl 1 v4))), some (.inl v2), some (.inl v3), some (.inl (v4 + 1)), some (.inl v5)] [] (wr h 182 52 (w32 ((rd h 182 52) + 1))) Q)) ∧
        ((zand (zshr v1 v4) 1) = 1 →
          Rn xs xl e mm_findRun 120 [some (.inr (.inr 182)), some (.inl (zor v1 (zshl 1 v4))), some (.inl v2), some (.inl v3), some (.inl (v4 + 1)), some (.inl v5)] [] (wr h 182 52 (w32 ((rd h 182 52) + 0))) Q))) :
    Rn xs xl e mm_findRun 172 [some (.inr (.inr 182)), some (.inl v1), some (.inl v2), some (.inl v3), some (.inl v4), some (.inl v5)] [] h Q := by
  refine R_ld (v := .inr (.inr 182)) dd_findRun_172 rfl rfl rfl rfl ?_
  refine R_A dd_findRun_173 rfl rfl rfl rfl ?_
  refine R_gf (v := .inl (rd h 182 52)) dd_findRun_174 fd_12_483 io_182 (congrArg (fun z : Int => (Sum.inl z : LV)) (rfl)) rfl ?_
  refine R_ld (v := .inl v5) dd_findRun_177 rfl rfl rfl rfl ?_
  refine R_if dd_findRun_179 rfl rfl (fun (c1 : v5 = 0) => ?_) (fun (c1 : v5 ≠ 0) => ?_)
  · replace k := k.1 c1
    refine R_ic dd_findRun_206 (by decide) rfl ?_
    refine R_iaddw dd_findRun_207 rfl ?_
    refine R_pf (z := (w32 ((rd h 182 52) + 0))) dd_findRun_208 fd_12_483 io_182 fn_12_52 rfl rfl ?_
    refine R_ld (v := .inl v1) dd_findRun_211 rfl rfl rfl rfl ?_
    refine R_ld (v := .inl v5) dd_findRun_212 rfl rfl rfl rfl ?_
    refine R_if dd_findRun_214 rfl rfl (fun (c2 : v5 = 0) => ?_) (fun (c2 : v5 ≠ 0) => ?_)
    · skip
      refine R_ic dd_findRun_224 (by decide) rfl ?_
      refine R_A dd_findRun_225 rfl rfl rfl rfl ?_
      refine R_st (ls' := [some (.inr (.inr 182)), some (.inl (zor v1 0)), some (.inl v2), some (.inl v3), some (.inl v4), some (.inl v5)]) dd_findRun_226 rfl rfl rfl (Nat.le_of_ble_eq_true rfl) rfl rfl ?_
      refine R_inc (y := v4 + 1) (ls' := [some (.inr (.inr 182)), some (.inl (zor v1 0)), some (.inl v2), some (.inl v3), some (.inl (v4 + 1)), some (.inl v5)]) dd_findRun_227 rfl (by decide) (by omega) (by omega) rfl rfl ?_
      refine R_goto dd_findRun_230 rfl ?_
      exact k
    · exact absurd c2 (by omega)
  · replace k := k.2 c1
    refine R_ld (v := .inl v1) dd_findRun_182 rfl rfl rfl rfl ?_
    refine R_ld (v := .inl v4) dd_findRun_183 rfl rfl rfl rfl ?_
    refine R_call (as := [.inl v1, .inl v4]) (rest := [.inl (rd h 182 52), .inr (.inr 182)]) (M' := mm_isIn) (ls0 := [some (.inl v1), some (.inl v4)]) dd_findRun_185 rfl rfl (cw_s cw_12_350 rfl rfl (Nat.le_of_ble_eq_true rfl) (Nat.le_of_ble_eq_true rfl)) mt_isIn rfl (c := e - 1) (by omega) rfl ?_
    refine R_ld (v := .inl v1) dd_isIn_0 rfl rfl rfl rfl ?_
    refine R_ld (v := .inl v4) dd_isIn_1 rfl rfl rfl rfl ?_
    refine R_A dd_isIn_2 rfl rfl rfl rfl ?_
    refine R_ic dd_isIn_3 (by decide) rfl ?_
    refine R_A dd_isIn_4 rfl rfl rfl rfl ?_
    refine R_ic dd_isIn_5 (by decide) rfl ?_
    refine R_icmp dd_isIn_6 rfl rfl (fun (c3 : (zand (zshr v1 v4) 1) ≠ 1) => ?_) (fun (c3 : (zand (zshr v1 v4) 1) = 1) => ?_)
    · replace k := k.1 c3
      refine R_ic dd_isIn_13 (by decide) rfl ?_
      refine R_zret dd_isIn_14 rfl (by decide) ?_
      change Rn xs xl e mm_findRun 188 [some (.inr (.inr 182)), some (.inl v1), some (.inl v2), some (.inl v3), some (.inl v4), some (.inl v5)] [.inl 0, .inl (rd h 182 52), .inr (.inr 182)] h _
      refine R_if dd_findRun_188 rfl rfl (fun (c4 : 0 ≠ 0) => ?_) (fun (c4 : 0 = 0) => ?_)
      · exact absurd c4 (by omega)
      · skip
        refine R_ld (v := .inl v3) dd_findRun_191 rfl rfl rfl rfl ?_
        refine R_ld (v := .inr (.inr 182)) dd_findRun_192 rfl rfl rfl rfl ?_
        refine R_ld (v := .inl v4) dd_findRun_193 rfl rfl rfl rfl ?_
        refine R_ic dd_findRun_195 (by decide) rfl ?_
        refine R_call (as := [.inr (.inr 182), .inl v4, .inl 3]) (rest := [.inl v3, .inl (rd h 182 52), .inr (.inr 182)]) (M' := mm_personOf) (ls0 := [some (.inr (.inr 182)), some (.inl v4), some (.inl 3)]) dd_findRun_196 rfl rfl (cw_v cw_12_325 io_182 rfl rfl (Nat.le_of_ble_eq_true rfl) (Nat.le_of_ble_eq_true rfl)) mt_personOf rfl (c := e - 1) (by omega) rfl ?_
        refine R_ld (v := .inr (.inr 182)) dd_personOf_0 rfl rfl rfl rfl ?_
        refine R_gf (v := .inr (.inr 188)) dd_personOf_1 fd_12_95 io_182 (congrArg (fun z : Int => (Sum.inr (Sum.inr z) : LV)) (rf_182_10 hF)) rfl ?_
        refine R_bi dd_personOf_4 (by decide) rfl ?_
        refine R_ic dd_personOf_6 (by decide) rfl ?_
        refine R_ld (v := .inl v4) dd_personOf_7 rfl rfl rfl rfl ?_
        refine R_imul (c := 4 * v4) dd_personOf_8 (by omega) (by omega) rfl ?_
        refine R_iadd (c := 4 * v4 + 116) dd_personOf_9 (by omega) (by omega) rfl ?_
        refine R_ld (v := .inl 3) dd_personOf_10 rfl rfl rfl rfl ?_
        refine R_iadd (c := 4 * v4 + 119) dd_personOf_11 (by omega) (by omega) rfl ?_
        refine R_iald (v := (rd h 188 (4 * v4 + 119))) (n := 300) dd_personOf_12 ia_188 la_188 (by omega) (rfl) rfl ?_
        refine R_iret dd_personOf_13 rfl ?_
        change Rn xs xl e mm_findRun 199 [some (.inr (.inr 182)), some (.inl v1), some (.inl v2), some (.inl v3), some (.inl v4), some (.inl v5)] [.inl (rd h 188 (4 * v4 + 119)), .inl v3, .inl (rd h 182 52), .inr (.inr 182)] h _
        refine R_icmp dd_findRun_199 rfl rfl (fun (c5 : (rd h 188 (4 * v4 + 119)) < v3) => ?_) (fun (c5 : v3 ≤ (rd h 188 (4 * v4 + 119))) => ?_)
        · replace k := k.1 c5
          refine R_ic dd_findRun_206 (by decide) rfl ?_
          refine R_iaddw dd_findRun_207 rfl ?_
          refine R_pf (z := (w32 ((rd h 182 52) + 0))) dd_findRun_208 fd_12_483 io_182 fn_12_52 rfl rfl ?_
          refine R_ld (v := .inl v1) dd_findRun_211 rfl rfl rfl rfl ?_
          refine R_ld (v := .inl v5) dd_findRun_212 rfl rfl rfl rfl ?_
          refine R_if dd_findRun_214 rfl rfl (fun (c6 : v5 = 0) => ?_) (fun (c6 : v5 ≠ 0) => ?_)
          · exact absurd c6 (by omega)
          · skip
            refine R_ic dd_findRun_217 (by decide) rfl ?_
            refine R_ld (v := .inl v4) dd_findRun_218 rfl rfl rfl rfl ?_
            refine R_A dd_findRun_220 rfl rfl rfl rfl ?_
            refine R_goto dd_findRun_221 rfl ?_
            refine R_A dd_findRun_225 rfl rfl rfl rfl ?_
            refine R_st (ls' := [some (.inr (.inr 182)), some (.inl (zor v1 (zshl 1 v4))), some (.inl v2), some (.inl v3), some (.inl v4), some (.inl v5)]) dd_findRun_226 rfl rfl rfl (Nat.le_of_ble_eq_true rfl) rfl rfl ?_
            refine R_inc (y := v4 + 1) (ls' := [some (.inr (.inr 182)), some (.inl (zor v1 (zshl 1 v4))), some (.inl v2), some (.inl v3), some (.inl (v4 + 1)), some (.inl v5)]) dd_findRun_227 rfl (by decide) (by omega) (by omega) rfl rfl ?_
            refine R_goto dd_findRun_230 rfl ?_
            exact k
        · replace k := k.2 c5
          refine R_ic dd_findRun_202 (by decide) rfl ?_
          refine R_goto dd_findRun_203 rfl ?_
          refine R_iaddw dd_findRun_207 rfl ?_
          refine R_pf (z := (w32 ((rd h 182 52) + 1))) dd_findRun_208 fd_12_483 io_182 fn_12_52 rfl rfl ?_
          refine R_ld (v := .inl v1) dd_findRun_211 rfl rfl rfl rfl ?_
          refine R_ld (v := .inl v5) dd_findRun_212 rfl rfl rfl rfl ?_
          refine R_if dd_findRun_214 rfl rfl (fun (c7 : v5 = 0) => ?_) (fun (c7 : v5 ≠ 0) => ?_)
          · exact absurd c7 (by omega)
          · skip
            refine R_ic dd_findRun_217 (by decide) rfl ?_
            refine R_ld (v := .inl v4) dd_findRun_218 rfl rfl rfl rfl ?_
            refine R_A dd_findRun_220 rfl rfl rfl rfl ?_
            refine R_goto dd_findRun_221 rfl ?_
            refine R_A dd_findRun_225 rfl rfl rfl rfl ?_
            refine R_st (ls' := [some (.inr (.inr 182)), some (.inl (zor v1 (zshl 1 v4))), some (.inl v2), some (.inl v3), some (.inl v4), some (.inl v5)]) dd_findRun_226 rfl rfl rfl (Nat.le_of_ble_eq_true rfl) rfl rfl ?_
            refine R_inc (y := v4 + 1) (ls' := [some (.inr (.inr 182)), some (.inl (zor v1 (zshl 1 v4))), some (.inl v2), some (.inl v3), some (.inl (v4 + 1)), some (.inl v5)]) dd_findRun_227 rfl (by decide) (by omega) (by omega) rfl rfl ?_
            refine R_goto dd_findRun_230 rfl ?_
            exact k
    · replace k := k.2 c3
      refine R_ic dd_isIn_9 (by decide) rfl ?_
      refine R_goto dd_isIn_10 rfl ?_
      refine R_zret dd_isIn_14 rfl (by decide) ?_
      change Rn xs xl e mm_findRun 188 [some (.inr (.inr 182)), some (.inl v1), some (.inl v2), some (.inl v3), some (.inl v4), some (.inl v5)] [.inl 1, .inl (rd h 182 52), .inr (.inr 182)] h _
      refine R_if dd_findRun_188 rfl rfl (fun (c8 : 1 ≠ 0) => ?_) (fun (c8 : 1 = 0) => ?_)
      · skip
        refine R_ic dd_findRun_206 (by decide) rfl ?_
        refine R_iaddw dd_findRun_207 rfl ?_
        refine R_pf (z := (w32 ((rd h 182 52) + 0))) dd_findRun_208 fd_12_483 io_182 fn_12_52 rfl rfl ?_
        refine R_ld (v := .inl v1) dd_findRun_211 rfl rfl rfl rfl ?_
        refine R_ld (v := .inl v5) dd_findRun_212 rfl rfl rfl rfl ?_
        refine R_if dd_findRun_214 rfl rfl (fun (c9 : v5 = 0) => ?_) (fun (c9 : v5 ≠ 0) => ?_)
        · exact absurd c9 (by omega)
        · skip
          refine R_ic dd_findRun_217 (by decide) rfl ?_
          refine R_ld (v := .inl v4) dd_findRun_218 rfl rfl rfl rfl ?_
          refine R_A dd_findRun_220 rfl rfl rfl rfl ?_
          refine R_goto dd_findRun_221 rfl ?_
          refine R_A dd_findRun_225 rfl rfl rfl rfl ?_
          refine R_st (ls' := [some (.inr (.inr 182)), some (.inl (zor v1 (zshl 1 v4))), some (.inl v2), some (.inl v3), some (.inl v4), some (.inl v5)]) dd_findRun_226 rfl rfl rfl (Nat.le_of_ble_eq_true rfl) rfl rfl ?_
          refine R_inc (y := v4 + 1) (ls' := [some (.inr (.inr 182)), some (.inl (zor v1 (zshl 1 v4))), some (.inl v2), some (.inl v3), some (.inl (v4 + 1)), some (.inl v5)]) dd_findRun_227 rfl (by decide) (by omega) (by omega) rfl rfl ?_
          refine R_goto dd_findRun_230 rfl ?_
          exact k
      · exact absurd c8 (by omega)
theorem B_findRun_233 {xs : Nat → Int} {xl e : Nat} {h : LH} {Q : Option LV → LH → Prop} {v1 v2 v3 v4 : Int} {o5 : Option LV} (hF : RF h)
    (k : (24 ≤ v3 →
        Rn xs xl e mm_findRun 19 [some (.inr (.inr 182)), some (.inl v1), some (.inl 0), some (.inl v3), some (.inl v4), o5] [] h Q) ∧
      (v3 < 24 →
        (∃ c, c < e ∧ Rn xs xl c mm_passes 0 [some (.inr (.inr 182)), some (.inl 1540), none] [] h (fun r h' => Rn xs xl e mm_findRun 256 [some (.inr (.inr 182)), some (.inl v1), some (.inl 1), some (.inl v3), some (.inl v4), o5] (r.toList ++ []) h' Q)))) :
    Rn xs xl e mm_findRun 233 [some (.inr (.inr 182)), some (.inl v1), some (.inl v2), some (.inl v3), some (.inl v4), o5] [] h Q := by
  refine R_ld (v := .inl v3) dd_findRun_233 rfl rfl rfl rfl ?_
  refine R_bi dd_findRun_234 (by decide) rfl ?_
  refine R_icmp dd_findRun_236 rfl rfl (fun (c2 : 24 ≤ v3) => ?_) (fun (c2 : v3 < 24) => ?_)
  · replace k := k.1 c2
    refine R_ic dd_findRun_243 (by decide) rfl ?_
    refine R_st (ls' := [some (.inr (.inr 182)), some (.inl v1), some (.inl 0), some (.inl v3), some (.inl v4), o5]) dd_findRun_244 rfl rfl rfl (Nat.le_of_ble_eq_true rfl) rfl rfl ?_
    refine R_ld (v := .inl 0) dd_findRun_245 rfl rfl rfl rfl ?_
    refine R_if dd_findRun_246 rfl rfl (fun (c3 : 0 = 0) => ?_) (fun (c3 : 0 ≠ 0) => ?_)
    · skip
      refine R_goto dd_findRun_256 rfl ?_
      exact k
    · exact absurd c3 (by omega)
  · replace k := k.2 c2
    refine R_ic dd_findRun_239 (by decide) rfl ?_
    refine R_goto dd_findRun_240 rfl ?_
    refine R_st (ls' := [some (.inr (.inr 182)), some (.inl v1), some (.inl 1), some (.inl v3), some (.inl v4), o5]) dd_findRun_244 rfl rfl rfl (Nat.le_of_ble_eq_true rfl) rfl rfl ?_
    refine R_ld (v := .inl 1) dd_findRun_245 rfl rfl rfl rfl ?_
    refine R_if dd_findRun_246 rfl rfl (fun (c4 : 1 = 0) => ?_) (fun (c4 : 1 ≠ 0) => ?_)
    · exact absurd c4 (by omega)
    · skip
      refine R_ld (v := .inr (.inr 182)) dd_findRun_249 rfl rfl rfl rfl ?_
      refine R_si dd_findRun_250 (by decide) rfl ?_
      obtain ⟨c, hc, k⟩ := k
      exact R_call (as := [.inr (.inr 182), .inl 1540]) (rest := []) (M' := mm_passes) (ls0 := [some (.inr (.inr 182)), some (.inl 1540), none]) dd_findRun_253 rfl rfl (cw_v cw_12_383 io_182 rfl rfl (Nat.le_of_ble_eq_true rfl) (Nat.le_of_ble_eq_true rfl)) mt_passes rfl hc rfl k
theorem B_findRun_256 {xs : Nat → Int} {xl e : Nat} {h : LH} {Q : Option LV → LH → Prop} {v1 v2 v3 v4 : Int} {o5 : Option LV} (hF : RF h)
    (k : Rn xs xl e mm_findRun 19 [some (.inr (.inr 182)), some (.inl v1), some (.inl v2), some (.inl v3), some (.inl v4), o5] [] h Q) :
    Rn xs xl e mm_findRun 256 [some (.inr (.inr 182)), some (.inl v1), some (.inl v2), some (.inl v3), some (.inl v4), o5] [] h Q := by
  refine R_goto dd_findRun_256 rfl ?_
  exact k
theorem B_findRun_259 {xs : Nat → Int} {xl e : Nat} {h : LH} {Q : Option LV → LH → Prop} {v1 v2 : Int} {o3 : Option LV} {o4 : Option LV} {o5 : Option LV} (hF : RF h)
    (k : Rn xs xl e mm_findRun 266 [some (.inr (.inr 182)), some (.inl v1), some (.inl v2), some (.inl 0), o4, o5] [] (wr h 182 53 0) Q) :
    Rn xs xl e mm_findRun 259 [some (.inr (.inr 182)), some (.inl v1), some (.inl v2), o3, o4, o5] [] h Q := by
  refine R_ld (v := .inr (.inr 182)) dd_findRun_259 rfl rfl rfl rfl ?_
  refine R_ic dd_findRun_260 (by decide) rfl ?_
  refine R_pf (z := 0) dd_findRun_261 fd_12_486 io_182 fn_12_53 rfl rfl ?_
  refine R_ic dd_findRun_264 (by decide) rfl ?_
  refine R_st (ls' := [some (.inr (.inr 182)), some (.inl v1), some (.inl v2), some (.inl 0), o4, o5]) dd_findRun_265 rfl rfl rfl (Nat.le_of_ble_eq_true rfl) rfl rfl ?_
  exact k
theorem B_findRun_266 {xs : Nat → Int} {xl e : Nat} {h : LH} {Q : Option LV → LH → Prop} {v1 v2 v3 : Int} {o4 : Option LV} {o5 : Option LV} (hF : RF h) (r_v3 : 0 ≤ v3 ∧ v3 ≤ 6) (he : 1 ≤ e)
    (k : ((rd h 188 2) ≤ v3 →
        Q none h) ∧
      (v3 < (rd h 188 2) →
        ((rd h 198 (v3 + 1548)) ≠ 1 →
          Rn xs xl e mm_findRun 266 [some (.inr (.inr 182)), some (.inl v1), some (.inl v2), some (.inl (v3 + 1)), o4, o5] [] (wr h 182 53 (w32 ((rd h 182 53) + 1))) Q) ∧
        ((rd h 198 (v3 + 1548)) = 1 →
          ((rd h 198 (v3 + 1542)) ≠ (rd h 188 (4 * v3 + 117)) →
            Rn xs xl e mm_findRun 266 [some (.inr (.inr 182)), some (.inl v1), some (.inl v2), some (.inl (v3 + 1)), o4, o5] [] (wr h 182 53 (w32 ((rd h 182 53) + 1))) Q) ∧
          ((rd h 198 (v3 + 1542)) = (rd h 188 (4 * v3 + 117)) →
            Rn xs xl e mm_findRun 266 [some (.inr (.inr 182)), some (.inl v1), some (.inl v2), some (.inl (v3 + 1)), o4, o5] [] (wr h 182 53 (w32 ((rd h 182 53) + 0))) Q)))) :
    Rn xs xl e mm_findRun 266 [some (.inr (.inr 182)), some (.inl v1), some (.inl v2), some (.inl v3), o4, o5] [] h Q := by
  refine R_ld (v := .inl v3) dd_findRun_266 rfl rfl rfl rfl ?_
  refine R_ld (v := .inr (.inr 182)) dd_findRun_267 rfl rfl rfl rfl ?_
  refine R_call (as := [.inr (.inr 182)]) (rest := [.inl v3]) (M' := mm_people) (ls0 := [some (.inr (.inr 182))]) dd_findRun_268 rfl rfl (cw_v cw_12_338 io_182 rfl rfl (Nat.le_of_ble_eq_true rfl) (Nat.le_of_ble_eq_true rfl)) mt_people rfl (c := e - 1) (by omega) rfl ?_
  refine R_ld (v := .inr (.inr 182)) dd_people_0 rfl rfl rfl rfl ?_
  refine R_gf (v := .inr (.inr 188)) dd_people_1 fd_12_95 io_182 (congrArg (fun z : Int => (Sum.inr (Sum.inr z) : LV)) (rf_182_10 hF)) rfl ?_
  refine R_ic dd_people_4 (by decide) rfl ?_
  refine R_iald (v := (rd h 188 2)) (n := 300) dd_people_5 ia_188 la_188 (by decide) (rfl) rfl ?_
  refine R_iret dd_people_6 rfl ?_
  change Rn xs xl e mm_findRun 271 [some (.inr (.inr 182)), some (.inl v1), some (.inl v2), some (.inl v3), o4, o5] [.inl (rd h 188 2), .inl v3] h _
  refine R_icmp dd_findRun_271 rfl rfl (fun (c1 : (rd h 188 2) ≤ v3) => ?_) (fun (c1 : v3 < (rd h 188 2)) => ?_)
  · replace k := k.1 c1
    exact R_vret dd_findRun_327 rfl k
  · replace k := k.2 c1
    refine R_ld (v := .inr (.inr 182)) dd_findRun_274 rfl rfl rfl rfl ?_
    refine R_A dd_findRun_275 rfl rfl rfl rfl ?_
    refine R_gf (v := .inl (rd h 182 53)) dd_findRun_276 fd_12_486 io_182 (congrArg (fun z : Int => (Sum.inl z : LV)) (rfl)) rfl ?_
    refine R_ld (v := .inr (.inr 182)) dd_findRun_279 rfl rfl rfl rfl ?_
    refine R_gf (v := .inr (.inr 198)) dd_findRun_280 fd_12_125 io_182 (congrArg (fun z : Int => (Sum.inr (Sum.inr z) : LV)) (rf_182_24 hF)) rfl ?_
    refine R_si dd_findRun_283 (by decide) rfl ?_
    refine R_ld (v := .inl v3) dd_findRun_286 rfl rfl rfl rfl ?_
    refine R_iadd (c := v3 + 1548) dd_findRun_287 (by omega) (by omega) rfl ?_
    refine R_iald (v := (rd h 198 (v3 + 1548))) (n := 1610) dd_findRun_288 ia_198 la_198 (by omega) (rfl) rfl ?_
    refine R_ic dd_findRun_289 (by decide) rfl ?_
    refine R_icmp dd_findRun_290 rfl rfl (fun (c2 : (rd h 198 (v3 + 1548)) ≠ 1) => ?_) (fun (c2 : (rd h 198 (v3 + 1548)) = 1) => ?_)
    · replace k := k.1 c2
      refine R_ic dd_findRun_316 (by decide) rfl ?_
      refine R_iaddw dd_findRun_317 rfl ?_
      refine R_pf (z := (w32 ((rd h 182 53) + 1))) dd_findRun_318 fd_12_486 io_182 fn_12_53 rfl rfl ?_
      refine R_inc (y := v3 + 1) (ls' := [some (.inr (.inr 182)), some (.inl v1), some (.inl v2), some (.inl (v3 + 1)), o4, o5]) dd_findRun_321 rfl (by decide) (by omega) (by omega) rfl rfl ?_
      refine R_goto dd_findRun_324 rfl ?_
      exact k
    · replace k := k.2 c2
      refine R_ld (v := .inr (.inr 182)) dd_findRun_293 rfl rfl rfl rfl ?_
      refine R_gf (v := .inr (.inr 198)) dd_findRun_294 fd_12_125 io_182 (congrArg (fun z : Int => (Sum.inr (Sum.inr z) : LV)) (rf_182_24 hF)) rfl ?_
      refine R_si dd_findRun_297 (by decide) rfl ?_
      refine R_ld (v := .inl v3) dd_findRun_300 rfl rfl rfl rfl ?_
      refine R_iadd (c := v3 + 1542) dd_findRun_301 (by omega) (by omega) rfl ?_
      refine R_iald (v := (rd h 198 (v3 + 1542))) (n := 1610) dd_findRun_302 ia_198 la_198 (by omega) (rfl) rfl ?_
      refine R_ld (v := .inr (.inr 182)) dd_findRun_303 rfl rfl rfl rfl ?_
      refine R_ld (v := .inl v3) dd_findRun_304 rfl rfl rfl rfl ?_
      refine R_ic dd_findRun_305 (by decide) rfl ?_
      refine R_call (as := [.inr (.inr 182), .inl v3, .inl 1]) (rest := [.inl (rd h 198 (v3 + 1542)), .inl (rd h 182 53), .inr (.inr 182)]) (M' := mm_personOf) (ls0 := [some (.inr (.inr 182)), some (.inl v3), some (.inl 1)]) dd_findRun_306 rfl rfl (cw_v cw_12_325 io_182 rfl rfl (Nat.le_of_ble_eq_true rfl) (Nat.le_of_ble_eq_true rfl)) mt_personOf rfl (c := e - 1) (by omega) rfl ?_
      refine R_ld (v := .inr (.inr 182)) dd_personOf_0 rfl rfl rfl rfl ?_
      refine R_gf (v := .inr (.inr 188)) dd_personOf_1 fd_12_95 io_182 (congrArg (fun z : Int => (Sum.inr (Sum.inr z) : LV)) (rf_182_10 hF)) rfl ?_
      refine R_bi dd_personOf_4 (by decide) rfl ?_
      refine R_ic dd_personOf_6 (by decide) rfl ?_
      refine R_ld (v := .inl v3) dd_personOf_7 rfl rfl rfl rfl ?_
      refine R_imul (c := 4 * v3) dd_personOf_8 (by omega) (by omega) rfl ?_
      refine R_iadd (c := 4 * v3 + 116) dd_personOf_9 (by omega) (by omega) rfl ?_
      refine R_ld (v := .inl 1) dd_personOf_10 rfl rfl rfl rfl ?_
      refine R_iadd (c := 4 * v3 + 117) dd_personOf_11 (by omega) (by omega) rfl ?_
      refine R_iald (v := (rd h 188 (4 * v3 + 117))) (n := 300) dd_personOf_12 ia_188 la_188 (by omega) (rfl) rfl ?_
      refine R_iret dd_personOf_13 rfl ?_
      change Rn xs xl e mm_findRun 309 [some (.inr (.inr 182)), some (.inl v1), some (.inl v2), some (.inl v3), o4, o5] [.inl (rd h 188 (4 * v3 + 117)), .inl (rd h 198 (v3 + 1542)), .inl (rd h 182 53), .inr (.inr 182)] h _
      refine R_icmp dd_findRun_309 rfl rfl (fun (c3 : (rd h 198 (v3 + 1542)) ≠ (rd h 188 (4 * v3 + 117))) => ?_) (fun (c3 : (rd h 198 (v3 + 1542)) = (rd h 188 (4 * v3 + 117))) => ?_)
      · replace k := k.1 c3
        refine R_ic dd_findRun_316 (by decide) rfl ?_
        refine R_iaddw dd_findRun_317 rfl ?_
        refine R_pf (z := (w32 ((rd h 182 53) + 1))) dd_findRun_318 fd_12_486 io_182 fn_12_53 rfl rfl ?_
        refine R_inc (y := v3 + 1) (ls' := [some (.inr (.inr 182)), some (.inl v1), some (.inl v2), some (.inl (v3 + 1)), o4, o5]) dd_findRun_321 rfl (by decide) (by omega) (by omega) rfl rfl ?_
        refine R_goto dd_findRun_324 rfl ?_
        exact k
      · replace k := k.2 c3
        refine R_ic dd_findRun_312 (by decide) rfl ?_
        refine R_goto dd_findRun_313 rfl ?_
        refine R_iaddw dd_findRun_317 rfl ?_
        refine R_pf (z := (w32 ((rd h 182 53) + 0))) dd_findRun_318 fd_12_486 io_182 fn_12_53 rfl rfl ?_
        refine R_inc (y := v3 + 1) (ls' := [some (.inr (.inr 182)), some (.inl v1), some (.inl v2), some (.inl (v3 + 1)), o4, o5]) dd_findRun_321 rfl (by decide) (by omega) (by omega) rfl rfl ?_
        refine R_goto dd_findRun_324 rfl ?_
        exact k
theorem B_run_0 {xs : Nat → Int} {xl e : Nat} {h : LH} {Q : Option LV → LH → Prop} {v1 : Int} (hF : RF h)
    (k : (∃ c, c < e ∧ Rn xs xl c mm_findRun 0 [some (.inr (.inr 182)), none, none, none, none, none] [] (wr h 182 0 0) (fun r h' => Rn xs xl e mm_run 9 [some (.inr (.inr 182)), some (.inl v1)] (r.toList ++ []) h' Q))) :
    Rn xs xl e mm_run 0 [some (.inr (.inr 182)), some (.inl v1)] [] h Q := by
  refine R_ld (v := .inr (.inr 182)) dd_run_0 rfl rfl rfl rfl ?_
  refine R_ic dd_run_1 (by decide) rfl ?_
  refine R_pf (z := 0) dd_run_2 fd_12_1 io_182 fn_12_0 rfl rfl ?_
  refine R_ld (v := .inr (.inr 182)) dd_run_5 rfl rfl rfl rfl ?_
  obtain ⟨c, hc, k⟩ := k
  exact R_call (as := [.inr (.inr 182)]) (rest := []) (M' := mm_findRun) (ls0 := [some (.inr (.inr 182)), none, none, none, none, none]) dd_run_6 rfl rfl (cw_v cw_12_489 io_182 rfl rfl (Nat.le_of_ble_eq_true rfl) (Nat.le_of_ble_eq_true rfl)) mt_findRun rfl hc rfl k
theorem B_run_9 {xs : Nat → Int} {xl e : Nat} {h : LH} {Q : Option LV → LH → Prop} {v1 : Int} (hF : RF h)
    (k : (v1 ≠ 0 →
        (v1 ≠ 1 →
          Q (some (.inl (-1))) h) ∧
        (v1 = 1 →
          Q (some (.inl (rd h 182 53))) h)) ∧
      (v1 = 0 →
        Q (some (.inl (rd h 182 52))) h)) :
    Rn xs xl e mm_run 9 [some (.inr (.inr 182)), some (.inl v1)] [] h Q := by
  refine R_ld (v := .inl v1) dd_run_9 rfl rfl rfl rfl ?_
  refine R_if dd_run_10 rfl rfl (fun (c1 : v1 ≠ 0) => ?_) (fun (c1 : v1 = 0) => ?_)
  · replace k := k.1 c1
    refine R_ld (v := .inl v1) dd_run_20 rfl rfl rfl rfl ?_
    refine R_ic dd_run_21 (by decide) rfl ?_
    refine R_icmp dd_run_22 rfl rfl (fun (c2 : v1 ≠ 1) => ?_) (fun (c2 : v1 = 1) => ?_)
    · replace k := k.1 c2
      refine R_ic dd_run_32 (by decide) rfl ?_
      exact R_iret dd_run_33 rfl k
    · replace k := k.2 c2
      refine R_ld (v := .inr (.inr 182)) dd_run_25 rfl rfl rfl rfl ?_
      refine R_gf (v := .inl (rd h 182 53)) dd_run_26 fd_12_486 io_182 (congrArg (fun z : Int => (Sum.inl z : LV)) (rfl)) rfl ?_
      refine R_goto dd_run_29 rfl ?_
      exact R_iret dd_run_33 rfl k
  · replace k := k.2 c1
    refine R_ld (v := .inr (.inr 182)) dd_run_13 rfl rfl rfl rfl ?_
    refine R_gf (v := .inl (rd h 182 52)) dd_run_14 fd_12_483 io_182 (congrArg (fun z : Int => (Sum.inl z : LV)) (rfl)) rfl ?_
    refine R_goto dd_run_17 rfl ?_
    exact R_iret dd_run_33 rfl k
end
section
/-! LM, part 72: the reference's run -/
theorem wF_52 {h : LH} (hh : INV h) {v : Int} (iv : i32 v) : INV (wr h 182 52 v) := wrP (lo := -2147483648) (hi := 2147483647) hh (by unfold sens; omega) (Or.inl (by decide +kernel)) (leA1 (by decide +kernel)) iv.1 iv.2 iv
theorem wF_53 {h : LH} (hh : INV h) {v : Int} (iv : i32 v) : INV (wr h 182 53 v) := wrP (lo := -2147483648) (hi := 2147483647) hh (by unfold sens; omega) (Or.inl (by decide +kernel)) (leA1 (by decide +kernel)) iv.1 iv.2 iv
def frR (h h' : LH) : Prop := ∀ a i, a ≠ 196 → a ≠ 197 → a ≠ 201 → a ≠ 202 → ¬ (a = 198 ∧ 1540 ≤ i) → ¬ (a = 182 ∧ (i = 34 ∨ i = 35 ∨ i = 36 ∨ i = 52 ∨ i = 53)) → rd h' a i = rd h a i
theorem frR.w {h g : LH} (f : frR h g) {j v : Int} (hj : j = 52 ∨ j = 53) : frR h (wr g 182 j v) := fun a i n1 n2 n3 n4 n5 n6 => by
  rw [rd_wr, if_neg (by omega)]
  exact f a i n1 n2 n3 n4 n5 n6
section RU
variable {xs : Nat → Int} {xl e : Nat} {h : LH} {Q : Option LV → LH → Prop}
theorem D_findRun (he : 9 ≤ e) (hI : INV h) (k : ∀ g, INV g → frR h g → Q none g) : Rn xs xl e mm_findRun 0 [some (.inr (.inr 182)), none, none, none, none, none] [] h Q := by
  have l266 : ∀ (n : Nat) (g : LH) (v1 v2 v3 : Int) (o4 o5 : Option LV), 6 - v3 < n → 0 ≤ v3 → v3 ≤ 6 → INV g → frR h g → Rn xs xl e mm_findRun 266 [some (.inr (.inr 182)), some (.inl v1), some (.inl v2), some (.inl v3), o4, o5] [] g Q := by
    intro n
    induction n with
    | zero =>
      intro g v1 v2 v3 o4 o5 hn
      omega
    | succ n ih =>
      intro g v1 v2 v3 o4 o5 hn a0 a1 gI gf
      have np := rq_people gI.1
      exact B_findRun_266 (RF_of gI.1) ⟨a0, a1⟩ (by omega) ⟨fun _ => k g gI gf, fun c => ⟨fun _ => ih _ _ _ _ _ _ (by omega) (by omega) (by omega) (wF_53 gI (w32_in _)) (gf.w (by omega)), fun _ => ⟨fun _ => ih _ _ _ _ _ _ (by omega) (by omega) (by omega) (wF_53 gI (w32_in _)) (gf.w (by omega)), fun _ => ih _ _ _ _ _ _ (by omega) (by omega) (by omega) (wF_53 gI (w32_in _)) (gf.w (by omega))⟩⟩⟩
  have t259 : ∀ (g : LH) (v1 v2 : Int) (o3 o4 o5 : Option LV), INV g → frR h g → Rn xs xl e mm_findRun 259 [some (.inr (.inr 182)), some (.inl v1), some (.inl v2), o3, o4, o5] [] g Q := fun g v1 v2 o3 o4 o5 gI gf => B_findRun_259 (RF_of gI.1) (l266 7 _ _ _ 0 _ _ (by omega) (by omega) (by omega) (wF_53 gI (by unfold i32; omega)) (gf.w (by omega)))
  have l19 : ∀ (n : Nat) (g : LH) (v1 v2 : Int) (o3 o4 o5 : Option LV), (v2 = 0 ∨ 24 - rd g 198 1540 < n) → INV g → wOk g 1540 → frR h g → Rn xs xl e mm_findRun 19 [some (.inr (.inr 182)), some (.inl v1), some (.inl v2), o3, o4, o5] [] g Q := by
    intro n
    induction n with
    | zero =>
      intro g v1 v2 o3 o4 o5 hn gI gw gf
      have qh := rs_now gI.1 (i := 1540) 1540 0 (by omega) (by omega) (by omega) (by omega) (by omega) (by omega)
      exact B_findRun_19 (RF_of gI.1) ⟨fun _ => t259 g _ _ _ _ _ gI gf, fun c => by omega⟩
    | succ n ih =>
      intro g v1 v2 o3 o4 o5 hn gI gw gf
      refine B_findRun_19 (RF_of gI.1) ⟨fun _ => t259 g _ _ _ _ _ gI gf, fun c => ?_⟩
      have hH : 24 - rd g 198 1540 < (n : Int) + 1 := by omega
      generalize hHe : rd g 198 1540 = H at *
      have wp : ∀ (u : LH) (j v : Int), wOk u 1540 → wOk (wr u 182 j v) 1540 := fun u j v z => wOk_of (rdw_ne (by decide)) (rdw_ne (by decide)) (fun p _ _ => rdw_ne (by decide)) z
      have t233 : ∀ (u : LH) (v1 v2 v4 : Int) (o5 : Option LV), INV u → wOk u 1540 → frR h u → rd u 198 1540 = H → Rn xs xl e mm_findRun 233 [some (.inr (.inr 182)), some (.inl v1), some (.inl v2), some (.inl H), some (.inl v4), o5] [] u Q := by
        intro u v1 v2 v4 o5 uI uw uf uH
        refine B_findRun_233 (RF_of uI.1) ⟨fun _ => ih u _ 0 _ _ _ (Or.inl rfl) uI uw uf, fun c2 => ⟨0, by omega, D_passes uI (by omega) (by omega) (fun w wI wf wt => B_findRun_256 (RF_of wI.1) (ih w _ 1 _ _ _ (Or.inr ?_) wI ?_ ?_))⟩⟩
        · have := wt (by omega)
          omega
        · exact wOk_of (wf 188 2 (by omega)) (wf 188 0 (by omega)) (fun p p0 p1 => wf 198 _ (by omega)) uw
        · exact fun a i n1 n2 n3 n4 n5 n6 => (wf a i (by omega)).trans (uf a i n1 n2 n3 n4 n5 n6)
      have l120 : ∀ (m : Nat) (u : LH) (v1 v2 v4 : Int) (o5 : Option LV), 6 - v4 < m → 0 ≤ v4 → v4 ≤ 6 → INV u → wOk u 1540 → frR h u → rd u 198 1540 = H → Rn xs xl e mm_findRun 120 [some (.inr (.inr 182)), some (.inl v1), some (.inl v2), some (.inl H), some (.inl v4), o5] [] u Q := by
        intro m
        induction m with
        | zero =>
          intro u v1 v2 v4 o5 hm
          omega
        | succ m im =>
          intro u v1 v2 v4 o5 hm a0 a1 uI uw uf uH
          have np := rq_people uI.1
          have t172 : ∀ v5 : Int, v4 ≤ 5 → Rn xs xl e mm_findRun 172 [some (.inr (.inr 182)), some (.inl v1), some (.inl v2), some (.inl H), some (.inl v4), some (.inl v5)] [] u Q := by
            intro v5 l
            have nx : ∀ (w v : Int), i32 v → Rn xs xl e mm_findRun 120 [some (.inr (.inr 182)), some (.inl w), some (.inl v2), some (.inl H), some (.inl (v4 + 1)), some (.inl v5)] [] (wr u 182 52 v) Q := fun w v iv => im _ _ _ _ _ (by omega) (by omega) (by omega) (wF_52 uI iv) (wp _ _ _ uw) (uf.w (by omega)) (by rw [rdw_ne (by decide)]; exact uH)
            exact B_findRun_172 (RF_of uI.1) ⟨a0, l⟩ (by omega) ⟨fun _ => nx _ _ (w32_in _), fun _ => ⟨fun _ => ⟨fun _ => nx _ _ (w32_in _), fun _ => nx _ _ (w32_in _)⟩, fun _ => nx _ _ (w32_in _)⟩⟩
          exact B_findRun_120 (RF_of uI.1) ⟨a0, a1⟩ (by omega) ⟨fun _ => t233 u _ _ _ _ uI uw uf uH, fun c2 => ⟨fun _ => t172 _ (by omega), fun _ => ⟨fun _ => t172 _ (by omega), fun _ => t172 _ (by omega)⟩⟩⟩
      have l35 : ∀ (m : Nat) (u : LH) (v1 v2 v4 : Int) (o5 : Option LV), 6 - v4 < m → 0 ≤ v4 → v4 ≤ 6 → INV u → wOk u 1540 → frR h u → rd u 198 1540 = H → Rn xs xl e mm_findRun 35 [some (.inr (.inr 182)), some (.inl v1), some (.inl v2), some (.inl H), some (.inl v4), o5] [] u Q := by
        intro m
        induction m with
        | zero =>
          intro u v1 v2 v4 o5 hm
          omega
        | succ m im =>
          intro u v1 v2 v4 o5 hm a0 a1 uI uw uf uH
          have np := rq_people uI.1
          have t90 : ∀ (y : LH) (v5 : Int), v4 ≤ 5 → INV y → wOk y 1540 → frR h y → rd y 198 1540 = H → (v5 ≠ 0 → rd y 202 0 < rd y 188 1) → Rn xs xl e mm_findRun 90 [some (.inr (.inr 182)), some (.inl v1), some (.inl v2), some (.inl H), some (.inl v4), some (.inl v5)] [] y Q := by
            intro y v5 l yI yw yf yH yd
            refine B_findRun_90 (RF_of yI.1) ⟨a0, l⟩ ⟨fun _ => im y _ _ _ _ (by omega) (by omega) (by omega) yI yw yf yH, fun c5 => ⟨5, by omega, ?_⟩⟩
            have dd := rA_wayDoors yI.1 (i := 0) (by omega)
            have lt := yd c5
            refine D_goes (by omega) yI (by omega) ⟨a0, l⟩ dd (by omega) (fun r w wI r0 r1 rl wf => B_findRun_110 (RF_of wI.1) ⟨a0, l⟩ (im w _ _ _ _ (by omega) (by omega) (by omega) wI ?_ ?_ ?_))
            · intro x x0 x1 x2
              rw [wf.1 188 2 (by decide) (by decide) (by omega)] at x2
              rw [wf.1 188 0 (by decide) (by decide) (by omega)]
              have old := yw x x0 x1 x2
              by_cases z : x = v4
              · subst z
                rw [show 1540 + 2 + x = 1540 + x + 2 by omega] at old ⊢
                rcases wf.2 with q | q
                · rw [q]
                  exact old
                · rw [q]
                  have rr := rq_rooms yI.1
                  by_cases rz : 0 ≤ r
                  · exact rl lt rz
                  · have wh := rs_where yI.1 (i := 1540 + x + 2) 1540 x (by omega) (by omega) (by omega) (by omega) (by omega) (by omega)
                    omega
              · rw [wf.1 198 (1540 + 2 + x) (by decide) (by decide) (by omega)]
                exact old
            · exact fun a i n1 n2 n3 n4 n5 n6 => (wf.1 a i n1 n2 (by omega)).trans (yf a i n1 n2 n3 n4 n5 n6)
            · rw [wf.1 198 1540 (by decide) (by decide) (by omega)]
              exact yH
          refine B_findRun_35 (RF_of uI.1) ⟨a0, a1⟩ (by omega) ⟨fun _ => B_findRun_117 (RF_of uI.1) (l120 7 u _ _ 0 _ (by omega) (by omega) (by omega) uI uw uf uH), fun c2 => ⟨fun _ => t90 u 0 (by omega) uI uw uf uH (fun q => absurd rfl q), fun _ => ⟨fun _ => t90 u 0 (by omega) uI uw uf uH (fun q => absurd rfl q), fun _ => ⟨8, by omega, ?_⟩⟩⟩⟩
          refine D_findWay (K := key u) (S := rd u 198) (by omega) ⟨uI, rfl, rfl⟩ (by omega) (by omega) (by omega) ?_ (fun r y yc yf r0 r1 _ yd => ?_)
          · have := uw v4 a0 (by omega) c2
            rw [show 1540 + 2 + v4 = 1540 + v4 + 2 by omega] at this
            exact this
          · have y8 : ∀ i, rd y 198 i = rd u 198 i := fun i => by rw [yc.2.2]
            have yq : ∀ i, rd y 188 i = rd u 188 i := fun i => yf 188 i (by decide) (by decide) (by decide) (by decide) (by omega)
            have yw : wOk y 1540 := wOk_of (yq _) (yq _) (fun p _ _ => y8 _) uw
            have yf' : frR h y := fun a i n1 n2 n3 n4 n5 n6 => (yf a i n1 n2 n3 n4 (by omega)).trans (uf a i n1 n2 n3 n4 n5 n6)
            have yH : rd y 198 1540 = H := (y8 _).trans uH
            exact B_findRun_73 (RF_of yc.1.1) ⟨fun _ => t90 y 0 (by omega) yc.1 yw yf' yH (fun q => absurd rfl q), fun _ => ⟨fun _ => t90 y 0 (by omega) yc.1 yw yf' yH (fun q => absurd rfl q), fun c4 => t90 y 1 (by omega) yc.1 yw yf' yH (fun _ => by rw [yq 1]; exact yd c4)⟩⟩
      exact l35 7 g _ _ 0 _ (by omega) (by omega) (by omega) gI gw gf hHe
  refine B_findRun_0 (RF_of hI.1) ⟨0, by omega, D_copies hI.1 (by omega) (by omega) (by omega) (fun u ur uf uc => ?_)⟩
  have uI : INV u := INV_far hI ur (fun a i n _ _ => uf a i (by omega))
  have uw : wOk u 1540 := wOk_cp1 ⟨uf, uc⟩ (by omega) (INVw hI).1
  have uR : frR h u := fun a i _ _ _ _ n _ => uf a i (by omega)
  have i1 : INV (wr u 182 52 0) := wF_52 uI (by unfold i32; omega)
  have qh := rs_now i1.1 (i := 1540) 1540 0 (by omega) (by omega) (by omega) (by omega) (by omega) (by omega)
  exact B_findRun_10 (RF_of ur) (l19 25 _ _ _ _ _ _ (Or.inr (by omega)) i1 (wOk_of (rdw_ne (by decide)) (rdw_ne (by decide)) (fun p _ _ => rdw_ne (by decide)) uw) (uR.w (by omega)))
/-- run, a root -/
theorem D_run {v1 : Int} (he : 10 ≤ e) (hI : INV h) (k : ∀ r g, INV g → frR (wr h 182 0 0) g → Q (some (.inl r)) g) : Rn xs xl e mm_run 0 [some (.inr (.inr 182)), some (.inl v1)] [] h Q := by
  have i0 : INV (wr h 182 0 0) := wF_thrown hI (by omega) (by omega)
  exact B_run_0 (RF_of hI.1) ⟨9, by omega, D_findRun (by omega) i0 (fun g gI gf => B_run_9 (RF_of gI.1) ⟨fun _ => ⟨fun _ => k _ _ gI gf, fun _ => k _ _ gI gf⟩, fun _ => k _ _ gI gf⟩)⟩
end RU
end
section
/-! LM, part 73: contracts by hand in the form of the table -/
theorem ar_nil {as : List LV} (h : gAr [] as) : as = [] := by
  cases as with
  | nil => rfl
  | cons v vs => exact absurd h id
theorem ar_ref {n : Int} {l : List AV} {as : List LV} (h : gAr ((2, n, n, 0) :: l) as) : ∃ bs, as = .inr (.inr n) :: bs ∧ gAr l bs := by
  cases as with
  | nil => exact absurd h id
  | cons v vs =>
    obtain ⟨h1, h2⟩ := h
    refine ⟨vs, ?_, h2⟩
    rcases v with x | x | x
    · exact absurd h1.1 (fun q => by cases q)
    · exact absurd h1.1 (fun q => by cases q)
    · have a : n ≤ x := h1.2.1
      have b : x ≤ n := h1.2.2.1
      rw [show x = n by omega]
theorem ar_int {lo hi : Int} {s : Nat} {l : List AV} {as : List LV} (h : gAr ((0, lo, hi, s) :: l) as) : ∃ x bs, as = .inl x :: bs ∧ lo ≤ x ∧ x ≤ hi ∧ gAr l bs := by
  cases as with
  | nil => exact absurd h id
  | cons v vs =>
    obtain ⟨h1, h2⟩ := h
    rcases v with x | x | x
    · exact ⟨x, vs, rfl, h1.2.2.1, h1.2.2.2.1, h2⟩
    · exact absurd h1.1 (fun q => by cases q)
    · exact absurd h1.1 (fun q => by cases q)
theorem in1 {lo hi x : Int} (h0 : lo ≤ x) (h1 : x ≤ hi) (i0 : i32 x) : gV (0, lo, hi, 1) (.inl x) := ⟨rfl, i0, h0, h1, by
  show ((1 : Nat) : Int) ∣ (x - lo)
  exact ⟨x - lo, by omega⟩⟩
def SMclosure : SM := (235, 1, [(2, 182, 182, 0), (0, 0, 9, 1)], [(some (0, 1, 1023, 1), pv0, [], [])], [], [])
theorem ok_closure {xs : Nat → Int} {xl : Nat} : SMok xs xl INV SMclosure := by
  intro M as h hM hI ha hf hl
  have e : M = mm_closure := by
    have q : MTB 235 = some mm_closure := by rfl
    exact Option.some.inj (hM.symm.trans q)
  subst e
  obtain ⟨bs, rfl, hb⟩ := ar_ref ha
  obtain ⟨x, cs, rfl, x0, x1, hc⟩ := ar_int hb
  have := ar_nil hc
  subst this
  exact D_closure (by decide) hI ⟨x0, x1⟩ (fun r r0 r1 => ⟨hI, fun _ _ _ => rfl, _, List.mem_singleton.mpr rfl, ⟨in1 r0 r1 (by unfold i32; omega), Or.inl rfl⟩, (fun q hq => absurd hq (List.not_mem_nil)), (fun q hq => absurd hq (List.not_mem_nil))⟩)
def SMkeeps : SM := (215, 1, [(2, 182, 182, 0)], [(none, pv0, [], [])], [(198, 198, 350, 1433), (182, 182, 25, 25)], [])
theorem ok_keeps {xs : Nat → Int} {xl : Nat} : SMok xs xl INV SMkeeps := by
  intro M as h hM hI ha hf hl
  have e : M = mm_keeps := by
    have q : MTB 215 = some mm_keeps := by rfl
    exact Option.some.inj (hM.symm.trans q)
  subst e
  obtain ⟨bs, rfl, hb⟩ := ar_ref ha
  have := ar_nil hb
  subst this
  refine D_keeps (by decide) hI (fun g gI gf => ⟨gI, fun a i q => ?_, _, List.mem_singleton.mpr rfl, trivial, (fun q hq => absurd hq (List.not_mem_nil)), (fun q hq => absurd hq (List.not_mem_nil))⟩)
  have q' : inBx [(198, 198, 350, 1433), (182, 182, 25, 25)] a i = false := q
  unfold inBx at q'
  simp only [List.any_cons, List.any_nil, Bool.or_false, Bool.or_eq_false_iff, Bool.and_eq_false_iff, decide_eq_false_iff_not] at q'
  exact gf a i (by omega) (by omega)
end
section
/-! LM, part 74: no run writes beside a row -/
def outA (a i : Int) : Prop := (lay a.toNat).1 ≠ 0 ∧ inA a i = false
theorem out_wr {h : LH} {a i b j v : Int} (ho : outA a i) (hw : inA b j = true) : rd (wr h b j v) a i = rd h a i := by
  rw [rd_wr, if_neg]
  rintro ⟨rfl, rfl⟩
  rw [ho.2] at hw
  cases hw
theorem out_cpy {h g : LH} {a sp b dp x i : Int} (ho : outA x i) : ∀ k : Nat, 0 ≤ dp → dp + k ≤ ((lay b.toNat).2.2 : Int) → rd (cpyL g a sp b dp k ++ h) x i = rd h x i
  | 0, _, _ => rfl
  | k + 1, h0, h1 => by
    have ih := out_cpy (h := h) (g := g) (a := a) (sp := sp) (b := b) (dp := dp) ho k h0 (by omega)
    have e := out_wr (h := cpyL g a sp b dp k ++ h) (b := b) (j := dp + k) (v := rd g a (sp + k)) ho (by
      unfold inA
      rw [decide_eq_true (show 0 ≤ dp + (k : Int) by omega), decide_eq_true (show dp + (k : Int) < ((lay b.toNat).2.2 : Int) by omega)]
      rfl)
    exact e.trans ih
theorem lmP_out {o n : Nat} {ini : Bool} {ins : Instr} {st st' : List LV} {h h' : LH} {a i : Int} (hp : lmP o n ini ins st h = some (st', h')) (ho : outA a i) : rd h' a i = rd h a i := by
  unfold lmP at hp
  split at hp
  · split at hp
    · split at hp
      · split at hp
        · next c =>
          rw [Option.map_eq_some_iff] at hp
          obtain ⟨z, _, e⟩ := hp
          cases e
          rw [rd_wr, if_neg]
          rintro ⟨rfl, _⟩
          rw [Bool.and_eq_true] at c
          have q := c.1
          unfold isO at q
          simp only [Bool.and_eq_true, beq_iff_eq] at q
          exact ho.1 q.1.2
        · cases hp
      · cases hp
    · cases hp
  · split at hp
    · split at hp
      · next c =>
        cases hp
        rw [Bool.and_eq_true] at c
        exact out_wr ho c.2
      · cases hp
    · cases hp
  · split at hp
    · split at hp
      · next c =>
        cases hp
        rw [Bool.and_eq_true] at c
        exact out_wr ho c.2
      · cases hp
    · cases hp
  · split at hp
    · split at hp
      · next c =>
        cases hp
        rw [Bool.and_eq_true] at c
        exact out_wr ho c.1
      · cases hp
    · cases hp
  · split at hp
    · split at hp
      · next c =>
        cases hp
        rw [Bool.and_eq_true, Bool.and_eq_true] at c
        exact out_wr ho c.1.2
      · cases hp
    · cases hp
  · cases hp
theorem lmQ_out {o n : Nat} {ins : Instr} {st st' : List LV} {h h' : LH} {a i : Int} (hp : lmQ o n ins st h = some (st', h')) (ho : outA a i) : rd h' a i = rd h a i := by
  unfold lmQ at hp
  split at hp
  · split at hp
    · split at hp
      · split at hp
        · split at hp
          · cases hp
            rfl
          · cases hp
        · cases hp
      · cases hp
    · cases hp
  · split at hp
    · split at hp
      · split at hp
        · split at hp
          · next c =>
            cases hp
            simp only [Bool.and_eq_true, decide_eq_true_eq] at c
            exact out_cpy ho _ (by omega) (by omega)
          · cases hp
        · cases hp
      · cases hp
    · cases hp
  · cases hp
theorem lmI_out {o n pc len pc' n' : Nat} {ini : Bool} {xs : Nat → Int} {xl : Nat} {ins : Instr} {ls ls' : LL} {st st' : List LV} {h h' : LH} {a i : Int} (hp : lmI o n ini xs xl ins pc len ls st h = some (pc', ls', st', n', h')) (ho : outA a i) : rd h' a i = rd h a i := by
  unfold lmI at hp
  split at hp
  · cases hp; rfl
  split at hp
  · cases hp; rfl
  split at hp
  · cases hp; rfl
  split at hp
  · split at hp
    · cases hp; rfl
    · cases hp
  split at hp
  · cases hp; rfl
  split at hp
  · next q => cases hp; exact lmP_out q ho
  split at hp
  · cases hp; rfl
  split at hp
  · next q => cases hp; exact lmQ_out q ho
  split at hp
  · cases hp; rfl
  split at hp
  · cases hp; rfl
  split at hp
  · split at hp
    · split at hp
      · split at hp
        · cases hp; rfl
        · cases hp
      · split at hp
        · cases hp; rfl
        · cases hp
    · cases hp
  · cases hp
theorem lmRun_out {xs : Nat → Int} {xl : Nat} {a i : Int} (ho : outA a i) : ∀ (f d : Nat) (M : LM_M) (pc : Nat) (ls : LL) (st : List LV) (n : Nat) (h : LH) (r : Option LV) (n' : Nat) (h' : LH), lmRun xs xl f d M pc ls st n h = some (r, n', h') → rd h' a i = rd h a i := by
  intro f
  induction f with
  | zero =>
    intro d M pc ls st n h r n' h' q
    unfold lmRun at q
    cases q
  | succ f ih =>
    intro d M pc ls st n h r n' h' q
    unfold lmRun at q
    split at q
    · cases q
    split at q
    · cases q
    split at q
    · cases q; rfl
    split at q
    · split at q
      · cases q
      split at q
      · cases q
      split at q
      · cases q
      · next q1 => exact (ih _ _ _ _ _ _ _ _ _ _ q).trans (ih _ _ _ _ _ _ _ _ _ _ q1)
    · split at q
      · cases q
      · next q1 => exact (ih _ _ _ _ _ _ _ _ _ _ q).trans (lmI_out q1 ho)
theorem Rn.out {xs : Nat → Int} {xl d : Nat} {M : LM_M} {pc : Nat} {ls : LL} {st : List LV} {h : LH} {Q : Option LV → LH → Prop} (hr : Rn xs xl d M pc ls st h Q) : Rn xs xl d M pc ls st h (fun r h' => Q r h' ∧ ∀ a i, outA a i → rd h' a i = rd h a i) := by
  obtain ⟨f, r, h', h1, h2⟩ := hr
  exact ⟨f, r, h', h1, h2, fun a i ho => lmRun_out ho f _ _ _ _ _ _ _ _ _ _ h1⟩
end
section
/-! LM, part 75: leadsTo in the form of the table -/
theorem outA_mk {c : Int} {n : Nat} (hk : (lay c.toNat).1 ≠ 0) (hn : (lay c.toNat).2.2 = n) {i : Int} (hi : ¬ (0 ≤ i ∧ i < (n : Int))) : outA c i := by
  refine ⟨hk, ?_⟩
  unfold inA
  rw [hn]
  simp only [Bool.and_eq_false_iff, decide_eq_false_iff_not]
  omega
def SMleadsTo : SM := (207, 3, [(2, 182, 182, 0), (0, 0, 13, 1), (0, 0, 3, 1), (0, 0, 9, 1), (0, 0, 25, 1), (0, -2147483648, 2147483647, 1), (0, -2147483648, 2147483647, 1)], [(some (0, -1, 9, 1), pv0, [], [])], [(196, 196, 0, 3), (197, 197, 0, 1099)], [])
theorem ok_leadsTo {xs : Nat → Int} {xl : Nat} : SMok xs xl INV SMleadsTo := by
  intro M as h hM hI ha hf hl
  have e : M = mm_leadsTo := by
    have q : MTB 207 = some mm_leadsTo := by rfl
    exact Option.some.inj (hM.symm.trans q)
  subst e
  obtain ⟨b0, rfl, ha1⟩ := ar_ref ha
  obtain ⟨d, b1, rfl, d0, d1, ha2⟩ := ar_int ha1
  obtain ⟨s, b2, rfl, s0, s1, ha3⟩ := ar_int ha2
  obtain ⟨room, b3, rfl, r0, r1, ha4⟩ := ar_int ha3
  obtain ⟨hr, b4, rfl, h0, h1, ha5⟩ := ar_int ha4
  obtain ⟨sh, b5, rfl, _, _, ha6⟩ := ar_int ha5
  obtain ⟨tu, b6, rfl, _, _, ha7⟩ := ar_int ha6
  have := ar_nil ha7
  subst this
  obtain ⟨rb, _, _, run⟩ := LF_ok (key h) sh tu ⟨d0, d1⟩ ⟨s0, s1⟩ ⟨r0, r1⟩ ⟨h0, h1⟩
  have R := run xs xl 3 h (fun r h' => INV h' ∧ frL h h' ∧ r = some (.inl (LF (key h) d s room hr sh tu))) (by omega) hI rfl (fun h' i f => ⟨i, f, rfl⟩)
  refine R.out.mono (fun r h' q => ?_)
  obtain ⟨⟨q1, q2, q3⟩, q4⟩ := q
  subst q3
  refine ⟨q1, fun a i q => ?_, _, List.mem_singleton.mpr rfl, ⟨in1 rb.1 rb.2 (by unfold i32; omega), Or.inl rfl⟩, (fun q hq => absurd hq (List.not_mem_nil)), (fun q hq => absurd hq (List.not_mem_nil))⟩
  have q' : inBx [(196, 196, 0, 3), (197, 197, 0, 1099)] a i = false := q
  unfold inBx at q'
  simp only [List.any_cons, List.any_nil, Bool.or_false, Bool.or_eq_false_iff, Bool.and_eq_false_iff, decide_eq_false_iff_not] at q'
  by_cases c1 : a = 196
  · subst c1
    exact q4 196 i (outA_mk (n := 4) (by decide +kernel) (by decide +kernel) (by omega))
  · by_cases c2 : a = 197
    · subst c2
      exact q4 197 i (outA_mk (n := 1100) (by decide +kernel) (by decide +kernel) (by omega))
    · exact q2 a i c1 c2
end
