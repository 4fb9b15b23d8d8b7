/-! LM, by program (wip/p2/hand.py): rows of a scene: copied, passed, begun, kept; roots -/
def mm_OneSided_keepForUndo : LM_M := (⟨"OneSided", "keepForUndo", "(LOneSided$Scene;)V"⟩, prog_1_method_38_code, 2, none, 11, 2, 0, 818, 817, 1000031)
def mm_OneSided_isDoor : LM_M := (⟨"OneSided", "isDoor", "(I)Z"⟩, prog_1_method_31_code, 2, (some .boolean), 11, 2, 0, 768, 767, 1000027)
def mm_OneSided_isPerson : LM_M := (⟨"OneSided", "isPerson", "(I)Z"⟩, prog_1_method_33_code, 2, (some .boolean), 11, 2, 0, 776, 775, 1000028)
def mm_OneSided_isSortInHour : LM_M := (⟨"OneSided", "isSortInHour", "(II)Z"⟩, prog_1_method_35_code, 3, (some .boolean), 11, 3, 0, 788, 787, 1000030)
theorem dd_Scene_begin_30 : decode mm_Scene_begin.2.1 30 = .ok (.iload_n 2, 1) := by decide +kernel
theorem dd_Scene_begin_31 : decode mm_Scene_begin.2.1 31 = .ok (.aload_n 1, 1) := by decide +kernel
theorem dd_Scene_begin_32 : decode mm_Scene_begin.2.1 32 = .ok (.getfield 37, 3) := by decide +kernel
theorem fd_9_37 : fld 9 37 = some (6, 4) := by decide +kernel
theorem dd_Scene_begin_35 : decode mm_Scene_begin.2.1 35 = .ok (.if_icmp .ge (53), 3) := by decide +kernel
theorem dd_Scene_begin_88 : decode mm_Scene_begin.2.1 88 = .ok (.return_, 1) := by decide +kernel
theorem dd_Scene_begin_38 : decode mm_Scene_begin.2.1 38 = .ok (.aload_n 1, 1) := by decide +kernel
theorem dd_Scene_begin_39 : decode mm_Scene_begin.2.1 39 = .ok (.getfield 42, 3) := by decide +kernel
theorem dd_Scene_begin_42 : decode mm_Scene_begin.2.1 42 = .ok (.iload_n 2, 1) := by decide +kernel
theorem dd_Scene_begin_43 : decode mm_Scene_begin.2.1 43 = .ok (.aaload, 1) := by decide +kernel
theorem dd_Scene_begin_44 : decode mm_Scene_begin.2.1 44 = .ok (.astore_n 3, 1) := by decide +kernel
theorem dd_Scene_begin_45 : decode mm_Scene_begin.2.1 45 = .ok (.aload_n 0, 1) := by decide +kernel
theorem dd_Scene_begin_46 : decode mm_Scene_begin.2.1 46 = .ok (.getfield 9, 3) := by decide +kernel
theorem dd_Scene_begin_49 : decode mm_Scene_begin.2.1 49 = .ok (.iload_n 2, 1) := by decide +kernel
theorem dd_Scene_begin_50 : decode mm_Scene_begin.2.1 50 = .ok (.aload_n 3, 1) := by decide +kernel
theorem dd_Scene_begin_51 : decode mm_Scene_begin.2.1 51 = .ok (.getfield 46, 3) := by decide +kernel
theorem fd_9_46 : fld 9 46 = some (4, 2) := by decide +kernel
theorem dd_Scene_begin_54 : decode mm_Scene_begin.2.1 54 = .ok (.iastore, 1) := by decide +kernel
theorem dd_Scene_begin_55 : decode mm_Scene_begin.2.1 55 = .ok (.aload_n 0, 1) := by decide +kernel
theorem dd_Scene_begin_56 : decode mm_Scene_begin.2.1 56 = .ok (.dup, 1) := by decide +kernel
theorem dd_Scene_begin_57 : decode mm_Scene_begin.2.1 57 = .ok (.getfield 28, 3) := by decide +kernel
theorem dd_Scene_begin_60 : decode mm_Scene_begin.2.1 60 = .ok (.aload_n 3, 1) := by decide +kernel
theorem dd_Scene_begin_61 : decode mm_Scene_begin.2.1 61 = .ok (.getfield 51, 3) := by decide +kernel
theorem dd_Scene_begin_64 : decode mm_Scene_begin.2.1 64 = .ok (.aload_n 3, 1) := by decide +kernel
theorem dd_Scene_begin_65 : decode mm_Scene_begin.2.1 65 = .ok (.getfield 46, 3) := by decide +kernel
theorem dd_Scene_begin_68 : decode mm_Scene_begin.2.1 68 = .ok (.if_icmp .ne (9), 3) := by decide +kernel
theorem dd_Scene_begin_77 : decode mm_Scene_begin.2.1 77 = .ok (.iconst 0, 1) := by decide +kernel
theorem dd_Scene_begin_78 : decode mm_Scene_begin.2.1 78 = .ok (.ior, 1) := by decide +kernel
theorem dd_Scene_begin_79 : decode mm_Scene_begin.2.1 79 = .ok (.putfield 28, 3) := by decide +kernel
theorem dd_Scene_begin_82 : decode mm_Scene_begin.2.1 82 = .ok (.iinc 2 1, 3) := by decide +kernel
theorem dd_Scene_begin_85 : decode mm_Scene_begin.2.1 85 = .ok (.goto (-55), 3) := by decide +kernel
theorem dd_Scene_begin_71 : decode mm_Scene_begin.2.1 71 = .ok (.iconst 1, 1) := by decide +kernel
theorem dd_Scene_begin_72 : decode mm_Scene_begin.2.1 72 = .ok (.iload_n 2, 1) := by decide +kernel
theorem dd_Scene_begin_73 : decode mm_Scene_begin.2.1 73 = .ok (.ishl, 1) := by decide +kernel
theorem dd_Scene_begin_74 : decode mm_Scene_begin.2.1 74 = .ok (.goto 4, 3) := by decide +kernel
theorem dd_OneSided_keepForUndo_0 : decode mm_OneSided_keepForUndo.2.1 0 = .ok (.aload_n 0, 1) := by decide +kernel
theorem dd_OneSided_keepForUndo_1 : decode mm_OneSided_keepForUndo.2.1 1 = .ok (.getfield 42, 3) := by decide +kernel
theorem fd_11_42 : fld 11 42 = some (11, 7) := by decide +kernel
theorem rf_1_7 {h : LH} (hF : RF h) : rd h 1 7 = 76 := hF 1 7 76 (by decide +kernel) (by decide +kernel)
theorem dd_OneSided_keepForUndo_4 : decode mm_OneSided_keepForUndo.2.1 4 = .ok (.aload_n 0, 1) := by decide +kernel
theorem dd_OneSided_keepForUndo_5 : decode mm_OneSided_keepForUndo.2.1 5 = .ok (.getfield 219, 3) := by decide +kernel
theorem fd_11_219 : fld 11 219 = some (11, 8) := by decide +kernel
theorem dd_OneSided_keepForUndo_8 : decode mm_OneSided_keepForUndo.2.1 8 = .ok (.aload_n 0, 1) := by decide +kernel
theorem dd_OneSided_keepForUndo_9 : decode mm_OneSided_keepForUndo.2.1 9 = .ok (.getfield 104, 3) := by decide +kernel
theorem dd_OneSided_keepForUndo_12 : decode mm_OneSided_keepForUndo.2.1 12 = .ok (.iadd, 1) := by decide +kernel
theorem dd_OneSided_keepForUndo_13 : decode mm_OneSided_keepForUndo.2.1 13 = .ok (.bipush 16, 2) := by decide +kernel
theorem dd_OneSided_keepForUndo_15 : decode mm_OneSided_keepForUndo.2.1 15 = .ok (.invokestatic 222, 3) := by decide +kernel
theorem dd_OneSided_keepForUndo_18 : decode mm_OneSided_keepForUndo.2.1 18 = .ok (.aaload, 1) := by decide +kernel
theorem ia_76 : isA NC 76 5 = true := by decide +kernel
theorem la_76 : (lay (76 : Int).toNat).2.2 = 16 := by decide +kernel
theorem dd_OneSided_keepForUndo_19 : decode mm_OneSided_keepForUndo.2.1 19 = .ok (.aload_n 1, 1) := by decide +kernel
theorem dd_OneSided_keepForUndo_20 : decode mm_OneSided_keepForUndo.2.1 20 = .ok (.invokevirtual 201, 3) := by decide +kernel
theorem cw_11_201 : cwOk 11 201 0 71 2 2 9 = true := by decide +kernel
theorem dd_OneSided_keepForUndo_23 : decode mm_OneSided_keepForUndo.2.1 23 = .ok (.aload_n 0, 1) := by decide +kernel
theorem dd_OneSided_keepForUndo_24 : decode mm_OneSided_keepForUndo.2.1 24 = .ok (.getfield 104, 3) := by decide +kernel
theorem dd_OneSided_keepForUndo_27 : decode mm_OneSided_keepForUndo.2.1 27 = .ok (.bipush 16, 2) := by decide +kernel
theorem dd_OneSided_keepForUndo_29 : decode mm_OneSided_keepForUndo.2.1 29 = .ok (.if_icmp .ge (16), 3) := by decide +kernel
theorem dd_OneSided_keepForUndo_45 : decode mm_OneSided_keepForUndo.2.1 45 = .ok (.aload_n 0, 1) := by decide +kernel
theorem dd_OneSided_keepForUndo_46 : decode mm_OneSided_keepForUndo.2.1 46 = .ok (.aload_n 0, 1) := by decide +kernel
theorem dd_OneSided_keepForUndo_47 : decode mm_OneSided_keepForUndo.2.1 47 = .ok (.getfield 219, 3) := by decide +kernel
theorem dd_OneSided_keepForUndo_50 : decode mm_OneSided_keepForUndo.2.1 50 = .ok (.iconst 1, 1) := by decide +kernel
theorem dd_OneSided_keepForUndo_51 : decode mm_OneSided_keepForUndo.2.1 51 = .ok (.iadd, 1) := by decide +kernel
theorem dd_OneSided_keepForUndo_52 : decode mm_OneSided_keepForUndo.2.1 52 = .ok (.bipush 16, 2) := by decide +kernel
theorem dd_OneSided_keepForUndo_54 : decode mm_OneSided_keepForUndo.2.1 54 = .ok (.invokestatic 222, 3) := by decide +kernel
theorem dd_OneSided_keepForUndo_57 : decode mm_OneSided_keepForUndo.2.1 57 = .ok (.putfield 219, 3) := by decide +kernel
theorem fn_11_8 : fin 11 8 = false := by decide +kernel
theorem dd_OneSided_keepForUndo_60 : decode mm_OneSided_keepForUndo.2.1 60 = .ok (.return_, 1) := by decide +kernel
theorem dd_OneSided_keepForUndo_32 : decode mm_OneSided_keepForUndo.2.1 32 = .ok (.aload_n 0, 1) := by decide +kernel
theorem dd_OneSided_keepForUndo_33 : decode mm_OneSided_keepForUndo.2.1 33 = .ok (.dup, 1) := by decide +kernel
theorem dd_OneSided_keepForUndo_34 : decode mm_OneSided_keepForUndo.2.1 34 = .ok (.getfield 104, 3) := by decide +kernel
theorem dd_OneSided_keepForUndo_37 : decode mm_OneSided_keepForUndo.2.1 37 = .ok (.iconst 1, 1) := by decide +kernel
theorem dd_OneSided_keepForUndo_38 : decode mm_OneSided_keepForUndo.2.1 38 = .ok (.iadd, 1) := by decide +kernel
theorem dd_OneSided_keepForUndo_39 : decode mm_OneSided_keepForUndo.2.1 39 = .ok (.putfield 104, 3) := by decide +kernel
theorem dd_OneSided_keepForUndo_42 : decode mm_OneSided_keepForUndo.2.1 42 = .ok (.goto 18, 3) := by decide +kernel
theorem dd_OneSided_undo_0 : decode mm_OneSided_undo.2.1 0 = .ok (.aload_n 0, 1) := by decide +kernel
theorem dd_OneSided_undo_1 : decode mm_OneSided_undo.2.1 1 = .ok (.getfield 104, 3) := by decide +kernel
theorem dd_OneSided_undo_4 : decode mm_OneSided_undo.2.1 4 = .ok (.ifCond .ne (5), 3) := by decide +kernel
theorem dd_OneSided_undo_9 : decode mm_OneSided_undo.2.1 9 = .ok (.aload_n 0, 1) := by decide +kernel
theorem dd_OneSided_undo_10 : decode mm_OneSided_undo.2.1 10 = .ok (.dup, 1) := by decide +kernel
theorem dd_OneSided_undo_11 : decode mm_OneSided_undo.2.1 11 = .ok (.getfield 104, 3) := by decide +kernel
theorem dd_OneSided_undo_14 : decode mm_OneSided_undo.2.1 14 = .ok (.iconst 1, 1) := by decide +kernel
theorem dd_OneSided_undo_15 : decode mm_OneSided_undo.2.1 15 = .ok (.isub, 1) := by decide +kernel
theorem dd_OneSided_undo_16 : decode mm_OneSided_undo.2.1 16 = .ok (.putfield 104, 3) := by decide +kernel
theorem dd_OneSided_undo_19 : decode mm_OneSided_undo.2.1 19 = .ok (.aload_n 0, 1) := by decide +kernel
theorem dd_OneSided_undo_20 : decode mm_OneSided_undo.2.1 20 = .ok (.getfield 29, 3) := by decide +kernel
theorem dd_OneSided_undo_23 : decode mm_OneSided_undo.2.1 23 = .ok (.getfield 149, 3) := by decide +kernel
theorem dd_OneSided_undo_26 : decode mm_OneSided_undo.2.1 26 = .ok (.aload_n 0, 1) := by decide +kernel
theorem dd_OneSided_undo_27 : decode mm_OneSided_undo.2.1 27 = .ok (.getfield 42, 3) := by decide +kernel
theorem dd_OneSided_undo_30 : decode mm_OneSided_undo.2.1 30 = .ok (.aload_n 0, 1) := by decide +kernel
theorem dd_OneSided_undo_31 : decode mm_OneSided_undo.2.1 31 = .ok (.getfield 219, 3) := by decide +kernel
theorem dd_OneSided_undo_34 : decode mm_OneSided_undo.2.1 34 = .ok (.aload_n 0, 1) := by decide +kernel
theorem dd_OneSided_undo_35 : decode mm_OneSided_undo.2.1 35 = .ok (.getfield 104, 3) := by decide +kernel
theorem dd_OneSided_undo_38 : decode mm_OneSided_undo.2.1 38 = .ok (.iadd, 1) := by decide +kernel
theorem dd_OneSided_undo_39 : decode mm_OneSided_undo.2.1 39 = .ok (.bipush 16, 2) := by decide +kernel
theorem dd_OneSided_undo_41 : decode mm_OneSided_undo.2.1 41 = .ok (.invokestatic 222, 3) := by decide +kernel
theorem dd_OneSided_undo_44 : decode mm_OneSided_undo.2.1 44 = .ok (.aaload, 1) := by decide +kernel
theorem dd_OneSided_undo_45 : decode mm_OneSided_undo.2.1 45 = .ok (.invokevirtual 201, 3) := by decide +kernel
theorem dd_OneSided_undo_7 : decode mm_OneSided_undo.2.1 7 = .ok (.iconst 0, 1) := by decide +kernel
theorem dd_OneSided_undo_8 : decode mm_OneSided_undo.2.1 8 = .ok (.ireturn, 1) := by decide +kernel
theorem dd_OneSided_door_0 : decode mm_OneSided_door.2.1 0 = .ok (.aload_n 0, 1) := by decide +kernel
theorem dd_OneSided_door_1 : decode mm_OneSided_door.2.1 1 = .ok (.iload_n 1, 1) := by decide +kernel
theorem dd_OneSided_door_2 : decode mm_OneSided_door.2.1 2 = .ok (.invokevirtual 115, 3) := by decide +kernel
theorem cw_11_115 : cwOk 11 115 0 61 2 2 11 = true := by decide +kernel
theorem mt_OneSided_isDoor : MTB 61 = some mm_OneSided_isDoor := rfl
theorem dd_OneSided_isDoor_0 : decode mm_OneSided_isDoor.2.1 0 = .ok (.iload_n 1, 1) := by decide +kernel
theorem dd_OneSided_isDoor_1 : decode mm_OneSided_isDoor.2.1 1 = .ok (.ifCond .lt (18), 3) := by decide +kernel
theorem dd_OneSided_isDoor_19 : decode mm_OneSided_isDoor.2.1 19 = .ok (.iconst 0, 1) := by decide +kernel
theorem dd_OneSided_isDoor_20 : decode mm_OneSided_isDoor.2.1 20 = .ok (.ireturn, 1) := by decide +kernel
theorem dd_OneSided_door_5 : decode mm_OneSided_door.2.1 5 = .ok (.ifCond .ne (5), 3) := by decide +kernel
theorem dd_OneSided_door_8 : decode mm_OneSided_door.2.1 8 = .ok (.iconst (-1), 1) := by decide +kernel
theorem dd_OneSided_door_9 : decode mm_OneSided_door.2.1 9 = .ok (.ireturn, 1) := by decide +kernel
theorem dd_OneSided_isDoor_4 : decode mm_OneSided_isDoor.2.1 4 = .ok (.iload_n 1, 1) := by decide +kernel
theorem dd_OneSided_isDoor_5 : decode mm_OneSided_isDoor.2.1 5 = .ok (.aload_n 0, 1) := by decide +kernel
theorem dd_OneSided_isDoor_6 : decode mm_OneSided_isDoor.2.1 6 = .ok (.getfield 19, 3) := by decide +kernel
theorem dd_OneSided_isDoor_9 : decode mm_OneSided_isDoor.2.1 9 = .ok (.getfield 345, 3) := by decide +kernel
theorem fd_11_345 : fld 11 345 = some (6, 2) := by decide +kernel
theorem dd_OneSided_isDoor_12 : decode mm_OneSided_isDoor.2.1 12 = .ok (.if_icmp .ge (7), 3) := by decide +kernel
theorem dd_OneSided_isDoor_15 : decode mm_OneSided_isDoor.2.1 15 = .ok (.iconst 1, 1) := by decide +kernel
theorem dd_OneSided_isDoor_16 : decode mm_OneSided_isDoor.2.1 16 = .ok (.goto 4, 3) := by decide +kernel
theorem dd_OneSided_door_10 : decode mm_OneSided_door.2.1 10 = .ok (.aload_n 0, 1) := by decide +kernel
theorem dd_OneSided_door_11 : decode mm_OneSided_door.2.1 11 = .ok (.getfield 19, 3) := by decide +kernel
theorem dd_OneSided_door_14 : decode mm_OneSided_door.2.1 14 = .ok (.getfield 119, 3) := by decide +kernel
theorem fd_11_119 : fld 11 119 = some (6, 1) := by decide +kernel
theorem dd_OneSided_door_17 : decode mm_OneSided_door.2.1 17 = .ok (.iload_n 1, 1) := by decide +kernel
theorem dd_OneSided_door_18 : decode mm_OneSided_door.2.1 18 = .ok (.aaload, 1) := by decide +kernel
theorem dd_OneSided_door_19 : decode mm_OneSided_door.2.1 19 = .ok (.astore_n 3, 1) := by decide +kernel
theorem dd_OneSided_door_20 : decode mm_OneSided_door.2.1 20 = .ok (.iload_n 2, 1) := by decide +kernel
theorem dd_OneSided_door_21 : decode mm_OneSided_door.2.1 21 = .ok (.tableswitch (123) (0) (9) #[55, 60, 65, 70, 75, 80, 85, 90, 95, 110], 55) := by decide +kernel
theorem dd_OneSided_door_76 : decode mm_OneSided_door.2.1 76 = .ok (.aload_n 3, 1) := by decide +kernel
theorem dd_OneSided_door_77 : decode mm_OneSided_door.2.1 77 = .ok (.getfield 123, 3) := by decide +kernel
theorem fd_11_123 : fld 11 123 = some (1, 1) := by decide +kernel
theorem dd_OneSided_door_80 : decode mm_OneSided_door.2.1 80 = .ok (.ireturn, 1) := by decide +kernel
theorem dd_OneSided_door_81 : decode mm_OneSided_door.2.1 81 = .ok (.aload_n 3, 1) := by decide +kernel
theorem dd_OneSided_door_82 : decode mm_OneSided_door.2.1 82 = .ok (.getfield 128, 3) := by decide +kernel
theorem fd_11_128 : fld 11 128 = some (1, 2) := by decide +kernel
theorem dd_OneSided_door_85 : decode mm_OneSided_door.2.1 85 = .ok (.ireturn, 1) := by decide +kernel
theorem dd_OneSided_door_86 : decode mm_OneSided_door.2.1 86 = .ok (.aload_n 3, 1) := by decide +kernel
theorem dd_OneSided_door_87 : decode mm_OneSided_door.2.1 87 = .ok (.getfield 131, 3) := by decide +kernel
theorem fd_11_131 : fld 11 131 = some (1, 3) := by decide +kernel
theorem dd_OneSided_door_90 : decode mm_OneSided_door.2.1 90 = .ok (.ireturn, 1) := by decide +kernel
theorem dd_OneSided_door_91 : decode mm_OneSided_door.2.1 91 = .ok (.aload_n 3, 1) := by decide +kernel
theorem dd_OneSided_door_92 : decode mm_OneSided_door.2.1 92 = .ok (.getfield 134, 3) := by decide +kernel
theorem fd_11_134 : fld 11 134 = some (1, 4) := by decide +kernel
theorem dd_OneSided_door_95 : decode mm_OneSided_door.2.1 95 = .ok (.ireturn, 1) := by decide +kernel
theorem dd_OneSided_door_96 : decode mm_OneSided_door.2.1 96 = .ok (.aload_n 3, 1) := by decide +kernel
theorem dd_OneSided_door_97 : decode mm_OneSided_door.2.1 97 = .ok (.getfield 137, 3) := by decide +kernel
theorem fd_11_137 : fld 11 137 = some (1, 5) := by decide +kernel
theorem dd_OneSided_door_100 : decode mm_OneSided_door.2.1 100 = .ok (.ireturn, 1) := by decide +kernel
theorem dd_OneSided_door_101 : decode mm_OneSided_door.2.1 101 = .ok (.aload_n 3, 1) := by decide +kernel
theorem dd_OneSided_door_102 : decode mm_OneSided_door.2.1 102 = .ok (.getfield 140, 3) := by decide +kernel
theorem fd_11_140 : fld 11 140 = some (1, 6) := by decide +kernel
theorem dd_OneSided_door_105 : decode mm_OneSided_door.2.1 105 = .ok (.ireturn, 1) := by decide +kernel
theorem dd_OneSided_door_106 : decode mm_OneSided_door.2.1 106 = .ok (.aload_n 3, 1) := by decide +kernel
theorem dd_OneSided_door_107 : decode mm_OneSided_door.2.1 107 = .ok (.getfield 143, 3) := by decide +kernel
theorem fd_11_143 : fld 11 143 = some (1, 7) := by decide +kernel
theorem dd_OneSided_door_110 : decode mm_OneSided_door.2.1 110 = .ok (.ireturn, 1) := by decide +kernel
theorem dd_OneSided_door_111 : decode mm_OneSided_door.2.1 111 = .ok (.aload_n 3, 1) := by decide +kernel
theorem dd_OneSided_door_112 : decode mm_OneSided_door.2.1 112 = .ok (.getfield 146, 3) := by decide +kernel
theorem fd_11_146 : fld 11 146 = some (1, 8) := by decide +kernel
theorem dd_OneSided_door_115 : decode mm_OneSided_door.2.1 115 = .ok (.ireturn, 1) := by decide +kernel
theorem dd_OneSided_door_116 : decode mm_OneSided_door.2.1 116 = .ok (.aload_n 0, 1) := by decide +kernel
theorem dd_OneSided_door_117 : decode mm_OneSided_door.2.1 117 = .ok (.getfield 29, 3) := by decide +kernel
theorem dd_OneSided_door_120 : decode mm_OneSided_door.2.1 120 = .ok (.getfield 149, 3) := by decide +kernel
theorem dd_OneSided_door_123 : decode mm_OneSided_door.2.1 123 = .ok (.getfield 153, 3) := by decide +kernel
theorem fd_11_153 : fld 11 153 = some (9, 1) := by decide +kernel
theorem dd_OneSided_door_126 : decode mm_OneSided_door.2.1 126 = .ok (.iload_n 1, 1) := by decide +kernel
theorem dd_OneSided_door_127 : decode mm_OneSided_door.2.1 127 = .ok (.ishr, 1) := by decide +kernel
theorem dd_OneSided_door_128 : decode mm_OneSided_door.2.1 128 = .ok (.iconst 1, 1) := by decide +kernel
theorem dd_OneSided_door_129 : decode mm_OneSided_door.2.1 129 = .ok (.iand, 1) := by decide +kernel
theorem dd_OneSided_door_130 : decode mm_OneSided_door.2.1 130 = .ok (.ireturn, 1) := by decide +kernel
theorem dd_OneSided_door_131 : decode mm_OneSided_door.2.1 131 = .ok (.aload_n 0, 1) := by decide +kernel
theorem dd_OneSided_door_132 : decode mm_OneSided_door.2.1 132 = .ok (.getfield 29, 3) := by decide +kernel
theorem dd_OneSided_door_135 : decode mm_OneSided_door.2.1 135 = .ok (.getfield 149, 3) := by decide +kernel
theorem dd_OneSided_door_138 : decode mm_OneSided_door.2.1 138 = .ok (.getfield 156, 3) := by decide +kernel
theorem fd_11_156 : fld 11 156 = some (9, 5) := by decide +kernel
theorem rf_60_5 {h : LH} (hF : RF h) : rd h 60 5 = 62 := hF 60 5 62 (by decide +kernel) (by decide +kernel)
theorem dd_OneSided_door_141 : decode mm_OneSided_door.2.1 141 = .ok (.iload_n 1, 1) := by decide +kernel
theorem dd_OneSided_door_142 : decode mm_OneSided_door.2.1 142 = .ok (.iaload, 1) := by decide +kernel
theorem ia_62 : isA NC 62 1 = true := by decide +kernel
theorem la_62 : (lay (62 : Int).toNat).2.2 = 14 := by decide +kernel
theorem dd_OneSided_door_143 : decode mm_OneSided_door.2.1 143 = .ok (.ireturn, 1) := by decide +kernel
theorem dd_OneSided_door_144 : decode mm_OneSided_door.2.1 144 = .ok (.iconst (-1), 1) := by decide +kernel
theorem dd_OneSided_door_145 : decode mm_OneSided_door.2.1 145 = .ok (.ireturn, 1) := by decide +kernel
theorem dd_OneSided_person_0 : decode mm_OneSided_person.2.1 0 = .ok (.aload_n 0, 1) := by decide +kernel
theorem dd_OneSided_person_1 : decode mm_OneSided_person.2.1 1 = .ok (.iload_n 1, 1) := by decide +kernel
theorem dd_OneSided_person_2 : decode mm_OneSided_person.2.1 2 = .ok (.invokevirtual 160, 3) := by decide +kernel
theorem cw_11_160 : cwOk 11 160 0 63 2 2 11 = true := by decide +kernel
theorem mt_OneSided_isPerson : MTB 63 = some mm_OneSided_isPerson := rfl
theorem dd_OneSided_isPerson_0 : decode mm_OneSided_isPerson.2.1 0 = .ok (.iload_n 1, 1) := by decide +kernel
theorem dd_OneSided_isPerson_1 : decode mm_OneSided_isPerson.2.1 1 = .ok (.ifCond .lt (18), 3) := by decide +kernel
theorem dd_OneSided_isPerson_19 : decode mm_OneSided_isPerson.2.1 19 = .ok (.iconst 0, 1) := by decide +kernel
theorem dd_OneSided_isPerson_20 : decode mm_OneSided_isPerson.2.1 20 = .ok (.ireturn, 1) := by decide +kernel
theorem dd_OneSided_person_5 : decode mm_OneSided_person.2.1 5 = .ok (.ifCond .ne (5), 3) := by decide +kernel
theorem dd_OneSided_person_8 : decode mm_OneSided_person.2.1 8 = .ok (.iconst (-1), 1) := by decide +kernel
theorem dd_OneSided_person_9 : decode mm_OneSided_person.2.1 9 = .ok (.ireturn, 1) := by decide +kernel
theorem dd_OneSided_isPerson_4 : decode mm_OneSided_isPerson.2.1 4 = .ok (.iload_n 1, 1) := by decide +kernel
theorem dd_OneSided_isPerson_5 : decode mm_OneSided_isPerson.2.1 5 = .ok (.aload_n 0, 1) := by decide +kernel
theorem dd_OneSided_isPerson_6 : decode mm_OneSided_isPerson.2.1 6 = .ok (.getfield 19, 3) := by decide +kernel
theorem dd_OneSided_isPerson_9 : decode mm_OneSided_isPerson.2.1 9 = .ok (.getfield 254, 3) := by decide +kernel
theorem fd_11_254 : fld 11 254 = some (6, 4) := by decide +kernel
theorem dd_OneSided_isPerson_12 : decode mm_OneSided_isPerson.2.1 12 = .ok (.if_icmp .ge (7), 3) := by decide +kernel
theorem dd_OneSided_isPerson_15 : decode mm_OneSided_isPerson.2.1 15 = .ok (.iconst 1, 1) := by decide +kernel
theorem dd_OneSided_isPerson_16 : decode mm_OneSided_isPerson.2.1 16 = .ok (.goto 4, 3) := by decide +kernel
theorem dd_OneSided_person_10 : decode mm_OneSided_person.2.1 10 = .ok (.aload_n 0, 1) := by decide +kernel
theorem dd_OneSided_person_11 : decode mm_OneSided_person.2.1 11 = .ok (.getfield 19, 3) := by decide +kernel
theorem dd_OneSided_person_14 : decode mm_OneSided_person.2.1 14 = .ok (.getfield 163, 3) := by decide +kernel
theorem fd_11_163 : fld 11 163 = some (6, 3) := by decide +kernel
theorem dd_OneSided_person_17 : decode mm_OneSided_person.2.1 17 = .ok (.iload_n 1, 1) := by decide +kernel
theorem dd_OneSided_person_18 : decode mm_OneSided_person.2.1 18 = .ok (.aaload, 1) := by decide +kernel
theorem dd_OneSided_person_19 : decode mm_OneSided_person.2.1 19 = .ok (.astore_n 3, 1) := by decide +kernel
theorem dd_OneSided_person_20 : decode mm_OneSided_person.2.1 20 = .ok (.iload_n 2, 1) := by decide +kernel
theorem dd_OneSided_person_21 : decode mm_OneSided_person.2.1 21 = .ok (.tableswitch (106) (0) (6) #[43, 48, 53, 58, 63, 76, 91], 43) := by decide +kernel
theorem dd_OneSided_person_64 : decode mm_OneSided_person.2.1 64 = .ok (.aload_n 3, 1) := by decide +kernel
theorem dd_OneSided_person_65 : decode mm_OneSided_person.2.1 65 = .ok (.getfield 167, 3) := by decide +kernel
theorem fd_11_167 : fld 11 167 = some (4, 1) := by decide +kernel
theorem dd_OneSided_person_68 : decode mm_OneSided_person.2.1 68 = .ok (.ireturn, 1) := by decide +kernel
theorem dd_OneSided_person_69 : decode mm_OneSided_person.2.1 69 = .ok (.aload_n 3, 1) := by decide +kernel
theorem dd_OneSided_person_70 : decode mm_OneSided_person.2.1 70 = .ok (.getfield 172, 3) := by decide +kernel
theorem fd_11_172 : fld 11 172 = some (4, 2) := by decide +kernel
theorem dd_OneSided_person_73 : decode mm_OneSided_person.2.1 73 = .ok (.ireturn, 1) := by decide +kernel
theorem dd_OneSided_person_74 : decode mm_OneSided_person.2.1 74 = .ok (.aload_n 3, 1) := by decide +kernel
theorem dd_OneSided_person_75 : decode mm_OneSided_person.2.1 75 = .ok (.getfield 175, 3) := by decide +kernel
theorem fd_11_175 : fld 11 175 = some (4, 3) := by decide +kernel
theorem dd_OneSided_person_78 : decode mm_OneSided_person.2.1 78 = .ok (.ireturn, 1) := by decide +kernel
theorem dd_OneSided_person_79 : decode mm_OneSided_person.2.1 79 = .ok (.aload_n 3, 1) := by decide +kernel
theorem dd_OneSided_person_80 : decode mm_OneSided_person.2.1 80 = .ok (.getfield 178, 3) := by decide +kernel
theorem fd_11_178 : fld 11 178 = some (4, 4) := by decide +kernel
theorem dd_OneSided_person_83 : decode mm_OneSided_person.2.1 83 = .ok (.ireturn, 1) := by decide +kernel
theorem dd_OneSided_person_84 : decode mm_OneSided_person.2.1 84 = .ok (.aload_n 0, 1) := by decide +kernel
theorem dd_OneSided_person_85 : decode mm_OneSided_person.2.1 85 = .ok (.getfield 29, 3) := by decide +kernel
theorem dd_OneSided_person_88 : decode mm_OneSided_person.2.1 88 = .ok (.getfield 149, 3) := by decide +kernel
theorem dd_OneSided_person_91 : decode mm_OneSided_person.2.1 91 = .ok (.getfield 181, 3) := by decide +kernel
theorem fd_11_181 : fld 11 181 = some (9, 4) := by decide +kernel
theorem rf_60_4 {h : LH} (hF : RF h) : rd h 60 4 = 61 := hF 60 4 61 (by decide +kernel) (by decide +kernel)
theorem dd_OneSided_person_94 : decode mm_OneSided_person.2.1 94 = .ok (.iload_n 1, 1) := by decide +kernel
theorem dd_OneSided_person_95 : decode mm_OneSided_person.2.1 95 = .ok (.iaload, 1) := by decide +kernel
theorem ia_61 : isA NC 61 1 = true := by decide +kernel
theorem la_61 : (lay (61 : Int).toNat).2.2 = 6 := by decide +kernel
theorem dd_OneSided_person_96 : decode mm_OneSided_person.2.1 96 = .ok (.ireturn, 1) := by decide +kernel
theorem dd_OneSided_person_97 : decode mm_OneSided_person.2.1 97 = .ok (.aload_n 0, 1) := by decide +kernel
theorem dd_OneSided_person_98 : decode mm_OneSided_person.2.1 98 = .ok (.getfield 29, 3) := by decide +kernel
theorem dd_OneSided_person_101 : decode mm_OneSided_person.2.1 101 = .ok (.getfield 149, 3) := by decide +kernel
theorem dd_OneSided_person_104 : decode mm_OneSided_person.2.1 104 = .ok (.getfield 184, 3) := by decide +kernel
theorem fd_11_184 : fld 11 184 = some (9, 3) := by decide +kernel
theorem dd_OneSided_person_107 : decode mm_OneSided_person.2.1 107 = .ok (.iload_n 1, 1) := by decide +kernel
theorem dd_OneSided_person_108 : decode mm_OneSided_person.2.1 108 = .ok (.ishr, 1) := by decide +kernel
theorem dd_OneSided_person_109 : decode mm_OneSided_person.2.1 109 = .ok (.iconst 1, 1) := by decide +kernel
theorem dd_OneSided_person_110 : decode mm_OneSided_person.2.1 110 = .ok (.iand, 1) := by decide +kernel
theorem dd_OneSided_person_111 : decode mm_OneSided_person.2.1 111 = .ok (.ireturn, 1) := by decide +kernel
theorem dd_OneSided_person_112 : decode mm_OneSided_person.2.1 112 = .ok (.aload_n 0, 1) := by decide +kernel
theorem dd_OneSided_person_113 : decode mm_OneSided_person.2.1 113 = .ok (.getfield 29, 3) := by decide +kernel
theorem dd_OneSided_person_116 : decode mm_OneSided_person.2.1 116 = .ok (.getfield 149, 3) := by decide +kernel
theorem dd_OneSided_person_119 : decode mm_OneSided_person.2.1 119 = .ok (.getfield 187, 3) := by decide +kernel
theorem fd_11_187 : fld 11 187 = some (9, 2) := by decide +kernel
theorem dd_OneSided_person_122 : decode mm_OneSided_person.2.1 122 = .ok (.iload_n 1, 1) := by decide +kernel
theorem dd_OneSided_person_123 : decode mm_OneSided_person.2.1 123 = .ok (.ishr, 1) := by decide +kernel
theorem dd_OneSided_person_124 : decode mm_OneSided_person.2.1 124 = .ok (.iconst 1, 1) := by decide +kernel
theorem dd_OneSided_person_125 : decode mm_OneSided_person.2.1 125 = .ok (.iand, 1) := by decide +kernel
theorem dd_OneSided_person_126 : decode mm_OneSided_person.2.1 126 = .ok (.ireturn, 1) := by decide +kernel
theorem dd_OneSided_person_127 : decode mm_OneSided_person.2.1 127 = .ok (.iconst (-1), 1) := by decide +kernel
theorem dd_OneSided_person_128 : decode mm_OneSided_person.2.1 128 = .ok (.ireturn, 1) := by decide +kernel
theorem dd_Scene_copy_0 : decode mm_Scene_copy.2.1 0 = .ok (.aload_n 0, 1) := by decide +kernel
theorem dd_Scene_copy_1 : decode mm_Scene_copy.2.1 1 = .ok (.aload_n 1, 1) := by decide +kernel
theorem dd_Scene_copy_2 : decode mm_Scene_copy.2.1 2 = .ok (.getfield 18, 3) := by decide +kernel
theorem dd_Scene_copy_5 : decode mm_Scene_copy.2.1 5 = .ok (.putfield 18, 3) := by decide +kernel
theorem fn_9_0 : fin 9 0 = false := by decide +kernel
theorem dd_Scene_copy_8 : decode mm_Scene_copy.2.1 8 = .ok (.aload_n 0, 1) := by decide +kernel
theorem dd_Scene_copy_9 : decode mm_Scene_copy.2.1 9 = .ok (.aload_n 1, 1) := by decide +kernel
theorem dd_Scene_copy_10 : decode mm_Scene_copy.2.1 10 = .ok (.getfield 22, 3) := by decide +kernel
theorem dd_Scene_copy_13 : decode mm_Scene_copy.2.1 13 = .ok (.putfield 22, 3) := by decide +kernel
theorem fn_9_1 : fin 9 1 = false := by decide +kernel
theorem dd_Scene_copy_16 : decode mm_Scene_copy.2.1 16 = .ok (.aload_n 0, 1) := by decide +kernel
theorem dd_Scene_copy_17 : decode mm_Scene_copy.2.1 17 = .ok (.aload_n 1, 1) := by decide +kernel
theorem dd_Scene_copy_18 : decode mm_Scene_copy.2.1 18 = .ok (.getfield 25, 3) := by decide +kernel
theorem dd_Scene_copy_21 : decode mm_Scene_copy.2.1 21 = .ok (.putfield 25, 3) := by decide +kernel
theorem dd_Scene_copy_24 : decode mm_Scene_copy.2.1 24 = .ok (.aload_n 0, 1) := by decide +kernel
theorem dd_Scene_copy_25 : decode mm_Scene_copy.2.1 25 = .ok (.aload_n 1, 1) := by decide +kernel
theorem dd_Scene_copy_26 : decode mm_Scene_copy.2.1 26 = .ok (.getfield 28, 3) := by decide +kernel
theorem dd_Scene_copy_29 : decode mm_Scene_copy.2.1 29 = .ok (.putfield 28, 3) := by decide +kernel
theorem dd_Scene_copy_32 : decode mm_Scene_copy.2.1 32 = .ok (.aload_n 1, 1) := by decide +kernel
theorem dd_Scene_copy_33 : decode mm_Scene_copy.2.1 33 = .ok (.getfield 9, 3) := by decide +kernel
theorem dd_Scene_copy_36 : decode mm_Scene_copy.2.1 36 = .ok (.iconst 0, 1) := by decide +kernel
theorem dd_Scene_copy_37 : decode mm_Scene_copy.2.1 37 = .ok (.aload_n 0, 1) := by decide +kernel
theorem dd_Scene_copy_38 : decode mm_Scene_copy.2.1 38 = .ok (.getfield 9, 3) := by decide +kernel
theorem dd_Scene_copy_41 : decode mm_Scene_copy.2.1 41 = .ok (.iconst 0, 1) := by decide +kernel
theorem dd_Scene_copy_42 : decode mm_Scene_copy.2.1 42 = .ok (.bipush 6, 2) := by decide +kernel
theorem dd_Scene_copy_44 : decode mm_Scene_copy.2.1 44 = .ok (.invokestatic 54, 3) := by decide +kernel
theorem dd_Scene_copy_47 : decode mm_Scene_copy.2.1 47 = .ok (.aload_n 1, 1) := by decide +kernel
theorem dd_Scene_copy_48 : decode mm_Scene_copy.2.1 48 = .ok (.getfield 15, 3) := by decide +kernel
theorem dd_Scene_copy_51 : decode mm_Scene_copy.2.1 51 = .ok (.iconst 0, 1) := by decide +kernel
theorem dd_Scene_copy_52 : decode mm_Scene_copy.2.1 52 = .ok (.aload_n 0, 1) := by decide +kernel
theorem dd_Scene_copy_53 : decode mm_Scene_copy.2.1 53 = .ok (.getfield 15, 3) := by decide +kernel
theorem dd_Scene_copy_56 : decode mm_Scene_copy.2.1 56 = .ok (.iconst 0, 1) := by decide +kernel
theorem dd_Scene_copy_57 : decode mm_Scene_copy.2.1 57 = .ok (.bipush 14, 2) := by decide +kernel
theorem dd_Scene_copy_59 : decode mm_Scene_copy.2.1 59 = .ok (.invokestatic 54, 3) := by decide +kernel
theorem dd_Scene_copy_62 : decode mm_Scene_copy.2.1 62 = .ok (.return_, 1) := by decide +kernel
theorem dd_Scene_pass_0 : decode mm_Scene_pass.2.1 0 = .ok (.aload_n 0, 1) := by decide +kernel
theorem dd_Scene_pass_1 : decode mm_Scene_pass.2.1 1 = .ok (.bipush 24, 2) := by decide +kernel
theorem dd_Scene_pass_3 : decode mm_Scene_pass.2.1 3 = .ok (.aload_n 0, 1) := by decide +kernel
theorem dd_Scene_pass_4 : decode mm_Scene_pass.2.1 4 = .ok (.getfield 18, 3) := by decide +kernel
theorem dd_Scene_pass_7 : decode mm_Scene_pass.2.1 7 = .ok (.iload_n 1, 1) := by decide +kernel
theorem dd_Scene_pass_8 : decode mm_Scene_pass.2.1 8 = .ok (.iadd, 1) := by decide +kernel
theorem dd_Scene_pass_9 : decode mm_Scene_pass.2.1 9 = .ok (.invokestatic 60, 3) := by decide +kernel
theorem dd_Scene_pass_12 : decode mm_Scene_pass.2.1 12 = .ok (.putfield 18, 3) := by decide +kernel
theorem dd_Scene_pass_15 : decode mm_Scene_pass.2.1 15 = .ok (.aload_n 0, 1) := by decide +kernel
theorem dd_Scene_pass_16 : decode mm_Scene_pass.2.1 16 = .ok (.iconst 0, 1) := by decide +kernel
theorem dd_Scene_pass_17 : decode mm_Scene_pass.2.1 17 = .ok (.putfield 25, 3) := by decide +kernel
theorem dd_Scene_pass_20 : decode mm_Scene_pass.2.1 20 = .ok (.aload_n 0, 1) := by decide +kernel
theorem dd_Scene_pass_21 : decode mm_Scene_pass.2.1 21 = .ok (.getfield 15, 3) := by decide +kernel
theorem dd_Scene_pass_24 : decode mm_Scene_pass.2.1 24 = .ok (.iconst 0, 1) := by decide +kernel
theorem dd_Scene_pass_25 : decode mm_Scene_pass.2.1 25 = .ok (.invokestatic 31, 3) := by decide +kernel
theorem cw_9_31 : cwOk 9 31 1 53 2 4 16 = true := by decide +kernel
theorem dd_Scene_pass_28 : decode mm_Scene_pass.2.1 28 = .ok (.return_, 1) := by decide +kernel
theorem dd_Scene_begin_0 : decode mm_Scene_begin.2.1 0 = .ok (.aload_n 0, 1) := by decide +kernel
theorem dd_Scene_begin_1 : decode mm_Scene_begin.2.1 1 = .ok (.iconst 0, 1) := by decide +kernel
theorem dd_Scene_begin_2 : decode mm_Scene_begin.2.1 2 = .ok (.putfield 18, 3) := by decide +kernel
theorem dd_Scene_begin_5 : decode mm_Scene_begin.2.1 5 = .ok (.aload_n 0, 1) := by decide +kernel
theorem dd_Scene_begin_6 : decode mm_Scene_begin.2.1 6 = .ok (.iconst 0, 1) := by decide +kernel
theorem dd_Scene_begin_7 : decode mm_Scene_begin.2.1 7 = .ok (.putfield 22, 3) := by decide +kernel
theorem dd_Scene_begin_10 : decode mm_Scene_begin.2.1 10 = .ok (.aload_n 0, 1) := by decide +kernel
theorem dd_Scene_begin_11 : decode mm_Scene_begin.2.1 11 = .ok (.iconst 0, 1) := by decide +kernel
theorem dd_Scene_begin_12 : decode mm_Scene_begin.2.1 12 = .ok (.putfield 25, 3) := by decide +kernel
theorem dd_Scene_begin_15 : decode mm_Scene_begin.2.1 15 = .ok (.aload_n 0, 1) := by decide +kernel
theorem dd_Scene_begin_16 : decode mm_Scene_begin.2.1 16 = .ok (.iconst 0, 1) := by decide +kernel
theorem dd_Scene_begin_17 : decode mm_Scene_begin.2.1 17 = .ok (.putfield 28, 3) := by decide +kernel
theorem dd_Scene_begin_20 : decode mm_Scene_begin.2.1 20 = .ok (.aload_n 0, 1) := by decide +kernel
theorem dd_Scene_begin_21 : decode mm_Scene_begin.2.1 21 = .ok (.getfield 15, 3) := by decide +kernel
theorem dd_Scene_begin_24 : decode mm_Scene_begin.2.1 24 = .ok (.iconst 0, 1) := by decide +kernel
theorem dd_Scene_begin_25 : decode mm_Scene_begin.2.1 25 = .ok (.invokestatic 31, 3) := by decide +kernel
theorem dd_Scene_begin_28 : decode mm_Scene_begin.2.1 28 = .ok (.iconst 0, 1) := by decide +kernel
theorem dd_Scene_begin_29 : decode mm_Scene_begin.2.1 29 = .ok (.istore_n 2, 1) := by decide +kernel
theorem dd_OneSided_undo_48 : decode mm_OneSided_undo.2.1 48 = .ok (.iconst 1, 1) := by decide +kernel
theorem dd_OneSided_undo_49 : decode mm_OneSided_undo.2.1 49 = .ok (.ireturn, 1) := by decide +kernel
theorem dd_OneSided_hours_0 : decode mm_OneSided_hours.2.1 0 = .ok (.iload_n 1, 1) := by decide +kernel
theorem dd_OneSided_hours_1 : decode mm_OneSided_hours.2.1 1 = .ok (.iconst 1, 1) := by decide +kernel
theorem dd_OneSided_hours_2 : decode mm_OneSided_hours.2.1 2 = .ok (.if_icmp .lt (9), 3) := by decide +kernel
theorem dd_OneSided_hours_11 : decode mm_OneSided_hours.2.1 11 = .ok (.iconst (-1), 1) := by decide +kernel
theorem dd_OneSided_hours_12 : decode mm_OneSided_hours.2.1 12 = .ok (.ireturn, 1) := by decide +kernel
theorem dd_OneSided_hours_5 : decode mm_OneSided_hours.2.1 5 = .ok (.iload_n 1, 1) := by decide +kernel
theorem dd_OneSided_hours_6 : decode mm_OneSided_hours.2.1 6 = .ok (.bipush 24, 2) := by decide +kernel
theorem dd_OneSided_hours_8 : decode mm_OneSided_hours.2.1 8 = .ok (.if_icmp .le (5), 3) := by decide +kernel
theorem dd_OneSided_hours_13 : decode mm_OneSided_hours.2.1 13 = .ok (.aload_n 0, 1) := by decide +kernel
theorem dd_OneSided_hours_14 : decode mm_OneSided_hours.2.1 14 = .ok (.aload_n 0, 1) := by decide +kernel
theorem dd_OneSided_hours_15 : decode mm_OneSided_hours.2.1 15 = .ok (.getfield 29, 3) := by decide +kernel
theorem dd_OneSided_hours_18 : decode mm_OneSided_hours.2.1 18 = .ok (.getfield 149, 3) := by decide +kernel
theorem dd_OneSided_hours_21 : decode mm_OneSided_hours.2.1 21 = .ok (.invokevirtual 209, 3) := by decide +kernel
theorem cw_11_209 : cwOk 11 209 0 73 2 2 11 = true := by decide +kernel
theorem mt_OneSided_keepForUndo : MTB 73 = some mm_OneSided_keepForUndo := rfl
theorem dd_OneSided_hours_24 : decode mm_OneSided_hours.2.1 24 = .ok (.aload_n 0, 1) := by decide +kernel
theorem dd_OneSided_hours_25 : decode mm_OneSided_hours.2.1 25 = .ok (.getfield 29, 3) := by decide +kernel
theorem dd_OneSided_hours_28 : decode mm_OneSided_hours.2.1 28 = .ok (.getfield 149, 3) := by decide +kernel
theorem dd_OneSided_hours_31 : decode mm_OneSided_hours.2.1 31 = .ok (.iload_n 1, 1) := by decide +kernel
theorem dd_OneSided_hours_32 : decode mm_OneSided_hours.2.1 32 = .ok (.invokevirtual 212, 3) := by decide +kernel
theorem cw_11_212 : cwOk 11 212 0 75 2 2 9 = true := by decide +kernel
theorem dd_OneSided_hours_35 : decode mm_OneSided_hours.2.1 35 = .ok (.aload_n 0, 1) := by decide +kernel
theorem dd_OneSided_hours_36 : decode mm_OneSided_hours.2.1 36 = .ok (.getfield 29, 3) := by decide +kernel
theorem dd_OneSided_hours_39 : decode mm_OneSided_hours.2.1 39 = .ok (.getfield 149, 3) := by decide +kernel
theorem dd_OneSided_hours_42 : decode mm_OneSided_hours.2.1 42 = .ok (.getfield 216, 3) := by decide +kernel
theorem dd_OneSided_hours_45 : decode mm_OneSided_hours.2.1 45 = .ok (.ireturn, 1) := by decide +kernel
theorem dd_OneSided_shut_0 : decode mm_OneSided_shut.2.1 0 = .ok (.aload_n 0, 1) := by decide +kernel
theorem dd_OneSided_shut_1 : decode mm_OneSided_shut.2.1 1 = .ok (.iload_n 1, 1) := by decide +kernel
theorem dd_OneSided_shut_2 : decode mm_OneSided_shut.2.1 2 = .ok (.invokevirtual 115, 3) := by decide +kernel
theorem dd_OneSided_shut_5 : decode mm_OneSided_shut.2.1 5 = .ok (.ifCond .ne (5), 3) := by decide +kernel
theorem dd_OneSided_shut_8 : decode mm_OneSided_shut.2.1 8 = .ok (.iconst 0, 1) := by decide +kernel
theorem dd_OneSided_shut_9 : decode mm_OneSided_shut.2.1 9 = .ok (.ireturn, 1) := by decide +kernel
theorem dd_OneSided_shut_10 : decode mm_OneSided_shut.2.1 10 = .ok (.aload_n 0, 1) := by decide +kernel
theorem dd_OneSided_shut_11 : decode mm_OneSided_shut.2.1 11 = .ok (.getfield 29, 3) := by decide +kernel
theorem dd_OneSided_shut_14 : decode mm_OneSided_shut.2.1 14 = .ok (.getfield 149, 3) := by decide +kernel
theorem dd_OneSided_shut_17 : decode mm_OneSided_shut.2.1 17 = .ok (.getfield 153, 3) := by decide +kernel
theorem dd_OneSided_shut_20 : decode mm_OneSided_shut.2.1 20 = .ok (.iload_n 1, 1) := by decide +kernel
theorem dd_OneSided_shut_21 : decode mm_OneSided_shut.2.1 21 = .ok (.ishr, 1) := by decide +kernel
theorem dd_OneSided_shut_22 : decode mm_OneSided_shut.2.1 22 = .ok (.iconst 1, 1) := by decide +kernel
theorem dd_OneSided_shut_23 : decode mm_OneSided_shut.2.1 23 = .ok (.iand, 1) := by decide +kernel
theorem dd_OneSided_shut_24 : decode mm_OneSided_shut.2.1 24 = .ok (.ifCond .eq (7), 3) := by decide +kernel
theorem dd_OneSided_shut_31 : decode mm_OneSided_shut.2.1 31 = .ok (.iconst 0, 1) := by decide +kernel
theorem dd_OneSided_shut_32 : decode mm_OneSided_shut.2.1 32 = .ok (.istore_n 3, 1) := by decide +kernel
theorem dd_OneSided_shut_33 : decode mm_OneSided_shut.2.1 33 = .ok (.iload_n 3, 1) := by decide +kernel
theorem dd_OneSided_shut_34 : decode mm_OneSided_shut.2.1 34 = .ok (.iload_n 2, 1) := by decide +kernel
theorem dd_OneSided_shut_35 : decode mm_OneSided_shut.2.1 35 = .ok (.if_icmp .ne (5), 3) := by decide +kernel
theorem dd_OneSided_shut_40 : decode mm_OneSided_shut.2.1 40 = .ok (.aload_n 0, 1) := by decide +kernel
theorem dd_OneSided_shut_41 : decode mm_OneSided_shut.2.1 41 = .ok (.aload_n 0, 1) := by decide +kernel
theorem dd_OneSided_shut_42 : decode mm_OneSided_shut.2.1 42 = .ok (.getfield 29, 3) := by decide +kernel
theorem dd_OneSided_shut_45 : decode mm_OneSided_shut.2.1 45 = .ok (.getfield 149, 3) := by decide +kernel
theorem dd_OneSided_shut_48 : decode mm_OneSided_shut.2.1 48 = .ok (.invokevirtual 209, 3) := by decide +kernel
theorem dd_OneSided_shut_38 : decode mm_OneSided_shut.2.1 38 = .ok (.iconst 0, 1) := by decide +kernel
theorem dd_OneSided_shut_39 : decode mm_OneSided_shut.2.1 39 = .ok (.ireturn, 1) := by decide +kernel
theorem dd_OneSided_shut_27 : decode mm_OneSided_shut.2.1 27 = .ok (.iconst 1, 1) := by decide +kernel
theorem dd_OneSided_shut_28 : decode mm_OneSided_shut.2.1 28 = .ok (.goto 4, 3) := by decide +kernel
theorem dd_OneSided_shut_51 : decode mm_OneSided_shut.2.1 51 = .ok (.aload_n 0, 1) := by decide +kernel
theorem dd_OneSided_shut_52 : decode mm_OneSided_shut.2.1 52 = .ok (.getfield 29, 3) := by decide +kernel
theorem dd_OneSided_shut_55 : decode mm_OneSided_shut.2.1 55 = .ok (.getfield 149, 3) := by decide +kernel
theorem dd_OneSided_shut_58 : decode mm_OneSided_shut.2.1 58 = .ok (.dup, 1) := by decide +kernel
theorem dd_OneSided_shut_59 : decode mm_OneSided_shut.2.1 59 = .ok (.getfield 153, 3) := by decide +kernel
theorem dd_OneSided_shut_62 : decode mm_OneSided_shut.2.1 62 = .ok (.iconst 1, 1) := by decide +kernel
theorem dd_OneSided_shut_63 : decode mm_OneSided_shut.2.1 63 = .ok (.iload_n 1, 1) := by decide +kernel
theorem dd_OneSided_shut_64 : decode mm_OneSided_shut.2.1 64 = .ok (.ishl, 1) := by decide +kernel
theorem dd_OneSided_shut_65 : decode mm_OneSided_shut.2.1 65 = .ok (.ixor, 1) := by decide +kernel
theorem dd_OneSided_shut_66 : decode mm_OneSided_shut.2.1 66 = .ok (.putfield 153, 3) := by decide +kernel
theorem dd_OneSided_shut_69 : decode mm_OneSided_shut.2.1 69 = .ok (.iconst 1, 1) := by decide +kernel
theorem dd_OneSided_shut_70 : decode mm_OneSided_shut.2.1 70 = .ok (.ireturn, 1) := by decide +kernel
theorem dd_OneSided_go_0 : decode mm_OneSided_go.2.1 0 = .ok (.aload_n 0, 1) := by decide +kernel
theorem dd_OneSided_go_1 : decode mm_OneSided_go.2.1 1 = .ok (.iload_n 1, 1) := by decide +kernel
theorem dd_OneSided_go_2 : decode mm_OneSided_go.2.1 2 = .ok (.invokevirtual 160, 3) := by decide +kernel
theorem dd_OneSided_go_5 : decode mm_OneSided_go.2.1 5 = .ok (.ifCond .eq (11), 3) := by decide +kernel
theorem dd_OneSided_go_16 : decode mm_OneSided_go.2.1 16 = .ok (.iconst (-1), 1) := by decide +kernel
theorem dd_OneSided_go_17 : decode mm_OneSided_go.2.1 17 = .ok (.ireturn, 1) := by decide +kernel
theorem dd_OneSided_go_8 : decode mm_OneSided_go.2.1 8 = .ok (.aload_n 0, 1) := by decide +kernel
theorem dd_OneSided_go_9 : decode mm_OneSided_go.2.1 9 = .ok (.iload_n 2, 1) := by decide +kernel
theorem dd_OneSided_go_10 : decode mm_OneSided_go.2.1 10 = .ok (.invokevirtual 115, 3) := by decide +kernel
theorem dd_OneSided_go_13 : decode mm_OneSided_go.2.1 13 = .ok (.ifCond .ne (5), 3) := by decide +kernel
theorem dd_OneSided_go_18 : decode mm_OneSided_go.2.1 18 = .ok (.aload_n 0, 1) := by decide +kernel
theorem dd_OneSided_go_19 : decode mm_OneSided_go.2.1 19 = .ok (.getfield 33, 3) := by decide +kernel
theorem dd_OneSided_go_22 : decode mm_OneSided_go.2.1 22 = .ok (.getfield 149, 3) := by decide +kernel
theorem rf_67_0 {h : LH} (hF : RF h) : rd h 67 0 = 68 := hF 67 0 68 (by decide +kernel) (by decide +kernel)
theorem dd_OneSided_go_25 : decode mm_OneSided_go.2.1 25 = .ok (.aload_n 0, 1) := by decide +kernel
theorem dd_OneSided_go_26 : decode mm_OneSided_go.2.1 26 = .ok (.getfield 29, 3) := by decide +kernel
theorem dd_OneSided_go_29 : decode mm_OneSided_go.2.1 29 = .ok (.getfield 149, 3) := by decide +kernel
theorem dd_OneSided_go_32 : decode mm_OneSided_go.2.1 32 = .ok (.invokevirtual 201, 3) := by decide +kernel
theorem dd_OneSided_go_35 : decode mm_OneSided_go.2.1 35 = .ok (.aload_n 0, 1) := by decide +kernel
theorem dd_OneSided_go_36 : decode mm_OneSided_go.2.1 36 = .ok (.getfield 29, 3) := by decide +kernel
theorem dd_OneSided_go_39 : decode mm_OneSided_go.2.1 39 = .ok (.getfield 149, 3) := by decide +kernel
theorem dd_OneSided_go_42 : decode mm_OneSided_go.2.1 42 = .ok (.aload_n 0, 1) := by decide +kernel
theorem dd_OneSided_go_43 : decode mm_OneSided_go.2.1 43 = .ok (.getfield 19, 3) := by decide +kernel
theorem dd_OneSided_go_46 : decode mm_OneSided_go.2.1 46 = .ok (.iload_n 1, 1) := by decide +kernel
theorem dd_OneSided_go_47 : decode mm_OneSided_go.2.1 47 = .ok (.iload_n 2, 1) := by decide +kernel
theorem dd_OneSided_go_48 : decode mm_OneSided_go.2.1 48 = .ok (.invokevirtual 205, 3) := by decide +kernel
theorem cw_11_205 : cwOk 11 205 0 72 4 6 9 = true := by decide +kernel
theorem dd_OneSided_go_51 : decode mm_OneSided_go.2.1 51 = .ok (.istore_n 3, 1) := by decide +kernel
theorem dd_OneSided_go_52 : decode mm_OneSided_go.2.1 52 = .ok (.iload_n 3, 1) := by decide +kernel
theorem dd_OneSided_go_53 : decode mm_OneSided_go.2.1 53 = .ok (.iconst (-1), 1) := by decide +kernel
theorem dd_OneSided_go_54 : decode mm_OneSided_go.2.1 54 = .ok (.if_icmp .eq (14), 3) := by decide +kernel
theorem dd_OneSided_go_68 : decode mm_OneSided_go.2.1 68 = .ok (.iload_n 3, 1) := by decide +kernel
theorem dd_OneSided_go_69 : decode mm_OneSided_go.2.1 69 = .ok (.ireturn, 1) := by decide +kernel
theorem dd_OneSided_go_57 : decode mm_OneSided_go.2.1 57 = .ok (.aload_n 0, 1) := by decide +kernel
theorem dd_OneSided_go_58 : decode mm_OneSided_go.2.1 58 = .ok (.aload_n 0, 1) := by decide +kernel
theorem dd_OneSided_go_59 : decode mm_OneSided_go.2.1 59 = .ok (.getfield 33, 3) := by decide +kernel
theorem dd_OneSided_go_62 : decode mm_OneSided_go.2.1 62 = .ok (.getfield 149, 3) := by decide +kernel
theorem dd_OneSided_go_65 : decode mm_OneSided_go.2.1 65 = .ok (.invokevirtual 209, 3) := by decide +kernel
theorem dd_OneSided_leads_0 : decode mm_OneSided_leads.2.1 0 = .ok (.aload_n 0, 1) := by decide +kernel
theorem dd_OneSided_leads_1 : decode mm_OneSided_leads.2.1 1 = .ok (.iload_n 1, 1) := by decide +kernel
theorem dd_OneSided_leads_2 : decode mm_OneSided_leads.2.1 2 = .ok (.invokevirtual 115, 3) := by decide +kernel
theorem dd_OneSided_leads_5 : decode mm_OneSided_leads.2.1 5 = .ok (.ifCond .eq (21), 3) := by decide +kernel
theorem dd_OneSided_leads_26 : decode mm_OneSided_leads.2.1 26 = .ok (.iconst (-1), 1) := by decide +kernel
theorem dd_OneSided_leads_27 : decode mm_OneSided_leads.2.1 27 = .ok (.ireturn, 1) := by decide +kernel
theorem dd_OneSided_leads_8 : decode mm_OneSided_leads.2.1 8 = .ok (.aload_n 0, 1) := by decide +kernel
theorem dd_OneSided_leads_9 : decode mm_OneSided_leads.2.1 9 = .ok (.iload_n 3, 1) := by decide +kernel
theorem dd_OneSided_leads_10 : decode mm_OneSided_leads.2.1 10 = .ok (.invokevirtual 190, 3) := by decide +kernel
theorem dd_OneSided_leads_13 : decode mm_OneSided_leads.2.1 13 = .ok (.ifCond .eq (13), 3) := by decide +kernel
theorem dd_OneSided_leads_16 : decode mm_OneSided_leads.2.1 16 = .ok (.aload_n 0, 1) := by decide +kernel
theorem dd_OneSided_leads_17 : decode mm_OneSided_leads.2.1 17 = .ok (.iload_n 2, 1) := by decide +kernel
theorem dd_OneSided_leads_18 : decode mm_OneSided_leads.2.1 18 = .ok (.iload 4, 2) := by decide +kernel
theorem dd_OneSided_leads_20 : decode mm_OneSided_leads.2.1 20 = .ok (.invokevirtual 193, 3) := by decide +kernel
theorem cw_11_193 : cwOk 11 193 0 66 3 3 11 = true := by decide +kernel
theorem mt_OneSided_isSortInHour : MTB 66 = some mm_OneSided_isSortInHour := rfl
theorem dd_OneSided_isSortInHour_0 : decode mm_OneSided_isSortInHour.2.1 0 = .ok (.iload_n 1, 1) := by decide +kernel
theorem dd_OneSided_isSortInHour_1 : decode mm_OneSided_isSortInHour.2.1 1 = .ok (.ifCond .lt (22), 3) := by decide +kernel
theorem dd_OneSided_isSortInHour_23 : decode mm_OneSided_isSortInHour.2.1 23 = .ok (.iconst 0, 1) := by decide +kernel
theorem dd_OneSided_isSortInHour_24 : decode mm_OneSided_isSortInHour.2.1 24 = .ok (.ireturn, 1) := by decide +kernel
theorem dd_OneSided_leads_23 : decode mm_OneSided_leads.2.1 23 = .ok (.ifCond .ne (5), 3) := by decide +kernel
theorem dd_OneSided_isSortInHour_4 : decode mm_OneSided_isSortInHour.2.1 4 = .ok (.iload_n 1, 1) := by decide +kernel
theorem dd_OneSided_isSortInHour_5 : decode mm_OneSided_isSortInHour.2.1 5 = .ok (.iconst 4, 1) := by decide +kernel
theorem dd_OneSided_isSortInHour_6 : decode mm_OneSided_isSortInHour.2.1 6 = .ok (.if_icmp .ge (17), 3) := by decide +kernel
theorem dd_OneSided_isSortInHour_9 : decode mm_OneSided_isSortInHour.2.1 9 = .ok (.iload_n 2, 1) := by decide +kernel
theorem dd_OneSided_isSortInHour_10 : decode mm_OneSided_isSortInHour.2.1 10 = .ok (.ifCond .lt (13), 3) := by decide +kernel
theorem dd_OneSided_isSortInHour_13 : decode mm_OneSided_isSortInHour.2.1 13 = .ok (.iload_n 2, 1) := by decide +kernel
theorem dd_OneSided_isSortInHour_14 : decode mm_OneSided_isSortInHour.2.1 14 = .ok (.bipush 24, 2) := by decide +kernel
theorem dd_OneSided_isSortInHour_16 : decode mm_OneSided_isSortInHour.2.1 16 = .ok (.if_icmp .ge (7), 3) := by decide +kernel
theorem dd_OneSided_isSortInHour_19 : decode mm_OneSided_isSortInHour.2.1 19 = .ok (.iconst 1, 1) := by decide +kernel
theorem dd_OneSided_isSortInHour_20 : decode mm_OneSided_isSortInHour.2.1 20 = .ok (.goto 4, 3) := by decide +kernel
theorem dd_OneSided_leads_28 : decode mm_OneSided_leads.2.1 28 = .ok (.aload_n 0, 1) := by decide +kernel
theorem dd_OneSided_leads_29 : decode mm_OneSided_leads.2.1 29 = .ok (.getfield 19, 3) := by decide +kernel
theorem dd_OneSided_leads_32 : decode mm_OneSided_leads.2.1 32 = .ok (.iload_n 1, 1) := by decide +kernel
theorem dd_OneSided_leads_33 : decode mm_OneSided_leads.2.1 33 = .ok (.iload_n 2, 1) := by decide +kernel
theorem dd_OneSided_leads_34 : decode mm_OneSided_leads.2.1 34 = .ok (.iload_n 3, 1) := by decide +kernel
theorem dd_OneSided_leads_35 : decode mm_OneSided_leads.2.1 35 = .ok (.iload 4, 2) := by decide +kernel
theorem dd_OneSided_leads_37 : decode mm_OneSided_leads.2.1 37 = .ok (.aload_n 0, 1) := by decide +kernel
theorem dd_OneSided_leads_38 : decode mm_OneSided_leads.2.1 38 = .ok (.getfield 29, 3) := by decide +kernel
theorem dd_OneSided_leads_41 : decode mm_OneSided_leads.2.1 41 = .ok (.getfield 149, 3) := by decide +kernel
theorem dd_OneSided_leads_44 : decode mm_OneSided_leads.2.1 44 = .ok (.getfield 153, 3) := by decide +kernel
theorem dd_OneSided_leads_47 : decode mm_OneSided_leads.2.1 47 = .ok (.invokevirtual 197, 3) := by decide +kernel
theorem cw_11_197 : cwOk 11 197 0 67 6 7 6 = true := by decide +kernel
theorem dd_OneSided_leads_50 : decode mm_OneSided_leads.2.1 50 = .ok (.ireturn, 1) := by decide +kernel
theorem dd_door_0 : decode mm_door.2.1 0 = .ok (.aload_n 0, 1) := by decide +kernel
theorem dd_door_1 : decode mm_door.2.1 1 = .ok (.iconst 0, 1) := by decide +kernel
theorem dd_door_2 : decode mm_door.2.1 2 = .ok (.putfield 1, 3) := by decide +kernel
theorem dd_door_5 : decode mm_door.2.1 5 = .ok (.aload_n 0, 1) := by decide +kernel
theorem dd_door_6 : decode mm_door.2.1 6 = .ok (.iload_n 1, 1) := by decide +kernel
theorem dd_door_7 : decode mm_door.2.1 7 = .ok (.invokevirtual 364, 3) := by decide +kernel
theorem dd_door_10 : decode mm_door.2.1 10 = .ok (.ifCond .eq (13), 3) := by decide +kernel
theorem dd_door_23 : decode mm_door.2.1 23 = .ok (.iconst (-1), 1) := by decide +kernel
theorem dd_door_24 : decode mm_door.2.1 24 = .ok (.ireturn, 1) := by decide +kernel
theorem dd_door_13 : decode mm_door.2.1 13 = .ok (.iload_n 2, 1) := by decide +kernel
theorem dd_door_14 : decode mm_door.2.1 14 = .ok (.iconst 0, 1) := by decide +kernel
theorem dd_door_15 : decode mm_door.2.1 15 = .ok (.bipush 9, 2) := by decide +kernel
theorem dd_door_17 : decode mm_door.2.1 17 = .ok (.invokestatic 297, 3) := by decide +kernel
theorem dd_door_20 : decode mm_door.2.1 20 = .ok (.ifCond .ne (5), 3) := by decide +kernel
theorem dd_door_25 : decode mm_door.2.1 25 = .ok (.iload_n 2, 1) := by decide +kernel
theorem dd_door_26 : decode mm_door.2.1 26 = .ok (.bipush 8, 2) := by decide +kernel
theorem dd_door_28 : decode mm_door.2.1 28 = .ok (.if_icmp .ge (12), 3) := by decide +kernel
theorem dd_door_40 : decode mm_door.2.1 40 = .ok (.iload_n 2, 1) := by decide +kernel
theorem dd_door_41 : decode mm_door.2.1 41 = .ok (.bipush 8, 2) := by decide +kernel
theorem dd_door_43 : decode mm_door.2.1 43 = .ok (.if_icmp .ne (16), 3) := by decide +kernel
theorem dd_door_59 : decode mm_door.2.1 59 = .ok (.aload_n 0, 1) := by decide +kernel
theorem dd_door_60 : decode mm_door.2.1 60 = .ok (.getfield 125, 3) := by decide +kernel
theorem dd_door_63 : decode mm_door.2.1 63 = .ok (.bipush 20, 2) := by decide +kernel
theorem dd_door_65 : decode mm_door.2.1 65 = .ok (.iload_n 1, 1) := by decide +kernel
theorem dd_door_66 : decode mm_door.2.1 66 = .ok (.iadd, 1) := by decide +kernel
theorem dd_door_67 : decode mm_door.2.1 67 = .ok (.iaload, 1) := by decide +kernel
theorem dd_door_68 : decode mm_door.2.1 68 = .ok (.ireturn, 1) := by decide +kernel
theorem dd_door_46 : decode mm_door.2.1 46 = .ok (.aload_n 0, 1) := by decide +kernel
theorem dd_door_47 : decode mm_door.2.1 47 = .ok (.getfield 125, 3) := by decide +kernel
theorem dd_door_50 : decode mm_door.2.1 50 = .ok (.iconst 1, 1) := by decide +kernel
theorem dd_door_51 : decode mm_door.2.1 51 = .ok (.iaload, 1) := by decide +kernel
theorem dd_door_52 : decode mm_door.2.1 52 = .ok (.iload_n 1, 1) := by decide +kernel
theorem dd_door_53 : decode mm_door.2.1 53 = .ok (.ishr, 1) := by decide +kernel
theorem dd_door_54 : decode mm_door.2.1 54 = .ok (.iconst 1, 1) := by decide +kernel
theorem dd_door_55 : decode mm_door.2.1 55 = .ok (.iand, 1) := by decide +kernel
theorem dd_door_56 : decode mm_door.2.1 56 = .ok (.goto 12, 3) := by decide +kernel
theorem dd_door_31 : decode mm_door.2.1 31 = .ok (.aload_n 0, 1) := by decide +kernel
theorem dd_door_32 : decode mm_door.2.1 32 = .ok (.iload_n 1, 1) := by decide +kernel
theorem dd_door_33 : decode mm_door.2.1 33 = .ok (.iload_n 2, 1) := by decide +kernel
theorem dd_door_34 : decode mm_door.2.1 34 = .ok (.invokevirtual 347, 3) := by decide +kernel
theorem dd_door_37 : decode mm_door.2.1 37 = .ok (.goto 31, 3) := by decide +kernel
theorem dd_person_0 : decode mm_person.2.1 0 = .ok (.aload_n 0, 1) := by decide +kernel
theorem dd_person_1 : decode mm_person.2.1 1 = .ok (.iconst 0, 1) := by decide +kernel
theorem dd_person_2 : decode mm_person.2.1 2 = .ok (.putfield 1, 3) := by decide +kernel
theorem dd_person_5 : decode mm_person.2.1 5 = .ok (.aload_n 0, 1) := by decide +kernel
theorem dd_person_6 : decode mm_person.2.1 6 = .ok (.iload_n 1, 1) := by decide +kernel
theorem dd_person_7 : decode mm_person.2.1 7 = .ok (.invokevirtual 367, 3) := by decide +kernel
theorem dd_person_10 : decode mm_person.2.1 10 = .ok (.ifCond .eq (13), 3) := by decide +kernel
theorem dd_person_23 : decode mm_person.2.1 23 = .ok (.iconst (-1), 1) := by decide +kernel
theorem dd_person_24 : decode mm_person.2.1 24 = .ok (.ireturn, 1) := by decide +kernel
theorem dd_person_13 : decode mm_person.2.1 13 = .ok (.iload_n 2, 1) := by decide +kernel
theorem dd_person_14 : decode mm_person.2.1 14 = .ok (.iconst 0, 1) := by decide +kernel
theorem dd_person_15 : decode mm_person.2.1 15 = .ok (.bipush 6, 2) := by decide +kernel
theorem dd_person_17 : decode mm_person.2.1 17 = .ok (.invokestatic 297, 3) := by decide +kernel
theorem dd_person_20 : decode mm_person.2.1 20 = .ok (.ifCond .ne (5), 3) := by decide +kernel
theorem dd_person_25 : decode mm_person.2.1 25 = .ok (.iload_n 2, 1) := by decide +kernel
theorem dd_person_26 : decode mm_person.2.1 26 = .ok (.iconst 4, 1) := by decide +kernel
theorem dd_person_27 : decode mm_person.2.1 27 = .ok (.if_icmp .ge (12), 3) := by decide +kernel
theorem dd_person_39 : decode mm_person.2.1 39 = .ok (.aload_n 0, 1) := by decide +kernel
theorem dd_person_40 : decode mm_person.2.1 40 = .ok (.getfield 125, 3) := by decide +kernel
theorem dd_person_43 : decode mm_person.2.1 43 = .ok (.iload_n 2, 1) := by decide +kernel
theorem dd_person_44 : decode mm_person.2.1 44 = .ok (.iconst 4, 1) := by decide +kernel
theorem dd_person_45 : decode mm_person.2.1 45 = .ok (.if_icmp .ne (7), 3) := by decide +kernel
theorem dd_person_52 : decode mm_person.2.1 52 = .ok (.iload_n 2, 1) := by decide +kernel
theorem dd_person_53 : decode mm_person.2.1 53 = .ok (.iconst 5, 1) := by decide +kernel
theorem dd_person_54 : decode mm_person.2.1 54 = .ok (.if_icmp .ne (8), 3) := by decide +kernel
theorem dd_person_62 : decode mm_person.2.1 62 = .ok (.bipush 14, 2) := by decide +kernel
theorem dd_person_64 : decode mm_person.2.1 64 = .ok (.iload_n 1, 1) := by decide +kernel
theorem dd_person_65 : decode mm_person.2.1 65 = .ok (.iadd, 1) := by decide +kernel
theorem dd_person_66 : decode mm_person.2.1 66 = .ok (.iaload, 1) := by decide +kernel
theorem dd_person_67 : decode mm_person.2.1 67 = .ok (.ireturn, 1) := by decide +kernel
theorem dd_person_57 : decode mm_person.2.1 57 = .ok (.bipush 8, 2) := by decide +kernel
theorem dd_person_59 : decode mm_person.2.1 59 = .ok (.goto 5, 3) := by decide +kernel
theorem dd_person_48 : decode mm_person.2.1 48 = .ok (.iconst 2, 1) := by decide +kernel
theorem dd_person_49 : decode mm_person.2.1 49 = .ok (.goto 15, 3) := by decide +kernel
theorem dd_person_30 : decode mm_person.2.1 30 = .ok (.aload_n 0, 1) := by decide +kernel
theorem dd_person_31 : decode mm_person.2.1 31 = .ok (.iload_n 1, 1) := by decide +kernel
theorem dd_person_32 : decode mm_person.2.1 32 = .ok (.iload_n 2, 1) := by decide +kernel
theorem dd_person_33 : decode mm_person.2.1 33 = .ok (.invokevirtual 325, 3) := by decide +kernel
theorem dd_person_36 : decode mm_person.2.1 36 = .ok (.goto 31, 3) := by decide +kernel
theorem dd_leads_0 : decode mm_leads.2.1 0 = .ok (.aload_n 0, 1) := by decide +kernel
theorem dd_leads_1 : decode mm_leads.2.1 1 = .ok (.iconst 0, 1) := by decide +kernel
theorem dd_leads_2 : decode mm_leads.2.1 2 = .ok (.putfield 1, 3) := by decide +kernel
theorem dd_leads_5 : decode mm_leads.2.1 5 = .ok (.aload_n 0, 1) := by decide +kernel
theorem dd_leads_6 : decode mm_leads.2.1 6 = .ok (.iload_n 1, 1) := by decide +kernel
theorem dd_leads_7 : decode mm_leads.2.1 7 = .ok (.invokevirtual 364, 3) := by decide +kernel
theorem dd_leads_10 : decode mm_leads.2.1 10 = .ok (.ifCond .eq (44), 3) := by decide +kernel
theorem dd_leads_54 : decode mm_leads.2.1 54 = .ok (.iconst (-1), 1) := by decide +kernel
theorem dd_leads_55 : decode mm_leads.2.1 55 = .ok (.ireturn, 1) := by decide +kernel
theorem dd_leads_13 : decode mm_leads.2.1 13 = .ok (.iload_n 2, 1) := by decide +kernel
theorem dd_leads_14 : decode mm_leads.2.1 14 = .ok (.iconst 0, 1) := by decide +kernel
theorem dd_leads_15 : decode mm_leads.2.1 15 = .ok (.iconst 3, 1) := by decide +kernel
theorem dd_leads_16 : decode mm_leads.2.1 16 = .ok (.invokestatic 297, 3) := by decide +kernel
theorem dd_leads_19 : decode mm_leads.2.1 19 = .ok (.ifCond .eq (35), 3) := by decide +kernel
theorem dd_leads_22 : decode mm_leads.2.1 22 = .ok (.aload_n 0, 1) := by decide +kernel
theorem dd_leads_23 : decode mm_leads.2.1 23 = .ok (.iload_n 3, 1) := by decide +kernel
theorem dd_leads_24 : decode mm_leads.2.1 24 = .ok (.invokevirtual 370, 3) := by decide +kernel
theorem dd_leads_27 : decode mm_leads.2.1 27 = .ok (.ifCond .eq (27), 3) := by decide +kernel
theorem dd_leads_30 : decode mm_leads.2.1 30 = .ok (.iload 4, 2) := by decide +kernel
theorem dd_leads_32 : decode mm_leads.2.1 32 = .ok (.iconst 0, 1) := by decide +kernel
theorem dd_leads_33 : decode mm_leads.2.1 33 = .ok (.bipush 23, 2) := by decide +kernel
theorem dd_leads_35 : decode mm_leads.2.1 35 = .ok (.invokestatic 297, 3) := by decide +kernel
theorem dd_leads_38 : decode mm_leads.2.1 38 = .ok (.ifCond .eq (16), 3) := by decide +kernel
theorem dd_leads_41 : decode mm_leads.2.1 41 = .ok (.aload_n 0, 1) := by decide +kernel
theorem dd_leads_42 : decode mm_leads.2.1 42 = .ok (.iconst 0, 1) := by decide +kernel
theorem dd_leads_43 : decode mm_leads.2.1 43 = .ok (.iload_n 1, 1) := by decide +kernel
theorem dd_leads_44 : decode mm_leads.2.1 44 = .ok (.iload_n 2, 1) := by decide +kernel
theorem dd_leads_45 : decode mm_leads.2.1 45 = .ok (.iload_n 3, 1) := by decide +kernel
theorem dd_leads_46 : decode mm_leads.2.1 46 = .ok (.iload 4, 2) := by decide +kernel
theorem dd_leads_48 : decode mm_leads.2.1 48 = .ok (.invokevirtual 373, 3) := by decide +kernel
theorem dd_leads_51 : decode mm_leads.2.1 51 = .ok (.goto 4, 3) := by decide +kernel
theorem dd_hours_0 : decode mm_hours.2.1 0 = .ok (.aload_n 0, 1) := by decide +kernel
theorem dd_hours_1 : decode mm_hours.2.1 1 = .ok (.iconst 0, 1) := by decide +kernel
theorem dd_hours_2 : decode mm_hours.2.1 2 = .ok (.putfield 1, 3) := by decide +kernel
theorem dd_hours_5 : decode mm_hours.2.1 5 = .ok (.iload_n 1, 1) := by decide +kernel
theorem dd_hours_6 : decode mm_hours.2.1 6 = .ok (.iconst 1, 1) := by decide +kernel
theorem dd_hours_7 : decode mm_hours.2.1 7 = .ok (.bipush 24, 2) := by decide +kernel
theorem dd_hours_9 : decode mm_hours.2.1 9 = .ok (.invokestatic 297, 3) := by decide +kernel
theorem dd_hours_12 : decode mm_hours.2.1 12 = .ok (.ifCond .ne (5), 3) := by decide +kernel
theorem dd_hours_15 : decode mm_hours.2.1 15 = .ok (.iconst (-1), 1) := by decide +kernel
theorem dd_hours_16 : decode mm_hours.2.1 16 = .ok (.ireturn, 1) := by decide +kernel
theorem dd_hours_17 : decode mm_hours.2.1 17 = .ok (.aload_n 0, 1) := by decide +kernel
theorem dd_hours_18 : decode mm_hours.2.1 18 = .ok (.invokevirtual 380, 3) := by decide +kernel
theorem dd_hours_21 : decode mm_hours.2.1 21 = .ok (.iconst 0, 1) := by decide +kernel
theorem dd_hours_22 : decode mm_hours.2.1 22 = .ok (.istore_n 2, 1) := by decide +kernel
theorem dd_hours_23 : decode mm_hours.2.1 23 = .ok (.iload_n 2, 1) := by decide +kernel
theorem dd_hours_24 : decode mm_hours.2.1 24 = .ok (.iload_n 1, 1) := by decide +kernel
theorem dd_hours_25 : decode mm_hours.2.1 25 = .ok (.if_icmp .ge (14), 3) := by decide +kernel
theorem dd_hours_39 : decode mm_hours.2.1 39 = .ok (.aload_n 0, 1) := by decide +kernel
theorem dd_hours_40 : decode mm_hours.2.1 40 = .ok (.getfield 125, 3) := by decide +kernel
theorem dd_hours_43 : decode mm_hours.2.1 43 = .ok (.iconst 0, 1) := by decide +kernel
theorem dd_hours_44 : decode mm_hours.2.1 44 = .ok (.iaload, 1) := by decide +kernel
theorem dd_hours_45 : decode mm_hours.2.1 45 = .ok (.ireturn, 1) := by decide +kernel
theorem dd_hours_28 : decode mm_hours.2.1 28 = .ok (.aload_n 0, 1) := by decide +kernel
theorem dd_hours_29 : decode mm_hours.2.1 29 = .ok (.iconst 0, 1) := by decide +kernel
theorem dd_hours_30 : decode mm_hours.2.1 30 = .ok (.invokevirtual 383, 3) := by decide +kernel
theorem dd_hours_33 : decode mm_hours.2.1 33 = .ok (.iinc 2 1, 3) := by decide +kernel
theorem dd_hours_36 : decode mm_hours.2.1 36 = .ok (.goto (-13), 3) := by decide +kernel
theorem dd_shut_0 : decode mm_shut.2.1 0 = .ok (.aload_n 0, 1) := by decide +kernel
theorem dd_shut_1 : decode mm_shut.2.1 1 = .ok (.iconst 0, 1) := by decide +kernel
theorem dd_shut_2 : decode mm_shut.2.1 2 = .ok (.putfield 1, 3) := by decide +kernel
theorem dd_shut_5 : decode mm_shut.2.1 5 = .ok (.aload_n 0, 1) := by decide +kernel
theorem dd_shut_6 : decode mm_shut.2.1 6 = .ok (.iload_n 1, 1) := by decide +kernel
theorem dd_shut_7 : decode mm_shut.2.1 7 = .ok (.invokevirtual 364, 3) := by decide +kernel
theorem dd_shut_10 : decode mm_shut.2.1 10 = .ok (.ifCond .eq (17), 3) := by decide +kernel
theorem dd_shut_27 : decode mm_shut.2.1 27 = .ok (.iconst 0, 1) := by decide +kernel
theorem dd_shut_28 : decode mm_shut.2.1 28 = .ok (.ireturn, 1) := by decide +kernel
theorem dd_shut_13 : decode mm_shut.2.1 13 = .ok (.aload_n 0, 1) := by decide +kernel
theorem dd_shut_14 : decode mm_shut.2.1 14 = .ok (.getfield 125, 3) := by decide +kernel
theorem dd_shut_17 : decode mm_shut.2.1 17 = .ok (.iconst 1, 1) := by decide +kernel
theorem dd_shut_18 : decode mm_shut.2.1 18 = .ok (.iaload, 1) := by decide +kernel
theorem dd_shut_19 : decode mm_shut.2.1 19 = .ok (.iload_n 1, 1) := by decide +kernel
theorem dd_shut_20 : decode mm_shut.2.1 20 = .ok (.invokestatic 350, 3) := by decide +kernel
theorem dd_shut_23 : decode mm_shut.2.1 23 = .ok (.iload_n 2, 1) := by decide +kernel
theorem dd_shut_24 : decode mm_shut.2.1 24 = .ok (.if_icmp .ne (5), 3) := by decide +kernel
theorem dd_shut_29 : decode mm_shut.2.1 29 = .ok (.aload_n 0, 1) := by decide +kernel
theorem dd_shut_30 : decode mm_shut.2.1 30 = .ok (.invokevirtual 380, 3) := by decide +kernel
theorem dd_shut_33 : decode mm_shut.2.1 33 = .ok (.aload_n 0, 1) := by decide +kernel
theorem dd_shut_34 : decode mm_shut.2.1 34 = .ok (.getfield 125, 3) := by decide +kernel
theorem dd_shut_37 : decode mm_shut.2.1 37 = .ok (.iconst 1, 1) := by decide +kernel
theorem dd_shut_38 : decode mm_shut.2.1 38 = .ok (.dup2, 1) := by decide +kernel
theorem dd_shut_39 : decode mm_shut.2.1 39 = .ok (.iaload, 1) := by decide +kernel
theorem dd_shut_40 : decode mm_shut.2.1 40 = .ok (.iconst 1, 1) := by decide +kernel
theorem dd_shut_41 : decode mm_shut.2.1 41 = .ok (.iload_n 1, 1) := by decide +kernel
theorem dd_shut_42 : decode mm_shut.2.1 42 = .ok (.ishl, 1) := by decide +kernel
theorem dd_shut_43 : decode mm_shut.2.1 43 = .ok (.ixor, 1) := by decide +kernel
theorem dd_shut_44 : decode mm_shut.2.1 44 = .ok (.iastore, 1) := by decide +kernel
theorem dd_shut_45 : decode mm_shut.2.1 45 = .ok (.iconst 1, 1) := by decide +kernel
theorem dd_shut_46 : decode mm_shut.2.1 46 = .ok (.ireturn, 1) := by decide +kernel
theorem R_fmod {xs : Nat → Int} {xl d : Nat} {M : LM_M} {pc p' : Nat} {ls : LL} {st : List LV} {h : LH} {Q : Option LV → LH → Prop} {x : Nat} {a b : Int} (hd : decode M.2.1 pc = .ok (.invokestatic x, 3)) (hn : noM M.2.2.2.2.1 x = true) (hq : ((PTC M.2.2.2.2.1).find? (fun q => q.1 == x)).map (fun q => q.2.1) = some 6) (hb : b ≠ 0) (hc : lcat st ≤ 8) (hp : pc + 3 = p') (k : Rn xs xl d M p' ls (.inl (zfm a b) :: st) h Q) : Rn xs xl d M pc ls (.inl b :: .inl a :: st) h Q := by
  rw [Option.map_eq_some_iff] at hq
  obtain ⟨q, q1, q2⟩ := hq
  refine R_X rfl hd hn ?_ ?_ hp k
  · simp only [lmQ]
    rw [q1]
    simp only
    rw [if_neg (by omega)]
  · simp only [lmX]
    rw [q1]
    simp only
    rw [if_pos hc, if_neg (by omega), if_neg (by omega), if_pos ⟨q2, hb⟩]
theorem B_fillT_0 {xs : Nat → Int} {xl e : Nat} {h : LH} {Q : Option LV → LH → Prop} {v1 : Int} {sc : Int} (hsc : scn sc) (hc0 : 60 ≤ sc) (hF : RF h)
    (k : Rn xs xl e mm_java_util_Arrays_fill 5 [some (.inr (.inr (sc + 2))), some (.inl v1), some (.inl 0), some (.inl 14)] [] h Q) :
    Rn xs xl e mm_java_util_Arrays_fill 0 [some (.inr (.inr (sc + 2))), some (.inl v1), none, none] [] h Q := by
  refine R_ic dd_java_util_Arrays_fill_0 (by decide) rfl ?_
  refine R_st (ls' := [some (.inr (.inr (sc + 2))), some (.inl v1), some (.inl 0), none]) dd_java_util_Arrays_fill_1 rfl rfl rfl (Nat.le_of_ble_eq_true rfl) rfl rfl ?_
  refine R_ld (v := .inr (.inr (sc + 2))) dd_java_util_Arrays_fill_2 rfl rfl rfl rfl ?_
  refine R_alen (n := 14) dd_java_util_Arrays_fill_3 (ia_tc hsc) (la_tc hsc) rfl ?_
  refine R_st (ls' := [some (.inr (.inr (sc + 2))), some (.inl v1), some (.inl 0), some (.inl 14)]) dd_java_util_Arrays_fill_4 rfl rfl rfl (Nat.le_of_ble_eq_true rfl) rfl rfl ?_
  exact k
theorem B_fillT_5 {xs : Nat → Int} {xl e : Nat} {h : LH} {Q : Option LV → LH → Prop} {v1 v2 : Int} {sc : Int} (hsc : scn sc) (hc0 : 60 ≤ sc) (hF : RF h) (r_v2 : 0 ≤ v2 ∧ v2 ≤ 14)
    (k : (14 ≤ v2 →
        Q none h) ∧
      (v2 < 14 →
        (0 ≤ v2 ∧ v2 < 14) ∧
        Rn xs xl e mm_java_util_Arrays_fill 5 [some (.inr (.inr (sc + 2))), some (.inl v1), some (.inl (v2 + 1)), some (.inl 14)] [] (wr h (sc + 2) v2 v1) Q)) :
    Rn xs xl e mm_java_util_Arrays_fill 5 [some (.inr (.inr (sc + 2))), some (.inl v1), some (.inl v2), some (.inl 14)] [] h Q := by
  refine R_ld (v := .inl v2) dd_java_util_Arrays_fill_5 rfl rfl rfl rfl ?_
  refine R_ld (v := .inl 14) dd_java_util_Arrays_fill_6 rfl rfl rfl rfl ?_
  refine R_icmp dd_java_util_Arrays_fill_7 rfl rfl (fun (c2 : 14 ≤ v2) => ?_) (fun (c2 : v2 < 14) => ?_)
  · replace k := k.1 c2
    exact R_vret dd_java_util_Arrays_fill_20 rfl k
  · replace k := k.2 c2
    refine R_ld (v := .inr (.inr (sc + 2))) dd_java_util_Arrays_fill_10 rfl rfl rfl rfl ?_
    refine R_ld (v := .inl v2) dd_java_util_Arrays_fill_11 rfl rfl rfl rfl ?_
    refine R_ld (v := .inl v1) dd_java_util_Arrays_fill_12 rfl rfl rfl rfl ?_
    obtain ⟨s1, k⟩ := k
    refine R_iast (n := 14) dd_java_util_Arrays_fill_13 (ia_tc hsc) (la_tc hsc) s1 rfl ?_
    refine R_inc (y := v2 + 1) (ls' := [some (.inr (.inr (sc + 2))), some (.inl v1), some (.inl (v2 + 1)), some (.inl 14)]) dd_java_util_Arrays_fill_14 rfl (by decide) (by omega) (by omega) rfl rfl ?_
    refine R_goto dd_java_util_Arrays_fill_17 rfl ?_
    exact k
theorem B_scopy_0 {xs : Nat → Int} {xl e : Nat} {h : LH} {Q : Option LV → LH → Prop} {sc : Int} (hsc : scn sc) (hc0 : 60 ≤ sc) {sd : Int} (hsd : scn sd) (hne : sc ≠ sd) (hF : RF h)
    (k : Rn xs xl e mm_Scene_copy 47 [some (.inr (.inr sc)), some (.inr (.inr sd))] [] (cpyL (wr (wr (wr (wr h sc 0 (rd h sd 0)) sc 1 (rd h sd 1)) sc 2 (rd h sd 2)) sc 3 (rd h sd 3)) (sd + 1) 0 (sc + 1) 0 6 ++ (wr (wr (wr (wr h sc 0 (rd h sd 0)) sc 1 (rd h sd 1)) sc 2 (rd h sd 2)) sc 3 (rd h sd 3))) Q) :
    Rn xs xl e mm_Scene_copy 0 [some (.inr (.inr sc)), some (.inr (.inr sd))] [] h Q := by
  refine R_ld (v := .inr (.inr sc)) dd_Scene_copy_0 rfl rfl rfl rfl ?_
  refine R_ld (v := .inr (.inr sd)) dd_Scene_copy_1 rfl rfl rfl rfl ?_
  refine R_gf (v := .inl (rd h sd 0)) dd_Scene_copy_2 fd_9_18 (io_c hsd) (congrArg (fun z : Int => (Sum.inl z : LV)) (rfl)) rfl ?_
  refine R_pf (z := (rd h sd 0)) dd_Scene_copy_5 fd_9_18 (io_c hsc) fn_9_0 rfl rfl ?_
  refine R_ld (v := .inr (.inr sc)) dd_Scene_copy_8 rfl rfl rfl rfl ?_
  refine R_ld (v := .inr (.inr sd)) dd_Scene_copy_9 rfl rfl rfl rfl ?_
  refine R_gf (v := .inl (rd h sd 1)) dd_Scene_copy_10 fd_9_22 (io_c hsd) (congrArg (fun z : Int => (Sum.inl z : LV)) (rdw_ne (by omega))) rfl ?_
  refine R_pf (z := (rd h sd 1)) dd_Scene_copy_13 fd_9_22 (io_c hsc) fn_9_1 rfl rfl ?_
  refine R_ld (v := .inr (.inr sc)) dd_Scene_copy_16 rfl rfl rfl rfl ?_
  refine R_ld (v := .inr (.inr sd)) dd_Scene_copy_17 rfl rfl rfl rfl ?_
  refine R_gf (v := .inl (rd h sd 2)) dd_Scene_copy_18 fd_9_25 (io_c hsd) (congrArg (fun z : Int => (Sum.inl z : LV)) ((rdw_ne (by omega)).trans (rdw_ne (by omega)))) rfl ?_
  refine R_pf (z := (rd h sd 2)) dd_Scene_copy_21 fd_9_25 (io_c hsc) fn_9_2 rfl rfl ?_
  refine R_ld (v := .inr (.inr sc)) dd_Scene_copy_24 rfl rfl rfl rfl ?_
  refine R_ld (v := .inr (.inr sd)) dd_Scene_copy_25 rfl rfl rfl rfl ?_
  refine R_gf (v := .inl (rd h sd 3)) dd_Scene_copy_26 fd_9_28 (io_c hsd) (congrArg (fun z : Int => (Sum.inl z : LV)) ((rdw_ne (by omega)).trans ((rdw_ne (by omega)).trans (rdw_ne (by omega))))) rfl ?_
  refine R_pf (z := (rd h sd 3)) dd_Scene_copy_29 fd_9_28 (io_c hsc) fn_9_3 rfl rfl ?_
  refine R_ld (v := .inr (.inr sd)) dd_Scene_copy_32 rfl rfl rfl rfl ?_
  refine R_gf (v := .inr (.inr (sd + 1))) dd_Scene_copy_33 fd_9_9 (io_c hsd) (congrArg (fun z : Int => (Sum.inr (Sum.inr z) : LV)) ((rdw_ne (by omega)).trans ((rdw_ne (by omega)).trans ((rdw_ne (by omega)).trans ((rdw_ne (by omega)).trans (rs_wh hF hsd)))))) rfl ?_
  refine R_ic dd_Scene_copy_36 (by decide) rfl ?_
  refine R_ld (v := .inr (.inr sc)) dd_Scene_copy_37 rfl rfl rfl rfl ?_
  refine R_gf (v := .inr (.inr (sc + 1))) dd_Scene_copy_38 fd_9_9 (io_c hsc) (congrArg (fun z : Int => (Sum.inr (Sum.inr z) : LV)) ((rdw_nei (by omega)).trans ((rdw_nei (by omega)).trans ((rdw_nei (by omega)).trans ((rdw_nei (by omega)).trans (rs_wh hF hsc)))))) rfl ?_
  refine R_ic dd_Scene_copy_41 (by decide) rfl ?_
  refine R_bi dd_Scene_copy_42 (by decide) rfl ?_
  refine R_acopy (n := 6) (m := 6) dd_Scene_copy_44 (by decide +kernel) (by decide +kernel) (ia_wc hsd) (ia_wc hsc) (la_wc hsd) (la_wc hsc) (by decide) (Nat.le_of_ble_eq_true rfl) rfl ?_
  exact k
theorem B_scopy_47 {xs : Nat → Int} {xl e : Nat} {h : LH} {Q : Option LV → LH → Prop} {sc : Int} (hsc : scn sc) (hc0 : 60 ≤ sc) {sd : Int} (hsd : scn sd) (hne : sc ≠ sd) (hF : RF h)
    (k : Rn xs xl e mm_Scene_copy 62 [some (.inr (.inr sc)), some (.inr (.inr sd))] [] (cpyL h (sd + 2) 0 (sc + 2) 0 14 ++ h) Q) :
    Rn xs xl e mm_Scene_copy 47 [some (.inr (.inr sc)), some (.inr (.inr sd))] [] h Q := by
  refine R_ld (v := .inr (.inr sd)) dd_Scene_copy_47 rfl rfl rfl rfl ?_
  refine R_gf (v := .inr (.inr (sd + 2))) dd_Scene_copy_48 fd_9_15 (io_c hsd) (congrArg (fun z : Int => (Sum.inr (Sum.inr z) : LV)) (rs_th hF hsd)) rfl ?_
  refine R_ic dd_Scene_copy_51 (by decide) rfl ?_
  refine R_ld (v := .inr (.inr sc)) dd_Scene_copy_52 rfl rfl rfl rfl ?_
  refine R_gf (v := .inr (.inr (sc + 2))) dd_Scene_copy_53 fd_9_15 (io_c hsc) (congrArg (fun z : Int => (Sum.inr (Sum.inr z) : LV)) (rs_th hF hsc)) rfl ?_
  refine R_ic dd_Scene_copy_56 (by decide) rfl ?_
  refine R_bi dd_Scene_copy_57 (by decide) rfl ?_
  refine R_acopy (n := 14) (m := 14) dd_Scene_copy_59 (by decide +kernel) (by decide +kernel) (ia_tc hsd) (ia_tc hsc) (la_tc hsd) (la_tc hsc) (by decide) (Nat.le_of_ble_eq_true rfl) rfl ?_
  exact k
theorem B_scopy_62 {xs : Nat → Int} {xl e : Nat} {h : LH} {Q : Option LV → LH → Prop} {sc : Int} (hsc : scn sc) (hc0 : 60 ≤ sc) {sd : Int} (hsd : scn sd) (hF : RF h)
    (k : Q none h) :
    Rn xs xl e mm_Scene_copy 62 [some (.inr (.inr sc)), some (.inr (.inr sd))] [] h Q := by
  exact R_vret dd_Scene_copy_62 rfl k
theorem B_Scene_pass_0 {xs : Nat → Int} {xl e : Nat} {h : LH} {Q : Option LV → LH → Prop} {v1 : Int} {sc : Int} (hsc : scn sc) (hc0 : 60 ≤ sc) (hF : RF h)
    (k : (-2147483648 ≤ (rd h sc 0) + v1 ∧ (rd h sc 0) + v1 ≤ 2147483647) ∧
      (∀ m2, m2 ≤ 24 ∧ m2 ≤ (rd h sc 0) + v1 ∧ (m2 = 24 ∨ m2 = (rd h sc 0) + v1) →
      (∃ c, c < e ∧ Rn xs xl c mm_java_util_Arrays_fill 0 [some (.inr (.inr (sc + 2))), some (.inl 0), none, none] [] (wr (wr h sc 0 m2) sc 2 0) (fun r h' => Rn xs xl e mm_Scene_pass 28 [some (.inr (.inr sc)), some (.inl v1)] (r.toList ++ []) h' Q)))) :
    Rn xs xl e mm_Scene_pass 0 [some (.inr (.inr sc)), some (.inl v1)] [] h Q := by
  refine R_ld (v := .inr (.inr sc)) dd_Scene_pass_0 rfl rfl rfl rfl ?_
  refine R_bi dd_Scene_pass_1 (by decide) rfl ?_
  refine R_ld (v := .inr (.inr sc)) dd_Scene_pass_3 rfl rfl rfl rfl ?_
  refine R_gf (v := .inl (rd h sc 0)) dd_Scene_pass_4 fd_9_18 (io_c hsc) (congrArg (fun z : Int => (Sum.inl z : LV)) (rfl)) rfl ?_
  refine R_ld (v := .inl v1) dd_Scene_pass_7 rfl rfl rfl rfl ?_
  obtain ⟨s1, k⟩ := k
  refine R_iadd (c := (rd h sc 0) + v1) dd_Scene_pass_8 (by omega) s1 rfl ?_
  refine R_minv dd_Scene_pass_9 (by decide +kernel) (by decide +kernel) (Nat.le_of_ble_eq_true rfl) rfl (fun m2 hm2 => ?_)
  replace k := k m2 hm2
  refine R_pf (z := m2) dd_Scene_pass_12 fd_9_18 (io_c hsc) fn_9_0 rfl rfl ?_
  refine R_ld (v := .inr (.inr sc)) dd_Scene_pass_15 rfl rfl rfl rfl ?_
  refine R_ic dd_Scene_pass_16 (by decide) rfl ?_
  refine R_pf (z := 0) dd_Scene_pass_17 fd_9_25 (io_c hsc) fn_9_2 rfl rfl ?_
  refine R_ld (v := .inr (.inr sc)) dd_Scene_pass_20 rfl rfl rfl rfl ?_
  refine R_gf (v := .inr (.inr (sc + 2))) dd_Scene_pass_21 fd_9_15 (io_c hsc) (congrArg (fun z : Int => (Sum.inr (Sum.inr z) : LV)) ((rdw_nei (by omega)).trans ((rdw_nei (by omega)).trans (rs_th hF hsc)))) rfl ?_
  refine R_ic dd_Scene_pass_24 (by decide) rfl ?_
  obtain ⟨c, hc, k⟩ := k
  exact R_call (as := [.inr (.inr (sc + 2)), .inl 0]) (rest := []) (M' := mm_java_util_Arrays_fill) (ls0 := [some (.inr (.inr (sc + 2))), some (.inl 0), none, none]) dd_Scene_pass_25 rfl rfl (cw_s cw_9_31 rfl rfl (Nat.le_of_ble_eq_true rfl) (Nat.le_of_ble_eq_true rfl)) mt_java_util_Arrays_fill rfl hc rfl k
theorem B_Scene_pass_28 {xs : Nat → Int} {xl e : Nat} {h : LH} {Q : Option LV → LH → Prop} {v1 : Int} {sc : Int} (hsc : scn sc) (hc0 : 60 ≤ sc) (hF : RF h)
    (k : Q none h) :
    Rn xs xl e mm_Scene_pass 28 [some (.inr (.inr sc)), some (.inl v1)] [] h Q := by
  exact R_vret dd_Scene_pass_28 rfl k
theorem B_Scene_begin_0 {xs : Nat → Int} {xl e : Nat} {h : LH} {Q : Option LV → LH → Prop} {sc : Int} (hsc : scn sc) (hc0 : 60 ≤ sc) {q : Int} (hq : q = 5 ∨ q = 32) (hF : RF h)
    (k : (∃ c, c < e ∧ Rn xs xl c mm_java_util_Arrays_fill 0 [some (.inr (.inr (sc + 2))), some (.inl 0), none, none] [] (wr (wr (wr (wr h sc 0 0) sc 1 0) sc 2 0) sc 3 0) (fun r h' => Rn xs xl e mm_Scene_begin 28 [some (.inr (.inr sc)), some (.inr (.inr q)), none, none] (r.toList ++ []) h' Q))) :
    Rn xs xl e mm_Scene_begin 0 [some (.inr (.inr sc)), some (.inr (.inr q)), none, none] [] h Q := by
  refine R_ld (v := .inr (.inr sc)) dd_Scene_begin_0 rfl rfl rfl rfl ?_
  refine R_ic dd_Scene_begin_1 (by decide) rfl ?_
  refine R_pf (z := 0) dd_Scene_begin_2 fd_9_18 (io_c hsc) fn_9_0 rfl rfl ?_
  refine R_ld (v := .inr (.inr sc)) dd_Scene_begin_5 rfl rfl rfl rfl ?_
  refine R_ic dd_Scene_begin_6 (by decide) rfl ?_
  refine R_pf (z := 0) dd_Scene_begin_7 fd_9_22 (io_c hsc) fn_9_1 rfl rfl ?_
  refine R_ld (v := .inr (.inr sc)) dd_Scene_begin_10 rfl rfl rfl rfl ?_
  refine R_ic dd_Scene_begin_11 (by decide) rfl ?_
  refine R_pf (z := 0) dd_Scene_begin_12 fd_9_25 (io_c hsc) fn_9_2 rfl rfl ?_
  refine R_ld (v := .inr (.inr sc)) dd_Scene_begin_15 rfl rfl rfl rfl ?_
  refine R_ic dd_Scene_begin_16 (by decide) rfl ?_
  refine R_pf (z := 0) dd_Scene_begin_17 fd_9_28 (io_c hsc) fn_9_3 rfl rfl ?_
  refine R_ld (v := .inr (.inr sc)) dd_Scene_begin_20 rfl rfl rfl rfl ?_
  refine R_gf (v := .inr (.inr (sc + 2))) dd_Scene_begin_21 fd_9_15 (io_c hsc) (congrArg (fun z : Int => (Sum.inr (Sum.inr z) : LV)) ((rdw_nei (by omega)).trans ((rdw_nei (by omega)).trans ((rdw_nei (by omega)).trans ((rdw_nei (by omega)).trans (rs_th hF hsc)))))) rfl ?_
  refine R_ic dd_Scene_begin_24 (by decide) rfl ?_
  obtain ⟨c, hc, k⟩ := k
  exact R_call (as := [.inr (.inr (sc + 2)), .inl 0]) (rest := []) (M' := mm_java_util_Arrays_fill) (ls0 := [some (.inr (.inr (sc + 2))), some (.inl 0), none, none]) dd_Scene_begin_25 rfl rfl (cw_s cw_9_31 rfl rfl (Nat.le_of_ble_eq_true rfl) (Nat.le_of_ble_eq_true rfl)) mt_java_util_Arrays_fill rfl hc rfl k
theorem B_Scene_begin_28 {xs : Nat → Int} {xl e : Nat} {h : LH} {Q : Option LV → LH → Prop} {sc : Int} (hsc : scn sc) (hc0 : 60 ≤ sc) {q : Int} (hq : q = 5 ∨ q = 32) (hF : RF h)
    (k : Rn xs xl e mm_Scene_begin 30 [some (.inr (.inr sc)), some (.inr (.inr q)), some (.inl 0), none] [] h Q) :
    Rn xs xl e mm_Scene_begin 28 [some (.inr (.inr sc)), some (.inr (.inr q)), none, none] [] h Q := by
  refine R_ic dd_Scene_begin_28 (by decide) rfl ?_
  refine R_st (ls' := [some (.inr (.inr sc)), some (.inr (.inr q)), some (.inl 0), none]) dd_Scene_begin_29 rfl rfl rfl (Nat.le_of_ble_eq_true rfl) rfl rfl ?_
  exact k
theorem B_Scene_begin_30 {xs : Nat → Int} {xl e : Nat} {h : LH} {Q : Option LV → LH → Prop} {v2 : Int} {sc : Int} (hsc : scn sc) (hc0 : 60 ≤ sc) {q : Int} (hq : q = 5 ∨ q = 32) {o3 : Option LV} (hF : RF h) (hP : PT h) (r_v2 : 0 ≤ v2 ∧ v2 ≤ 6)
    (k : ((rd h q 4) ≤ v2 →
        Q none h) ∧
      (v2 < (rd h q 4) →
        (0 ≤ v2 ∧ v2 < 6) ∧
        (0 ≤ v2 ∧ v2 < 6) ∧
        ((rd h (q + 21 + v2) 3) ≠ (rd h (q + 21 + v2) 2) →
          Rn xs xl e mm_Scene_begin 30 [some (.inr (.inr sc)), some (.inr (.inr q)), some (.inl (v2 + 1)), some (.inr (.inr (q + 21 + v2)))] [] (wr (wr h (sc + 1) v2 (rd h (q + 21 + v2) 2)) sc 3 (zor (rd h sc 3) 0)) Q) ∧
        ((rd h (q + 21 + v2) 3) = (rd h (q + 21 + v2) 2) →
          Rn xs xl e mm_Scene_begin 30 [some (.inr (.inr sc)), some (.inr (.inr q)), some (.inl (v2 + 1)), some (.inr (.inr (q + 21 + v2)))] [] (wr (wr h (sc + 1) v2 (rd h (q + 21 + v2) 2)) sc 3 (zor (rd h sc 3) (zshl 1 v2))) Q))) :
    Rn xs xl e mm_Scene_begin 30 [some (.inr (.inr sc)), some (.inr (.inr q)), some (.inl v2), o3] [] h Q := by
  refine R_ld (v := .inl v2) dd_Scene_begin_30 rfl rfl rfl rfl ?_
  refine R_ld (v := .inr (.inr q)) dd_Scene_begin_31 rfl rfl rfl rfl ?_
  refine R_gf (v := .inl (rd h q 4)) dd_Scene_begin_32 fd_9_37 (io_q hq) (congrArg (fun z : Int => (Sum.inl z : LV)) (rfl)) rfl ?_
  refine R_icmp dd_Scene_begin_35 rfl rfl (fun (c3 : (rd h q 4) ≤ v2) => ?_) (fun (c3 : v2 < (rd h q 4)) => ?_)
  · replace k := k.1 c3
    exact R_vret dd_Scene_begin_88 rfl k
  · replace k := k.2 c3
    refine R_ld (v := .inr (.inr q)) dd_Scene_begin_38 rfl rfl rfl rfl ?_
    refine R_gf (v := .inr (.inr (q + 2))) dd_Scene_begin_39 fd_9_42 (io_q hq) (congrArg (fun z : Int => (Sum.inr (Sum.inr z) : LV)) (rq_ppl hF hq)) rfl ?_
    refine R_ld (v := .inl v2) dd_Scene_begin_42 rfl rfl rfl rfl ?_
    obtain ⟨s1, k⟩ := k
    refine R_aald (v := (q + 21 + v2)) (n := 6) dd_Scene_begin_43 (ia_pq hq) (la_pq hq) s1 (rq_p hP hq s1) rfl ?_
    refine R_st (ls' := [some (.inr (.inr sc)), some (.inr (.inr q)), some (.inl v2), some (.inr (.inr (q + 21 + v2)))]) dd_Scene_begin_44 rfl rfl rfl (Nat.le_of_ble_eq_true rfl) rfl rfl ?_
    refine R_ld (v := .inr (.inr sc)) dd_Scene_begin_45 rfl rfl rfl rfl ?_
    refine R_gf (v := .inr (.inr (sc + 1))) dd_Scene_begin_46 fd_9_9 (io_c hsc) (congrArg (fun z : Int => (Sum.inr (Sum.inr z) : LV)) (rs_wh hF hsc)) rfl ?_
    refine R_ld (v := .inl v2) dd_Scene_begin_49 rfl rfl rfl rfl ?_
    refine R_ld (v := .inr (.inr (q + 21 + v2))) dd_Scene_begin_50 rfl rfl rfl rfl ?_
    refine R_gf (v := .inl (rd h (q + 21 + v2) 2)) dd_Scene_begin_51 fd_9_46 (io_p hq (by omega)) (congrArg (fun z : Int => (Sum.inl z : LV)) (rfl)) rfl ?_
    obtain ⟨s2, k⟩ := k
    refine R_iast (n := 6) dd_Scene_begin_54 (ia_wc hsc) (la_wc hsc) s2 rfl ?_
    refine R_ld (v := .inr (.inr sc)) dd_Scene_begin_55 rfl rfl rfl rfl ?_
    refine R_A dd_Scene_begin_56 rfl rfl rfl rfl ?_
    refine R_gf (v := .inl (rd h sc 3)) dd_Scene_begin_57 fd_9_28 (io_c hsc) (congrArg (fun z : Int => (Sum.inl z : LV)) (rdw_ne (by omega))) rfl ?_
    refine R_ld (v := .inr (.inr (q + 21 + v2))) dd_Scene_begin_60 rfl rfl rfl rfl ?_
    refine R_gf (v := .inl (rd h (q + 21 + v2) 3)) dd_Scene_begin_61 fd_9_51 (io_p hq (by omega)) (congrArg (fun z : Int => (Sum.inl z : LV)) (rdw_ne (by omega))) rfl ?_
    refine R_ld (v := .inr (.inr (q + 21 + v2))) dd_Scene_begin_64 rfl rfl rfl rfl ?_
    refine R_gf (v := .inl (rd h (q + 21 + v2) 2)) dd_Scene_begin_65 fd_9_46 (io_p hq (by omega)) (congrArg (fun z : Int => (Sum.inl z : LV)) (rdw_ne (by omega))) rfl ?_
    refine R_icmp dd_Scene_begin_68 rfl rfl (fun (c4 : (rd h (q + 21 + v2) 3) ≠ (rd h (q + 21 + v2) 2)) => ?_) (fun (c4 : (rd h (q + 21 + v2) 3) = (rd h (q + 21 + v2) 2)) => ?_)
    · replace k := k.1 c4
      refine R_ic dd_Scene_begin_77 (by decide) rfl ?_
      refine R_A dd_Scene_begin_78 rfl rfl rfl rfl ?_
      refine R_pf (z := (zor (rd h sc 3) 0)) dd_Scene_begin_79 fd_9_28 (io_c hsc) fn_9_3 rfl rfl ?_
      refine R_inc (y := v2 + 1) (ls' := [some (.inr (.inr sc)), some (.inr (.inr q)), some (.inl (v2 + 1)), some (.inr (.inr (q + 21 + v2)))]) dd_Scene_begin_82 rfl (by decide) (by omega) (by omega) rfl rfl ?_
      refine R_goto dd_Scene_begin_85 rfl ?_
      exact k
    · replace k := k.2 c4
      refine R_ic dd_Scene_begin_71 (by decide) rfl ?_
      refine R_ld (v := .inl v2) dd_Scene_begin_72 rfl rfl rfl rfl ?_
      refine R_A dd_Scene_begin_73 rfl rfl rfl rfl ?_
      refine R_goto dd_Scene_begin_74 rfl ?_
      refine R_A dd_Scene_begin_78 rfl rfl rfl rfl ?_
      refine R_pf (z := (zor (rd h sc 3) (zshl 1 v2))) dd_Scene_begin_79 fd_9_28 (io_c hsc) fn_9_3 rfl rfl ?_
      refine R_inc (y := v2 + 1) (ls' := [some (.inr (.inr sc)), some (.inr (.inr q)), some (.inl (v2 + 1)), some (.inr (.inr (q + 21 + v2)))]) dd_Scene_begin_82 rfl (by decide) (by omega) (by omega) rfl rfl ?_
      refine R_goto dd_Scene_begin_85 rfl ?_
      exact k
theorem B_OneSided_keepForUndo_0 {xs : Nat → Int} {xl e : Nat} {h : LH} {Q : Option LV → LH → Prop} {sc : Int} (hsc : scn sc) (hc0 : 60 ≤ sc) {sd : Int} (hsd : scn sd) (hF : RF h)
    (k : (-2147483648 ≤ (rd h 1 8) + (rd h 1 9) ∧ (rd h 1 8) + (rd h 1 9) ≤ 2147483647) ∧
      (0 ≤ (zfm ((rd h 1 8) + (rd h 1 9)) 16) ∧ (zfm ((rd h 1 8) + (rd h 1 9)) 16) < 16) ∧
      (rd h 76 (zfm ((rd h 1 8) + (rd h 1 9)) 16) = sc) ∧
      (∃ c, c < e ∧ Rn xs xl c mm_Scene_copy 0 [some (.inr (.inr sc)), some (.inr (.inr sd))] [] h (fun r h' => Rn xs xl e mm_OneSided_keepForUndo 23 [some (.inr (.inr 1)), some (.inr (.inr sd))] (r.toList ++ []) h' Q))) :
    Rn xs xl e mm_OneSided_keepForUndo 0 [some (.inr (.inr 1)), some (.inr (.inr sd))] [] h Q := by
  refine R_ld (v := .inr (.inr 1)) dd_OneSided_keepForUndo_0 rfl rfl rfl rfl ?_
  refine R_gf (v := .inr (.inr 76)) dd_OneSided_keepForUndo_1 fd_11_42 io_1 (congrArg (fun z : Int => (Sum.inr (Sum.inr z) : LV)) (rf_1_7 hF)) rfl ?_
  refine R_ld (v := .inr (.inr 1)) dd_OneSided_keepForUndo_4 rfl rfl rfl rfl ?_
  refine R_gf (v := .inl (rd h 1 8)) dd_OneSided_keepForUndo_5 fd_11_219 io_1 (congrArg (fun z : Int => (Sum.inl z : LV)) (rfl)) rfl ?_
  refine R_ld (v := .inr (.inr 1)) dd_OneSided_keepForUndo_8 rfl rfl rfl rfl ?_
  refine R_gf (v := .inl (rd h 1 9)) dd_OneSided_keepForUndo_9 fd_11_104 io_1 (congrArg (fun z : Int => (Sum.inl z : LV)) (rfl)) rfl ?_
  obtain ⟨s1, k⟩ := k
  refine R_iadd (c := (rd h 1 8) + (rd h 1 9)) dd_OneSided_keepForUndo_12 (by omega) s1 rfl ?_
  refine R_bi dd_OneSided_keepForUndo_13 (by decide) rfl ?_
  refine R_fmod dd_OneSided_keepForUndo_15 (by decide +kernel) (by decide +kernel) (by decide) (Nat.le_of_ble_eq_true rfl) rfl ?_
  obtain ⟨s2, k⟩ := k
  obtain ⟨s3, k⟩ := k
  refine R_aald (v := sc) (n := 16) dd_OneSided_keepForUndo_18 ia_76 la_76 s2 (s3) rfl ?_
  refine R_ld (v := .inr (.inr sd)) dd_OneSided_keepForUndo_19 rfl rfl rfl rfl ?_
  obtain ⟨c, hc, k⟩ := k
  exact R_call (as := [.inr (.inr sc), .inr (.inr sd)]) (rest := []) (M' := mm_Scene_copy) (ls0 := [some (.inr (.inr sc)), some (.inr (.inr sd))]) dd_OneSided_keepForUndo_20 rfl rfl (cw_v cw_11_201 (io_c hsc) rfl rfl (Nat.le_of_ble_eq_true rfl) (Nat.le_of_ble_eq_true rfl)) mt_Scene_copy rfl hc rfl k
theorem B_OneSided_keepForUndo_23 {xs : Nat → Int} {xl e : Nat} {h : LH} {Q : Option LV → LH → Prop} {sd : Int} (hsd : scn sd) (hF : RF h)
    (k : (16 ≤ (rd h 1 9) →
        (-2147483648 ≤ (rd h 1 8) + 1 ∧ (rd h 1 8) + 1 ≤ 2147483647) ∧
        Q none (wr h 1 8 (zfm ((rd h 1 8) + 1) 16))) ∧
      ((rd h 1 9) < 16 →
        (-2147483648 ≤ (rd h 1 9) + 1 ∧ (rd h 1 9) + 1 ≤ 2147483647) ∧
        Q none (wr h 1 9 ((rd h 1 9) + 1)))) :
    Rn xs xl e mm_OneSided_keepForUndo 23 [some (.inr (.inr 1)), some (.inr (.inr sd))] [] h Q := by
  refine R_ld (v := .inr (.inr 1)) dd_OneSided_keepForUndo_23 rfl rfl rfl rfl ?_
  refine R_gf (v := .inl (rd h 1 9)) dd_OneSided_keepForUndo_24 fd_11_104 io_1 (congrArg (fun z : Int => (Sum.inl z : LV)) (rfl)) rfl ?_
  refine R_bi dd_OneSided_keepForUndo_27 (by decide) rfl ?_
  refine R_icmp dd_OneSided_keepForUndo_29 rfl rfl (fun (c3 : 16 ≤ (rd h 1 9)) => ?_) (fun (c3 : (rd h 1 9) < 16) => ?_)
  · replace k := k.1 c3
    refine R_ld (v := .inr (.inr 1)) dd_OneSided_keepForUndo_45 rfl rfl rfl rfl ?_
    refine R_ld (v := .inr (.inr 1)) dd_OneSided_keepForUndo_46 rfl rfl rfl rfl ?_
    refine R_gf (v := .inl (rd h 1 8)) dd_OneSided_keepForUndo_47 fd_11_219 io_1 (congrArg (fun z : Int => (Sum.inl z : LV)) (rfl)) rfl ?_
    refine R_ic dd_OneSided_keepForUndo_50 (by decide) rfl ?_
    obtain ⟨s1, k⟩ := k
    refine R_iadd (c := (rd h 1 8) + 1) dd_OneSided_keepForUndo_51 (by omega) s1 rfl ?_
    refine R_bi dd_OneSided_keepForUndo_52 (by decide) rfl ?_
    refine R_fmod dd_OneSided_keepForUndo_54 (by decide +kernel) (by decide +kernel) (by decide) (Nat.le_of_ble_eq_true rfl) rfl ?_
    refine R_pf (z := (zfm ((rd h 1 8) + 1) 16)) dd_OneSided_keepForUndo_57 fd_11_219 io_1 fn_11_8 rfl rfl ?_
    exact R_vret dd_OneSided_keepForUndo_60 rfl k
  · replace k := k.2 c3
    refine R_ld (v := .inr (.inr 1)) dd_OneSided_keepForUndo_32 rfl rfl rfl rfl ?_
    refine R_A dd_OneSided_keepForUndo_33 rfl rfl rfl rfl ?_
    refine R_gf (v := .inl (rd h 1 9)) dd_OneSided_keepForUndo_34 fd_11_104 io_1 (congrArg (fun z : Int => (Sum.inl z : LV)) (rfl)) rfl ?_
    refine R_ic dd_OneSided_keepForUndo_37 (by decide) rfl ?_
    obtain ⟨s2, k⟩ := k
    refine R_iadd (c := (rd h 1 9) + 1) dd_OneSided_keepForUndo_38 (by omega) s2 rfl ?_
    refine R_pf (z := ((rd h 1 9) + 1)) dd_OneSided_keepForUndo_39 fd_11_104 io_1 fn_11_9 rfl rfl ?_
    refine R_goto dd_OneSided_keepForUndo_42 rfl ?_
    exact R_vret dd_OneSided_keepForUndo_60 rfl k
theorem B_OneSided_undo_0 {xs : Nat → Int} {xl e : Nat} {h : LH} {Q : Option LV → LH → Prop} {sd : Int} (hsd : scn sd) (hc0 : 60 ≤ sd) (hF : RF h)
    (k : ((rd h 1 9) ≠ 0 →
        (-2147483648 ≤ (rd h 1 9) - 1 ∧ (rd h 1 9) - 1 ≤ 2147483647) ∧
        (-2147483648 ≤ (rd h 1 8) + ((rd h 1 9) - 1) ∧ (rd h 1 8) + ((rd h 1 9) - 1) ≤ 2147483647) ∧
        (0 ≤ (zfm ((rd h 1 8) + ((rd h 1 9) - 1)) 16) ∧ (zfm ((rd h 1 8) + ((rd h 1 9) - 1)) 16) < 16) ∧
        (rd h 76 (zfm ((rd h 1 8) + ((rd h 1 9) - 1)) 16) = sd) ∧
        (∃ c, c < e ∧ Rn xs xl c mm_Scene_copy 0 [some (.inr (.inr 60)), some (.inr (.inr sd))] [] (wr h 1 9 ((rd h 1 9) - 1)) (fun r h' => Rn xs xl e mm_OneSided_undo 48 [some (.inr (.inr 1))] (r.toList ++ []) h' Q))) ∧
      ((rd h 1 9) = 0 →
        Q (some (.inl 0)) h)) :
    Rn xs xl e mm_OneSided_undo 0 [some (.inr (.inr 1))] [] h Q := by
  refine R_ld (v := .inr (.inr 1)) dd_OneSided_undo_0 rfl rfl rfl rfl ?_
  refine R_gf (v := .inl (rd h 1 9)) dd_OneSided_undo_1 fd_11_104 io_1 (congrArg (fun z : Int => (Sum.inl z : LV)) (rfl)) rfl ?_
  refine R_if dd_OneSided_undo_4 rfl rfl (fun (c6 : (rd h 1 9) ≠ 0) => ?_) (fun (c6 : (rd h 1 9) = 0) => ?_)
  · replace k := k.1 c6
    refine R_ld (v := .inr (.inr 1)) dd_OneSided_undo_9 rfl rfl rfl rfl ?_
    refine R_A dd_OneSided_undo_10 rfl rfl rfl rfl ?_
    refine R_gf (v := .inl (rd h 1 9)) dd_OneSided_undo_11 fd_11_104 io_1 (congrArg (fun z : Int => (Sum.inl z : LV)) (rfl)) rfl ?_
    refine R_ic dd_OneSided_undo_14 (by decide) rfl ?_
    obtain ⟨s1, k⟩ := k
    refine R_isub (c := (rd h 1 9) - 1) dd_OneSided_undo_15 (by omega) s1 rfl ?_
    refine R_pf (z := ((rd h 1 9) - 1)) dd_OneSided_undo_16 fd_11_104 io_1 fn_11_9 rfl rfl ?_
    refine R_ld (v := .inr (.inr 1)) dd_OneSided_undo_19 rfl rfl rfl rfl ?_
    refine R_gf (v := .inr (.inr 59)) dd_OneSided_undo_20 fd_11_29 io_1 (congrArg (fun z : Int => (Sum.inr (Sum.inr z) : LV)) ((rdw_nei (by omega)).trans (rf_1_3 hF))) rfl ?_
    refine R_gf (v := .inr (.inr 60)) dd_OneSided_undo_23 fd_11_149 io_59 (congrArg (fun z : Int => (Sum.inr (Sum.inr z) : LV)) ((rdw_ne (by decide)).trans (rf_59_0 hF))) rfl ?_
    refine R_ld (v := .inr (.inr 1)) dd_OneSided_undo_26 rfl rfl rfl rfl ?_
    refine R_gf (v := .inr (.inr 76)) dd_OneSided_undo_27 fd_11_42 io_1 (congrArg (fun z : Int => (Sum.inr (Sum.inr z) : LV)) ((rdw_nei (by omega)).trans (rf_1_7 hF))) rfl ?_
    refine R_ld (v := .inr (.inr 1)) dd_OneSided_undo_30 rfl rfl rfl rfl ?_
    refine R_gf (v := .inl (rd h 1 8)) dd_OneSided_undo_31 fd_11_219 io_1 (congrArg (fun z : Int => (Sum.inl z : LV)) (rdw_nei (by omega))) rfl ?_
    refine R_ld (v := .inr (.inr 1)) dd_OneSided_undo_34 rfl rfl rfl rfl ?_
    refine R_gf (v := .inl ((rd h 1 9) - 1)) dd_OneSided_undo_35 fd_11_104 io_1 (congrArg (fun z : Int => (Sum.inl z : LV)) (rdw_eq)) rfl ?_
    obtain ⟨s2, k⟩ := k
    refine R_iadd (c := (rd h 1 8) + ((rd h 1 9) - 1)) dd_OneSided_undo_38 (by omega) s2 rfl ?_
    refine R_bi dd_OneSided_undo_39 (by decide) rfl ?_
    refine R_fmod dd_OneSided_undo_41 (by decide +kernel) (by decide +kernel) (by decide) (Nat.le_of_ble_eq_true rfl) rfl ?_
    obtain ⟨s3, k⟩ := k
    obtain ⟨s4, k⟩ := k
    refine R_aald (v := sd) (n := 16) dd_OneSided_undo_44 ia_76 la_76 s3 ((rdw_ne (by decide)).trans (s4)) rfl ?_
    obtain ⟨c, hc, k⟩ := k
    exact R_call (as := [.inr (.inr 60), .inr (.inr sd)]) (rest := []) (M' := mm_Scene_copy) (ls0 := [some (.inr (.inr 60)), some (.inr (.inr sd))]) dd_OneSided_undo_45 rfl rfl (cw_v cw_11_201 io_60 rfl rfl (Nat.le_of_ble_eq_true rfl) (Nat.le_of_ble_eq_true rfl)) mt_Scene_copy rfl hc rfl k
  · replace k := k.2 c6
    refine R_ic dd_OneSided_undo_7 (by decide) rfl ?_
    exact R_zret dd_OneSided_undo_8 rfl (by decide) k
theorem B_OneSided_undo_48 {xs : Nat → Int} {xl e : Nat} {h : LH} {Q : Option LV → LH → Prop} (hF : RF h)
    (k : Q (some (.inl 1)) h) :
    Rn xs xl e mm_OneSided_undo 48 [some (.inr (.inr 1))] [] h Q := by
  refine R_ic dd_OneSided_undo_48 (by decide) rfl ?_
  exact R_zret dd_OneSided_undo_49 rfl (by decide) k
theorem B_OneSided_hours_0 {xs : Nat → Int} {xl e : Nat} {h : LH} {Q : Option LV → LH → Prop} {v1 : Int} (hF : RF h)
    (k : (v1 < 1 →
        Q (some (.inl (-1))) h) ∧
      (1 ≤ v1 →
        (v1 ≤ 24 →
          (∃ c, c < e ∧ Rn xs xl c mm_OneSided_keepForUndo 0 [some (.inr (.inr 1)), some (.inr (.inr 60))] [] h (fun r h' => Rn xs xl e mm_OneSided_hours 24 [some (.inr (.inr 1)), some (.inl v1)] (r.toList ++ []) h' Q))) ∧
        (24 < v1 →
          Q (some (.inl (-1))) h))) :
    Rn xs xl e mm_OneSided_hours 0 [some (.inr (.inr 1)), some (.inl v1)] [] h Q := by
  refine R_ld (v := .inl v1) dd_OneSided_hours_0 rfl rfl rfl rfl ?_
  refine R_ic dd_OneSided_hours_1 (by decide) rfl ?_
  refine R_icmp dd_OneSided_hours_2 rfl rfl (fun (c2 : v1 < 1) => ?_) (fun (c2 : 1 ≤ v1) => ?_)
  · replace k := k.1 c2
    refine R_ic dd_OneSided_hours_11 (by decide) rfl ?_
    exact R_iret dd_OneSided_hours_12 rfl k
  · replace k := k.2 c2
    refine R_ld (v := .inl v1) dd_OneSided_hours_5 rfl rfl rfl rfl ?_
    refine R_bi dd_OneSided_hours_6 (by decide) rfl ?_
    refine R_icmp dd_OneSided_hours_8 rfl rfl (fun (c3 : v1 ≤ 24) => ?_) (fun (c3 : 24 < v1) => ?_)
    · replace k := k.1 c3
      refine R_ld (v := .inr (.inr 1)) dd_OneSided_hours_13 rfl rfl rfl rfl ?_
      refine R_ld (v := .inr (.inr 1)) dd_OneSided_hours_14 rfl rfl rfl rfl ?_
      refine R_gf (v := .inr (.inr 59)) dd_OneSided_hours_15 fd_11_29 io_1 (congrArg (fun z : Int => (Sum.inr (Sum.inr z) : LV)) (rf_1_3 hF)) rfl ?_
      refine R_gf (v := .inr (.inr 60)) dd_OneSided_hours_18 fd_11_149 io_59 (congrArg (fun z : Int => (Sum.inr (Sum.inr z) : LV)) (rf_59_0 hF)) rfl ?_
      obtain ⟨c, hc, k⟩ := k
      exact R_call (as := [.inr (.inr 1), .inr (.inr 60)]) (rest := []) (M' := mm_OneSided_keepForUndo) (ls0 := [some (.inr (.inr 1)), some (.inr (.inr 60))]) dd_OneSided_hours_21 rfl rfl (cw_v cw_11_209 io_1 rfl rfl (Nat.le_of_ble_eq_true rfl) (Nat.le_of_ble_eq_true rfl)) mt_OneSided_keepForUndo rfl hc rfl k
    · replace k := k.2 c3
      refine R_ic dd_OneSided_hours_11 (by decide) rfl ?_
      exact R_iret dd_OneSided_hours_12 rfl k
theorem B_OneSided_hours_24 {xs : Nat → Int} {xl e : Nat} {h : LH} {Q : Option LV → LH → Prop} {v1 : Int} (hF : RF h)
    (k : (∃ c, c < e ∧ Rn xs xl c mm_Scene_pass 0 [some (.inr (.inr 60)), some (.inl v1)] [] h (fun r h' => Rn xs xl e mm_OneSided_hours 35 [some (.inr (.inr 1)), some (.inl v1)] (r.toList ++ []) h' Q))) :
    Rn xs xl e mm_OneSided_hours 24 [some (.inr (.inr 1)), some (.inl v1)] [] h Q := by
  refine R_ld (v := .inr (.inr 1)) dd_OneSided_hours_24 rfl rfl rfl rfl ?_
  refine R_gf (v := .inr (.inr 59)) dd_OneSided_hours_25 fd_11_29 io_1 (congrArg (fun z : Int => (Sum.inr (Sum.inr z) : LV)) (rf_1_3 hF)) rfl ?_
  refine R_gf (v := .inr (.inr 60)) dd_OneSided_hours_28 fd_11_149 io_59 (congrArg (fun z : Int => (Sum.inr (Sum.inr z) : LV)) (rf_59_0 hF)) rfl ?_
  refine R_ld (v := .inl v1) dd_OneSided_hours_31 rfl rfl rfl rfl ?_
  obtain ⟨c, hc, k⟩ := k
  exact R_call (as := [.inr (.inr 60), .inl v1]) (rest := []) (M' := mm_Scene_pass) (ls0 := [some (.inr (.inr 60)), some (.inl v1)]) dd_OneSided_hours_32 rfl rfl (cw_v cw_11_212 io_60 rfl rfl (Nat.le_of_ble_eq_true rfl) (Nat.le_of_ble_eq_true rfl)) mt_Scene_pass rfl hc rfl k
theorem B_OneSided_hours_35 {xs : Nat → Int} {xl e : Nat} {h : LH} {Q : Option LV → LH → Prop} {v1 : Int} (hF : RF h)
    (k : Q (some (.inl (rd h 60 0))) h) :
    Rn xs xl e mm_OneSided_hours 35 [some (.inr (.inr 1)), some (.inl v1)] [] h Q := by
  refine R_ld (v := .inr (.inr 1)) dd_OneSided_hours_35 rfl rfl rfl rfl ?_
  refine R_gf (v := .inr (.inr 59)) dd_OneSided_hours_36 fd_11_29 io_1 (congrArg (fun z : Int => (Sum.inr (Sum.inr z) : LV)) (rf_1_3 hF)) rfl ?_
  refine R_gf (v := .inr (.inr 60)) dd_OneSided_hours_39 fd_11_149 io_59 (congrArg (fun z : Int => (Sum.inr (Sum.inr z) : LV)) (rf_59_0 hF)) rfl ?_
  refine R_gf (v := .inl (rd h 60 0)) dd_OneSided_hours_42 fd_11_216 io_60 (congrArg (fun z : Int => (Sum.inl z : LV)) (rfl)) rfl ?_
  exact R_iret dd_OneSided_hours_45 rfl k
theorem B_OneSided_shut_0 {xs : Nat → Int} {xl e : Nat} {h : LH} {Q : Option LV → LH → Prop} {v1 v2 : Int} {q : Int} (hq : q = 5 ∨ q = 32) (hQ : rd h 1 ((1 : Nat) : Int) = q) (hF : RF h) (he : 1 ≤ e)
    (k : (v1 < 0 →
        Q (some (.inl 0)) h) ∧
      (0 ≤ v1 →
        ((rd h q 2) ≤ v1 →
          Q (some (.inl 0)) h) ∧
        (v1 < (rd h q 2) →
          ((zand (zshr (rd h 60 1) v1) 1) = 0 →
            (0 ≠ v2 →
              (∃ c, c < e ∧ Rn xs xl c mm_OneSided_keepForUndo 0 [some (.inr (.inr 1)), some (.inr (.inr 60))] [] h (fun r h' => Rn xs xl e mm_OneSided_shut 51 [some (.inr (.inr 1)), some (.inl v1), some (.inl v2), some (.inl 0)] (r.toList ++ []) h' Q))) ∧
            (0 = v2 →
              Q (some (.inl 0)) h)) ∧
          ((zand (zshr (rd h 60 1) v1) 1) ≠ 0 →
            (1 ≠ v2 →
              (∃ c, c < e ∧ Rn xs xl c mm_OneSided_keepForUndo 0 [some (.inr (.inr 1)), some (.inr (.inr 60))] [] h (fun r h' => Rn xs xl e mm_OneSided_shut 51 [some (.inr (.inr 1)), some (.inl v1), some (.inl v2), some (.inl 1)] (r.toList ++ []) h' Q))) ∧
            (1 = v2 →
              Q (some (.inl 0)) h))))) :
    Rn xs xl e mm_OneSided_shut 0 [some (.inr (.inr 1)), some (.inl v1), some (.inl v2), none] [] h Q := by
  refine R_ld (v := .inr (.inr 1)) dd_OneSided_shut_0 rfl rfl rfl rfl ?_
  refine R_ld (v := .inl v1) dd_OneSided_shut_1 rfl rfl rfl rfl ?_
  refine R_call (as := [.inr (.inr 1), .inl v1]) (rest := []) (M' := mm_OneSided_isDoor) (ls0 := [some (.inr (.inr 1)), some (.inl v1)]) dd_OneSided_shut_2 rfl rfl (cw_v cw_11_115 io_1 rfl rfl (Nat.le_of_ble_eq_true rfl) (Nat.le_of_ble_eq_true rfl)) mt_OneSided_isDoor rfl (c := e - 1) (by omega) rfl ?_
  refine R_ld (v := .inl v1) dd_OneSided_isDoor_0 rfl rfl rfl rfl ?_
  refine R_if dd_OneSided_isDoor_1 rfl rfl (fun (c3 : v1 < 0) => ?_) (fun (c3 : 0 ≤ v1) => ?_)
  · replace k := k.1 c3
    refine R_ic dd_OneSided_isDoor_19 (by decide) rfl ?_
    refine R_zret dd_OneSided_isDoor_20 rfl (by decide) ?_
    change Rn xs xl e mm_OneSided_shut 5 [some (.inr (.inr 1)), some (.inl v1), some (.inl v2), none] [.inl 0] h _
    refine R_if dd_OneSided_shut_5 rfl rfl (fun (c4 : 0 ≠ 0) => ?_) (fun (c4 : 0 = 0) => ?_)
    · exact absurd c4 (by omega)
    · skip
      refine R_ic dd_OneSided_shut_8 (by decide) rfl ?_
      exact R_zret dd_OneSided_shut_9 rfl (by decide) k
  · replace k := k.2 c3
    refine R_ld (v := .inl v1) dd_OneSided_isDoor_4 rfl rfl rfl rfl ?_
    refine R_ld (v := .inr (.inr 1)) dd_OneSided_isDoor_5 rfl rfl rfl rfl ?_
    refine R_gf (v := .inr (.inr q)) dd_OneSided_isDoor_6 fd_11_19 io_1 (congrArg (fun z : Int => (Sum.inr (Sum.inr z) : LV)) hQ) rfl ?_
    refine R_gf (v := .inl (rd h q 2)) dd_OneSided_isDoor_9 fd_11_345 (io_q hq) (congrArg (fun z : Int => (Sum.inl z : LV)) (rfl)) rfl ?_
    refine R_icmp dd_OneSided_isDoor_12 rfl rfl (fun (c5 : (rd h q 2) ≤ v1) => ?_) (fun (c5 : v1 < (rd h q 2)) => ?_)
    · replace k := k.1 c5
      refine R_ic dd_OneSided_isDoor_19 (by decide) rfl ?_
      refine R_zret dd_OneSided_isDoor_20 rfl (by decide) ?_
      change Rn xs xl e mm_OneSided_shut 5 [some (.inr (.inr 1)), some (.inl v1), some (.inl v2), none] [.inl 0] h _
      refine R_if dd_OneSided_shut_5 rfl rfl (fun (c6 : 0 ≠ 0) => ?_) (fun (c6 : 0 = 0) => ?_)
      · exact absurd c6 (by omega)
      · skip
        refine R_ic dd_OneSided_shut_8 (by decide) rfl ?_
        exact R_zret dd_OneSided_shut_9 rfl (by decide) k
    · replace k := k.2 c5
      refine R_ic dd_OneSided_isDoor_15 (by decide) rfl ?_
      refine R_goto dd_OneSided_isDoor_16 rfl ?_
      refine R_zret dd_OneSided_isDoor_20 rfl (by decide) ?_
      change Rn xs xl e mm_OneSided_shut 5 [some (.inr (.inr 1)), some (.inl v1), some (.inl v2), none] [.inl 1] h _
      refine R_if dd_OneSided_shut_5 rfl rfl (fun (c7 : 1 ≠ 0) => ?_) (fun (c7 : 1 = 0) => ?_)
      · skip
        refine R_ld (v := .inr (.inr 1)) dd_OneSided_shut_10 rfl rfl rfl rfl ?_
        refine R_gf (v := .inr (.inr 59)) dd_OneSided_shut_11 fd_11_29 io_1 (congrArg (fun z : Int => (Sum.inr (Sum.inr z) : LV)) (rf_1_3 hF)) rfl ?_
        refine R_gf (v := .inr (.inr 60)) dd_OneSided_shut_14 fd_11_149 io_59 (congrArg (fun z : Int => (Sum.inr (Sum.inr z) : LV)) (rf_59_0 hF)) rfl ?_
        refine R_gf (v := .inl (rd h 60 1)) dd_OneSided_shut_17 fd_11_153 io_60 (congrArg (fun z : Int => (Sum.inl z : LV)) (rfl)) rfl ?_
        refine R_ld (v := .inl v1) dd_OneSided_shut_20 rfl rfl rfl rfl ?_
        refine R_A dd_OneSided_shut_21 rfl rfl rfl rfl ?_
        refine R_ic dd_OneSided_shut_22 (by decide) rfl ?_
        refine R_A dd_OneSided_shut_23 rfl rfl rfl rfl ?_
        refine R_if dd_OneSided_shut_24 rfl rfl (fun (c8 : (zand (zshr (rd h 60 1) v1) 1) = 0) => ?_) (fun (c8 : (zand (zshr (rd h 60 1) v1) 1) ≠ 0) => ?_)
        · replace k := k.1 c8
          refine R_ic dd_OneSided_shut_31 (by decide) rfl ?_
          refine R_st (ls' := [some (.inr (.inr 1)), some (.inl v1), some (.inl v2), some (.inl 0)]) dd_OneSided_shut_32 rfl rfl rfl (Nat.le_of_ble_eq_true rfl) rfl rfl ?_
          refine R_ld (v := .inl 0) dd_OneSided_shut_33 rfl rfl rfl rfl ?_
          refine R_ld (v := .inl v2) dd_OneSided_shut_34 rfl rfl rfl rfl ?_
          refine R_icmp dd_OneSided_shut_35 rfl rfl (fun (c9 : 0 ≠ v2) => ?_) (fun (c9 : 0 = v2) => ?_)
          · replace k := k.1 c9
            refine R_ld (v := .inr (.inr 1)) dd_OneSided_shut_40 rfl rfl rfl rfl ?_
            refine R_ld (v := .inr (.inr 1)) dd_OneSided_shut_41 rfl rfl rfl rfl ?_
            refine R_gf (v := .inr (.inr 59)) dd_OneSided_shut_42 fd_11_29 io_1 (congrArg (fun z : Int => (Sum.inr (Sum.inr z) : LV)) (rf_1_3 hF)) rfl ?_
            refine R_gf (v := .inr (.inr 60)) dd_OneSided_shut_45 fd_11_149 io_59 (congrArg (fun z : Int => (Sum.inr (Sum.inr z) : LV)) (rf_59_0 hF)) rfl ?_
            obtain ⟨c, hc, k⟩ := k
            exact R_call (as := [.inr (.inr 1), .inr (.inr 60)]) (rest := []) (M' := mm_OneSided_keepForUndo) (ls0 := [some (.inr (.inr 1)), some (.inr (.inr 60))]) dd_OneSided_shut_48 rfl rfl (cw_v cw_11_209 io_1 rfl rfl (Nat.le_of_ble_eq_true rfl) (Nat.le_of_ble_eq_true rfl)) mt_OneSided_keepForUndo rfl hc rfl k
          · replace k := k.2 c9
            refine R_ic dd_OneSided_shut_38 (by decide) rfl ?_
            exact R_zret dd_OneSided_shut_39 rfl (by decide) k
        · replace k := k.2 c8
          refine R_ic dd_OneSided_shut_27 (by decide) rfl ?_
          refine R_goto dd_OneSided_shut_28 rfl ?_
          refine R_st (ls' := [some (.inr (.inr 1)), some (.inl v1), some (.inl v2), some (.inl 1)]) dd_OneSided_shut_32 rfl rfl rfl (Nat.le_of_ble_eq_true rfl) rfl rfl ?_
          refine R_ld (v := .inl 1) dd_OneSided_shut_33 rfl rfl rfl rfl ?_
          refine R_ld (v := .inl v2) dd_OneSided_shut_34 rfl rfl rfl rfl ?_
          refine R_icmp dd_OneSided_shut_35 rfl rfl (fun (c10 : 1 ≠ v2) => ?_) (fun (c10 : 1 = v2) => ?_)
          · replace k := k.1 c10
            refine R_ld (v := .inr (.inr 1)) dd_OneSided_shut_40 rfl rfl rfl rfl ?_
            refine R_ld (v := .inr (.inr 1)) dd_OneSided_shut_41 rfl rfl rfl rfl ?_
            refine R_gf (v := .inr (.inr 59)) dd_OneSided_shut_42 fd_11_29 io_1 (congrArg (fun z : Int => (Sum.inr (Sum.inr z) : LV)) (rf_1_3 hF)) rfl ?_
            refine R_gf (v := .inr (.inr 60)) dd_OneSided_shut_45 fd_11_149 io_59 (congrArg (fun z : Int => (Sum.inr (Sum.inr z) : LV)) (rf_59_0 hF)) rfl ?_
            obtain ⟨c, hc, k⟩ := k
            exact R_call (as := [.inr (.inr 1), .inr (.inr 60)]) (rest := []) (M' := mm_OneSided_keepForUndo) (ls0 := [some (.inr (.inr 1)), some (.inr (.inr 60))]) dd_OneSided_shut_48 rfl rfl (cw_v cw_11_209 io_1 rfl rfl (Nat.le_of_ble_eq_true rfl) (Nat.le_of_ble_eq_true rfl)) mt_OneSided_keepForUndo rfl hc rfl k
          · replace k := k.2 c10
            refine R_ic dd_OneSided_shut_38 (by decide) rfl ?_
            exact R_zret dd_OneSided_shut_39 rfl (by decide) k
      · exact absurd c7 (by omega)
theorem B_OneSided_shut_51 {xs : Nat → Int} {xl e : Nat} {h : LH} {Q : Option LV → LH → Prop} {v1 v2 v3 : Int} (hF : RF h)
    (k : Q (some (.inl 1)) (wr h 60 1 (zxor (rd h 60 1) (zshl 1 v1)))) :
    Rn xs xl e mm_OneSided_shut 51 [some (.inr (.inr 1)), some (.inl v1), some (.inl v2), some (.inl v3)] [] h Q := by
  refine R_ld (v := .inr (.inr 1)) dd_OneSided_shut_51 rfl rfl rfl rfl ?_
  refine R_gf (v := .inr (.inr 59)) dd_OneSided_shut_52 fd_11_29 io_1 (congrArg (fun z : Int => (Sum.inr (Sum.inr z) : LV)) (rf_1_3 hF)) rfl ?_
  refine R_gf (v := .inr (.inr 60)) dd_OneSided_shut_55 fd_11_149 io_59 (congrArg (fun z : Int => (Sum.inr (Sum.inr z) : LV)) (rf_59_0 hF)) rfl ?_
  refine R_A dd_OneSided_shut_58 rfl rfl rfl rfl ?_
  refine R_gf (v := .inl (rd h 60 1)) dd_OneSided_shut_59 fd_11_153 io_60 (congrArg (fun z : Int => (Sum.inl z : LV)) (rfl)) rfl ?_
  refine R_ic dd_OneSided_shut_62 (by decide) rfl ?_
  refine R_ld (v := .inl v1) dd_OneSided_shut_63 rfl rfl rfl rfl ?_
  refine R_A dd_OneSided_shut_64 rfl rfl rfl rfl ?_
  refine R_A dd_OneSided_shut_65 rfl rfl rfl rfl ?_
  refine R_pf (z := (zxor (rd h 60 1) (zshl 1 v1))) dd_OneSided_shut_66 fd_11_153 io_60 fn_9_1 rfl rfl ?_
  refine R_ic dd_OneSided_shut_69 (by decide) rfl ?_
  exact R_zret dd_OneSided_shut_70 rfl (by decide) k
theorem B_OneSided_go_0 {xs : Nat → Int} {xl e : Nat} {h : LH} {Q : Option LV → LH → Prop} {v1 v2 : Int} {q : Int} (hq : q = 5 ∨ q = 32) (hQ : rd h 1 ((1 : Nat) : Int) = q) (hF : RF h) (he : 1 ≤ e)
    (k : (v1 < 0 →
        Q (some (.inl (-1))) h) ∧
      (0 ≤ v1 →
        ((rd h q 4) ≤ v1 →
          Q (some (.inl (-1))) h) ∧
        (v1 < (rd h q 4) →
          (v2 < 0 →
            Q (some (.inl (-1))) h) ∧
          (0 ≤ v2 →
            ((rd h q 2) ≤ v2 →
              Q (some (.inl (-1))) h) ∧
            (v2 < (rd h q 2) →
              (∃ c, c < e ∧ Rn xs xl c mm_Scene_copy 0 [some (.inr (.inr 68)), some (.inr (.inr 60))] [] h (fun r h' => Rn xs xl e mm_OneSided_go 35 [some (.inr (.inr 1)), some (.inl v1), some (.inl v2), none] (r.toList ++ []) h' Q))))))) :
    Rn xs xl e mm_OneSided_go 0 [some (.inr (.inr 1)), some (.inl v1), some (.inl v2), none] [] h Q := by
  refine R_ld (v := .inr (.inr 1)) dd_OneSided_go_0 rfl rfl rfl rfl ?_
  refine R_ld (v := .inl v1) dd_OneSided_go_1 rfl rfl rfl rfl ?_
  refine R_call (as := [.inr (.inr 1), .inl v1]) (rest := []) (M' := mm_OneSided_isPerson) (ls0 := [some (.inr (.inr 1)), some (.inl v1)]) dd_OneSided_go_2 rfl rfl (cw_v cw_11_160 io_1 rfl rfl (Nat.le_of_ble_eq_true rfl) (Nat.le_of_ble_eq_true rfl)) mt_OneSided_isPerson rfl (c := e - 1) (by omega) rfl ?_
  refine R_ld (v := .inl v1) dd_OneSided_isPerson_0 rfl rfl rfl rfl ?_
  refine R_if dd_OneSided_isPerson_1 rfl rfl (fun (c2 : v1 < 0) => ?_) (fun (c2 : 0 ≤ v1) => ?_)
  · replace k := k.1 c2
    refine R_ic dd_OneSided_isPerson_19 (by decide) rfl ?_
    refine R_zret dd_OneSided_isPerson_20 rfl (by decide) ?_
    change Rn xs xl e mm_OneSided_go 5 [some (.inr (.inr 1)), some (.inl v1), some (.inl v2), none] [.inl 0] h _
    refine R_if dd_OneSided_go_5 rfl rfl (fun (c3 : 0 = 0) => ?_) (fun (c3 : 0 ≠ 0) => ?_)
    · skip
      refine R_ic dd_OneSided_go_16 (by decide) rfl ?_
      exact R_iret dd_OneSided_go_17 rfl k
    · exact absurd c3 (by omega)
  · replace k := k.2 c2
    refine R_ld (v := .inl v1) dd_OneSided_isPerson_4 rfl rfl rfl rfl ?_
    refine R_ld (v := .inr (.inr 1)) dd_OneSided_isPerson_5 rfl rfl rfl rfl ?_
    refine R_gf (v := .inr (.inr q)) dd_OneSided_isPerson_6 fd_11_19 io_1 (congrArg (fun z : Int => (Sum.inr (Sum.inr z) : LV)) hQ) rfl ?_
    refine R_gf (v := .inl (rd h q 4)) dd_OneSided_isPerson_9 fd_11_254 (io_q hq) (congrArg (fun z : Int => (Sum.inl z : LV)) (rfl)) rfl ?_
    refine R_icmp dd_OneSided_isPerson_12 rfl rfl (fun (c4 : (rd h q 4) ≤ v1) => ?_) (fun (c4 : v1 < (rd h q 4)) => ?_)
    · replace k := k.1 c4
      refine R_ic dd_OneSided_isPerson_19 (by decide) rfl ?_
      refine R_zret dd_OneSided_isPerson_20 rfl (by decide) ?_
      change Rn xs xl e mm_OneSided_go 5 [some (.inr (.inr 1)), some (.inl v1), some (.inl v2), none] [.inl 0] h _
      refine R_if dd_OneSided_go_5 rfl rfl (fun (c5 : 0 = 0) => ?_) (fun (c5 : 0 ≠ 0) => ?_)
      · skip
        refine R_ic dd_OneSided_go_16 (by decide) rfl ?_
        exact R_iret dd_OneSided_go_17 rfl k
      · exact absurd c5 (by omega)
    · replace k := k.2 c4
      refine R_ic dd_OneSided_isPerson_15 (by decide) rfl ?_
      refine R_goto dd_OneSided_isPerson_16 rfl ?_
      refine R_zret dd_OneSided_isPerson_20 rfl (by decide) ?_
      change Rn xs xl e mm_OneSided_go 5 [some (.inr (.inr 1)), some (.inl v1), some (.inl v2), none] [.inl 1] h _
      refine R_if dd_OneSided_go_5 rfl rfl (fun (c6 : 1 = 0) => ?_) (fun (c6 : 1 ≠ 0) => ?_)
      · exact absurd c6 (by omega)
      · skip
        refine R_ld (v := .inr (.inr 1)) dd_OneSided_go_8 rfl rfl rfl rfl ?_
        refine R_ld (v := .inl v2) dd_OneSided_go_9 rfl rfl rfl rfl ?_
        refine R_call (as := [.inr (.inr 1), .inl v2]) (rest := []) (M' := mm_OneSided_isDoor) (ls0 := [some (.inr (.inr 1)), some (.inl v2)]) dd_OneSided_go_10 rfl rfl (cw_v cw_11_115 io_1 rfl rfl (Nat.le_of_ble_eq_true rfl) (Nat.le_of_ble_eq_true rfl)) mt_OneSided_isDoor rfl (c := e - 1) (by omega) rfl ?_
        refine R_ld (v := .inl v2) dd_OneSided_isDoor_0 rfl rfl rfl rfl ?_
        refine R_if dd_OneSided_isDoor_1 rfl rfl (fun (c7 : v2 < 0) => ?_) (fun (c7 : 0 ≤ v2) => ?_)
        · replace k := k.1 c7
          refine R_ic dd_OneSided_isDoor_19 (by decide) rfl ?_
          refine R_zret dd_OneSided_isDoor_20 rfl (by decide) ?_
          change Rn xs xl e mm_OneSided_go 13 [some (.inr (.inr 1)), some (.inl v1), some (.inl v2), none] [.inl 0] h _
          refine R_if dd_OneSided_go_13 rfl rfl (fun (c8 : 0 ≠ 0) => ?_) (fun (c8 : 0 = 0) => ?_)
          · exact absurd c8 (by omega)
          · skip
            refine R_ic dd_OneSided_go_16 (by decide) rfl ?_
            exact R_iret dd_OneSided_go_17 rfl k
        · replace k := k.2 c7
          refine R_ld (v := .inl v2) dd_OneSided_isDoor_4 rfl rfl rfl rfl ?_
          refine R_ld (v := .inr (.inr 1)) dd_OneSided_isDoor_5 rfl rfl rfl rfl ?_
          refine R_gf (v := .inr (.inr q)) dd_OneSided_isDoor_6 fd_11_19 io_1 (congrArg (fun z : Int => (Sum.inr (Sum.inr z) : LV)) hQ) rfl ?_
          refine R_gf (v := .inl (rd h q 2)) dd_OneSided_isDoor_9 fd_11_345 (io_q hq) (congrArg (fun z : Int => (Sum.inl z : LV)) (rfl)) rfl ?_
          refine R_icmp dd_OneSided_isDoor_12 rfl rfl (fun (c9 : (rd h q 2) ≤ v2) => ?_) (fun (c9 : v2 < (rd h q 2)) => ?_)
          · replace k := k.1 c9
            refine R_ic dd_OneSided_isDoor_19 (by decide) rfl ?_
            refine R_zret dd_OneSided_isDoor_20 rfl (by decide) ?_
            change Rn xs xl e mm_OneSided_go 13 [some (.inr (.inr 1)), some (.inl v1), some (.inl v2), none] [.inl 0] h _
            refine R_if dd_OneSided_go_13 rfl rfl (fun (c10 : 0 ≠ 0) => ?_) (fun (c10 : 0 = 0) => ?_)
            · exact absurd c10 (by omega)
            · skip
              refine R_ic dd_OneSided_go_16 (by decide) rfl ?_
              exact R_iret dd_OneSided_go_17 rfl k
          · replace k := k.2 c9
            refine R_ic dd_OneSided_isDoor_15 (by decide) rfl ?_
            refine R_goto dd_OneSided_isDoor_16 rfl ?_
            refine R_zret dd_OneSided_isDoor_20 rfl (by decide) ?_
            change Rn xs xl e mm_OneSided_go 13 [some (.inr (.inr 1)), some (.inl v1), some (.inl v2), none] [.inl 1] h _
            refine R_if dd_OneSided_go_13 rfl rfl (fun (c11 : 1 ≠ 0) => ?_) (fun (c11 : 1 = 0) => ?_)
            · skip
              refine R_ld (v := .inr (.inr 1)) dd_OneSided_go_18 rfl rfl rfl rfl ?_
              refine R_gf (v := .inr (.inr 67)) dd_OneSided_go_19 fd_11_33 io_1 (congrArg (fun z : Int => (Sum.inr (Sum.inr z) : LV)) (rf_1_4 hF)) rfl ?_
              refine R_gf (v := .inr (.inr 68)) dd_OneSided_go_22 fd_11_149 io_67 (congrArg (fun z : Int => (Sum.inr (Sum.inr z) : LV)) (rf_67_0 hF)) rfl ?_
              refine R_ld (v := .inr (.inr 1)) dd_OneSided_go_25 rfl rfl rfl rfl ?_
              refine R_gf (v := .inr (.inr 59)) dd_OneSided_go_26 fd_11_29 io_1 (congrArg (fun z : Int => (Sum.inr (Sum.inr z) : LV)) (rf_1_3 hF)) rfl ?_
              refine R_gf (v := .inr (.inr 60)) dd_OneSided_go_29 fd_11_149 io_59 (congrArg (fun z : Int => (Sum.inr (Sum.inr z) : LV)) (rf_59_0 hF)) rfl ?_
              obtain ⟨c, hc, k⟩ := k
              exact R_call (as := [.inr (.inr 68), .inr (.inr 60)]) (rest := []) (M' := mm_Scene_copy) (ls0 := [some (.inr (.inr 68)), some (.inr (.inr 60))]) dd_OneSided_go_32 rfl rfl (cw_v cw_11_201 io_68 rfl rfl (Nat.le_of_ble_eq_true rfl) (Nat.le_of_ble_eq_true rfl)) mt_Scene_copy rfl hc rfl k
            · exact absurd c11 (by omega)
theorem B_OneSided_go_35 {xs : Nat → Int} {xl e : Nat} {h : LH} {Q : Option LV → LH → Prop} {v1 v2 : Int} {q : Int} (hq : q = 5 ∨ q = 32) (hQ : rd h 1 ((1 : Nat) : Int) = q) (hF : RF h)
    (k : (∃ c, c < e ∧ Rn xs xl c mm_Scene_tryDoor 0 [some (.inr (.inr 60)), some (.inr (.inr q)), some (.inl v1), some (.inl v2), none, none] [] h (fun r h' => Rn xs xl e mm_OneSided_go 51 [some (.inr (.inr 1)), some (.inl v1), some (.inl v2), none] (r.toList ++ []) h' Q))) :
    Rn xs xl e mm_OneSided_go 35 [some (.inr (.inr 1)), some (.inl v1), some (.inl v2), none] [] h Q := by
  refine R_ld (v := .inr (.inr 1)) dd_OneSided_go_35 rfl rfl rfl rfl ?_
  refine R_gf (v := .inr (.inr 59)) dd_OneSided_go_36 fd_11_29 io_1 (congrArg (fun z : Int => (Sum.inr (Sum.inr z) : LV)) (rf_1_3 hF)) rfl ?_
  refine R_gf (v := .inr (.inr 60)) dd_OneSided_go_39 fd_11_149 io_59 (congrArg (fun z : Int => (Sum.inr (Sum.inr z) : LV)) (rf_59_0 hF)) rfl ?_
  refine R_ld (v := .inr (.inr 1)) dd_OneSided_go_42 rfl rfl rfl rfl ?_
  refine R_gf (v := .inr (.inr q)) dd_OneSided_go_43 fd_11_19 io_1 (congrArg (fun z : Int => (Sum.inr (Sum.inr z) : LV)) hQ) rfl ?_
  refine R_ld (v := .inl v1) dd_OneSided_go_46 rfl rfl rfl rfl ?_
  refine R_ld (v := .inl v2) dd_OneSided_go_47 rfl rfl rfl rfl ?_
  obtain ⟨c, hc, k⟩ := k
  exact R_call (as := [.inr (.inr 60), .inr (.inr q), .inl v1, .inl v2]) (rest := []) (M' := mm_Scene_tryDoor) (ls0 := [some (.inr (.inr 60)), some (.inr (.inr q)), some (.inl v1), some (.inl v2), none, none]) dd_OneSided_go_48 rfl rfl (cw_v cw_11_205 io_60 rfl rfl (Nat.le_of_ble_eq_true rfl) (Nat.le_of_ble_eq_true rfl)) mt_Scene_tryDoor rfl hc rfl k
theorem B_OneSided_go_51 {xs : Nat → Int} {xl e : Nat} {h : LH} {Q : Option LV → LH → Prop} {v1 v2 w0 : Int} (hF : RF h)
    (k : (w0 = (-1) →
        Q (some (.inl w0)) h) ∧
      (w0 ≠ (-1) →
        (∃ c, c < e ∧ Rn xs xl c mm_OneSided_keepForUndo 0 [some (.inr (.inr 1)), some (.inr (.inr 68))] [] h (fun r h' => Rn xs xl e mm_OneSided_go 68 [some (.inr (.inr 1)), some (.inl v1), some (.inl v2), some (.inl w0)] (r.toList ++ []) h' Q)))) :
    Rn xs xl e mm_OneSided_go 51 [some (.inr (.inr 1)), some (.inl v1), some (.inl v2), none] [.inl w0] h Q := by
  refine R_st (ls' := [some (.inr (.inr 1)), some (.inl v1), some (.inl v2), some (.inl w0)]) dd_OneSided_go_51 rfl rfl rfl (Nat.le_of_ble_eq_true rfl) rfl rfl ?_
  refine R_ld (v := .inl w0) dd_OneSided_go_52 rfl rfl rfl rfl ?_
  refine R_ic dd_OneSided_go_53 (by decide) rfl ?_
  refine R_icmp dd_OneSided_go_54 rfl rfl (fun (c2 : w0 = (-1)) => ?_) (fun (c2 : w0 ≠ (-1)) => ?_)
  · replace k := k.1 c2
    refine R_ld (v := .inl w0) dd_OneSided_go_68 rfl rfl rfl rfl ?_
    exact R_iret dd_OneSided_go_69 rfl k
  · replace k := k.2 c2
    refine R_ld (v := .inr (.inr 1)) dd_OneSided_go_57 rfl rfl rfl rfl ?_
    refine R_ld (v := .inr (.inr 1)) dd_OneSided_go_58 rfl rfl rfl rfl ?_
    refine R_gf (v := .inr (.inr 67)) dd_OneSided_go_59 fd_11_33 io_1 (congrArg (fun z : Int => (Sum.inr (Sum.inr z) : LV)) (rf_1_4 hF)) rfl ?_
    refine R_gf (v := .inr (.inr 68)) dd_OneSided_go_62 fd_11_149 io_67 (congrArg (fun z : Int => (Sum.inr (Sum.inr z) : LV)) (rf_67_0 hF)) rfl ?_
    obtain ⟨c, hc, k⟩ := k
    exact R_call (as := [.inr (.inr 1), .inr (.inr 68)]) (rest := []) (M' := mm_OneSided_keepForUndo) (ls0 := [some (.inr (.inr 1)), some (.inr (.inr 68))]) dd_OneSided_go_65 rfl rfl (cw_v cw_11_209 io_1 rfl rfl (Nat.le_of_ble_eq_true rfl) (Nat.le_of_ble_eq_true rfl)) mt_OneSided_keepForUndo rfl hc rfl k
theorem B_OneSided_go_68 {xs : Nat → Int} {xl e : Nat} {h : LH} {Q : Option LV → LH → Prop} {v1 v2 v3 : Int} (hF : RF h)
    (k : Q (some (.inl v3)) h) :
    Rn xs xl e mm_OneSided_go 68 [some (.inr (.inr 1)), some (.inl v1), some (.inl v2), some (.inl v3)] [] h Q := by
  refine R_ld (v := .inl v3) dd_OneSided_go_68 rfl rfl rfl rfl ?_
  exact R_iret dd_OneSided_go_69 rfl k
theorem B_OneSided_door_0 {xs : Nat → Int} {xl e : Nat} {h : LH} {Q : Option LV → LH → Prop} {v1 v2 : Int} {q : Int} (hq : q = 5 ∨ q = 32) (hQ : rd h 1 ((1 : Nat) : Int) = q) (hF : RF h) (hP : PT h) (he : 1 ≤ e)
    (k : (v1 < 0 →
        Q (some (.inl (-1))) h) ∧
      (0 ≤ v1 →
        ((rd h q 2) ≤ v1 →
          Q (some (.inl (-1))) h) ∧
        (v1 < (rd h q 2) →
          (0 ≤ v1 ∧ v1 < 14) ∧
          (v2 = 0 →
            Q (some (.inl (rd h (q + 7 + v1) 1))) h) ∧
          (v2 = 1 →
            Q (some (.inl (rd h (q + 7 + v1) 2))) h) ∧
          (v2 = 2 →
            Q (some (.inl (rd h (q + 7 + v1) 3))) h) ∧
          (v2 = 3 →
            Q (some (.inl (rd h (q + 7 + v1) 4))) h) ∧
          (v2 = 4 →
            Q (some (.inl (rd h (q + 7 + v1) 5))) h) ∧
          (v2 = 5 →
            Q (some (.inl (rd h (q + 7 + v1) 6))) h) ∧
          (v2 = 6 →
            Q (some (.inl (rd h (q + 7 + v1) 7))) h) ∧
          (v2 = 7 →
            Q (some (.inl (rd h (q + 7 + v1) 8))) h) ∧
          (v2 = 8 →
            Q (some (.inl (zand (zshr (rd h 60 1) v1) 1))) h) ∧
          (v2 = 9 →
            (0 ≤ v1 ∧ v1 < 14) ∧
            Q (some (.inl (rd h 62 v1))) h) ∧
          (v2 < 0 ∨ 9 < v2 →
            Q (some (.inl (-1))) h)))) :
    Rn xs xl e mm_OneSided_door 0 [some (.inr (.inr 1)), some (.inl v1), some (.inl v2), none] [] h Q := by
  refine R_ld (v := .inr (.inr 1)) dd_OneSided_door_0 rfl rfl rfl rfl ?_
  refine R_ld (v := .inl v1) dd_OneSided_door_1 rfl rfl rfl rfl ?_
  refine R_call (as := [.inr (.inr 1), .inl v1]) (rest := []) (M' := mm_OneSided_isDoor) (ls0 := [some (.inr (.inr 1)), some (.inl v1)]) dd_OneSided_door_2 rfl rfl (cw_v cw_11_115 io_1 rfl rfl (Nat.le_of_ble_eq_true rfl) (Nat.le_of_ble_eq_true rfl)) mt_OneSided_isDoor rfl (c := e - 1) (by omega) rfl ?_
  refine R_ld (v := .inl v1) dd_OneSided_isDoor_0 rfl rfl rfl rfl ?_
  refine R_if dd_OneSided_isDoor_1 rfl rfl (fun (c3 : v1 < 0) => ?_) (fun (c3 : 0 ≤ v1) => ?_)
  · replace k := k.1 c3
    refine R_ic dd_OneSided_isDoor_19 (by decide) rfl ?_
    refine R_zret dd_OneSided_isDoor_20 rfl (by decide) ?_
    change Rn xs xl e mm_OneSided_door 5 [some (.inr (.inr 1)), some (.inl v1), some (.inl v2), none] [.inl 0] h _
    refine R_if dd_OneSided_door_5 rfl rfl (fun (c4 : 0 ≠ 0) => ?_) (fun (c4 : 0 = 0) => ?_)
    · exact absurd c4 (by omega)
    · skip
      refine R_ic dd_OneSided_door_8 (by decide) rfl ?_
      exact R_iret dd_OneSided_door_9 rfl k
  · replace k := k.2 c3
    refine R_ld (v := .inl v1) dd_OneSided_isDoor_4 rfl rfl rfl rfl ?_
    refine R_ld (v := .inr (.inr 1)) dd_OneSided_isDoor_5 rfl rfl rfl rfl ?_
    refine R_gf (v := .inr (.inr q)) dd_OneSided_isDoor_6 fd_11_19 io_1 (congrArg (fun z : Int => (Sum.inr (Sum.inr z) : LV)) hQ) rfl ?_
    refine R_gf (v := .inl (rd h q 2)) dd_OneSided_isDoor_9 fd_11_345 (io_q hq) (congrArg (fun z : Int => (Sum.inl z : LV)) (rfl)) rfl ?_
    refine R_icmp dd_OneSided_isDoor_12 rfl rfl (fun (c5 : (rd h q 2) ≤ v1) => ?_) (fun (c5 : v1 < (rd h q 2)) => ?_)
    · replace k := k.1 c5
      refine R_ic dd_OneSided_isDoor_19 (by decide) rfl ?_
      refine R_zret dd_OneSided_isDoor_20 rfl (by decide) ?_
      change Rn xs xl e mm_OneSided_door 5 [some (.inr (.inr 1)), some (.inl v1), some (.inl v2), none] [.inl 0] h _
      refine R_if dd_OneSided_door_5 rfl rfl (fun (c6 : 0 ≠ 0) => ?_) (fun (c6 : 0 = 0) => ?_)
      · exact absurd c6 (by omega)
      · skip
        refine R_ic dd_OneSided_door_8 (by decide) rfl ?_
        exact R_iret dd_OneSided_door_9 rfl k
    · replace k := k.2 c5
      refine R_ic dd_OneSided_isDoor_15 (by decide) rfl ?_
      refine R_goto dd_OneSided_isDoor_16 rfl ?_
      refine R_zret dd_OneSided_isDoor_20 rfl (by decide) ?_
      change Rn xs xl e mm_OneSided_door 5 [some (.inr (.inr 1)), some (.inl v1), some (.inl v2), none] [.inl 1] h _
      refine R_if dd_OneSided_door_5 rfl rfl (fun (c7 : 1 ≠ 0) => ?_) (fun (c7 : 1 = 0) => ?_)
      · skip
        refine R_ld (v := .inr (.inr 1)) dd_OneSided_door_10 rfl rfl rfl rfl ?_
        refine R_gf (v := .inr (.inr q)) dd_OneSided_door_11 fd_11_19 io_1 (congrArg (fun z : Int => (Sum.inr (Sum.inr z) : LV)) hQ) rfl ?_
        refine R_gf (v := .inr (.inr (q + 1))) dd_OneSided_door_14 fd_11_119 (io_q hq) (congrArg (fun z : Int => (Sum.inr (Sum.inr z) : LV)) (rq_arr hF hq)) rfl ?_
        refine R_ld (v := .inl v1) dd_OneSided_door_17 rfl rfl rfl rfl ?_
        obtain ⟨s1, k⟩ := k
        refine R_aald (v := (q + 7 + v1)) (n := 14) dd_OneSided_door_18 (ia_dq hq) (la_dq hq) s1 (rq_d hP hq s1) rfl ?_
        refine R_st (ls' := [some (.inr (.inr 1)), some (.inl v1), some (.inl v2), some (.inr (.inr (q + 7 + v1)))]) dd_OneSided_door_19 rfl rfl rfl (Nat.le_of_ble_eq_true rfl) rfl rfl ?_
        refine R_ld (v := .inl v2) dd_OneSided_door_20 rfl rfl rfl rfl ?_
        rcases (show (v2 = 0) ∨ (v2 = 1) ∨ (v2 = 2) ∨ (v2 = 3) ∨ (v2 = 4) ∨ (v2 = 5) ∨ (v2 = 6) ∨ (v2 = 7) ∨ (v2 = 8) ∨ (v2 = 9) ∨ (v2 < 0 ∨ 9 < v2) by omega) with c8 | c8 | c8 | c8 | c8 | c8 | c8 | c8 | c8 | c8 | c8
        · replace k := k.1 c8
          refine R_swj (v := 0) dd_OneSided_door_21 c8 (by decide) rfl rfl ?_
          refine R_ld (v := .inr (.inr (q + 7 + v1))) dd_OneSided_door_76 rfl rfl rfl rfl ?_
          refine R_gf (v := .inl (rd h (q + 7 + v1) 1)) dd_OneSided_door_77 fd_11_123 (io_d hq (by omega)) (congrArg (fun z : Int => (Sum.inl z : LV)) (rfl)) rfl ?_
          exact R_iret dd_OneSided_door_80 rfl k
        · replace k := k.2.1 c8
          refine R_swj (v := 1) dd_OneSided_door_21 c8 (by decide) rfl rfl ?_
          refine R_ld (v := .inr (.inr (q + 7 + v1))) dd_OneSided_door_81 rfl rfl rfl rfl ?_
          refine R_gf (v := .inl (rd h (q + 7 + v1) 2)) dd_OneSided_door_82 fd_11_128 (io_d hq (by omega)) (congrArg (fun z : Int => (Sum.inl z : LV)) (rfl)) rfl ?_
          exact R_iret dd_OneSided_door_85 rfl k
        · replace k := k.2.2.1 c8
          refine R_swj (v := 2) dd_OneSided_door_21 c8 (by decide) rfl rfl ?_
          refine R_ld (v := .inr (.inr (q + 7 + v1))) dd_OneSided_door_86 rfl rfl rfl rfl ?_
          refine R_gf (v := .inl (rd h (q + 7 + v1) 3)) dd_OneSided_door_87 fd_11_131 (io_d hq (by omega)) (congrArg (fun z : Int => (Sum.inl z : LV)) (rfl)) rfl ?_
          exact R_iret dd_OneSided_door_90 rfl k
        · replace k := k.2.2.2.1 c8
          refine R_swj (v := 3) dd_OneSided_door_21 c8 (by decide) rfl rfl ?_
          refine R_ld (v := .inr (.inr (q + 7 + v1))) dd_OneSided_door_91 rfl rfl rfl rfl ?_
          refine R_gf (v := .inl (rd h (q + 7 + v1) 4)) dd_OneSided_door_92 fd_11_134 (io_d hq (by omega)) (congrArg (fun z : Int => (Sum.inl z : LV)) (rfl)) rfl ?_
          exact R_iret dd_OneSided_door_95 rfl k
        · replace k := k.2.2.2.2.1 c8
          refine R_swj (v := 4) dd_OneSided_door_21 c8 (by decide) rfl rfl ?_
          refine R_ld (v := .inr (.inr (q + 7 + v1))) dd_OneSided_door_96 rfl rfl rfl rfl ?_
          refine R_gf (v := .inl (rd h (q + 7 + v1) 5)) dd_OneSided_door_97 fd_11_137 (io_d hq (by omega)) (congrArg (fun z : Int => (Sum.inl z : LV)) (rfl)) rfl ?_
          exact R_iret dd_OneSided_door_100 rfl k
        · replace k := k.2.2.2.2.2.1 c8
          refine R_swj (v := 5) dd_OneSided_door_21 c8 (by decide) rfl rfl ?_
          refine R_ld (v := .inr (.inr (q + 7 + v1))) dd_OneSided_door_101 rfl rfl rfl rfl ?_
          refine R_gf (v := .inl (rd h (q + 7 + v1) 6)) dd_OneSided_door_102 fd_11_140 (io_d hq (by omega)) (congrArg (fun z : Int => (Sum.inl z : LV)) (rfl)) rfl ?_
          exact R_iret dd_OneSided_door_105 rfl k
        · replace k := k.2.2.2.2.2.2.1 c8
          refine R_swj (v := 6) dd_OneSided_door_21 c8 (by decide) rfl rfl ?_
          refine R_ld (v := .inr (.inr (q + 7 + v1))) dd_OneSided_door_106 rfl rfl rfl rfl ?_
          refine R_gf (v := .inl (rd h (q + 7 + v1) 7)) dd_OneSided_door_107 fd_11_143 (io_d hq (by omega)) (congrArg (fun z : Int => (Sum.inl z : LV)) (rfl)) rfl ?_
          exact R_iret dd_OneSided_door_110 rfl k
        · replace k := k.2.2.2.2.2.2.2.1 c8
          refine R_swj (v := 7) dd_OneSided_door_21 c8 (by decide) rfl rfl ?_
          refine R_ld (v := .inr (.inr (q + 7 + v1))) dd_OneSided_door_111 rfl rfl rfl rfl ?_
          refine R_gf (v := .inl (rd h (q + 7 + v1) 8)) dd_OneSided_door_112 fd_11_146 (io_d hq (by omega)) (congrArg (fun z : Int => (Sum.inl z : LV)) (rfl)) rfl ?_
          exact R_iret dd_OneSided_door_115 rfl k
        · replace k := k.2.2.2.2.2.2.2.2.1 c8
          refine R_swj (v := 8) dd_OneSided_door_21 c8 (by decide) rfl rfl ?_
          refine R_ld (v := .inr (.inr 1)) dd_OneSided_door_116 rfl rfl rfl rfl ?_
          refine R_gf (v := .inr (.inr 59)) dd_OneSided_door_117 fd_11_29 io_1 (congrArg (fun z : Int => (Sum.inr (Sum.inr z) : LV)) (rf_1_3 hF)) rfl ?_
          refine R_gf (v := .inr (.inr 60)) dd_OneSided_door_120 fd_11_149 io_59 (congrArg (fun z : Int => (Sum.inr (Sum.inr z) : LV)) (rf_59_0 hF)) rfl ?_
          refine R_gf (v := .inl (rd h 60 1)) dd_OneSided_door_123 fd_11_153 io_60 (congrArg (fun z : Int => (Sum.inl z : LV)) (rfl)) rfl ?_
          refine R_ld (v := .inl v1) dd_OneSided_door_126 rfl rfl rfl rfl ?_
          refine R_A dd_OneSided_door_127 rfl rfl rfl rfl ?_
          refine R_ic dd_OneSided_door_128 (by decide) rfl ?_
          refine R_A dd_OneSided_door_129 rfl rfl rfl rfl ?_
          exact R_iret dd_OneSided_door_130 rfl k
        · replace k := k.2.2.2.2.2.2.2.2.2.1 c8
          refine R_swj (v := 9) dd_OneSided_door_21 c8 (by decide) rfl rfl ?_
          refine R_ld (v := .inr (.inr 1)) dd_OneSided_door_131 rfl rfl rfl rfl ?_
          refine R_gf (v := .inr (.inr 59)) dd_OneSided_door_132 fd_11_29 io_1 (congrArg (fun z : Int => (Sum.inr (Sum.inr z) : LV)) (rf_1_3 hF)) rfl ?_
          refine R_gf (v := .inr (.inr 60)) dd_OneSided_door_135 fd_11_149 io_59 (congrArg (fun z : Int => (Sum.inr (Sum.inr z) : LV)) (rf_59_0 hF)) rfl ?_
          refine R_gf (v := .inr (.inr 62)) dd_OneSided_door_138 fd_11_156 io_60 (congrArg (fun z : Int => (Sum.inr (Sum.inr z) : LV)) (rf_60_5 hF)) rfl ?_
          refine R_ld (v := .inl v1) dd_OneSided_door_141 rfl rfl rfl rfl ?_
          obtain ⟨s2, k⟩ := k
          refine R_iald (v := (rd h 62 v1)) (n := 14) dd_OneSided_door_142 ia_62 la_62 s2 (rfl) rfl ?_
          exact R_iret dd_OneSided_door_143 rfl k
        · replace k := k.2.2.2.2.2.2.2.2.2.2 c8
          refine R_swd dd_OneSided_door_21 c8 rfl ?_
          refine R_ic dd_OneSided_door_144 (by decide) rfl ?_
          exact R_iret dd_OneSided_door_145 rfl k
      · exact absurd c7 (by omega)
theorem B_OneSided_person_0 {xs : Nat → Int} {xl e : Nat} {h : LH} {Q : Option LV → LH → Prop} {v1 v2 : Int} {q : Int} (hq : q = 5 ∨ q = 32) (hQ : rd h 1 ((1 : Nat) : Int) = q) (hF : RF h) (hP : PT h) (he : 1 ≤ e)
    (k : (v1 < 0 →
        Q (some (.inl (-1))) h) ∧
      (0 ≤ v1 →
        ((rd h q 4) ≤ v1 →
          Q (some (.inl (-1))) h) ∧
        (v1 < (rd h q 4) →
          (0 ≤ v1 ∧ v1 < 6) ∧
          (v2 = 0 →
            Q (some (.inl (rd h (q + 21 + v1) 1))) h) ∧
          (v2 = 1 →
            Q (some (.inl (rd h (q + 21 + v1) 2))) h) ∧
          (v2 = 2 →
            Q (some (.inl (rd h (q + 21 + v1) 3))) h) ∧
          (v2 = 3 →
            Q (some (.inl (rd h (q + 21 + v1) 4))) h) ∧
          (v2 = 4 →
            (0 ≤ v1 ∧ v1 < 6) ∧
            Q (some (.inl (rd h 61 v1))) h) ∧
          (v2 = 5 →
            Q (some (.inl (zand (zshr (rd h 60 3) v1) 1))) h) ∧
          (v2 = 6 →
            Q (some (.inl (zand (zshr (rd h 60 2) v1) 1))) h) ∧
          (v2 < 0 ∨ 6 < v2 →
            Q (some (.inl (-1))) h)))) :
    Rn xs xl e mm_OneSided_person 0 [some (.inr (.inr 1)), some (.inl v1), some (.inl v2), none] [] h Q := by
  refine R_ld (v := .inr (.inr 1)) dd_OneSided_person_0 rfl rfl rfl rfl ?_
  refine R_ld (v := .inl v1) dd_OneSided_person_1 rfl rfl rfl rfl ?_
  refine R_call (as := [.inr (.inr 1), .inl v1]) (rest := []) (M' := mm_OneSided_isPerson) (ls0 := [some (.inr (.inr 1)), some (.inl v1)]) dd_OneSided_person_2 rfl rfl (cw_v cw_11_160 io_1 rfl rfl (Nat.le_of_ble_eq_true rfl) (Nat.le_of_ble_eq_true rfl)) mt_OneSided_isPerson rfl (c := e - 1) (by omega) rfl ?_
  refine R_ld (v := .inl v1) dd_OneSided_isPerson_0 rfl rfl rfl rfl ?_
  refine R_if dd_OneSided_isPerson_1 rfl rfl (fun (c3 : v1 < 0) => ?_) (fun (c3 : 0 ≤ v1) => ?_)
  · replace k := k.1 c3
    refine R_ic dd_OneSided_isPerson_19 (by decide) rfl ?_
    refine R_zret dd_OneSided_isPerson_20 rfl (by decide) ?_
    change Rn xs xl e mm_OneSided_person 5 [some (.inr (.inr 1)), some (.inl v1), some (.inl v2), none] [.inl 0] h _
    refine R_if dd_OneSided_person_5 rfl rfl (fun (c4 : 0 ≠ 0) => ?_) (fun (c4 : 0 = 0) => ?_)
    · exact absurd c4 (by omega)
    · skip
      refine R_ic dd_OneSided_person_8 (by decide) rfl ?_
      exact R_iret dd_OneSided_person_9 rfl k
  · replace k := k.2 c3
    refine R_ld (v := .inl v1) dd_OneSided_isPerson_4 rfl rfl rfl rfl ?_
    refine R_ld (v := .inr (.inr 1)) dd_OneSided_isPerson_5 rfl rfl rfl rfl ?_
    refine R_gf (v := .inr (.inr q)) dd_OneSided_isPerson_6 fd_11_19 io_1 (congrArg (fun z : Int => (Sum.inr (Sum.inr z) : LV)) hQ) rfl ?_
    refine R_gf (v := .inl (rd h q 4)) dd_OneSided_isPerson_9 fd_11_254 (io_q hq) (congrArg (fun z : Int => (Sum.inl z : LV)) (rfl)) rfl ?_
    refine R_icmp dd_OneSided_isPerson_12 rfl rfl (fun (c5 : (rd h q 4) ≤ v1) => ?_) (fun (c5 : v1 < (rd h q 4)) => ?_)
    · replace k := k.1 c5
      refine R_ic dd_OneSided_isPerson_19 (by decide) rfl ?_
      refine R_zret dd_OneSided_isPerson_20 rfl (by decide) ?_
      change Rn xs xl e mm_OneSided_person 5 [some (.inr (.inr 1)), some (.inl v1), some (.inl v2), none] [.inl 0] h _
      refine R_if dd_OneSided_person_5 rfl rfl (fun (c6 : 0 ≠ 0) => ?_) (fun (c6 : 0 = 0) => ?_)
      · exact absurd c6 (by omega)
      · skip
        refine R_ic dd_OneSided_person_8 (by decide) rfl ?_
        exact R_iret dd_OneSided_person_9 rfl k
    · replace k := k.2 c5
      refine R_ic dd_OneSided_isPerson_15 (by decide) rfl ?_
      refine R_goto dd_OneSided_isPerson_16 rfl ?_
      refine R_zret dd_OneSided_isPerson_20 rfl (by decide) ?_
      change Rn xs xl e mm_OneSided_person 5 [some (.inr (.inr 1)), some (.inl v1), some (.inl v2), none] [.inl 1] h _
      refine R_if dd_OneSided_person_5 rfl rfl (fun (c7 : 1 ≠ 0) => ?_) (fun (c7 : 1 = 0) => ?_)
      · skip
        refine R_ld (v := .inr (.inr 1)) dd_OneSided_person_10 rfl rfl rfl rfl ?_
        refine R_gf (v := .inr (.inr q)) dd_OneSided_person_11 fd_11_19 io_1 (congrArg (fun z : Int => (Sum.inr (Sum.inr z) : LV)) hQ) rfl ?_
        refine R_gf (v := .inr (.inr (q + 2))) dd_OneSided_person_14 fd_11_163 (io_q hq) (congrArg (fun z : Int => (Sum.inr (Sum.inr z) : LV)) (rq_ppl hF hq)) rfl ?_
        refine R_ld (v := .inl v1) dd_OneSided_person_17 rfl rfl rfl rfl ?_
        obtain ⟨s1, k⟩ := k
        refine R_aald (v := (q + 21 + v1)) (n := 6) dd_OneSided_person_18 (ia_pq hq) (la_pq hq) s1 (rq_p hP hq s1) rfl ?_
        refine R_st (ls' := [some (.inr (.inr 1)), some (.inl v1), some (.inl v2), some (.inr (.inr (q + 21 + v1)))]) dd_OneSided_person_19 rfl rfl rfl (Nat.le_of_ble_eq_true rfl) rfl rfl ?_
        refine R_ld (v := .inl v2) dd_OneSided_person_20 rfl rfl rfl rfl ?_
        rcases (show (v2 = 0) ∨ (v2 = 1) ∨ (v2 = 2) ∨ (v2 = 3) ∨ (v2 = 4) ∨ (v2 = 5) ∨ (v2 = 6) ∨ (v2 < 0 ∨ 6 < v2) by omega) with c8 | c8 | c8 | c8 | c8 | c8 | c8 | c8
        · replace k := k.1 c8
          refine R_swj (v := 0) dd_OneSided_person_21 c8 (by decide) rfl rfl ?_
          refine R_ld (v := .inr (.inr (q + 21 + v1))) dd_OneSided_person_64 rfl rfl rfl rfl ?_
          refine R_gf (v := .inl (rd h (q + 21 + v1) 1)) dd_OneSided_person_65 fd_11_167 (io_p hq (by omega)) (congrArg (fun z : Int => (Sum.inl z : LV)) (rfl)) rfl ?_
          exact R_iret dd_OneSided_person_68 rfl k
        · replace k := k.2.1 c8
          refine R_swj (v := 1) dd_OneSided_person_21 c8 (by decide) rfl rfl ?_
          refine R_ld (v := .inr (.inr (q + 21 + v1))) dd_OneSided_person_69 rfl rfl rfl rfl ?_
          refine R_gf (v := .inl (rd h (q + 21 + v1) 2)) dd_OneSided_person_70 fd_11_172 (io_p hq (by omega)) (congrArg (fun z : Int => (Sum.inl z : LV)) (rfl)) rfl ?_
          exact R_iret dd_OneSided_person_73 rfl k
        · replace k := k.2.2.1 c8
          refine R_swj (v := 2) dd_OneSided_person_21 c8 (by decide) rfl rfl ?_
          refine R_ld (v := .inr (.inr (q + 21 + v1))) dd_OneSided_person_74 rfl rfl rfl rfl ?_
          refine R_gf (v := .inl (rd h (q + 21 + v1) 3)) dd_OneSided_person_75 fd_11_175 (io_p hq (by omega)) (congrArg (fun z : Int => (Sum.inl z : LV)) (rfl)) rfl ?_
          exact R_iret dd_OneSided_person_78 rfl k
        · replace k := k.2.2.2.1 c8
          refine R_swj (v := 3) dd_OneSided_person_21 c8 (by decide) rfl rfl ?_
          refine R_ld (v := .inr (.inr (q + 21 + v1))) dd_OneSided_person_79 rfl rfl rfl rfl ?_
          refine R_gf (v := .inl (rd h (q + 21 + v1) 4)) dd_OneSided_person_80 fd_11_178 (io_p hq (by omega)) (congrArg (fun z : Int => (Sum.inl z : LV)) (rfl)) rfl ?_
          exact R_iret dd_OneSided_person_83 rfl k
        · replace k := k.2.2.2.2.1 c8
          refine R_swj (v := 4) dd_OneSided_person_21 c8 (by decide) rfl rfl ?_
          refine R_ld (v := .inr (.inr 1)) dd_OneSided_person_84 rfl rfl rfl rfl ?_
          refine R_gf (v := .inr (.inr 59)) dd_OneSided_person_85 fd_11_29 io_1 (congrArg (fun z : Int => (Sum.inr (Sum.inr z) : LV)) (rf_1_3 hF)) rfl ?_
          refine R_gf (v := .inr (.inr 60)) dd_OneSided_person_88 fd_11_149 io_59 (congrArg (fun z : Int => (Sum.inr (Sum.inr z) : LV)) (rf_59_0 hF)) rfl ?_
          refine R_gf (v := .inr (.inr 61)) dd_OneSided_person_91 fd_11_181 io_60 (congrArg (fun z : Int => (Sum.inr (Sum.inr z) : LV)) (rf_60_4 hF)) rfl ?_
          refine R_ld (v := .inl v1) dd_OneSided_person_94 rfl rfl rfl rfl ?_
          obtain ⟨s2, k⟩ := k
          refine R_iald (v := (rd h 61 v1)) (n := 6) dd_OneSided_person_95 ia_61 la_61 s2 (rfl) rfl ?_
          exact R_iret dd_OneSided_person_96 rfl k
        · replace k := k.2.2.2.2.2.1 c8
          refine R_swj (v := 5) dd_OneSided_person_21 c8 (by decide) rfl rfl ?_
          refine R_ld (v := .inr (.inr 1)) dd_OneSided_person_97 rfl rfl rfl rfl ?_
          refine R_gf (v := .inr (.inr 59)) dd_OneSided_person_98 fd_11_29 io_1 (congrArg (fun z : Int => (Sum.inr (Sum.inr z) : LV)) (rf_1_3 hF)) rfl ?_
          refine R_gf (v := .inr (.inr 60)) dd_OneSided_person_101 fd_11_149 io_59 (congrArg (fun z : Int => (Sum.inr (Sum.inr z) : LV)) (rf_59_0 hF)) rfl ?_
          refine R_gf (v := .inl (rd h 60 3)) dd_OneSided_person_104 fd_11_184 io_60 (congrArg (fun z : Int => (Sum.inl z : LV)) (rfl)) rfl ?_
          refine R_ld (v := .inl v1) dd_OneSided_person_107 rfl rfl rfl rfl ?_
          refine R_A dd_OneSided_person_108 rfl rfl rfl rfl ?_
          refine R_ic dd_OneSided_person_109 (by decide) rfl ?_
          refine R_A dd_OneSided_person_110 rfl rfl rfl rfl ?_
          exact R_iret dd_OneSided_person_111 rfl k
        · replace k := k.2.2.2.2.2.2.1 c8
          refine R_swj (v := 6) dd_OneSided_person_21 c8 (by decide) rfl rfl ?_
          refine R_ld (v := .inr (.inr 1)) dd_OneSided_person_112 rfl rfl rfl rfl ?_
          refine R_gf (v := .inr (.inr 59)) dd_OneSided_person_113 fd_11_29 io_1 (congrArg (fun z : Int => (Sum.inr (Sum.inr z) : LV)) (rf_1_3 hF)) rfl ?_
          refine R_gf (v := .inr (.inr 60)) dd_OneSided_person_116 fd_11_149 io_59 (congrArg (fun z : Int => (Sum.inr (Sum.inr z) : LV)) (rf_59_0 hF)) rfl ?_
          refine R_gf (v := .inl (rd h 60 2)) dd_OneSided_person_119 fd_11_187 io_60 (congrArg (fun z : Int => (Sum.inl z : LV)) (rfl)) rfl ?_
          refine R_ld (v := .inl v1) dd_OneSided_person_122 rfl rfl rfl rfl ?_
          refine R_A dd_OneSided_person_123 rfl rfl rfl rfl ?_
          refine R_ic dd_OneSided_person_124 (by decide) rfl ?_
          refine R_A dd_OneSided_person_125 rfl rfl rfl rfl ?_
          exact R_iret dd_OneSided_person_126 rfl k
        · replace k := k.2.2.2.2.2.2.2 c8
          refine R_swd dd_OneSided_person_21 c8 rfl ?_
          refine R_ic dd_OneSided_person_127 (by decide) rfl ?_
          exact R_iret dd_OneSided_person_128 rfl k
      · exact absurd c7 (by omega)
theorem B_OneSided_leads_0 {xs : Nat → Int} {xl e : Nat} {h : LH} {Q : Option LV → LH → Prop} {v1 v2 v3 v4 : Int} {q : Int} (hq : q = 5 ∨ q = 32) (hQ : rd h 1 ((1 : Nat) : Int) = q) (hF : RF h) (he : 1 ≤ e)
    (k : (v1 < 0 →
        Q (some (.inl (-1))) h) ∧
      (0 ≤ v1 →
        ((rd h q 2) ≤ v1 →
          Q (some (.inl (-1))) h) ∧
        (v1 < (rd h q 2) →
          (v3 < 0 →
            Q (some (.inl (-1))) h) ∧
          (0 ≤ v3 →
            ((rd h q 0) ≤ v3 →
              Q (some (.inl (-1))) h) ∧
            (v3 < (rd h q 0) →
              (v2 < 0 →
                Q (some (.inl (-1))) h) ∧
              (0 ≤ v2 →
                (4 ≤ v2 →
                  Q (some (.inl (-1))) h) ∧
                (v2 < 4 →
                  (v4 < 0 →
                    Q (some (.inl (-1))) h) ∧
                  (0 ≤ v4 →
                    (24 ≤ v4 →
                      Q (some (.inl (-1))) h) ∧
                    (v4 < 24 →
                      (∃ c, c < e ∧ Rn xs xl c mm_Quarter_into 0 [some (.inr (.inr q)), some (.inl v1), some (.inl v2), some (.inl v3), some (.inl v4), some (.inl (rd h 60 1)), none] [] h (fun r h' => Rn xs xl e mm_OneSided_leads 50 [some (.inr (.inr 1)), some (.inl v1), some (.inl v2), some (.inl v3), some (.inl v4)] (r.toList ++ []) h' Q))))))))))) :
    Rn xs xl e mm_OneSided_leads 0 [some (.inr (.inr 1)), some (.inl v1), some (.inl v2), some (.inl v3), some (.inl v4)] [] h Q := by
  refine R_ld (v := .inr (.inr 1)) dd_OneSided_leads_0 rfl rfl rfl rfl ?_
  refine R_ld (v := .inl v1) dd_OneSided_leads_1 rfl rfl rfl rfl ?_
  refine R_call (as := [.inr (.inr 1), .inl v1]) (rest := []) (M' := mm_OneSided_isDoor) (ls0 := [some (.inr (.inr 1)), some (.inl v1)]) dd_OneSided_leads_2 rfl rfl (cw_v cw_11_115 io_1 rfl rfl (Nat.le_of_ble_eq_true rfl) (Nat.le_of_ble_eq_true rfl)) mt_OneSided_isDoor rfl (c := e - 1) (by omega) rfl ?_
  refine R_ld (v := .inl v1) dd_OneSided_isDoor_0 rfl rfl rfl rfl ?_
  refine R_if dd_OneSided_isDoor_1 rfl rfl (fun (c2 : v1 < 0) => ?_) (fun (c2 : 0 ≤ v1) => ?_)
  · replace k := k.1 c2
    refine R_ic dd_OneSided_isDoor_19 (by decide) rfl ?_
    refine R_zret dd_OneSided_isDoor_20 rfl (by decide) ?_
    change Rn xs xl e mm_OneSided_leads 5 [some (.inr (.inr 1)), some (.inl v1), some (.inl v2), some (.inl v3), some (.inl v4)] [.inl 0] h _
    refine R_if dd_OneSided_leads_5 rfl rfl (fun (c3 : 0 = 0) => ?_) (fun (c3 : 0 ≠ 0) => ?_)
    · skip
      refine R_ic dd_OneSided_leads_26 (by decide) rfl ?_
      exact R_iret dd_OneSided_leads_27 rfl k
    · exact absurd c3 (by omega)
  · replace k := k.2 c2
    refine R_ld (v := .inl v1) dd_OneSided_isDoor_4 rfl rfl rfl rfl ?_
    refine R_ld (v := .inr (.inr 1)) dd_OneSided_isDoor_5 rfl rfl rfl rfl ?_
    refine R_gf (v := .inr (.inr q)) dd_OneSided_isDoor_6 fd_11_19 io_1 (congrArg (fun z : Int => (Sum.inr (Sum.inr z) : LV)) hQ) rfl ?_
    refine R_gf (v := .inl (rd h q 2)) dd_OneSided_isDoor_9 fd_11_345 (io_q hq) (congrArg (fun z : Int => (Sum.inl z : LV)) (rfl)) rfl ?_
    refine R_icmp dd_OneSided_isDoor_12 rfl rfl (fun (c4 : (rd h q 2) ≤ v1) => ?_) (fun (c4 : v1 < (rd h q 2)) => ?_)
    · replace k := k.1 c4
      refine R_ic dd_OneSided_isDoor_19 (by decide) rfl ?_
      refine R_zret dd_OneSided_isDoor_20 rfl (by decide) ?_
      change Rn xs xl e mm_OneSided_leads 5 [some (.inr (.inr 1)), some (.inl v1), some (.inl v2), some (.inl v3), some (.inl v4)] [.inl 0] h _
      refine R_if dd_OneSided_leads_5 rfl rfl (fun (c5 : 0 = 0) => ?_) (fun (c5 : 0 ≠ 0) => ?_)
      · skip
        refine R_ic dd_OneSided_leads_26 (by decide) rfl ?_
        exact R_iret dd_OneSided_leads_27 rfl k
      · exact absurd c5 (by omega)
    · replace k := k.2 c4
      refine R_ic dd_OneSided_isDoor_15 (by decide) rfl ?_
      refine R_goto dd_OneSided_isDoor_16 rfl ?_
      refine R_zret dd_OneSided_isDoor_20 rfl (by decide) ?_
      change Rn xs xl e mm_OneSided_leads 5 [some (.inr (.inr 1)), some (.inl v1), some (.inl v2), some (.inl v3), some (.inl v4)] [.inl 1] h _
      refine R_if dd_OneSided_leads_5 rfl rfl (fun (c6 : 1 = 0) => ?_) (fun (c6 : 1 ≠ 0) => ?_)
      · exact absurd c6 (by omega)
      · skip
        refine R_ld (v := .inr (.inr 1)) dd_OneSided_leads_8 rfl rfl rfl rfl ?_
        refine R_ld (v := .inl v3) dd_OneSided_leads_9 rfl rfl rfl rfl ?_
        refine R_call (as := [.inr (.inr 1), .inl v3]) (rest := []) (M' := mm_OneSided_isRoom) (ls0 := [some (.inr (.inr 1)), some (.inl v3)]) dd_OneSided_leads_10 rfl rfl (cw_v cw_11_190 io_1 rfl rfl (Nat.le_of_ble_eq_true rfl) (Nat.le_of_ble_eq_true rfl)) mt_OneSided_isRoom rfl (c := e - 1) (by omega) rfl ?_
        refine R_ld (v := .inl v3) dd_OneSided_isRoom_0 rfl rfl rfl rfl ?_
        refine R_if dd_OneSided_isRoom_1 rfl rfl (fun (c7 : v3 < 0) => ?_) (fun (c7 : 0 ≤ v3) => ?_)
        · replace k := k.1 c7
          refine R_ic dd_OneSided_isRoom_19 (by decide) rfl ?_
          refine R_zret dd_OneSided_isRoom_20 rfl (by decide) ?_
          change Rn xs xl e mm_OneSided_leads 13 [some (.inr (.inr 1)), some (.inl v1), some (.inl v2), some (.inl v3), some (.inl v4)] [.inl 0] h _
          refine R_if dd_OneSided_leads_13 rfl rfl (fun (c8 : 0 = 0) => ?_) (fun (c8 : 0 ≠ 0) => ?_)
          · skip
            refine R_ic dd_OneSided_leads_26 (by decide) rfl ?_
            exact R_iret dd_OneSided_leads_27 rfl k
          · exact absurd c8 (by omega)
        · replace k := k.2 c7
          refine R_ld (v := .inl v3) dd_OneSided_isRoom_4 rfl rfl rfl rfl ?_
          refine R_ld (v := .inr (.inr 1)) dd_OneSided_isRoom_5 rfl rfl rfl rfl ?_
          refine R_gf (v := .inr (.inr q)) dd_OneSided_isRoom_6 fd_11_19 io_1 (congrArg (fun z : Int => (Sum.inr (Sum.inr z) : LV)) hQ) rfl ?_
          refine R_gf (v := .inl (rd h q 0)) dd_OneSided_isRoom_9 fd_11_267 (io_q hq) (congrArg (fun z : Int => (Sum.inl z : LV)) (rfl)) rfl ?_
          refine R_icmp dd_OneSided_isRoom_12 rfl rfl (fun (c9 : (rd h q 0) ≤ v3) => ?_) (fun (c9 : v3 < (rd h q 0)) => ?_)
          · replace k := k.1 c9
            refine R_ic dd_OneSided_isRoom_19 (by decide) rfl ?_
            refine R_zret dd_OneSided_isRoom_20 rfl (by decide) ?_
            change Rn xs xl e mm_OneSided_leads 13 [some (.inr (.inr 1)), some (.inl v1), some (.inl v2), some (.inl v3), some (.inl v4)] [.inl 0] h _
            refine R_if dd_OneSided_leads_13 rfl rfl (fun (c10 : 0 = 0) => ?_) (fun (c10 : 0 ≠ 0) => ?_)
            · skip
              refine R_ic dd_OneSided_leads_26 (by decide) rfl ?_
              exact R_iret dd_OneSided_leads_27 rfl k
            · exact absurd c10 (by omega)
          · replace k := k.2 c9
            refine R_ic dd_OneSided_isRoom_15 (by decide) rfl ?_
            refine R_goto dd_OneSided_isRoom_16 rfl ?_
            refine R_zret dd_OneSided_isRoom_20 rfl (by decide) ?_
            change Rn xs xl e mm_OneSided_leads 13 [some (.inr (.inr 1)), some (.inl v1), some (.inl v2), some (.inl v3), some (.inl v4)] [.inl 1] h _
            refine R_if dd_OneSided_leads_13 rfl rfl (fun (c11 : 1 = 0) => ?_) (fun (c11 : 1 ≠ 0) => ?_)
            · exact absurd c11 (by omega)
            · skip
              refine R_ld (v := .inr (.inr 1)) dd_OneSided_leads_16 rfl rfl rfl rfl ?_
              refine R_ld (v := .inl v2) dd_OneSided_leads_17 rfl rfl rfl rfl ?_
              refine R_ld (v := .inl v4) dd_OneSided_leads_18 rfl rfl rfl rfl ?_
              refine R_call (as := [.inr (.inr 1), .inl v2, .inl v4]) (rest := []) (M' := mm_OneSided_isSortInHour) (ls0 := [some (.inr (.inr 1)), some (.inl v2), some (.inl v4)]) dd_OneSided_leads_20 rfl rfl (cw_v cw_11_193 io_1 rfl rfl (Nat.le_of_ble_eq_true rfl) (Nat.le_of_ble_eq_true rfl)) mt_OneSided_isSortInHour rfl (c := e - 1) (by omega) rfl ?_
              refine R_ld (v := .inl v2) dd_OneSided_isSortInHour_0 rfl rfl rfl rfl ?_
              refine R_if dd_OneSided_isSortInHour_1 rfl rfl (fun (c12 : v2 < 0) => ?_) (fun (c12 : 0 ≤ v2) => ?_)
              · replace k := k.1 c12
                refine R_ic dd_OneSided_isSortInHour_23 (by decide) rfl ?_
                refine R_zret dd_OneSided_isSortInHour_24 rfl (by decide) ?_
                change Rn xs xl e mm_OneSided_leads 23 [some (.inr (.inr 1)), some (.inl v1), some (.inl v2), some (.inl v3), some (.inl v4)] [.inl 0] h _
                refine R_if dd_OneSided_leads_23 rfl rfl (fun (c13 : 0 ≠ 0) => ?_) (fun (c13 : 0 = 0) => ?_)
                · exact absurd c13 (by omega)
                · skip
                  refine R_ic dd_OneSided_leads_26 (by decide) rfl ?_
                  exact R_iret dd_OneSided_leads_27 rfl k
              · replace k := k.2 c12
                refine R_ld (v := .inl v2) dd_OneSided_isSortInHour_4 rfl rfl rfl rfl ?_
                refine R_ic dd_OneSided_isSortInHour_5 (by decide) rfl ?_
                refine R_icmp dd_OneSided_isSortInHour_6 rfl rfl (fun (c14 : 4 ≤ v2) => ?_) (fun (c14 : v2 < 4) => ?_)
                · replace k := k.1 c14
                  refine R_ic dd_OneSided_isSortInHour_23 (by decide) rfl ?_
                  refine R_zret dd_OneSided_isSortInHour_24 rfl (by decide) ?_
                  change Rn xs xl e mm_OneSided_leads 23 [some (.inr (.inr 1)), some (.inl v1), some (.inl v2), some (.inl v3), some (.inl v4)] [.inl 0] h _
                  refine R_if dd_OneSided_leads_23 rfl rfl (fun (c15 : 0 ≠ 0) => ?_) (fun (c15 : 0 = 0) => ?_)
                  · exact absurd c15 (by omega)
                  · skip
                    refine R_ic dd_OneSided_leads_26 (by decide) rfl ?_
                    exact R_iret dd_OneSided_leads_27 rfl k
                · replace k := k.2 c14
                  refine R_ld (v := .inl v4) dd_OneSided_isSortInHour_9 rfl rfl rfl rfl ?_
                  refine R_if dd_OneSided_isSortInHour_10 rfl rfl (fun (c16 : v4 < 0) => ?_) (fun (c16 : 0 ≤ v4) => ?_)
                  · replace k := k.1 c16
                    refine R_ic dd_OneSided_isSortInHour_23 (by decide) rfl ?_
                    refine R_zret dd_OneSided_isSortInHour_24 rfl (by decide) ?_
                    change Rn xs xl e mm_OneSided_leads 23 [some (.inr (.inr 1)), some (.inl v1), some (.inl v2), some (.inl v3), some (.inl v4)] [.inl 0] h _
                    refine R_if dd_OneSided_leads_23 rfl rfl (fun (c17 : 0 ≠ 0) => ?_) (fun (c17 : 0 = 0) => ?_)
                    · exact absurd c17 (by omega)
                    · skip
                      refine R_ic dd_OneSided_leads_26 (by decide) rfl ?_
                      exact R_iret dd_OneSided_leads_27 rfl k
                  · replace k := k.2 c16
                    refine R_ld (v := .inl v4) dd_OneSided_isSortInHour_13 rfl rfl rfl rfl ?_
                    refine R_bi dd_OneSided_isSortInHour_14 (by decide) rfl ?_
                    refine R_icmp dd_OneSided_isSortInHour_16 rfl rfl (fun (c18 : 24 ≤ v4) => ?_) (fun (c18 : v4 < 24) => ?_)
                    · replace k := k.1 c18
                      refine R_ic dd_OneSided_isSortInHour_23 (by decide) rfl ?_
                      refine R_zret dd_OneSided_isSortInHour_24 rfl (by decide) ?_
                      change Rn xs xl e mm_OneSided_leads 23 [some (.inr (.inr 1)), some (.inl v1), some (.inl v2), some (.inl v3), some (.inl v4)] [.inl 0] h _
                      refine R_if dd_OneSided_leads_23 rfl rfl (fun (c19 : 0 ≠ 0) => ?_) (fun (c19 : 0 = 0) => ?_)
                      · exact absurd c19 (by omega)
                      · skip
                        refine R_ic dd_OneSided_leads_26 (by decide) rfl ?_
                        exact R_iret dd_OneSided_leads_27 rfl k
                    · replace k := k.2 c18
                      refine R_ic dd_OneSided_isSortInHour_19 (by decide) rfl ?_
                      refine R_goto dd_OneSided_isSortInHour_20 rfl ?_
                      refine R_zret dd_OneSided_isSortInHour_24 rfl (by decide) ?_
                      change Rn xs xl e mm_OneSided_leads 23 [some (.inr (.inr 1)), some (.inl v1), some (.inl v2), some (.inl v3), some (.inl v4)] [.inl 1] h _
                      refine R_if dd_OneSided_leads_23 rfl rfl (fun (c20 : 1 ≠ 0) => ?_) (fun (c20 : 1 = 0) => ?_)
                      · skip
                        refine R_ld (v := .inr (.inr 1)) dd_OneSided_leads_28 rfl rfl rfl rfl ?_
                        refine R_gf (v := .inr (.inr q)) dd_OneSided_leads_29 fd_11_19 io_1 (congrArg (fun z : Int => (Sum.inr (Sum.inr z) : LV)) hQ) rfl ?_
                        refine R_ld (v := .inl v1) dd_OneSided_leads_32 rfl rfl rfl rfl ?_
                        refine R_ld (v := .inl v2) dd_OneSided_leads_33 rfl rfl rfl rfl ?_
                        refine R_ld (v := .inl v3) dd_OneSided_leads_34 rfl rfl rfl rfl ?_
                        refine R_ld (v := .inl v4) dd_OneSided_leads_35 rfl rfl rfl rfl ?_
                        refine R_ld (v := .inr (.inr 1)) dd_OneSided_leads_37 rfl rfl rfl rfl ?_
                        refine R_gf (v := .inr (.inr 59)) dd_OneSided_leads_38 fd_11_29 io_1 (congrArg (fun z : Int => (Sum.inr (Sum.inr z) : LV)) (rf_1_3 hF)) rfl ?_
                        refine R_gf (v := .inr (.inr 60)) dd_OneSided_leads_41 fd_11_149 io_59 (congrArg (fun z : Int => (Sum.inr (Sum.inr z) : LV)) (rf_59_0 hF)) rfl ?_
                        refine R_gf (v := .inl (rd h 60 1)) dd_OneSided_leads_44 fd_11_153 io_60 (congrArg (fun z : Int => (Sum.inl z : LV)) (rfl)) rfl ?_
                        obtain ⟨c, hc, k⟩ := k
                        exact R_call (as := [.inr (.inr q), .inl v1, .inl v2, .inl v3, .inl v4, .inl (rd h 60 1)]) (rest := []) (M' := mm_Quarter_into) (ls0 := [some (.inr (.inr q)), some (.inl v1), some (.inl v2), some (.inl v3), some (.inl v4), some (.inl (rd h 60 1)), none]) dd_OneSided_leads_47 rfl rfl (cw_v cw_11_197 (io_q hq) rfl rfl (Nat.le_of_ble_eq_true rfl) (Nat.le_of_ble_eq_true rfl)) mt_Quarter_into rfl hc rfl k
                      · exact absurd c20 (by omega)
theorem B_OneSided_leads_50 {xs : Nat → Int} {xl e : Nat} {h : LH} {Q : Option LV → LH → Prop} {v1 v2 v3 v4 w0 : Int} (hF : RF h)
    (k : Q (some (.inl w0)) h) :
    Rn xs xl e mm_OneSided_leads 50 [some (.inr (.inr 1)), some (.inl v1), some (.inl v2), some (.inl v3), some (.inl v4)] [.inl w0] h Q := by
  exact R_iret dd_OneSided_leads_50 rfl k
theorem B_door_0 {xs : Nat → Int} {xl e : Nat} {h : LH} {Q : Option LV → LH → Prop} {v1 v2 : Int} (hF : RF h) (he : 2 ≤ e)
    (k : (v1 < 0 →
        Q (some (.inl (-1))) (wr h 182 0 0)) ∧
      (0 ≤ v1 →
        ((rd h 188 1) ≤ v1 →
          Q (some (.inl (-1))) (wr h 182 0 0)) ∧
        (v1 < (rd h 188 1) →
          (v2 < 0 →
            Q (some (.inl (-1))) (wr h 182 0 0)) ∧
          (0 ≤ v2 →
            (9 < v2 →
              Q (some (.inl (-1))) (wr h 182 0 0)) ∧
            (v2 ≤ 9 →
              (8 ≤ v2 →
                (v2 ≠ 8 →
                  (-2147483648 ≤ v1 + 20 ∧ v1 + 20 ≤ 2147483647) ∧
                  (0 ≤ v1 + 20 ∧ v1 + 20 < 1610) ∧
                  Q (some (.inl (rd h 198 (v1 + 20)))) (wr h 182 0 0)) ∧
                (v2 = 8 →
                  Q (some (.inl (zand (zshr (rd h 198 1) v1) 1))) (wr h 182 0 0))) ∧
              (v2 < 8 →
                (-2147483648 ≤ 8 * v1 ∧ 8 * v1 ≤ 2147483647) ∧
                (-2147483648 ≤ 8 * v1 + 4 ∧ 8 * v1 + 4 ≤ 2147483647) ∧
                (-2147483648 ≤ 8 * v1 + v2 + 4 ∧ 8 * v1 + v2 + 4 ≤ 2147483647) ∧
                (0 ≤ 8 * v1 + v2 + 4 ∧ 8 * v1 + v2 + 4 < 300) ∧
                Q (some (.inl (rd h 188 (8 * v1 + v2 + 4)))) (wr h 182 0 0))))))) :
    Rn xs xl e mm_door 0 [some (.inr (.inr 182)), some (.inl v1), some (.inl v2)] [] h Q := by
  refine R_ld (v := .inr (.inr 182)) dd_door_0 rfl rfl rfl rfl ?_
  refine R_ic dd_door_1 (by decide) rfl ?_
  refine R_pf (z := 0) dd_door_2 fd_12_1 io_182 fn_12_0 rfl rfl ?_
  refine R_ld (v := .inr (.inr 182)) dd_door_5 rfl rfl rfl rfl ?_
  refine R_ld (v := .inl v1) dd_door_6 rfl rfl rfl rfl ?_
  refine R_call (as := [.inr (.inr 182), .inl v1]) (rest := []) (M' := mm_isDoor) (ls0 := [some (.inr (.inr 182)), some (.inl v1)]) dd_door_7 rfl rfl (cw_v cw_12_364 io_182 rfl rfl (Nat.le_of_ble_eq_true rfl) (Nat.le_of_ble_eq_true rfl)) mt_isDoor rfl (c := e - 1) (by omega) rfl ?_
  refine R_ld (v := .inl v1) dd_isDoor_0 rfl rfl rfl rfl ?_
  refine R_if dd_isDoor_1 rfl rfl (fun (c7 : v1 < 0) => ?_) (fun (c7 : 0 ≤ v1) => ?_)
  · replace k := k.1 c7
    refine R_ic dd_isDoor_16 (by decide) rfl ?_
    refine R_zret dd_isDoor_17 rfl (by decide) ?_
    change Rn xs xl e mm_door 10 [some (.inr (.inr 182)), some (.inl v1), some (.inl v2)] [.inl 0] (wr h 182 0 0) _
    refine R_if dd_door_10 rfl rfl (fun (c8 : 0 = 0) => ?_) (fun (c8 : 0 ≠ 0) => ?_)
    · skip
      refine R_ic dd_door_23 (by decide) rfl ?_
      exact R_iret dd_door_24 rfl k
    · exact absurd c8 (by omega)
  · replace k := k.2 c7
    refine R_ld (v := .inl v1) dd_isDoor_4 rfl rfl rfl rfl ?_
    refine R_ld (v := .inr (.inr 182)) dd_isDoor_5 rfl rfl rfl rfl ?_
    refine R_call (as := [.inr (.inr 182)]) (rest := [.inl v1]) (M' := mm_doors) (ls0 := [some (.inr (.inr 182))]) dd_isDoor_6 rfl rfl (cw_v cw_12_335 io_182 rfl rfl (Nat.le_of_ble_eq_true rfl) (Nat.le_of_ble_eq_true rfl)) mt_doors rfl (c := e - 2) (by omega) rfl ?_
    refine R_ld (v := .inr (.inr 182)) dd_doors_0 rfl rfl rfl rfl ?_
    refine R_gf (v := .inr (.inr 188)) dd_doors_1 fd_12_95 io_182 (congrArg (fun z : Int => (Sum.inr (Sum.inr z) : LV)) ((rdw_nei (by omega)).trans (rf_182_10 hF))) rfl ?_
    refine R_ic dd_doors_4 (by decide) rfl ?_
    refine R_iald (v := (rd h 188 1)) (n := 300) dd_doors_5 ia_188 la_188 (by decide) (rdw_ne (by decide)) rfl ?_
    refine R_iret dd_doors_6 rfl ?_
    change Rn xs xl (e - 1) mm_isDoor 9 [some (.inr (.inr 182)), some (.inl v1)] [.inl (rd h 188 1), .inl v1] (wr h 182 0 0) _
    refine R_icmp dd_isDoor_9 rfl rfl (fun (c9 : (rd h 188 1) ≤ v1) => ?_) (fun (c9 : v1 < (rd h 188 1)) => ?_)
    · replace k := k.1 c9
      refine R_ic dd_isDoor_16 (by decide) rfl ?_
      refine R_zret dd_isDoor_17 rfl (by decide) ?_
      change Rn xs xl e mm_door 10 [some (.inr (.inr 182)), some (.inl v1), some (.inl v2)] [.inl 0] (wr h 182 0 0) _
      refine R_if dd_door_10 rfl rfl (fun (c10 : 0 = 0) => ?_) (fun (c10 : 0 ≠ 0) => ?_)
      · skip
        refine R_ic dd_door_23 (by decide) rfl ?_
        exact R_iret dd_door_24 rfl k
      · exact absurd c10 (by omega)
    · replace k := k.2 c9
      refine R_ic dd_isDoor_12 (by decide) rfl ?_
      refine R_goto dd_isDoor_13 rfl ?_
      refine R_zret dd_isDoor_17 rfl (by decide) ?_
      change Rn xs xl e mm_door 10 [some (.inr (.inr 182)), some (.inl v1), some (.inl v2)] [.inl 1] (wr h 182 0 0) _
      refine R_if dd_door_10 rfl rfl (fun (c11 : 1 = 0) => ?_) (fun (c11 : 1 ≠ 0) => ?_)
      · exact absurd c11 (by omega)
      · skip
        refine R_ld (v := .inl v2) dd_door_13 rfl rfl rfl rfl ?_
        refine R_ic dd_door_14 (by decide) rfl ?_
        refine R_bi dd_door_15 (by decide) rfl ?_
        refine R_call (as := [.inl v2, .inl 0, .inl 9]) (rest := []) (M' := mm_within) (ls0 := [some (.inl v2), some (.inl 0), some (.inl 9)]) dd_door_17 rfl rfl (cw_s cw_12_297 rfl rfl (Nat.le_of_ble_eq_true rfl) (Nat.le_of_ble_eq_true rfl)) mt_within rfl (c := e - 1) (by omega) rfl ?_
        refine R_ld (v := .inl v2) dd_within_0 rfl rfl rfl rfl ?_
        refine R_ld (v := .inl 0) dd_within_1 rfl rfl rfl rfl ?_
        refine R_icmp dd_within_2 rfl rfl (fun (c12 : v2 < 0) => ?_) (fun (c12 : 0 ≤ v2) => ?_)
        · replace k := k.1 c12
          refine R_ic dd_within_14 (by decide) rfl ?_
          refine R_zret dd_within_15 rfl (by decide) ?_
          change Rn xs xl e mm_door 20 [some (.inr (.inr 182)), some (.inl v1), some (.inl v2)] [.inl 0] (wr h 182 0 0) _
          refine R_if dd_door_20 rfl rfl (fun (c13 : 0 ≠ 0) => ?_) (fun (c13 : 0 = 0) => ?_)
          · exact absurd c13 (by omega)
          · skip
            refine R_ic dd_door_23 (by decide) rfl ?_
            exact R_iret dd_door_24 rfl k
        · replace k := k.2 c12
          refine R_ld (v := .inl v2) dd_within_5 rfl rfl rfl rfl ?_
          refine R_ld (v := .inl 9) dd_within_6 rfl rfl rfl rfl ?_
          refine R_icmp dd_within_7 rfl rfl (fun (c14 : 9 < v2) => ?_) (fun (c14 : v2 ≤ 9) => ?_)
          · replace k := k.1 c14
            refine R_ic dd_within_14 (by decide) rfl ?_
            refine R_zret dd_within_15 rfl (by decide) ?_
            change Rn xs xl e mm_door 20 [some (.inr (.inr 182)), some (.inl v1), some (.inl v2)] [.inl 0] (wr h 182 0 0) _
            refine R_if dd_door_20 rfl rfl (fun (c15 : 0 ≠ 0) => ?_) (fun (c15 : 0 = 0) => ?_)
            · exact absurd c15 (by omega)
            · skip
              refine R_ic dd_door_23 (by decide) rfl ?_
              exact R_iret dd_door_24 rfl k
          · replace k := k.2 c14
            refine R_ic dd_within_10 (by decide) rfl ?_
            refine R_goto dd_within_11 rfl ?_
            refine R_zret dd_within_15 rfl (by decide) ?_
            change Rn xs xl e mm_door 20 [some (.inr (.inr 182)), some (.inl v1), some (.inl v2)] [.inl 1] (wr h 182 0 0) _
            refine R_if dd_door_20 rfl rfl (fun (c16 : 1 ≠ 0) => ?_) (fun (c16 : 1 = 0) => ?_)
            · skip
              refine R_ld (v := .inl v2) dd_door_25 rfl rfl rfl rfl ?_
              refine R_bi dd_door_26 (by decide) rfl ?_
              refine R_icmp dd_door_28 rfl rfl (fun (c17 : 8 ≤ v2) => ?_) (fun (c17 : v2 < 8) => ?_)
              · replace k := k.1 c17
                refine R_ld (v := .inl v2) dd_door_40 rfl rfl rfl rfl ?_
                refine R_bi dd_door_41 (by decide) rfl ?_
                refine R_icmp dd_door_43 rfl rfl (fun (c18 : v2 ≠ 8) => ?_) (fun (c18 : v2 = 8) => ?_)
                · replace k := k.1 c18
                  refine R_ld (v := .inr (.inr 182)) dd_door_59 rfl rfl rfl rfl ?_
                  refine R_gf (v := .inr (.inr 198)) dd_door_60 fd_12_125 io_182 (congrArg (fun z : Int => (Sum.inr (Sum.inr z) : LV)) ((rdw_nei (by omega)).trans (rf_182_24 hF))) rfl ?_
                  refine R_bi dd_door_63 (by decide) rfl ?_
                  refine R_ld (v := .inl v1) dd_door_65 rfl rfl rfl rfl ?_
                  obtain ⟨s1, k⟩ := k
                  refine R_iadd (c := v1 + 20) dd_door_66 (by omega) s1 rfl ?_
                  obtain ⟨s2, k⟩ := k
                  refine R_iald (v := (rd h 198 (v1 + 20))) (n := 1610) dd_door_67 ia_198 la_198 s2 (rdw_ne (by decide)) rfl ?_
                  exact R_iret dd_door_68 rfl k
                · replace k := k.2 c18
                  refine R_ld (v := .inr (.inr 182)) dd_door_46 rfl rfl rfl rfl ?_
                  refine R_gf (v := .inr (.inr 198)) dd_door_47 fd_12_125 io_182 (congrArg (fun z : Int => (Sum.inr (Sum.inr z) : LV)) ((rdw_nei (by omega)).trans (rf_182_24 hF))) rfl ?_
                  refine R_ic dd_door_50 (by decide) rfl ?_
                  refine R_iald (v := (rd h 198 1)) (n := 1610) dd_door_51 ia_198 la_198 (by decide) (rdw_ne (by decide)) rfl ?_
                  refine R_ld (v := .inl v1) dd_door_52 rfl rfl rfl rfl ?_
                  refine R_A dd_door_53 rfl rfl rfl rfl ?_
                  refine R_ic dd_door_54 (by decide) rfl ?_
                  refine R_A dd_door_55 rfl rfl rfl rfl ?_
                  refine R_goto dd_door_56 rfl ?_
                  exact R_iret dd_door_68 rfl k
              · replace k := k.2 c17
                refine R_ld (v := .inr (.inr 182)) dd_door_31 rfl rfl rfl rfl ?_
                refine R_ld (v := .inl v1) dd_door_32 rfl rfl rfl rfl ?_
                refine R_ld (v := .inl v2) dd_door_33 rfl rfl rfl rfl ?_
                refine R_call (as := [.inr (.inr 182), .inl v1, .inl v2]) (rest := []) (M' := mm_doorOf) (ls0 := [some (.inr (.inr 182)), some (.inl v1), some (.inl v2)]) dd_door_34 rfl rfl (cw_v cw_12_347 io_182 rfl rfl (Nat.le_of_ble_eq_true rfl) (Nat.le_of_ble_eq_true rfl)) mt_doorOf rfl (c := e - 1) (by omega) rfl ?_
                refine R_ld (v := .inr (.inr 182)) dd_doorOf_0 rfl rfl rfl rfl ?_
                refine R_gf (v := .inr (.inr 188)) dd_doorOf_1 fd_12_95 io_182 (congrArg (fun z : Int => (Sum.inr (Sum.inr z) : LV)) ((rdw_nei (by omega)).trans (rf_182_10 hF))) rfl ?_
                refine R_ic dd_doorOf_4 (by decide) rfl ?_
                refine R_bi dd_doorOf_5 (by decide) rfl ?_
                refine R_ld (v := .inl v1) dd_doorOf_7 rfl rfl rfl rfl ?_
                obtain ⟨s3, k⟩ := k
                refine R_imul (c := 8 * v1) dd_doorOf_8 (by omega) s3 rfl ?_
                obtain ⟨s4, k⟩ := k
                refine R_iadd (c := 8 * v1 + 4) dd_doorOf_9 (by omega) s4 rfl ?_
                refine R_ld (v := .inl v2) dd_doorOf_10 rfl rfl rfl rfl ?_
                obtain ⟨s5, k⟩ := k
                refine R_iadd (c := 8 * v1 + v2 + 4) dd_doorOf_11 (by omega) s5 rfl ?_
                obtain ⟨s6, k⟩ := k
                refine R_iald (v := (rd h 188 (8 * v1 + v2 + 4))) (n := 300) dd_doorOf_12 ia_188 la_188 s6 (rdw_ne (by decide)) rfl ?_
                refine R_iret dd_doorOf_13 rfl ?_
                change Rn xs xl e mm_door 37 [some (.inr (.inr 182)), some (.inl v1), some (.inl v2)] [.inl (rd h 188 (8 * v1 + v2 + 4))] (wr h 182 0 0) _
                refine R_goto dd_door_37 rfl ?_
                exact R_iret dd_door_68 rfl k
            · exact absurd c16 (by omega)
theorem B_person_0 {xs : Nat → Int} {xl e : Nat} {h : LH} {Q : Option LV → LH → Prop} {v1 v2 : Int} (hF : RF h) (he : 2 ≤ e)
    (k : (v1 < 0 →
        Q (some (.inl (-1))) (wr h 182 0 0)) ∧
      (0 ≤ v1 →
        ((rd h 188 2) ≤ v1 →
          Q (some (.inl (-1))) (wr h 182 0 0)) ∧
        (v1 < (rd h 188 2) →
          (v2 < 0 →
            Q (some (.inl (-1))) (wr h 182 0 0)) ∧
          (0 ≤ v2 →
            (6 < v2 →
              Q (some (.inl (-1))) (wr h 182 0 0)) ∧
            (v2 ≤ 6 →
              (4 ≤ v2 →
                (v2 ≠ 4 →
                  (v2 ≠ 5 →
                    (-2147483648 ≤ v1 + 14 ∧ v1 + 14 ≤ 2147483647) ∧
                    (0 ≤ v1 + 14 ∧ v1 + 14 < 1610) ∧
                    Q (some (.inl (rd h 198 (v1 + 14)))) (wr h 182 0 0)) ∧
                  (v2 = 5 →
                    (-2147483648 ≤ v1 + 8 ∧ v1 + 8 ≤ 2147483647) ∧
                    (0 ≤ v1 + 8 ∧ v1 + 8 < 1610) ∧
                    Q (some (.inl (rd h 198 (v1 + 8)))) (wr h 182 0 0))) ∧
                (v2 = 4 →
                  (-2147483648 ≤ v1 + 2 ∧ v1 + 2 ≤ 2147483647) ∧
                  (0 ≤ v1 + 2 ∧ v1 + 2 < 1610) ∧
                  Q (some (.inl (rd h 198 (v1 + 2)))) (wr h 182 0 0))) ∧
              (v2 < 4 →
                (-2147483648 ≤ 4 * v1 ∧ 4 * v1 ≤ 2147483647) ∧
                (-2147483648 ≤ 4 * v1 + 116 ∧ 4 * v1 + 116 ≤ 2147483647) ∧
                (-2147483648 ≤ 4 * v1 + v2 + 116 ∧ 4 * v1 + v2 + 116 ≤ 2147483647) ∧
                (0 ≤ 4 * v1 + v2 + 116 ∧ 4 * v1 + v2 + 116 < 300) ∧
                Q (some (.inl (rd h 188 (4 * v1 + v2 + 116)))) (wr h 182 0 0))))))) :
    Rn xs xl e mm_person 0 [some (.inr (.inr 182)), some (.inl v1), some (.inl v2)] [] h Q := by
  refine R_ld (v := .inr (.inr 182)) dd_person_0 rfl rfl rfl rfl ?_
  refine R_ic dd_person_1 (by decide) rfl ?_
  refine R_pf (z := 0) dd_person_2 fd_12_1 io_182 fn_12_0 rfl rfl ?_
  refine R_ld (v := .inr (.inr 182)) dd_person_5 rfl rfl rfl rfl ?_
  refine R_ld (v := .inl v1) dd_person_6 rfl rfl rfl rfl ?_
  refine R_call (as := [.inr (.inr 182), .inl v1]) (rest := []) (M' := mm_isPerson) (ls0 := [some (.inr (.inr 182)), some (.inl v1)]) dd_person_7 rfl rfl (cw_v cw_12_367 io_182 rfl rfl (Nat.le_of_ble_eq_true rfl) (Nat.le_of_ble_eq_true rfl)) mt_isPerson rfl (c := e - 1) (by omega) rfl ?_
  refine R_ld (v := .inl v1) dd_isPerson_0 rfl rfl rfl rfl ?_
  refine R_if dd_isPerson_1 rfl rfl (fun (c11 : v1 < 0) => ?_) (fun (c11 : 0 ≤ v1) => ?_)
  · replace k := k.1 c11
    refine R_ic dd_isPerson_16 (by decide) rfl ?_
    refine R_zret dd_isPerson_17 rfl (by decide) ?_
    change Rn xs xl e mm_person 10 [some (.inr (.inr 182)), some (.inl v1), some (.inl v2)] [.inl 0] (wr h 182 0 0) _
    refine R_if dd_person_10 rfl rfl (fun (c12 : 0 = 0) => ?_) (fun (c12 : 0 ≠ 0) => ?_)
    · skip
      refine R_ic dd_person_23 (by decide) rfl ?_
      exact R_iret dd_person_24 rfl k
    · exact absurd c12 (by omega)
  · replace k := k.2 c11
    refine R_ld (v := .inl v1) dd_isPerson_4 rfl rfl rfl rfl ?_
    refine R_ld (v := .inr (.inr 182)) dd_isPerson_5 rfl rfl rfl rfl ?_
    refine R_call (as := [.inr (.inr 182)]) (rest := [.inl v1]) (M' := mm_people) (ls0 := [some (.inr (.inr 182))]) dd_isPerson_6 rfl rfl (cw_v cw_12_338 io_182 rfl rfl (Nat.le_of_ble_eq_true rfl) (Nat.le_of_ble_eq_true rfl)) mt_people rfl (c := e - 2) (by omega) rfl ?_
    refine R_ld (v := .inr (.inr 182)) dd_people_0 rfl rfl rfl rfl ?_
    refine R_gf (v := .inr (.inr 188)) dd_people_1 fd_12_95 io_182 (congrArg (fun z : Int => (Sum.inr (Sum.inr z) : LV)) ((rdw_nei (by omega)).trans (rf_182_10 hF))) rfl ?_
    refine R_ic dd_people_4 (by decide) rfl ?_
    refine R_iald (v := (rd h 188 2)) (n := 300) dd_people_5 ia_188 la_188 (by decide) (rdw_ne (by decide)) rfl ?_
    refine R_iret dd_people_6 rfl ?_
    change Rn xs xl (e - 1) mm_isPerson 9 [some (.inr (.inr 182)), some (.inl v1)] [.inl (rd h 188 2), .inl v1] (wr h 182 0 0) _
    refine R_icmp dd_isPerson_9 rfl rfl (fun (c13 : (rd h 188 2) ≤ v1) => ?_) (fun (c13 : v1 < (rd h 188 2)) => ?_)
    · replace k := k.1 c13
      refine R_ic dd_isPerson_16 (by decide) rfl ?_
      refine R_zret dd_isPerson_17 rfl (by decide) ?_
      change Rn xs xl e mm_person 10 [some (.inr (.inr 182)), some (.inl v1), some (.inl v2)] [.inl 0] (wr h 182 0 0) _
      refine R_if dd_person_10 rfl rfl (fun (c14 : 0 = 0) => ?_) (fun (c14 : 0 ≠ 0) => ?_)
      · skip
        refine R_ic dd_person_23 (by decide) rfl ?_
        exact R_iret dd_person_24 rfl k
      · exact absurd c14 (by omega)
    · replace k := k.2 c13
      refine R_ic dd_isPerson_12 (by decide) rfl ?_
      refine R_goto dd_isPerson_13 rfl ?_
      refine R_zret dd_isPerson_17 rfl (by decide) ?_
      change Rn xs xl e mm_person 10 [some (.inr (.inr 182)), some (.inl v1), some (.inl v2)] [.inl 1] (wr h 182 0 0) _
      refine R_if dd_person_10 rfl rfl (fun (c15 : 1 = 0) => ?_) (fun (c15 : 1 ≠ 0) => ?_)
      · exact absurd c15 (by omega)
      · skip
        refine R_ld (v := .inl v2) dd_person_13 rfl rfl rfl rfl ?_
        refine R_ic dd_person_14 (by decide) rfl ?_
        refine R_bi dd_person_15 (by decide) rfl ?_
        refine R_call (as := [.inl v2, .inl 0, .inl 6]) (rest := []) (M' := mm_within) (ls0 := [some (.inl v2), some (.inl 0), some (.inl 6)]) dd_person_17 rfl rfl (cw_s cw_12_297 rfl rfl (Nat.le_of_ble_eq_true rfl) (Nat.le_of_ble_eq_true rfl)) mt_within rfl (c := e - 1) (by omega) rfl ?_
        refine R_ld (v := .inl v2) dd_within_0 rfl rfl rfl rfl ?_
        refine R_ld (v := .inl 0) dd_within_1 rfl rfl rfl rfl ?_
        refine R_icmp dd_within_2 rfl rfl (fun (c16 : v2 < 0) => ?_) (fun (c16 : 0 ≤ v2) => ?_)
        · replace k := k.1 c16
          refine R_ic dd_within_14 (by decide) rfl ?_
          refine R_zret dd_within_15 rfl (by decide) ?_
          change Rn xs xl e mm_person 20 [some (.inr (.inr 182)), some (.inl v1), some (.inl v2)] [.inl 0] (wr h 182 0 0) _
          refine R_if dd_person_20 rfl rfl (fun (c17 : 0 ≠ 0) => ?_) (fun (c17 : 0 = 0) => ?_)
          · exact absurd c17 (by omega)
          · skip
            refine R_ic dd_person_23 (by decide) rfl ?_
            exact R_iret dd_person_24 rfl k
        · replace k := k.2 c16
          refine R_ld (v := .inl v2) dd_within_5 rfl rfl rfl rfl ?_
          refine R_ld (v := .inl 6) dd_within_6 rfl rfl rfl rfl ?_
          refine R_icmp dd_within_7 rfl rfl (fun (c18 : 6 < v2) => ?_) (fun (c18 : v2 ≤ 6) => ?_)
          · replace k := k.1 c18
            refine R_ic dd_within_14 (by decide) rfl ?_
            refine R_zret dd_within_15 rfl (by decide) ?_
            change Rn xs xl e mm_person 20 [some (.inr (.inr 182)), some (.inl v1), some (.inl v2)] [.inl 0] (wr h 182 0 0) _
            refine R_if dd_person_20 rfl rfl (fun (c19 : 0 ≠ 0) => ?_) (fun (c19 : 0 = 0) => ?_)
            · exact absurd c19 (by omega)
            · skip
              refine R_ic dd_person_23 (by decide) rfl ?_
              exact R_iret dd_person_24 rfl k
          · replace k := k.2 c18
            refine R_ic dd_within_10 (by decide) rfl ?_
            refine R_goto dd_within_11 rfl ?_
            refine R_zret dd_within_15 rfl (by decide) ?_
            change Rn xs xl e mm_person 20 [some (.inr (.inr 182)), some (.inl v1), some (.inl v2)] [.inl 1] (wr h 182 0 0) _
            refine R_if dd_person_20 rfl rfl (fun (c20 : 1 ≠ 0) => ?_) (fun (c20 : 1 = 0) => ?_)
            · skip
              refine R_ld (v := .inl v2) dd_person_25 rfl rfl rfl rfl ?_
              refine R_ic dd_person_26 (by decide) rfl ?_
              refine R_icmp dd_person_27 rfl rfl (fun (c21 : 4 ≤ v2) => ?_) (fun (c21 : v2 < 4) => ?_)
              · replace k := k.1 c21
                refine R_ld (v := .inr (.inr 182)) dd_person_39 rfl rfl rfl rfl ?_
                refine R_gf (v := .inr (.inr 198)) dd_person_40 fd_12_125 io_182 (congrArg (fun z : Int => (Sum.inr (Sum.inr z) : LV)) ((rdw_nei (by omega)).trans (rf_182_24 hF))) rfl ?_
                refine R_ld (v := .inl v2) dd_person_43 rfl rfl rfl rfl ?_
                refine R_ic dd_person_44 (by decide) rfl ?_
                refine R_icmp dd_person_45 rfl rfl (fun (c22 : v2 ≠ 4) => ?_) (fun (c22 : v2 = 4) => ?_)
                · replace k := k.1 c22
                  refine R_ld (v := .inl v2) dd_person_52 rfl rfl rfl rfl ?_
                  refine R_ic dd_person_53 (by decide) rfl ?_
                  refine R_icmp dd_person_54 rfl rfl (fun (c23 : v2 ≠ 5) => ?_) (fun (c23 : v2 = 5) => ?_)
                  · replace k := k.1 c23
                    refine R_bi dd_person_62 (by decide) rfl ?_
                    refine R_ld (v := .inl v1) dd_person_64 rfl rfl rfl rfl ?_
                    obtain ⟨s1, k⟩ := k
                    refine R_iadd (c := v1 + 14) dd_person_65 (by omega) s1 rfl ?_
                    obtain ⟨s2, k⟩ := k
                    refine R_iald (v := (rd h 198 (v1 + 14))) (n := 1610) dd_person_66 ia_198 la_198 s2 (rdw_ne (by decide)) rfl ?_
                    exact R_iret dd_person_67 rfl k
                  · replace k := k.2 c23
                    refine R_bi dd_person_57 (by decide) rfl ?_
                    refine R_goto dd_person_59 rfl ?_
                    refine R_ld (v := .inl v1) dd_person_64 rfl rfl rfl rfl ?_
                    obtain ⟨s3, k⟩ := k
                    refine R_iadd (c := v1 + 8) dd_person_65 (by omega) s3 rfl ?_
                    obtain ⟨s4, k⟩ := k
                    refine R_iald (v := (rd h 198 (v1 + 8))) (n := 1610) dd_person_66 ia_198 la_198 s4 (rdw_ne (by decide)) rfl ?_
                    exact R_iret dd_person_67 rfl k
                · replace k := k.2 c22
                  refine R_ic dd_person_48 (by decide) rfl ?_
                  refine R_goto dd_person_49 rfl ?_
                  refine R_ld (v := .inl v1) dd_person_64 rfl rfl rfl rfl ?_
                  obtain ⟨s5, k⟩ := k
                  refine R_iadd (c := v1 + 2) dd_person_65 (by omega) s5 rfl ?_
                  obtain ⟨s6, k⟩ := k
                  refine R_iald (v := (rd h 198 (v1 + 2))) (n := 1610) dd_person_66 ia_198 la_198 s6 (rdw_ne (by decide)) rfl ?_
                  exact R_iret dd_person_67 rfl k
              · replace k := k.2 c21
                refine R_ld (v := .inr (.inr 182)) dd_person_30 rfl rfl rfl rfl ?_
                refine R_ld (v := .inl v1) dd_person_31 rfl rfl rfl rfl ?_
                refine R_ld (v := .inl v2) dd_person_32 rfl rfl rfl rfl ?_
                refine R_call (as := [.inr (.inr 182), .inl v1, .inl v2]) (rest := []) (M' := mm_personOf) (ls0 := [some (.inr (.inr 182)), some (.inl v1), some (.inl v2)]) dd_person_33 rfl rfl (cw_v cw_12_325 io_182 rfl rfl (Nat.le_of_ble_eq_true rfl) (Nat.le_of_ble_eq_true rfl)) mt_personOf rfl (c := e - 1) (by omega) rfl ?_
                refine R_ld (v := .inr (.inr 182)) dd_personOf_0 rfl rfl rfl rfl ?_
                refine R_gf (v := .inr (.inr 188)) dd_personOf_1 fd_12_95 io_182 (congrArg (fun z : Int => (Sum.inr (Sum.inr z) : LV)) ((rdw_nei (by omega)).trans (rf_182_10 hF))) rfl ?_
                refine R_bi dd_personOf_4 (by decide) rfl ?_
                refine R_ic dd_personOf_6 (by decide) rfl ?_
                refine R_ld (v := .inl v1) dd_personOf_7 rfl rfl rfl rfl ?_
                obtain ⟨s7, k⟩ := k
                refine R_imul (c := 4 * v1) dd_personOf_8 (by omega) s7 rfl ?_
                obtain ⟨s8, k⟩ := k
                refine R_iadd (c := 4 * v1 + 116) dd_personOf_9 (by omega) s8 rfl ?_
                refine R_ld (v := .inl v2) dd_personOf_10 rfl rfl rfl rfl ?_
                obtain ⟨s9, k⟩ := k
                refine R_iadd (c := 4 * v1 + v2 + 116) dd_personOf_11 (by omega) s9 rfl ?_
                obtain ⟨s10, k⟩ := k
                refine R_iald (v := (rd h 188 (4 * v1 + v2 + 116))) (n := 300) dd_personOf_12 ia_188 la_188 s10 (rdw_ne (by decide)) rfl ?_
                refine R_iret dd_personOf_13 rfl ?_
                change Rn xs xl e mm_person 36 [some (.inr (.inr 182)), some (.inl v1), some (.inl v2)] [.inl (rd h 188 (4 * v1 + v2 + 116))] (wr h 182 0 0) _
                refine R_goto dd_person_36 rfl ?_
                exact R_iret dd_person_67 rfl k
            · exact absurd c20 (by omega)
theorem B_leads_0 {xs : Nat → Int} {xl e : Nat} {h : LH} {Q : Option LV → LH → Prop} {v1 v2 v3 v4 : Int} (hF : RF h) (he : 2 ≤ e)
    (k : (v1 < 0 →
        Q (some (.inl (-1))) (wr h 182 0 0)) ∧
      (0 ≤ v1 →
        ((rd h 188 1) ≤ v1 →
          Q (some (.inl (-1))) (wr h 182 0 0)) ∧
        (v1 < (rd h 188 1) →
          (v2 < 0 →
            Q (some (.inl (-1))) (wr h 182 0 0)) ∧
          (0 ≤ v2 →
            (3 < v2 →
              Q (some (.inl (-1))) (wr h 182 0 0)) ∧
            (v2 ≤ 3 →
              (v3 < 0 →
                Q (some (.inl (-1))) (wr h 182 0 0)) ∧
              (0 ≤ v3 →
                ((rd h 188 0) ≤ v3 →
                  Q (some (.inl (-1))) (wr h 182 0 0)) ∧
                (v3 < (rd h 188 0) →
                  (v4 < 0 →
                    Q (some (.inl (-1))) (wr h 182 0 0)) ∧
                  (0 ≤ v4 →
                    (23 < v4 →
                      Q (some (.inl (-1))) (wr h 182 0 0)) ∧
                    (v4 ≤ 23 →
                      (∃ c, c < e ∧ Rn xs xl c mm_leadsNow 0 [some (.inr (.inr 182)), some (.inl 0), some (.inl v1), some (.inl v2), some (.inl v3), some (.inl v4)] [] (wr h 182 0 0) (fun r h' => Rn xs xl e mm_leads 51 [some (.inr (.inr 182)), some (.inl v1), some (.inl v2), some (.inl v3), some (.inl v4)] (r.toList ++ []) h' Q))))))))))) :
    Rn xs xl e mm_leads 0 [some (.inr (.inr 182)), some (.inl v1), some (.inl v2), some (.inl v3), some (.inl v4)] [] h Q := by
  refine R_ld (v := .inr (.inr 182)) dd_leads_0 rfl rfl rfl rfl ?_
  refine R_ic dd_leads_1 (by decide) rfl ?_
  refine R_pf (z := 0) dd_leads_2 fd_12_1 io_182 fn_12_0 rfl rfl ?_
  refine R_ld (v := .inr (.inr 182)) dd_leads_5 rfl rfl rfl rfl ?_
  refine R_ld (v := .inl v1) dd_leads_6 rfl rfl rfl rfl ?_
  refine R_call (as := [.inr (.inr 182), .inl v1]) (rest := []) (M' := mm_isDoor) (ls0 := [some (.inr (.inr 182)), some (.inl v1)]) dd_leads_7 rfl rfl (cw_v cw_12_364 io_182 rfl rfl (Nat.le_of_ble_eq_true rfl) (Nat.le_of_ble_eq_true rfl)) mt_isDoor rfl (c := e - 1) (by omega) rfl ?_
  refine R_ld (v := .inl v1) dd_isDoor_0 rfl rfl rfl rfl ?_
  refine R_if dd_isDoor_1 rfl rfl (fun (c2 : v1 < 0) => ?_) (fun (c2 : 0 ≤ v1) => ?_)
  · replace k := k.1 c2
    refine R_ic dd_isDoor_16 (by decide) rfl ?_
    refine R_zret dd_isDoor_17 rfl (by decide) ?_
    change Rn xs xl e mm_leads 10 [some (.inr (.inr 182)), some (.inl v1), some (.inl v2), some (.inl v3), some (.inl v4)] [.inl 0] (wr h 182 0 0) _
    refine R_if dd_leads_10 rfl rfl (fun (c3 : 0 = 0) => ?_) (fun (c3 : 0 ≠ 0) => ?_)
    · skip
      refine R_ic dd_leads_54 (by decide) rfl ?_
      exact R_iret dd_leads_55 rfl k
    · exact absurd c3 (by omega)
  · replace k := k.2 c2
    refine R_ld (v := .inl v1) dd_isDoor_4 rfl rfl rfl rfl ?_
    refine R_ld (v := .inr (.inr 182)) dd_isDoor_5 rfl rfl rfl rfl ?_
    refine R_call (as := [.inr (.inr 182)]) (rest := [.inl v1]) (M' := mm_doors) (ls0 := [some (.inr (.inr 182))]) dd_isDoor_6 rfl rfl (cw_v cw_12_335 io_182 rfl rfl (Nat.le_of_ble_eq_true rfl) (Nat.le_of_ble_eq_true rfl)) mt_doors rfl (c := e - 2) (by omega) rfl ?_
    refine R_ld (v := .inr (.inr 182)) dd_doors_0 rfl rfl rfl rfl ?_
    refine R_gf (v := .inr (.inr 188)) dd_doors_1 fd_12_95 io_182 (congrArg (fun z : Int => (Sum.inr (Sum.inr z) : LV)) ((rdw_nei (by omega)).trans (rf_182_10 hF))) rfl ?_
    refine R_ic dd_doors_4 (by decide) rfl ?_
    refine R_iald (v := (rd h 188 1)) (n := 300) dd_doors_5 ia_188 la_188 (by decide) (rdw_ne (by decide)) rfl ?_
    refine R_iret dd_doors_6 rfl ?_
    change Rn xs xl (e - 1) mm_isDoor 9 [some (.inr (.inr 182)), some (.inl v1)] [.inl (rd h 188 1), .inl v1] (wr h 182 0 0) _
    refine R_icmp dd_isDoor_9 rfl rfl (fun (c4 : (rd h 188 1) ≤ v1) => ?_) (fun (c4 : v1 < (rd h 188 1)) => ?_)
    · replace k := k.1 c4
      refine R_ic dd_isDoor_16 (by decide) rfl ?_
      refine R_zret dd_isDoor_17 rfl (by decide) ?_
      change Rn xs xl e mm_leads 10 [some (.inr (.inr 182)), some (.inl v1), some (.inl v2), some (.inl v3), some (.inl v4)] [.inl 0] (wr h 182 0 0) _
      refine R_if dd_leads_10 rfl rfl (fun (c5 : 0 = 0) => ?_) (fun (c5 : 0 ≠ 0) => ?_)
      · skip
        refine R_ic dd_leads_54 (by decide) rfl ?_
        exact R_iret dd_leads_55 rfl k
      · exact absurd c5 (by omega)
    · replace k := k.2 c4
      refine R_ic dd_isDoor_12 (by decide) rfl ?_
      refine R_goto dd_isDoor_13 rfl ?_
      refine R_zret dd_isDoor_17 rfl (by decide) ?_
      change Rn xs xl e mm_leads 10 [some (.inr (.inr 182)), some (.inl v1), some (.inl v2), some (.inl v3), some (.inl v4)] [.inl 1] (wr h 182 0 0) _
      refine R_if dd_leads_10 rfl rfl (fun (c6 : 1 = 0) => ?_) (fun (c6 : 1 ≠ 0) => ?_)
      · exact absurd c6 (by omega)
      · skip
        refine R_ld (v := .inl v2) dd_leads_13 rfl rfl rfl rfl ?_
        refine R_ic dd_leads_14 (by decide) rfl ?_
        refine R_ic dd_leads_15 (by decide) rfl ?_
        refine R_call (as := [.inl v2, .inl 0, .inl 3]) (rest := []) (M' := mm_within) (ls0 := [some (.inl v2), some (.inl 0), some (.inl 3)]) dd_leads_16 rfl rfl (cw_s cw_12_297 rfl rfl (Nat.le_of_ble_eq_true rfl) (Nat.le_of_ble_eq_true rfl)) mt_within rfl (c := e - 1) (by omega) rfl ?_
        refine R_ld (v := .inl v2) dd_within_0 rfl rfl rfl rfl ?_
        refine R_ld (v := .inl 0) dd_within_1 rfl rfl rfl rfl ?_
        refine R_icmp dd_within_2 rfl rfl (fun (c7 : v2 < 0) => ?_) (fun (c7 : 0 ≤ v2) => ?_)
        · replace k := k.1 c7
          refine R_ic dd_within_14 (by decide) rfl ?_
          refine R_zret dd_within_15 rfl (by decide) ?_
          change Rn xs xl e mm_leads 19 [some (.inr (.inr 182)), some (.inl v1), some (.inl v2), some (.inl v3), some (.inl v4)] [.inl 0] (wr h 182 0 0) _
          refine R_if dd_leads_19 rfl rfl (fun (c8 : 0 = 0) => ?_) (fun (c8 : 0 ≠ 0) => ?_)
          · skip
            refine R_ic dd_leads_54 (by decide) rfl ?_
            exact R_iret dd_leads_55 rfl k
          · exact absurd c8 (by omega)
        · replace k := k.2 c7
          refine R_ld (v := .inl v2) dd_within_5 rfl rfl rfl rfl ?_
          refine R_ld (v := .inl 3) dd_within_6 rfl rfl rfl rfl ?_
          refine R_icmp dd_within_7 rfl rfl (fun (c9 : 3 < v2) => ?_) (fun (c9 : v2 ≤ 3) => ?_)
          · replace k := k.1 c9
            refine R_ic dd_within_14 (by decide) rfl ?_
            refine R_zret dd_within_15 rfl (by decide) ?_
            change Rn xs xl e mm_leads 19 [some (.inr (.inr 182)), some (.inl v1), some (.inl v2), some (.inl v3), some (.inl v4)] [.inl 0] (wr h 182 0 0) _
            refine R_if dd_leads_19 rfl rfl (fun (c10 : 0 = 0) => ?_) (fun (c10 : 0 ≠ 0) => ?_)
            · skip
              refine R_ic dd_leads_54 (by decide) rfl ?_
              exact R_iret dd_leads_55 rfl k
            · exact absurd c10 (by omega)
          · replace k := k.2 c9
            refine R_ic dd_within_10 (by decide) rfl ?_
            refine R_goto dd_within_11 rfl ?_
            refine R_zret dd_within_15 rfl (by decide) ?_
            change Rn xs xl e mm_leads 19 [some (.inr (.inr 182)), some (.inl v1), some (.inl v2), some (.inl v3), some (.inl v4)] [.inl 1] (wr h 182 0 0) _
            refine R_if dd_leads_19 rfl rfl (fun (c11 : 1 = 0) => ?_) (fun (c11 : 1 ≠ 0) => ?_)
            · exact absurd c11 (by omega)
            · skip
              refine R_ld (v := .inr (.inr 182)) dd_leads_22 rfl rfl rfl rfl ?_
              refine R_ld (v := .inl v3) dd_leads_23 rfl rfl rfl rfl ?_
              refine R_call (as := [.inr (.inr 182), .inl v3]) (rest := []) (M' := mm_isRoom) (ls0 := [some (.inr (.inr 182)), some (.inl v3)]) dd_leads_24 rfl rfl (cw_v cw_12_370 io_182 rfl rfl (Nat.le_of_ble_eq_true rfl) (Nat.le_of_ble_eq_true rfl)) mt_isRoom rfl (c := e - 1) (by omega) rfl ?_
              refine R_ld (v := .inl v3) dd_isRoom_0 rfl rfl rfl rfl ?_
              refine R_if dd_isRoom_1 rfl rfl (fun (c12 : v3 < 0) => ?_) (fun (c12 : 0 ≤ v3) => ?_)
              · replace k := k.1 c12
                refine R_ic dd_isRoom_16 (by decide) rfl ?_
                refine R_zret dd_isRoom_17 rfl (by decide) ?_
                change Rn xs xl e mm_leads 27 [some (.inr (.inr 182)), some (.inl v1), some (.inl v2), some (.inl v3), some (.inl v4)] [.inl 0] (wr h 182 0 0) _
                refine R_if dd_leads_27 rfl rfl (fun (c13 : 0 = 0) => ?_) (fun (c13 : 0 ≠ 0) => ?_)
                · skip
                  refine R_ic dd_leads_54 (by decide) rfl ?_
                  exact R_iret dd_leads_55 rfl k
                · exact absurd c13 (by omega)
              · replace k := k.2 c12
                refine R_ld (v := .inl v3) dd_isRoom_4 rfl rfl rfl rfl ?_
                refine R_ld (v := .inr (.inr 182)) dd_isRoom_5 rfl rfl rfl rfl ?_
                refine R_call (as := [.inr (.inr 182)]) (rest := [.inl v3]) (M' := mm_rooms) (ls0 := [some (.inr (.inr 182))]) dd_isRoom_6 rfl rfl (cw_v cw_12_332 io_182 rfl rfl (Nat.le_of_ble_eq_true rfl) (Nat.le_of_ble_eq_true rfl)) mt_rooms rfl (c := e - 2) (by omega) rfl ?_
                refine R_ld (v := .inr (.inr 182)) dd_rooms_0 rfl rfl rfl rfl ?_
                refine R_gf (v := .inr (.inr 188)) dd_rooms_1 fd_12_95 io_182 (congrArg (fun z : Int => (Sum.inr (Sum.inr z) : LV)) ((rdw_nei (by omega)).trans (rf_182_10 hF))) rfl ?_
                refine R_ic dd_rooms_4 (by decide) rfl ?_
                refine R_iald (v := (rd h 188 0)) (n := 300) dd_rooms_5 ia_188 la_188 (by decide) (rdw_ne (by decide)) rfl ?_
                refine R_iret dd_rooms_6 rfl ?_
                change Rn xs xl (e - 1) mm_isRoom 9 [some (.inr (.inr 182)), some (.inl v3)] [.inl (rd h 188 0), .inl v3] (wr h 182 0 0) _
                refine R_icmp dd_isRoom_9 rfl rfl (fun (c14 : (rd h 188 0) ≤ v3) => ?_) (fun (c14 : v3 < (rd h 188 0)) => ?_)
                · replace k := k.1 c14
                  refine R_ic dd_isRoom_16 (by decide) rfl ?_
                  refine R_zret dd_isRoom_17 rfl (by decide) ?_
                  change Rn xs xl e mm_leads 27 [some (.inr (.inr 182)), some (.inl v1), some (.inl v2), some (.inl v3), some (.inl v4)] [.inl 0] (wr h 182 0 0) _
                  refine R_if dd_leads_27 rfl rfl (fun (c15 : 0 = 0) => ?_) (fun (c15 : 0 ≠ 0) => ?_)
                  · skip
                    refine R_ic dd_leads_54 (by decide) rfl ?_
                    exact R_iret dd_leads_55 rfl k
                  · exact absurd c15 (by omega)
                · replace k := k.2 c14
                  refine R_ic dd_isRoom_12 (by decide) rfl ?_
                  refine R_goto dd_isRoom_13 rfl ?_
                  refine R_zret dd_isRoom_17 rfl (by decide) ?_
                  change Rn xs xl e mm_leads 27 [some (.inr (.inr 182)), some (.inl v1), some (.inl v2), some (.inl v3), some (.inl v4)] [.inl 1] (wr h 182 0 0) _
                  refine R_if dd_leads_27 rfl rfl (fun (c16 : 1 = 0) => ?_) (fun (c16 : 1 ≠ 0) => ?_)
                  · exact absurd c16 (by omega)
                  · skip
                    refine R_ld (v := .inl v4) dd_leads_30 rfl rfl rfl rfl ?_
                    refine R_ic dd_leads_32 (by decide) rfl ?_
                    refine R_bi dd_leads_33 (by decide) rfl ?_
                    refine R_call (as := [.inl v4, .inl 0, .inl 23]) (rest := []) (M' := mm_within) (ls0 := [some (.inl v4), some (.inl 0), some (.inl 23)]) dd_leads_35 rfl rfl (cw_s cw_12_297 rfl rfl (Nat.le_of_ble_eq_true rfl) (Nat.le_of_ble_eq_true rfl)) mt_within rfl (c := e - 1) (by omega) rfl ?_
                    refine R_ld (v := .inl v4) dd_within_0 rfl rfl rfl rfl ?_
                    refine R_ld (v := .inl 0) dd_within_1 rfl rfl rfl rfl ?_
                    refine R_icmp dd_within_2 rfl rfl (fun (c17 : v4 < 0) => ?_) (fun (c17 : 0 ≤ v4) => ?_)
                    · replace k := k.1 c17
                      refine R_ic dd_within_14 (by decide) rfl ?_
                      refine R_zret dd_within_15 rfl (by decide) ?_
                      change Rn xs xl e mm_leads 38 [some (.inr (.inr 182)), some (.inl v1), some (.inl v2), some (.inl v3), some (.inl v4)] [.inl 0] (wr h 182 0 0) _
                      refine R_if dd_leads_38 rfl rfl (fun (c18 : 0 = 0) => ?_) (fun (c18 : 0 ≠ 0) => ?_)
                      · skip
                        refine R_ic dd_leads_54 (by decide) rfl ?_
                        exact R_iret dd_leads_55 rfl k
                      · exact absurd c18 (by omega)
                    · replace k := k.2 c17
                      refine R_ld (v := .inl v4) dd_within_5 rfl rfl rfl rfl ?_
                      refine R_ld (v := .inl 23) dd_within_6 rfl rfl rfl rfl ?_
                      refine R_icmp dd_within_7 rfl rfl (fun (c19 : 23 < v4) => ?_) (fun (c19 : v4 ≤ 23) => ?_)
                      · replace k := k.1 c19
                        refine R_ic dd_within_14 (by decide) rfl ?_
                        refine R_zret dd_within_15 rfl (by decide) ?_
                        change Rn xs xl e mm_leads 38 [some (.inr (.inr 182)), some (.inl v1), some (.inl v2), some (.inl v3), some (.inl v4)] [.inl 0] (wr h 182 0 0) _
                        refine R_if dd_leads_38 rfl rfl (fun (c20 : 0 = 0) => ?_) (fun (c20 : 0 ≠ 0) => ?_)
                        · skip
                          refine R_ic dd_leads_54 (by decide) rfl ?_
                          exact R_iret dd_leads_55 rfl k
                        · exact absurd c20 (by omega)
                      · replace k := k.2 c19
                        refine R_ic dd_within_10 (by decide) rfl ?_
                        refine R_goto dd_within_11 rfl ?_
                        refine R_zret dd_within_15 rfl (by decide) ?_
                        change Rn xs xl e mm_leads 38 [some (.inr (.inr 182)), some (.inl v1), some (.inl v2), some (.inl v3), some (.inl v4)] [.inl 1] (wr h 182 0 0) _
                        refine R_if dd_leads_38 rfl rfl (fun (c21 : 1 = 0) => ?_) (fun (c21 : 1 ≠ 0) => ?_)
                        · exact absurd c21 (by omega)
                        · skip
                          refine R_ld (v := .inr (.inr 182)) dd_leads_41 rfl rfl rfl rfl ?_
                          refine R_ic dd_leads_42 (by decide) rfl ?_
                          refine R_ld (v := .inl v1) dd_leads_43 rfl rfl rfl rfl ?_
                          refine R_ld (v := .inl v2) dd_leads_44 rfl rfl rfl rfl ?_
                          refine R_ld (v := .inl v3) dd_leads_45 rfl rfl rfl rfl ?_
                          refine R_ld (v := .inl v4) dd_leads_46 rfl rfl rfl rfl ?_
                          obtain ⟨c, hc, k⟩ := k
                          exact R_call (as := [.inr (.inr 182), .inl 0, .inl v1, .inl v2, .inl v3, .inl v4]) (rest := []) (M' := mm_leadsNow) (ls0 := [some (.inr (.inr 182)), some (.inl 0), some (.inl v1), some (.inl v2), some (.inl v3), some (.inl v4)]) dd_leads_48 rfl rfl (cw_v cw_12_373 io_182 rfl rfl (Nat.le_of_ble_eq_true rfl) (Nat.le_of_ble_eq_true rfl)) mt_leadsNow rfl hc rfl k
theorem B_leads_51 {xs : Nat → Int} {xl e : Nat} {h : LH} {Q : Option LV → LH → Prop} {v1 v2 v3 v4 w0 : Int} (hF : RF h)
    (k : Q (some (.inl w0)) h) :
    Rn xs xl e mm_leads 51 [some (.inr (.inr 182)), some (.inl v1), some (.inl v2), some (.inl v3), some (.inl v4)] [.inl w0] h Q := by
  refine R_goto dd_leads_51 rfl ?_
  exact R_iret dd_leads_55 rfl k
theorem B_hours_0 {xs : Nat → Int} {xl e : Nat} {h : LH} {Q : Option LV → LH → Prop} {v1 : Int} (hF : RF h) (he : 1 ≤ e)
    (k : (v1 < 1 →
        Q (some (.inl (-1))) (wr h 182 0 0)) ∧
      (1 ≤ v1 →
        (24 < v1 →
          Q (some (.inl (-1))) (wr h 182 0 0)) ∧
        (v1 ≤ 24 →
          (∃ c, c < e ∧ Rn xs xl c mm_keeps 0 [some (.inr (.inr 182)), none] [] (wr h 182 0 0) (fun r h' => Rn xs xl e mm_hours 21 [some (.inr (.inr 182)), some (.inl v1), none] (r.toList ++ []) h' Q))))) :
    Rn xs xl e mm_hours 0 [some (.inr (.inr 182)), some (.inl v1), none] [] h Q := by
  refine R_ld (v := .inr (.inr 182)) dd_hours_0 rfl rfl rfl rfl ?_
  refine R_ic dd_hours_1 (by decide) rfl ?_
  refine R_pf (z := 0) dd_hours_2 fd_12_1 io_182 fn_12_0 rfl rfl ?_
  refine R_ld (v := .inl v1) dd_hours_5 rfl rfl rfl rfl ?_
  refine R_ic dd_hours_6 (by decide) rfl ?_
  refine R_bi dd_hours_7 (by decide) rfl ?_
  refine R_call (as := [.inl v1, .inl 1, .inl 24]) (rest := []) (M' := mm_within) (ls0 := [some (.inl v1), some (.inl 1), some (.inl 24)]) dd_hours_9 rfl rfl (cw_s cw_12_297 rfl rfl (Nat.le_of_ble_eq_true rfl) (Nat.le_of_ble_eq_true rfl)) mt_within rfl (c := e - 1) (by omega) rfl ?_
  refine R_ld (v := .inl v1) dd_within_0 rfl rfl rfl rfl ?_
  refine R_ld (v := .inl 1) dd_within_1 rfl rfl rfl rfl ?_
  refine R_icmp dd_within_2 rfl rfl (fun (c2 : v1 < 1) => ?_) (fun (c2 : 1 ≤ v1) => ?_)
  · replace k := k.1 c2
    refine R_ic dd_within_14 (by decide) rfl ?_
    refine R_zret dd_within_15 rfl (by decide) ?_
    change Rn xs xl e mm_hours 12 [some (.inr (.inr 182)), some (.inl v1), none] [.inl 0] (wr h 182 0 0) _
    refine R_if dd_hours_12 rfl rfl (fun (c3 : 0 ≠ 0) => ?_) (fun (c3 : 0 = 0) => ?_)
    · exact absurd c3 (by omega)
    · skip
      refine R_ic dd_hours_15 (by decide) rfl ?_
      exact R_iret dd_hours_16 rfl k
  · replace k := k.2 c2
    refine R_ld (v := .inl v1) dd_within_5 rfl rfl rfl rfl ?_
    refine R_ld (v := .inl 24) dd_within_6 rfl rfl rfl rfl ?_
    refine R_icmp dd_within_7 rfl rfl (fun (c4 : 24 < v1) => ?_) (fun (c4 : v1 ≤ 24) => ?_)
    · replace k := k.1 c4
      refine R_ic dd_within_14 (by decide) rfl ?_
      refine R_zret dd_within_15 rfl (by decide) ?_
      change Rn xs xl e mm_hours 12 [some (.inr (.inr 182)), some (.inl v1), none] [.inl 0] (wr h 182 0 0) _
      refine R_if dd_hours_12 rfl rfl (fun (c5 : 0 ≠ 0) => ?_) (fun (c5 : 0 = 0) => ?_)
      · exact absurd c5 (by omega)
      · skip
        refine R_ic dd_hours_15 (by decide) rfl ?_
        exact R_iret dd_hours_16 rfl k
    · replace k := k.2 c4
      refine R_ic dd_within_10 (by decide) rfl ?_
      refine R_goto dd_within_11 rfl ?_
      refine R_zret dd_within_15 rfl (by decide) ?_
      change Rn xs xl e mm_hours 12 [some (.inr (.inr 182)), some (.inl v1), none] [.inl 1] (wr h 182 0 0) _
      refine R_if dd_hours_12 rfl rfl (fun (c6 : 1 ≠ 0) => ?_) (fun (c6 : 1 = 0) => ?_)
      · skip
        refine R_ld (v := .inr (.inr 182)) dd_hours_17 rfl rfl rfl rfl ?_
        obtain ⟨c, hc, k⟩ := k
        exact R_call (as := [.inr (.inr 182)]) (rest := []) (M' := mm_keeps) (ls0 := [some (.inr (.inr 182)), none]) dd_hours_18 rfl rfl (cw_v cw_12_380 io_182 rfl rfl (Nat.le_of_ble_eq_true rfl) (Nat.le_of_ble_eq_true rfl)) mt_keeps rfl hc rfl k
      · exact absurd c6 (by omega)
theorem B_hours_21 {xs : Nat → Int} {xl e : Nat} {h : LH} {Q : Option LV → LH → Prop} {v1 : Int} (hF : RF h)
    (k : Rn xs xl e mm_hours 23 [some (.inr (.inr 182)), some (.inl v1), some (.inl 0)] [] h Q) :
    Rn xs xl e mm_hours 21 [some (.inr (.inr 182)), some (.inl v1), none] [] h Q := by
  refine R_ic dd_hours_21 (by decide) rfl ?_
  refine R_st (ls' := [some (.inr (.inr 182)), some (.inl v1), some (.inl 0)]) dd_hours_22 rfl rfl rfl (Nat.le_of_ble_eq_true rfl) rfl rfl ?_
  exact k
theorem B_hours_23 {xs : Nat → Int} {xl e : Nat} {h : LH} {Q : Option LV → LH → Prop} {v1 v2 : Int} (hF : RF h)
    (k : (v1 ≤ v2 →
        Q (some (.inl (rd h 198 0))) h) ∧
      (v2 < v1 →
        (∃ c, c < e ∧ Rn xs xl c mm_passes 0 [some (.inr (.inr 182)), some (.inl 0), none] [] h (fun r h' => Rn xs xl e mm_hours 33 [some (.inr (.inr 182)), some (.inl v1), some (.inl v2)] (r.toList ++ []) h' Q)))) :
    Rn xs xl e mm_hours 23 [some (.inr (.inr 182)), some (.inl v1), some (.inl v2)] [] h Q := by
  refine R_ld (v := .inl v2) dd_hours_23 rfl rfl rfl rfl ?_
  refine R_ld (v := .inl v1) dd_hours_24 rfl rfl rfl rfl ?_
  refine R_icmp dd_hours_25 rfl rfl (fun (c2 : v1 ≤ v2) => ?_) (fun (c2 : v2 < v1) => ?_)
  · replace k := k.1 c2
    refine R_ld (v := .inr (.inr 182)) dd_hours_39 rfl rfl rfl rfl ?_
    refine R_gf (v := .inr (.inr 198)) dd_hours_40 fd_12_125 io_182 (congrArg (fun z : Int => (Sum.inr (Sum.inr z) : LV)) (rf_182_24 hF)) rfl ?_
    refine R_ic dd_hours_43 (by decide) rfl ?_
    refine R_iald (v := (rd h 198 0)) (n := 1610) dd_hours_44 ia_198 la_198 (by decide) (rfl) rfl ?_
    exact R_iret dd_hours_45 rfl k
  · replace k := k.2 c2
    refine R_ld (v := .inr (.inr 182)) dd_hours_28 rfl rfl rfl rfl ?_
    refine R_ic dd_hours_29 (by decide) rfl ?_
    obtain ⟨c, hc, k⟩ := k
    exact R_call (as := [.inr (.inr 182), .inl 0]) (rest := []) (M' := mm_passes) (ls0 := [some (.inr (.inr 182)), some (.inl 0), none]) dd_hours_30 rfl rfl (cw_v cw_12_383 io_182 rfl rfl (Nat.le_of_ble_eq_true rfl) (Nat.le_of_ble_eq_true rfl)) mt_passes rfl hc rfl k
theorem B_hours_33 {xs : Nat → Int} {xl e : Nat} {h : LH} {Q : Option LV → LH → Prop} {v1 v2 : Int} (hF : RF h) (r_v2 : 0 ≤ v2 ∧ v2 ≤ 23)
    (k : Rn xs xl e mm_hours 23 [some (.inr (.inr 182)), some (.inl v1), some (.inl (v2 + 1))] [] h Q) :
    Rn xs xl e mm_hours 33 [some (.inr (.inr 182)), some (.inl v1), some (.inl v2)] [] h Q := by
  refine R_inc (y := v2 + 1) (ls' := [some (.inr (.inr 182)), some (.inl v1), some (.inl (v2 + 1))]) dd_hours_33 rfl (by decide) (by omega) (by omega) rfl rfl ?_
  refine R_goto dd_hours_36 rfl ?_
  exact k
theorem B_shut_0 {xs : Nat → Int} {xl e : Nat} {h : LH} {Q : Option LV → LH → Prop} {v1 v2 : Int} (hF : RF h) (he : 2 ≤ e)
    (k : (v1 < 0 →
        Q (some (.inl 0)) (wr h 182 0 0)) ∧
      (0 ≤ v1 →
        ((rd h 188 1) ≤ v1 →
          Q (some (.inl 0)) (wr h 182 0 0)) ∧
        (v1 < (rd h 188 1) →
          ((zand (zshr (rd h 198 1) v1) 1) ≠ 1 →
            (0 ≠ v2 →
              (∃ c, c < e ∧ Rn xs xl c mm_keeps 0 [some (.inr (.inr 182)), none] [] (wr h 182 0 0) (fun r h' => Rn xs xl e mm_shut 33 [some (.inr (.inr 182)), some (.inl v1), some (.inl v2)] (r.toList ++ []) h' Q))) ∧
            (0 = v2 →
              Q (some (.inl 0)) (wr h 182 0 0))) ∧
          ((zand (zshr (rd h 198 1) v1) 1) = 1 →
            (1 ≠ v2 →
              (∃ c, c < e ∧ Rn xs xl c mm_keeps 0 [some (.inr (.inr 182)), none] [] (wr h 182 0 0) (fun r h' => Rn xs xl e mm_shut 33 [some (.inr (.inr 182)), some (.inl v1), some (.inl v2)] (r.toList ++ []) h' Q))) ∧
            (1 = v2 →
              Q (some (.inl 0)) (wr h 182 0 0)))))) :
    Rn xs xl e mm_shut 0 [some (.inr (.inr 182)), some (.inl v1), some (.inl v2)] [] h Q := by
  refine R_ld (v := .inr (.inr 182)) dd_shut_0 rfl rfl rfl rfl ?_
  refine R_ic dd_shut_1 (by decide) rfl ?_
  refine R_pf (z := 0) dd_shut_2 fd_12_1 io_182 fn_12_0 rfl rfl ?_
  refine R_ld (v := .inr (.inr 182)) dd_shut_5 rfl rfl rfl rfl ?_
  refine R_ld (v := .inl v1) dd_shut_6 rfl rfl rfl rfl ?_
  refine R_call (as := [.inr (.inr 182), .inl v1]) (rest := []) (M' := mm_isDoor) (ls0 := [some (.inr (.inr 182)), some (.inl v1)]) dd_shut_7 rfl rfl (cw_v cw_12_364 io_182 rfl rfl (Nat.le_of_ble_eq_true rfl) (Nat.le_of_ble_eq_true rfl)) mt_isDoor rfl (c := e - 1) (by omega) rfl ?_
  refine R_ld (v := .inl v1) dd_isDoor_0 rfl rfl rfl rfl ?_
  refine R_if dd_isDoor_1 rfl rfl (fun (c3 : v1 < 0) => ?_) (fun (c3 : 0 ≤ v1) => ?_)
  · replace k := k.1 c3
    refine R_ic dd_isDoor_16 (by decide) rfl ?_
    refine R_zret dd_isDoor_17 rfl (by decide) ?_
    change Rn xs xl e mm_shut 10 [some (.inr (.inr 182)), some (.inl v1), some (.inl v2)] [.inl 0] (wr h 182 0 0) _
    refine R_if dd_shut_10 rfl rfl (fun (c4 : 0 = 0) => ?_) (fun (c4 : 0 ≠ 0) => ?_)
    · skip
      refine R_ic dd_shut_27 (by decide) rfl ?_
      exact R_zret dd_shut_28 rfl (by decide) k
    · exact absurd c4 (by omega)
  · replace k := k.2 c3
    refine R_ld (v := .inl v1) dd_isDoor_4 rfl rfl rfl rfl ?_
    refine R_ld (v := .inr (.inr 182)) dd_isDoor_5 rfl rfl rfl rfl ?_
    refine R_call (as := [.inr (.inr 182)]) (rest := [.inl v1]) (M' := mm_doors) (ls0 := [some (.inr (.inr 182))]) dd_isDoor_6 rfl rfl (cw_v cw_12_335 io_182 rfl rfl (Nat.le_of_ble_eq_true rfl) (Nat.le_of_ble_eq_true rfl)) mt_doors rfl (c := e - 2) (by omega) rfl ?_
    refine R_ld (v := .inr (.inr 182)) dd_doors_0 rfl rfl rfl rfl ?_
    refine R_gf (v := .inr (.inr 188)) dd_doors_1 fd_12_95 io_182 (congrArg (fun z : Int => (Sum.inr (Sum.inr z) : LV)) ((rdw_nei (by omega)).trans (rf_182_10 hF))) rfl ?_
    refine R_ic dd_doors_4 (by decide) rfl ?_
    refine R_iald (v := (rd h 188 1)) (n := 300) dd_doors_5 ia_188 la_188 (by decide) (rdw_ne (by decide)) rfl ?_
    refine R_iret dd_doors_6 rfl ?_
    change Rn xs xl (e - 1) mm_isDoor 9 [some (.inr (.inr 182)), some (.inl v1)] [.inl (rd h 188 1), .inl v1] (wr h 182 0 0) _
    refine R_icmp dd_isDoor_9 rfl rfl (fun (c5 : (rd h 188 1) ≤ v1) => ?_) (fun (c5 : v1 < (rd h 188 1)) => ?_)
    · replace k := k.1 c5
      refine R_ic dd_isDoor_16 (by decide) rfl ?_
      refine R_zret dd_isDoor_17 rfl (by decide) ?_
      change Rn xs xl e mm_shut 10 [some (.inr (.inr 182)), some (.inl v1), some (.inl v2)] [.inl 0] (wr h 182 0 0) _
      refine R_if dd_shut_10 rfl rfl (fun (c6 : 0 = 0) => ?_) (fun (c6 : 0 ≠ 0) => ?_)
      · skip
        refine R_ic dd_shut_27 (by decide) rfl ?_
        exact R_zret dd_shut_28 rfl (by decide) k
      · exact absurd c6 (by omega)
    · replace k := k.2 c5
      refine R_ic dd_isDoor_12 (by decide) rfl ?_
      refine R_goto dd_isDoor_13 rfl ?_
      refine R_zret dd_isDoor_17 rfl (by decide) ?_
      change Rn xs xl e mm_shut 10 [some (.inr (.inr 182)), some (.inl v1), some (.inl v2)] [.inl 1] (wr h 182 0 0) _
      refine R_if dd_shut_10 rfl rfl (fun (c7 : 1 = 0) => ?_) (fun (c7 : 1 ≠ 0) => ?_)
      · exact absurd c7 (by omega)
      · skip
        refine R_ld (v := .inr (.inr 182)) dd_shut_13 rfl rfl rfl rfl ?_
        refine R_gf (v := .inr (.inr 198)) dd_shut_14 fd_12_125 io_182 (congrArg (fun z : Int => (Sum.inr (Sum.inr z) : LV)) ((rdw_nei (by omega)).trans (rf_182_24 hF))) rfl ?_
        refine R_ic dd_shut_17 (by decide) rfl ?_
        refine R_iald (v := (rd h 198 1)) (n := 1610) dd_shut_18 ia_198 la_198 (by decide) (rdw_ne (by decide)) rfl ?_
        refine R_ld (v := .inl v1) dd_shut_19 rfl rfl rfl rfl ?_
        refine R_call (as := [.inl (rd h 198 1), .inl v1]) (rest := []) (M' := mm_isIn) (ls0 := [some (.inl (rd h 198 1)), some (.inl v1)]) dd_shut_20 rfl rfl (cw_s cw_12_350 rfl rfl (Nat.le_of_ble_eq_true rfl) (Nat.le_of_ble_eq_true rfl)) mt_isIn rfl (c := e - 1) (by omega) rfl ?_
        refine R_ld (v := .inl (rd h 198 1)) dd_isIn_0 rfl rfl rfl rfl ?_
        refine R_ld (v := .inl v1) dd_isIn_1 rfl rfl rfl rfl ?_
        refine R_A dd_isIn_2 rfl rfl rfl rfl ?_
        refine R_ic dd_isIn_3 (by decide) rfl ?_
        refine R_A dd_isIn_4 rfl rfl rfl rfl ?_
        refine R_ic dd_isIn_5 (by decide) rfl ?_
        refine R_icmp dd_isIn_6 rfl rfl (fun (c8 : (zand (zshr (rd h 198 1) v1) 1) ≠ 1) => ?_) (fun (c8 : (zand (zshr (rd h 198 1) v1) 1) = 1) => ?_)
        · replace k := k.1 c8
          refine R_ic dd_isIn_13 (by decide) rfl ?_
          refine R_zret dd_isIn_14 rfl (by decide) ?_
          change Rn xs xl e mm_shut 23 [some (.inr (.inr 182)), some (.inl v1), some (.inl v2)] [.inl 0] (wr h 182 0 0) _
          refine R_ld (v := .inl v2) dd_shut_23 rfl rfl rfl rfl ?_
          refine R_icmp dd_shut_24 rfl rfl (fun (c9 : 0 ≠ v2) => ?_) (fun (c9 : 0 = v2) => ?_)
          · replace k := k.1 c9
            refine R_ld (v := .inr (.inr 182)) dd_shut_29 rfl rfl rfl rfl ?_
            obtain ⟨c, hc, k⟩ := k
            exact R_call (as := [.inr (.inr 182)]) (rest := []) (M' := mm_keeps) (ls0 := [some (.inr (.inr 182)), none]) dd_shut_30 rfl rfl (cw_v cw_12_380 io_182 rfl rfl (Nat.le_of_ble_eq_true rfl) (Nat.le_of_ble_eq_true rfl)) mt_keeps rfl hc rfl k
          · replace k := k.2 c9
            refine R_ic dd_shut_27 (by decide) rfl ?_
            exact R_zret dd_shut_28 rfl (by decide) k
        · replace k := k.2 c8
          refine R_ic dd_isIn_9 (by decide) rfl ?_
          refine R_goto dd_isIn_10 rfl ?_
          refine R_zret dd_isIn_14 rfl (by decide) ?_
          change Rn xs xl e mm_shut 23 [some (.inr (.inr 182)), some (.inl v1), some (.inl v2)] [.inl 1] (wr h 182 0 0) _
          refine R_ld (v := .inl v2) dd_shut_23 rfl rfl rfl rfl ?_
          refine R_icmp dd_shut_24 rfl rfl (fun (c10 : 1 ≠ v2) => ?_) (fun (c10 : 1 = v2) => ?_)
          · replace k := k.1 c10
            refine R_ld (v := .inr (.inr 182)) dd_shut_29 rfl rfl rfl rfl ?_
            obtain ⟨c, hc, k⟩ := k
            exact R_call (as := [.inr (.inr 182)]) (rest := []) (M' := mm_keeps) (ls0 := [some (.inr (.inr 182)), none]) dd_shut_30 rfl rfl (cw_v cw_12_380 io_182 rfl rfl (Nat.le_of_ble_eq_true rfl) (Nat.le_of_ble_eq_true rfl)) mt_keeps rfl hc rfl k
          · replace k := k.2 c10
            refine R_ic dd_shut_27 (by decide) rfl ?_
            exact R_zret dd_shut_28 rfl (by decide) k
theorem B_shut_33 {xs : Nat → Int} {xl e : Nat} {h : LH} {Q : Option LV → LH → Prop} {v1 v2 : Int} (hF : RF h)
    (k : Q (some (.inl 1)) (wr h 198 1 (zxor (rd h 198 1) (zshl 1 v1)))) :
    Rn xs xl e mm_shut 33 [some (.inr (.inr 182)), some (.inl v1), some (.inl v2)] [] h Q := by
  refine R_ld (v := .inr (.inr 182)) dd_shut_33 rfl rfl rfl rfl ?_
  refine R_gf (v := .inr (.inr 198)) dd_shut_34 fd_12_125 io_182 (congrArg (fun z : Int => (Sum.inr (Sum.inr z) : LV)) (rf_182_24 hF)) rfl ?_
  refine R_ic dd_shut_37 (by decide) rfl ?_
  refine R_A dd_shut_38 rfl rfl rfl rfl ?_
  refine R_iald (v := (rd h 198 1)) (n := 1610) dd_shut_39 ia_198 la_198 (by decide) (rfl) rfl ?_
  refine R_ic dd_shut_40 (by decide) rfl ?_
  refine R_ld (v := .inl v1) dd_shut_41 rfl rfl rfl rfl ?_
  refine R_A dd_shut_42 rfl rfl rfl rfl ?_
  refine R_A dd_shut_43 rfl rfl rfl rfl ?_
  refine R_iast (n := 1610) dd_shut_44 ia_198 la_198 (by decide) rfl ?_
  refine R_ic dd_shut_45 (by decide) rfl ?_
  exact R_zret dd_shut_46 rfl (by decide) k
