section
/-! LM, by program (wip/p2/hand.py): rows of plans: rooms hour by hour -/
def mm_Quarter_entered : LM_M := (⟨"OneSided$Quarter", "entered", "(III)I"⟩, prog_8_method_16_code, 7, (some .int), 6, 4, 0, 872, 870, 871)
def mm_Plans_nextRooms : LM_M := (⟨"OneSided$Plans", "nextRooms", "(LOneSided$Quarter;LOneSided$Scene;III)I"⟩, prog_7_method_4_code, 7, (some .int), 5, 5, 1, 866, 865, 0)
def mm_Plans_firstHourIn : LM_M := (⟨"OneSided$Plans", "firstHourIn", "(LOneSided$Quarter;LOneSided$Scene;II)I"⟩, prog_7_method_2_code, 8, (some .int), 5, 5, 0, 859, 857, 858)
def mm_Scene_firstFreeHour : LM_M := (⟨"OneSided$Scene", "firstFreeHour", "(I)I"⟩, prog_11_method_6_code, 2, (some .int), 9, 2, 0, 863, 861, 862)
def mm_Plans_roomsByTheEnd : LM_M := (⟨"OneSided$Plans", "roomsByTheEnd", "(LOneSided$Quarter;LOneSided$Scene;I)I"⟩, prog_7_method_3_code, 7, (some .int), 5, 4, 0, 916, 914, 915)
def mm_Plans_homeHour : LM_M := (⟨"OneSided$Plans", "homeHour", "(LOneSided$Quarter;LOneSided$Scene;I)I"⟩, prog_7_method_5_code, 11, (some .int), 5, 4, 0, 880, 878, 879)
theorem dd_Quarter_entered_0 : decode mm_Quarter_entered.2.1 0 = .ok (.iconst 0, 1) := by decide +kernel
theorem dd_Quarter_entered_1 : decode mm_Quarter_entered.2.1 1 = .ok (.istore 4, 2) := by decide +kernel
theorem dd_Quarter_entered_3 : decode mm_Quarter_entered.2.1 3 = .ok (.iconst 0, 1) := by decide +kernel
theorem dd_Quarter_entered_4 : decode mm_Quarter_entered.2.1 4 = .ok (.istore 5, 2) := by decide +kernel
theorem dd_Quarter_entered_6 : decode mm_Quarter_entered.2.1 6 = .ok (.iload 5, 2) := by decide +kernel
theorem dd_Quarter_entered_8 : decode mm_Quarter_entered.2.1 8 = .ok (.aload_n 0, 1) := by decide +kernel
theorem dd_Quarter_entered_9 : decode mm_Quarter_entered.2.1 9 = .ok (.getfield 42, 3) := by decide +kernel
theorem dd_Quarter_entered_12 : decode mm_Quarter_entered.2.1 12 = .ok (.if_icmp .ge (84), 3) := by decide +kernel
theorem dd_Quarter_entered_96 : decode mm_Quarter_entered.2.1 96 = .ok (.iload 4, 2) := by decide +kernel
theorem dd_Quarter_entered_98 : decode mm_Quarter_entered.2.1 98 = .ok (.ireturn, 1) := by decide +kernel
theorem dd_Quarter_entered_15 : decode mm_Quarter_entered.2.1 15 = .ok (.aload_n 0, 1) := by decide +kernel
theorem dd_Quarter_entered_16 : decode mm_Quarter_entered.2.1 16 = .ok (.getfield 17, 3) := by decide +kernel
theorem dd_Quarter_entered_19 : decode mm_Quarter_entered.2.1 19 = .ok (.iload 5, 2) := by decide +kernel
theorem dd_Quarter_entered_21 : decode mm_Quarter_entered.2.1 21 = .ok (.aaload, 1) := by decide +kernel
theorem dd_Quarter_entered_22 : decode mm_Quarter_entered.2.1 22 = .ok (.astore 6, 2) := by decide +kernel
theorem dd_Quarter_entered_24 : decode mm_Quarter_entered.2.1 24 = .ok (.iload_n 1, 1) := by decide +kernel
theorem dd_Quarter_entered_25 : decode mm_Quarter_entered.2.1 25 = .ok (.iload 5, 2) := by decide +kernel
theorem dd_Quarter_entered_27 : decode mm_Quarter_entered.2.1 27 = .ok (.ishr, 1) := by decide +kernel
theorem dd_Quarter_entered_28 : decode mm_Quarter_entered.2.1 28 = .ok (.iconst 1, 1) := by decide +kernel
theorem dd_Quarter_entered_29 : decode mm_Quarter_entered.2.1 29 = .ok (.iand, 1) := by decide +kernel
theorem dd_Quarter_entered_30 : decode mm_Quarter_entered.2.1 30 = .ok (.ifCond .eq (27), 3) := by decide +kernel
theorem dd_Quarter_entered_33 : decode mm_Quarter_entered.2.1 33 = .ok (.iload_n 3, 1) := by decide +kernel
theorem dd_Quarter_entered_34 : decode mm_Quarter_entered.2.1 34 = .ok (.aload 6, 2) := by decide +kernel
theorem dd_Quarter_entered_36 : decode mm_Quarter_entered.2.1 36 = .ok (.getfield 77, 3) := by decide +kernel
theorem dd_Quarter_entered_39 : decode mm_Quarter_entered.2.1 39 = .ok (.ishr, 1) := by decide +kernel
theorem dd_Quarter_entered_40 : decode mm_Quarter_entered.2.1 40 = .ok (.iconst 1, 1) := by decide +kernel
theorem dd_Quarter_entered_41 : decode mm_Quarter_entered.2.1 41 = .ok (.iand, 1) := by decide +kernel
theorem dd_Quarter_entered_42 : decode mm_Quarter_entered.2.1 42 = .ok (.ifCond .eq (15), 3) := by decide +kernel
theorem dd_Quarter_entered_45 : decode mm_Quarter_entered.2.1 45 = .ok (.iload 4, 2) := by decide +kernel
theorem dd_Quarter_entered_47 : decode mm_Quarter_entered.2.1 47 = .ok (.iconst 1, 1) := by decide +kernel
theorem dd_Quarter_entered_48 : decode mm_Quarter_entered.2.1 48 = .ok (.aload 6, 2) := by decide +kernel
theorem dd_Quarter_entered_50 : decode mm_Quarter_entered.2.1 50 = .ok (.getfield 70, 3) := by decide +kernel
theorem dd_Quarter_entered_53 : decode mm_Quarter_entered.2.1 53 = .ok (.ishl, 1) := by decide +kernel
theorem dd_Quarter_entered_54 : decode mm_Quarter_entered.2.1 54 = .ok (.ior, 1) := by decide +kernel
theorem dd_Quarter_entered_55 : decode mm_Quarter_entered.2.1 55 = .ok (.istore 4, 2) := by decide +kernel
theorem dd_Quarter_entered_57 : decode mm_Quarter_entered.2.1 57 = .ok (.iload_n 2, 1) := by decide +kernel
theorem dd_Quarter_entered_58 : decode mm_Quarter_entered.2.1 58 = .ok (.iload 5, 2) := by decide +kernel
theorem dd_Quarter_entered_60 : decode mm_Quarter_entered.2.1 60 = .ok (.ishr, 1) := by decide +kernel
theorem dd_Quarter_entered_61 : decode mm_Quarter_entered.2.1 61 = .ok (.iconst 1, 1) := by decide +kernel
theorem dd_Quarter_entered_62 : decode mm_Quarter_entered.2.1 62 = .ok (.iand, 1) := by decide +kernel
theorem dd_Quarter_entered_63 : decode mm_Quarter_entered.2.1 63 = .ok (.ifCond .eq (27), 3) := by decide +kernel
theorem dd_Quarter_entered_90 : decode mm_Quarter_entered.2.1 90 = .ok (.iinc 5 1, 3) := by decide +kernel
theorem dd_Quarter_entered_93 : decode mm_Quarter_entered.2.1 93 = .ok (.goto (-87), 3) := by decide +kernel
theorem dd_Quarter_entered_66 : decode mm_Quarter_entered.2.1 66 = .ok (.iload_n 3, 1) := by decide +kernel
theorem dd_Quarter_entered_67 : decode mm_Quarter_entered.2.1 67 = .ok (.aload 6, 2) := by decide +kernel
theorem dd_Quarter_entered_69 : decode mm_Quarter_entered.2.1 69 = .ok (.getfield 70, 3) := by decide +kernel
theorem dd_Quarter_entered_72 : decode mm_Quarter_entered.2.1 72 = .ok (.ishr, 1) := by decide +kernel
theorem dd_Quarter_entered_73 : decode mm_Quarter_entered.2.1 73 = .ok (.iconst 1, 1) := by decide +kernel
theorem dd_Quarter_entered_74 : decode mm_Quarter_entered.2.1 74 = .ok (.iand, 1) := by decide +kernel
theorem dd_Quarter_entered_75 : decode mm_Quarter_entered.2.1 75 = .ok (.ifCond .eq (15), 3) := by decide +kernel
theorem dd_Quarter_entered_78 : decode mm_Quarter_entered.2.1 78 = .ok (.iload 4, 2) := by decide +kernel
theorem dd_Quarter_entered_80 : decode mm_Quarter_entered.2.1 80 = .ok (.iconst 1, 1) := by decide +kernel
theorem dd_Quarter_entered_81 : decode mm_Quarter_entered.2.1 81 = .ok (.aload 6, 2) := by decide +kernel
theorem dd_Quarter_entered_83 : decode mm_Quarter_entered.2.1 83 = .ok (.getfield 77, 3) := by decide +kernel
theorem dd_Quarter_entered_86 : decode mm_Quarter_entered.2.1 86 = .ok (.ishl, 1) := by decide +kernel
theorem dd_Quarter_entered_87 : decode mm_Quarter_entered.2.1 87 = .ok (.ior, 1) := by decide +kernel
theorem dd_Quarter_entered_88 : decode mm_Quarter_entered.2.1 88 = .ok (.istore 4, 2) := by decide +kernel
theorem dd_Plans_nextRooms_0 : decode mm_Plans_nextRooms.2.1 0 = .ok (.aload_n 0, 1) := by decide +kernel
theorem dd_Plans_nextRooms_1 : decode mm_Plans_nextRooms.2.1 1 = .ok (.iload_n 2, 1) := by decide +kernel
theorem dd_Plans_nextRooms_2 : decode mm_Plans_nextRooms.2.1 2 = .ok (.iload_n 3, 1) := by decide +kernel
theorem dd_Plans_nextRooms_3 : decode mm_Plans_nextRooms.2.1 3 = .ok (.aload_n 1, 1) := by decide +kernel
theorem dd_Plans_nextRooms_4 : decode mm_Plans_nextRooms.2.1 4 = .ok (.getfield 46, 3) := by decide +kernel
theorem fd_5_46 : fld 5 46 = some (9, 1) := by decide +kernel
theorem dd_Plans_nextRooms_7 : decode mm_Plans_nextRooms.2.1 7 = .ok (.invokevirtual 49, 3) := by decide +kernel
theorem cw_5_49 : cwOk 5 49 0 68 4 4 6 = true := by decide +kernel
theorem dd_Plans_nextRooms_10 : decode mm_Plans_nextRooms.2.1 10 = .ok (.istore 5, 2) := by decide +kernel
theorem dd_Plans_nextRooms_12 : decode mm_Plans_nextRooms.2.1 12 = .ok (.aload_n 0, 1) := by decide +kernel
theorem dd_Plans_nextRooms_13 : decode mm_Plans_nextRooms.2.1 13 = .ok (.iload_n 2, 1) := by decide +kernel
theorem dd_Plans_nextRooms_14 : decode mm_Plans_nextRooms.2.1 14 = .ok (.iload_n 3, 1) := by decide +kernel
theorem dd_Plans_nextRooms_15 : decode mm_Plans_nextRooms.2.1 15 = .ok (.aload_n 1, 1) := by decide +kernel
theorem dd_Plans_nextRooms_16 : decode mm_Plans_nextRooms.2.1 16 = .ok (.getfield 46, 3) := by decide +kernel
theorem dd_Plans_nextRooms_19 : decode mm_Plans_nextRooms.2.1 19 = .ok (.invokevirtual 53, 3) := by decide +kernel
theorem cw_5_53 : cwOk 5 53 0 69 4 4 6 = true := by decide +kernel
theorem dd_Plans_nextRooms_22 : decode mm_Plans_nextRooms.2.1 22 = .ok (.istore 6, 2) := by decide +kernel
theorem dd_Plans_nextRooms_24 : decode mm_Plans_nextRooms.2.1 24 = .ok (.aload_n 0, 1) := by decide +kernel
theorem dd_Plans_nextRooms_25 : decode mm_Plans_nextRooms.2.1 25 = .ok (.iload 5, 2) := by decide +kernel
theorem dd_Plans_nextRooms_27 : decode mm_Plans_nextRooms.2.1 27 = .ok (.iload 6, 2) := by decide +kernel
theorem dd_Plans_nextRooms_29 : decode mm_Plans_nextRooms.2.1 29 = .ok (.iload 4, 2) := by decide +kernel
theorem dd_Plans_nextRooms_31 : decode mm_Plans_nextRooms.2.1 31 = .ok (.invokevirtual 56, 3) := by decide +kernel
theorem cw_5_56 : cwOk 5 56 0 84 4 7 6 = true := by decide +kernel
theorem mt_Quarter_entered : MTB 84 = some mm_Quarter_entered := rfl
theorem dd_Plans_nextRooms_34 : decode mm_Plans_nextRooms.2.1 34 = .ok (.ireturn, 1) := by decide +kernel
theorem dd_Plans_firstHourIn_0 : decode mm_Plans_firstHourIn.2.1 0 = .ok (.aload_n 2, 1) := by decide +kernel
theorem dd_Plans_firstHourIn_1 : decode mm_Plans_firstHourIn.2.1 1 = .ok (.getfield 18, 3) := by decide +kernel
theorem fd_5_18 : fld 5 18 = some (9, 4) := by decide +kernel
theorem dd_Plans_firstHourIn_4 : decode mm_Plans_firstHourIn.2.1 4 = .ok (.iload_n 3, 1) := by decide +kernel
theorem dd_Plans_firstHourIn_5 : decode mm_Plans_firstHourIn.2.1 5 = .ok (.iaload, 1) := by decide +kernel
theorem dd_Plans_firstHourIn_6 : decode mm_Plans_firstHourIn.2.1 6 = .ok (.iload 4, 2) := by decide +kernel
theorem dd_Plans_firstHourIn_8 : decode mm_Plans_firstHourIn.2.1 8 = .ok (.if_icmp .ne (8), 3) := by decide +kernel
theorem dd_Plans_firstHourIn_16 : decode mm_Plans_firstHourIn.2.1 16 = .ok (.aload_n 1, 1) := by decide +kernel
theorem dd_Plans_firstHourIn_17 : decode mm_Plans_firstHourIn.2.1 17 = .ok (.getfield 27, 3) := by decide +kernel
theorem fd_5_27 : fld 5 27 = some (6, 3) := by decide +kernel
theorem dd_Plans_firstHourIn_20 : decode mm_Plans_firstHourIn.2.1 20 = .ok (.iload_n 3, 1) := by decide +kernel
theorem dd_Plans_firstHourIn_21 : decode mm_Plans_firstHourIn.2.1 21 = .ok (.aaload, 1) := by decide +kernel
theorem dd_Plans_firstHourIn_22 : decode mm_Plans_firstHourIn.2.1 22 = .ok (.getfield 33, 3) := by decide +kernel
theorem fd_5_33 : fld 5 33 = some (4, 1) := by decide +kernel
theorem dd_Plans_firstHourIn_25 : decode mm_Plans_firstHourIn.2.1 25 = .ok (.istore 5, 2) := by decide +kernel
theorem dd_Plans_firstHourIn_27 : decode mm_Plans_firstHourIn.2.1 27 = .ok (.iconst 1, 1) := by decide +kernel
theorem dd_Plans_firstHourIn_28 : decode mm_Plans_firstHourIn.2.1 28 = .ok (.aload_n 2, 1) := by decide +kernel
theorem dd_Plans_firstHourIn_29 : decode mm_Plans_firstHourIn.2.1 29 = .ok (.getfield 18, 3) := by decide +kernel
theorem dd_Plans_firstHourIn_32 : decode mm_Plans_firstHourIn.2.1 32 = .ok (.iload_n 3, 1) := by decide +kernel
theorem dd_Plans_firstHourIn_33 : decode mm_Plans_firstHourIn.2.1 33 = .ok (.iaload, 1) := by decide +kernel
theorem dd_Plans_firstHourIn_34 : decode mm_Plans_firstHourIn.2.1 34 = .ok (.ishl, 1) := by decide +kernel
theorem dd_Plans_firstHourIn_35 : decode mm_Plans_firstHourIn.2.1 35 = .ok (.istore 6, 2) := by decide +kernel
theorem dd_Plans_firstHourIn_37 : decode mm_Plans_firstHourIn.2.1 37 = .ok (.aload_n 2, 1) := by decide +kernel
theorem dd_Plans_firstHourIn_38 : decode mm_Plans_firstHourIn.2.1 38 = .ok (.iload_n 3, 1) := by decide +kernel
theorem dd_Plans_firstHourIn_39 : decode mm_Plans_firstHourIn.2.1 39 = .ok (.invokevirtual 38, 3) := by decide +kernel
theorem cw_5_38 : cwOk 5 38 0 82 2 2 9 = true := by decide +kernel
theorem mt_Scene_firstFreeHour : MTB 82 = some mm_Scene_firstFreeHour := rfl
theorem dd_Scene_firstFreeHour_0 : decode mm_Scene_firstFreeHour.2.1 0 = .ok (.aload_n 0, 1) := by decide +kernel
theorem dd_Scene_firstFreeHour_1 : decode mm_Scene_firstFreeHour.2.1 1 = .ok (.getfield 18, 3) := by decide +kernel
theorem dd_Scene_firstFreeHour_4 : decode mm_Scene_firstFreeHour.2.1 4 = .ok (.aload_n 0, 1) := by decide +kernel
theorem dd_Scene_firstFreeHour_5 : decode mm_Scene_firstFreeHour.2.1 5 = .ok (.getfield 25, 3) := by decide +kernel
theorem dd_Scene_firstFreeHour_8 : decode mm_Scene_firstFreeHour.2.1 8 = .ok (.iload_n 1, 1) := by decide +kernel
theorem dd_Scene_firstFreeHour_9 : decode mm_Scene_firstFreeHour.2.1 9 = .ok (.ishr, 1) := by decide +kernel
theorem dd_Scene_firstFreeHour_10 : decode mm_Scene_firstFreeHour.2.1 10 = .ok (.iconst 1, 1) := by decide +kernel
theorem dd_Scene_firstFreeHour_11 : decode mm_Scene_firstFreeHour.2.1 11 = .ok (.iand, 1) := by decide +kernel
theorem dd_Scene_firstFreeHour_12 : decode mm_Scene_firstFreeHour.2.1 12 = .ok (.iadd, 1) := by decide +kernel
theorem dd_Scene_firstFreeHour_13 : decode mm_Scene_firstFreeHour.2.1 13 = .ok (.ireturn, 1) := by decide +kernel
theorem dd_Plans_firstHourIn_42 : decode mm_Plans_firstHourIn.2.1 42 = .ok (.istore 7, 2) := by decide +kernel
theorem dd_Plans_firstHourIn_11 : decode mm_Plans_firstHourIn.2.1 11 = .ok (.aload_n 2, 1) := by decide +kernel
theorem dd_Plans_firstHourIn_12 : decode mm_Plans_firstHourIn.2.1 12 = .ok (.getfield 23, 3) := by decide +kernel
theorem fd_5_23 : fld 5 23 = some (9, 0) := by decide +kernel
theorem dd_Plans_firstHourIn_15 : decode mm_Plans_firstHourIn.2.1 15 = .ok (.ireturn, 1) := by decide +kernel
theorem dd_Plans_firstHourIn_44 : decode mm_Plans_firstHourIn.2.1 44 = .ok (.iload 7, 2) := by decide +kernel
theorem dd_Plans_firstHourIn_46 : decode mm_Plans_firstHourIn.2.1 46 = .ok (.bipush 24, 2) := by decide +kernel
theorem dd_Plans_firstHourIn_48 : decode mm_Plans_firstHourIn.2.1 48 = .ok (.if_icmp .ge (38), 3) := by decide +kernel
theorem dd_Plans_firstHourIn_86 : decode mm_Plans_firstHourIn.2.1 86 = .ok (.iconst (-1), 1) := by decide +kernel
theorem dd_Plans_firstHourIn_87 : decode mm_Plans_firstHourIn.2.1 87 = .ok (.ireturn, 1) := by decide +kernel
theorem dd_Plans_firstHourIn_51 : decode mm_Plans_firstHourIn.2.1 51 = .ok (.iload 6, 2) := by decide +kernel
theorem dd_Plans_firstHourIn_53 : decode mm_Plans_firstHourIn.2.1 53 = .ok (.aload_n 1, 1) := by decide +kernel
theorem dd_Plans_firstHourIn_54 : decode mm_Plans_firstHourIn.2.1 54 = .ok (.aload_n 2, 1) := by decide +kernel
theorem dd_Plans_firstHourIn_55 : decode mm_Plans_firstHourIn.2.1 55 = .ok (.iload 5, 2) := by decide +kernel
theorem dd_Plans_firstHourIn_57 : decode mm_Plans_firstHourIn.2.1 57 = .ok (.iload 7, 2) := by decide +kernel
theorem dd_Plans_firstHourIn_59 : decode mm_Plans_firstHourIn.2.1 59 = .ok (.iload 6, 2) := by decide +kernel
theorem dd_Plans_firstHourIn_61 : decode mm_Plans_firstHourIn.2.1 61 = .ok (.invokestatic 42, 3) := by decide +kernel
theorem cw_5_42 : cwOk 5 42 1 83 5 7 5 = true := by decide +kernel
theorem mt_Plans_nextRooms : MTB 83 = some mm_Plans_nextRooms := rfl
theorem dd_Plans_firstHourIn_64 : decode mm_Plans_firstHourIn.2.1 64 = .ok (.ior, 1) := by decide +kernel
theorem dd_Plans_firstHourIn_65 : decode mm_Plans_firstHourIn.2.1 65 = .ok (.istore 6, 2) := by decide +kernel
theorem dd_Plans_firstHourIn_67 : decode mm_Plans_firstHourIn.2.1 67 = .ok (.iload 6, 2) := by decide +kernel
theorem dd_Plans_firstHourIn_69 : decode mm_Plans_firstHourIn.2.1 69 = .ok (.iload 4, 2) := by decide +kernel
theorem dd_Plans_firstHourIn_71 : decode mm_Plans_firstHourIn.2.1 71 = .ok (.ishr, 1) := by decide +kernel
theorem dd_Plans_firstHourIn_72 : decode mm_Plans_firstHourIn.2.1 72 = .ok (.iconst 1, 1) := by decide +kernel
theorem dd_Plans_firstHourIn_73 : decode mm_Plans_firstHourIn.2.1 73 = .ok (.iand, 1) := by decide +kernel
theorem dd_Plans_firstHourIn_74 : decode mm_Plans_firstHourIn.2.1 74 = .ok (.ifCond .eq (6), 3) := by decide +kernel
theorem dd_Plans_firstHourIn_80 : decode mm_Plans_firstHourIn.2.1 80 = .ok (.iinc 7 1, 3) := by decide +kernel
theorem dd_Plans_firstHourIn_83 : decode mm_Plans_firstHourIn.2.1 83 = .ok (.goto (-39), 3) := by decide +kernel
theorem dd_Plans_firstHourIn_77 : decode mm_Plans_firstHourIn.2.1 77 = .ok (.iload 7, 2) := by decide +kernel
theorem dd_Plans_firstHourIn_79 : decode mm_Plans_firstHourIn.2.1 79 = .ok (.ireturn, 1) := by decide +kernel
theorem dd_Plans_roomsByTheEnd_0 : decode mm_Plans_roomsByTheEnd.2.1 0 = .ok (.aload_n 1, 1) := by decide +kernel
theorem dd_Plans_roomsByTheEnd_1 : decode mm_Plans_roomsByTheEnd.2.1 1 = .ok (.getfield 27, 3) := by decide +kernel
theorem dd_Plans_roomsByTheEnd_4 : decode mm_Plans_roomsByTheEnd.2.1 4 = .ok (.iload_n 3, 1) := by decide +kernel
theorem dd_Plans_roomsByTheEnd_5 : decode mm_Plans_roomsByTheEnd.2.1 5 = .ok (.aaload, 1) := by decide +kernel
theorem dd_Plans_roomsByTheEnd_6 : decode mm_Plans_roomsByTheEnd.2.1 6 = .ok (.getfield 33, 3) := by decide +kernel
theorem dd_Plans_roomsByTheEnd_9 : decode mm_Plans_roomsByTheEnd.2.1 9 = .ok (.istore 4, 2) := by decide +kernel
theorem dd_Plans_roomsByTheEnd_11 : decode mm_Plans_roomsByTheEnd.2.1 11 = .ok (.iconst 1, 1) := by decide +kernel
theorem dd_Plans_roomsByTheEnd_12 : decode mm_Plans_roomsByTheEnd.2.1 12 = .ok (.aload_n 2, 1) := by decide +kernel
theorem dd_Plans_roomsByTheEnd_13 : decode mm_Plans_roomsByTheEnd.2.1 13 = .ok (.getfield 18, 3) := by decide +kernel
theorem dd_Plans_roomsByTheEnd_16 : decode mm_Plans_roomsByTheEnd.2.1 16 = .ok (.iload_n 3, 1) := by decide +kernel
theorem dd_Plans_roomsByTheEnd_17 : decode mm_Plans_roomsByTheEnd.2.1 17 = .ok (.iaload, 1) := by decide +kernel
theorem dd_Plans_roomsByTheEnd_18 : decode mm_Plans_roomsByTheEnd.2.1 18 = .ok (.ishl, 1) := by decide +kernel
theorem dd_Plans_roomsByTheEnd_19 : decode mm_Plans_roomsByTheEnd.2.1 19 = .ok (.istore 5, 2) := by decide +kernel
theorem dd_Plans_roomsByTheEnd_21 : decode mm_Plans_roomsByTheEnd.2.1 21 = .ok (.aload_n 2, 1) := by decide +kernel
theorem dd_Plans_roomsByTheEnd_22 : decode mm_Plans_roomsByTheEnd.2.1 22 = .ok (.iload_n 3, 1) := by decide +kernel
theorem dd_Plans_roomsByTheEnd_23 : decode mm_Plans_roomsByTheEnd.2.1 23 = .ok (.invokevirtual 38, 3) := by decide +kernel
theorem dd_Plans_roomsByTheEnd_26 : decode mm_Plans_roomsByTheEnd.2.1 26 = .ok (.istore 6, 2) := by decide +kernel
theorem dd_Plans_roomsByTheEnd_28 : decode mm_Plans_roomsByTheEnd.2.1 28 = .ok (.iload 6, 2) := by decide +kernel
theorem dd_Plans_roomsByTheEnd_30 : decode mm_Plans_roomsByTheEnd.2.1 30 = .ok (.bipush 24, 2) := by decide +kernel
theorem dd_Plans_roomsByTheEnd_32 : decode mm_Plans_roomsByTheEnd.2.1 32 = .ok (.if_icmp .ge (25), 3) := by decide +kernel
theorem dd_Plans_roomsByTheEnd_57 : decode mm_Plans_roomsByTheEnd.2.1 57 = .ok (.iload 5, 2) := by decide +kernel
theorem dd_Plans_roomsByTheEnd_59 : decode mm_Plans_roomsByTheEnd.2.1 59 = .ok (.ireturn, 1) := by decide +kernel
theorem dd_Plans_roomsByTheEnd_35 : decode mm_Plans_roomsByTheEnd.2.1 35 = .ok (.iload 5, 2) := by decide +kernel
theorem dd_Plans_roomsByTheEnd_37 : decode mm_Plans_roomsByTheEnd.2.1 37 = .ok (.aload_n 1, 1) := by decide +kernel
theorem dd_Plans_roomsByTheEnd_38 : decode mm_Plans_roomsByTheEnd.2.1 38 = .ok (.aload_n 2, 1) := by decide +kernel
theorem dd_Plans_roomsByTheEnd_39 : decode mm_Plans_roomsByTheEnd.2.1 39 = .ok (.iload 4, 2) := by decide +kernel
theorem dd_Plans_roomsByTheEnd_41 : decode mm_Plans_roomsByTheEnd.2.1 41 = .ok (.iload 6, 2) := by decide +kernel
theorem dd_Plans_roomsByTheEnd_43 : decode mm_Plans_roomsByTheEnd.2.1 43 = .ok (.iload 5, 2) := by decide +kernel
theorem dd_Plans_roomsByTheEnd_45 : decode mm_Plans_roomsByTheEnd.2.1 45 = .ok (.invokestatic 42, 3) := by decide +kernel
theorem dd_Plans_roomsByTheEnd_48 : decode mm_Plans_roomsByTheEnd.2.1 48 = .ok (.ior, 1) := by decide +kernel
theorem dd_Plans_roomsByTheEnd_49 : decode mm_Plans_roomsByTheEnd.2.1 49 = .ok (.istore 5, 2) := by decide +kernel
theorem dd_Plans_roomsByTheEnd_51 : decode mm_Plans_roomsByTheEnd.2.1 51 = .ok (.iinc 6 1, 3) := by decide +kernel
theorem dd_Plans_roomsByTheEnd_54 : decode mm_Plans_roomsByTheEnd.2.1 54 = .ok (.goto (-26), 3) := by decide +kernel
theorem dd_Plans_homeHour_0 : decode mm_Plans_homeHour.2.1 0 = .ok (.aload_n 1, 1) := by decide +kernel
theorem dd_Plans_homeHour_1 : decode mm_Plans_homeHour.2.1 1 = .ok (.getfield 27, 3) := by decide +kernel
theorem dd_Plans_homeHour_4 : decode mm_Plans_homeHour.2.1 4 = .ok (.iload_n 3, 1) := by decide +kernel
theorem dd_Plans_homeHour_5 : decode mm_Plans_homeHour.2.1 5 = .ok (.aaload, 1) := by decide +kernel
theorem dd_Plans_homeHour_6 : decode mm_Plans_homeHour.2.1 6 = .ok (.astore 4, 2) := by decide +kernel
theorem dd_Plans_homeHour_8 : decode mm_Plans_homeHour.2.1 8 = .ok (.iconst 1, 1) := by decide +kernel
theorem dd_Plans_homeHour_9 : decode mm_Plans_homeHour.2.1 9 = .ok (.aload 4, 2) := by decide +kernel
theorem dd_Plans_homeHour_11 : decode mm_Plans_homeHour.2.1 11 = .ok (.getfield 59, 3) := by decide +kernel
theorem fd_5_59 : fld 5 59 = some (4, 3) := by decide +kernel
theorem dd_Plans_homeHour_14 : decode mm_Plans_homeHour.2.1 14 = .ok (.ishl, 1) := by decide +kernel
theorem dd_Plans_homeHour_15 : decode mm_Plans_homeHour.2.1 15 = .ok (.istore 5, 2) := by decide +kernel
theorem dd_Plans_homeHour_17 : decode mm_Plans_homeHour.2.1 17 = .ok (.aload_n 2, 1) := by decide +kernel
theorem dd_Plans_homeHour_18 : decode mm_Plans_homeHour.2.1 18 = .ok (.getfield 62, 3) := by decide +kernel
theorem fd_5_62 : fld 5 62 = some (9, 3) := by decide +kernel
theorem dd_Plans_homeHour_21 : decode mm_Plans_homeHour.2.1 21 = .ok (.iload_n 3, 1) := by decide +kernel
theorem dd_Plans_homeHour_22 : decode mm_Plans_homeHour.2.1 22 = .ok (.ishr, 1) := by decide +kernel
theorem dd_Plans_homeHour_23 : decode mm_Plans_homeHour.2.1 23 = .ok (.iconst 1, 1) := by decide +kernel
theorem dd_Plans_homeHour_24 : decode mm_Plans_homeHour.2.1 24 = .ok (.iand, 1) := by decide +kernel
theorem dd_Plans_homeHour_25 : decode mm_Plans_homeHour.2.1 25 = .ok (.ifCond .eq (7), 3) := by decide +kernel
theorem dd_Plans_homeHour_32 : decode mm_Plans_homeHour.2.1 32 = .ok (.iconst 0, 1) := by decide +kernel
theorem dd_Plans_homeHour_33 : decode mm_Plans_homeHour.2.1 33 = .ok (.istore 6, 2) := by decide +kernel
theorem dd_Plans_homeHour_28 : decode mm_Plans_homeHour.2.1 28 = .ok (.iconst 1, 1) := by decide +kernel
theorem dd_Plans_homeHour_29 : decode mm_Plans_homeHour.2.1 29 = .ok (.goto 4, 3) := by decide +kernel
theorem dd_Plans_homeHour_35 : decode mm_Plans_homeHour.2.1 35 = .ok (.iload 6, 2) := by decide +kernel
theorem dd_Plans_homeHour_37 : decode mm_Plans_homeHour.2.1 37 = .ok (.ifCond .eq (7), 3) := by decide +kernel
theorem dd_Plans_homeHour_44 : decode mm_Plans_homeHour.2.1 44 = .ok (.iconst 1, 1) := by decide +kernel
theorem dd_Plans_homeHour_45 : decode mm_Plans_homeHour.2.1 45 = .ok (.aload_n 2, 1) := by decide +kernel
theorem dd_Plans_homeHour_46 : decode mm_Plans_homeHour.2.1 46 = .ok (.getfield 18, 3) := by decide +kernel
theorem dd_Plans_homeHour_49 : decode mm_Plans_homeHour.2.1 49 = .ok (.iload_n 3, 1) := by decide +kernel
theorem dd_Plans_homeHour_50 : decode mm_Plans_homeHour.2.1 50 = .ok (.iaload, 1) := by decide +kernel
theorem dd_Plans_homeHour_51 : decode mm_Plans_homeHour.2.1 51 = .ok (.ishl, 1) := by decide +kernel
theorem dd_Plans_homeHour_52 : decode mm_Plans_homeHour.2.1 52 = .ok (.istore 7, 2) := by decide +kernel
theorem dd_Plans_homeHour_40 : decode mm_Plans_homeHour.2.1 40 = .ok (.iconst 0, 1) := by decide +kernel
theorem dd_Plans_homeHour_41 : decode mm_Plans_homeHour.2.1 41 = .ok (.goto 11, 3) := by decide +kernel
theorem dd_Plans_homeHour_54 : decode mm_Plans_homeHour.2.1 54 = .ok (.iload 6, 2) := by decide +kernel
theorem dd_Plans_homeHour_56 : decode mm_Plans_homeHour.2.1 56 = .ok (.ifCond .eq (14), 3) := by decide +kernel
theorem dd_Plans_homeHour_70 : decode mm_Plans_homeHour.2.1 70 = .ok (.iconst 0, 1) := by decide +kernel
theorem dd_Plans_homeHour_71 : decode mm_Plans_homeHour.2.1 71 = .ok (.istore 8, 2) := by decide +kernel
theorem dd_Plans_homeHour_59 : decode mm_Plans_homeHour.2.1 59 = .ok (.iconst 1, 1) := by decide +kernel
theorem dd_Plans_homeHour_60 : decode mm_Plans_homeHour.2.1 60 = .ok (.aload_n 2, 1) := by decide +kernel
theorem dd_Plans_homeHour_61 : decode mm_Plans_homeHour.2.1 61 = .ok (.getfield 18, 3) := by decide +kernel
theorem dd_Plans_homeHour_64 : decode mm_Plans_homeHour.2.1 64 = .ok (.iload_n 3, 1) := by decide +kernel
theorem dd_Plans_homeHour_65 : decode mm_Plans_homeHour.2.1 65 = .ok (.iaload, 1) := by decide +kernel
theorem dd_Plans_homeHour_66 : decode mm_Plans_homeHour.2.1 66 = .ok (.ishl, 1) := by decide +kernel
theorem dd_Plans_homeHour_67 : decode mm_Plans_homeHour.2.1 67 = .ok (.goto 4, 3) := by decide +kernel
theorem dd_Plans_homeHour_73 : decode mm_Plans_homeHour.2.1 73 = .ok (.iload 8, 2) := by decide +kernel
theorem dd_Plans_homeHour_75 : decode mm_Plans_homeHour.2.1 75 = .ok (.aload 4, 2) := by decide +kernel
theorem dd_Plans_homeHour_77 : decode mm_Plans_homeHour.2.1 77 = .ok (.getfield 65, 3) := by decide +kernel
theorem fd_5_65 : fld 5 65 = some (4, 2) := by decide +kernel
theorem dd_Plans_homeHour_80 : decode mm_Plans_homeHour.2.1 80 = .ok (.ishr, 1) := by decide +kernel
theorem dd_Plans_homeHour_81 : decode mm_Plans_homeHour.2.1 81 = .ok (.iconst 1, 1) := by decide +kernel
theorem dd_Plans_homeHour_82 : decode mm_Plans_homeHour.2.1 82 = .ok (.iand, 1) := by decide +kernel
theorem dd_Plans_homeHour_83 : decode mm_Plans_homeHour.2.1 83 = .ok (.ifCond .eq (8), 3) := by decide +kernel
theorem dd_Plans_homeHour_91 : decode mm_Plans_homeHour.2.1 91 = .ok (.aload_n 2, 1) := by decide +kernel
theorem dd_Plans_homeHour_92 : decode mm_Plans_homeHour.2.1 92 = .ok (.iload_n 3, 1) := by decide +kernel
theorem dd_Plans_homeHour_93 : decode mm_Plans_homeHour.2.1 93 = .ok (.invokevirtual 38, 3) := by decide +kernel
theorem dd_Plans_homeHour_96 : decode mm_Plans_homeHour.2.1 96 = .ok (.istore 9, 2) := by decide +kernel
theorem dd_Plans_homeHour_86 : decode mm_Plans_homeHour.2.1 86 = .ok (.aload_n 2, 1) := by decide +kernel
theorem dd_Plans_homeHour_87 : decode mm_Plans_homeHour.2.1 87 = .ok (.getfield 23, 3) := by decide +kernel
theorem dd_Plans_homeHour_90 : decode mm_Plans_homeHour.2.1 90 = .ok (.ireturn, 1) := by decide +kernel
theorem dd_Plans_homeHour_98 : decode mm_Plans_homeHour.2.1 98 = .ok (.iload 9, 2) := by decide +kernel
theorem dd_Plans_homeHour_100 : decode mm_Plans_homeHour.2.1 100 = .ok (.bipush 24, 2) := by decide +kernel
theorem dd_Plans_homeHour_102 : decode mm_Plans_homeHour.2.1 102 = .ok (.if_icmp .ge (78), 3) := by decide +kernel
theorem dd_Plans_homeHour_180 : decode mm_Plans_homeHour.2.1 180 = .ok (.iconst (-1), 1) := by decide +kernel
theorem dd_Plans_homeHour_181 : decode mm_Plans_homeHour.2.1 181 = .ok (.ireturn, 1) := by decide +kernel
theorem dd_Plans_homeHour_105 : decode mm_Plans_homeHour.2.1 105 = .ok (.aload_n 1, 1) := by decide +kernel
theorem dd_Plans_homeHour_106 : decode mm_Plans_homeHour.2.1 106 = .ok (.aload_n 2, 1) := by decide +kernel
theorem dd_Plans_homeHour_107 : decode mm_Plans_homeHour.2.1 107 = .ok (.aload 4, 2) := by decide +kernel
theorem dd_Plans_homeHour_109 : decode mm_Plans_homeHour.2.1 109 = .ok (.getfield 33, 3) := by decide +kernel
theorem dd_Plans_homeHour_112 : decode mm_Plans_homeHour.2.1 112 = .ok (.iload 9, 2) := by decide +kernel
theorem dd_Plans_homeHour_114 : decode mm_Plans_homeHour.2.1 114 = .ok (.iload 7, 2) := by decide +kernel
theorem dd_Plans_homeHour_116 : decode mm_Plans_homeHour.2.1 116 = .ok (.invokestatic 42, 3) := by decide +kernel
theorem dd_Plans_homeHour_119 : decode mm_Plans_homeHour.2.1 119 = .ok (.istore 10, 2) := by decide +kernel
theorem dd_Plans_homeHour_121 : decode mm_Plans_homeHour.2.1 121 = .ok (.iload 8, 2) := by decide +kernel
theorem dd_Plans_homeHour_123 : decode mm_Plans_homeHour.2.1 123 = .ok (.aload_n 1, 1) := by decide +kernel
theorem dd_Plans_homeHour_124 : decode mm_Plans_homeHour.2.1 124 = .ok (.aload_n 2, 1) := by decide +kernel
theorem dd_Plans_homeHour_125 : decode mm_Plans_homeHour.2.1 125 = .ok (.aload 4, 2) := by decide +kernel
theorem dd_Plans_homeHour_127 : decode mm_Plans_homeHour.2.1 127 = .ok (.getfield 33, 3) := by decide +kernel
theorem dd_Plans_homeHour_130 : decode mm_Plans_homeHour.2.1 130 = .ok (.iload 9, 2) := by decide +kernel
theorem dd_Plans_homeHour_132 : decode mm_Plans_homeHour.2.1 132 = .ok (.iload 8, 2) := by decide +kernel
theorem dd_Plans_homeHour_134 : decode mm_Plans_homeHour.2.1 134 = .ok (.invokestatic 42, 3) := by decide +kernel
theorem dd_Plans_homeHour_137 : decode mm_Plans_homeHour.2.1 137 = .ok (.iload 10, 2) := by decide +kernel
theorem dd_Plans_homeHour_139 : decode mm_Plans_homeHour.2.1 139 = .ok (.iload 5, 2) := by decide +kernel
theorem dd_Plans_homeHour_141 : decode mm_Plans_homeHour.2.1 141 = .ok (.iand, 1) := by decide +kernel
theorem dd_Plans_homeHour_142 : decode mm_Plans_homeHour.2.1 142 = .ok (.ior, 1) := by decide +kernel
theorem dd_Plans_homeHour_143 : decode mm_Plans_homeHour.2.1 143 = .ok (.ior, 1) := by decide +kernel
theorem dd_Plans_homeHour_144 : decode mm_Plans_homeHour.2.1 144 = .ok (.istore 8, 2) := by decide +kernel
theorem dd_Plans_homeHour_146 : decode mm_Plans_homeHour.2.1 146 = .ok (.iload 7, 2) := by decide +kernel
theorem dd_Plans_homeHour_148 : decode mm_Plans_homeHour.2.1 148 = .ok (.iload 10, 2) := by decide +kernel
theorem dd_Plans_homeHour_150 : decode mm_Plans_homeHour.2.1 150 = .ok (.iload 5, 2) := by decide +kernel
theorem dd_Plans_homeHour_152 : decode mm_Plans_homeHour.2.1 152 = .ok (.iconst (-1), 1) := by decide +kernel
theorem dd_Plans_homeHour_153 : decode mm_Plans_homeHour.2.1 153 = .ok (.ixor, 1) := by decide +kernel
theorem dd_Plans_homeHour_154 : decode mm_Plans_homeHour.2.1 154 = .ok (.iand, 1) := by decide +kernel
theorem dd_Plans_homeHour_155 : decode mm_Plans_homeHour.2.1 155 = .ok (.ior, 1) := by decide +kernel
theorem dd_Plans_homeHour_156 : decode mm_Plans_homeHour.2.1 156 = .ok (.istore 7, 2) := by decide +kernel
theorem dd_Plans_homeHour_158 : decode mm_Plans_homeHour.2.1 158 = .ok (.iload 8, 2) := by decide +kernel
theorem dd_Plans_homeHour_160 : decode mm_Plans_homeHour.2.1 160 = .ok (.aload 4, 2) := by decide +kernel
theorem dd_Plans_homeHour_162 : decode mm_Plans_homeHour.2.1 162 = .ok (.getfield 65, 3) := by decide +kernel
theorem dd_Plans_homeHour_165 : decode mm_Plans_homeHour.2.1 165 = .ok (.ishr, 1) := by decide +kernel
theorem dd_Plans_homeHour_166 : decode mm_Plans_homeHour.2.1 166 = .ok (.iconst 1, 1) := by decide +kernel
theorem dd_Plans_homeHour_167 : decode mm_Plans_homeHour.2.1 167 = .ok (.iand, 1) := by decide +kernel
theorem dd_Plans_homeHour_168 : decode mm_Plans_homeHour.2.1 168 = .ok (.ifCond .eq (6), 3) := by decide +kernel
theorem dd_Plans_homeHour_174 : decode mm_Plans_homeHour.2.1 174 = .ok (.iinc 9 1, 3) := by decide +kernel
theorem dd_Plans_homeHour_177 : decode mm_Plans_homeHour.2.1 177 = .ok (.goto (-79), 3) := by decide +kernel
theorem dd_Plans_homeHour_171 : decode mm_Plans_homeHour.2.1 171 = .ok (.iload 9, 2) := by decide +kernel
theorem dd_Plans_homeHour_173 : decode mm_Plans_homeHour.2.1 173 = .ok (.ireturn, 1) := by decide +kernel
theorem dd_OneSided_soonest_0 : decode mm_OneSided_soonest.2.1 0 = .ok (.aload_n 0, 1) := by decide +kernel
theorem dd_OneSided_soonest_1 : decode mm_OneSided_soonest.2.1 1 = .ok (.iload_n 1, 1) := by decide +kernel
theorem dd_OneSided_soonest_2 : decode mm_OneSided_soonest.2.1 2 = .ok (.invokevirtual 160, 3) := by decide +kernel
theorem dd_OneSided_soonest_5 : decode mm_OneSided_soonest.2.1 5 = .ok (.ifCond .eq (11), 3) := by decide +kernel
theorem dd_OneSided_soonest_16 : decode mm_OneSided_soonest.2.1 16 = .ok (.iconst (-1), 1) := by decide +kernel
theorem dd_OneSided_soonest_17 : decode mm_OneSided_soonest.2.1 17 = .ok (.ireturn, 1) := by decide +kernel
theorem dd_OneSided_soonest_8 : decode mm_OneSided_soonest.2.1 8 = .ok (.aload_n 0, 1) := by decide +kernel
theorem dd_OneSided_soonest_9 : decode mm_OneSided_soonest.2.1 9 = .ok (.iload_n 2, 1) := by decide +kernel
theorem dd_OneSided_soonest_10 : decode mm_OneSided_soonest.2.1 10 = .ok (.invokevirtual 190, 3) := by decide +kernel
theorem dd_OneSided_soonest_13 : decode mm_OneSided_soonest.2.1 13 = .ok (.ifCond .ne (5), 3) := by decide +kernel
theorem dd_OneSided_soonest_18 : decode mm_OneSided_soonest.2.1 18 = .ok (.aload_n 0, 1) := by decide +kernel
theorem dd_OneSided_soonest_19 : decode mm_OneSided_soonest.2.1 19 = .ok (.getfield 49, 3) := by decide +kernel
theorem fd_11_49 : fld 11 49 = some (11, 10) := by decide +kernel
theorem rf_1_10 {h : LH} (hF : RF h) : rd h 1 10 = 77 := hF 1 10 77 (by decide +kernel) (by decide +kernel)
theorem dd_OneSided_soonest_22 : decode mm_OneSided_soonest.2.1 22 = .ok (.aload_n 0, 1) := by decide +kernel
theorem dd_OneSided_soonest_23 : decode mm_OneSided_soonest.2.1 23 = .ok (.getfield 19, 3) := by decide +kernel
theorem dd_OneSided_soonest_26 : decode mm_OneSided_soonest.2.1 26 = .ok (.aload_n 0, 1) := by decide +kernel
theorem dd_OneSided_soonest_27 : decode mm_OneSided_soonest.2.1 27 = .ok (.getfield 29, 3) := by decide +kernel
theorem dd_OneSided_soonest_30 : decode mm_OneSided_soonest.2.1 30 = .ok (.getfield 149, 3) := by decide +kernel
theorem dd_OneSided_soonest_33 : decode mm_OneSided_soonest.2.1 33 = .ok (.iload_n 1, 1) := by decide +kernel
theorem dd_OneSided_soonest_34 : decode mm_OneSided_soonest.2.1 34 = .ok (.iload_n 2, 1) := by decide +kernel
theorem dd_OneSided_soonest_35 : decode mm_OneSided_soonest.2.1 35 = .ok (.invokevirtual 233, 3) := by decide +kernel
theorem cw_11_233 : cwOk 11 233 0 81 5 8 5 = true := by decide +kernel
theorem io_77 : isO NC 77 5 = true := by decide +kernel
theorem mt_Plans_firstHourIn : MTB 81 = some mm_Plans_firstHourIn := rfl
theorem dd_OneSided_soonest_38 : decode mm_OneSided_soonest.2.1 38 = .ok (.ireturn, 1) := by decide +kernel
theorem dd_OneSided_reach_0 : decode mm_OneSided_reach.2.1 0 = .ok (.aload_n 0, 1) := by decide +kernel
theorem dd_OneSided_reach_1 : decode mm_OneSided_reach.2.1 1 = .ok (.iload_n 1, 1) := by decide +kernel
theorem dd_OneSided_reach_2 : decode mm_OneSided_reach.2.1 2 = .ok (.invokevirtual 160, 3) := by decide +kernel
theorem dd_OneSided_reach_5 : decode mm_OneSided_reach.2.1 5 = .ok (.ifCond .eq (25), 3) := by decide +kernel
theorem dd_OneSided_reach_30 : decode mm_OneSided_reach.2.1 30 = .ok (.iconst (-1), 1) := by decide +kernel
theorem dd_OneSided_reach_31 : decode mm_OneSided_reach.2.1 31 = .ok (.ireturn, 1) := by decide +kernel
theorem dd_OneSided_reach_8 : decode mm_OneSided_reach.2.1 8 = .ok (.aload_n 0, 1) := by decide +kernel
theorem dd_OneSided_reach_9 : decode mm_OneSided_reach.2.1 9 = .ok (.getfield 49, 3) := by decide +kernel
theorem dd_OneSided_reach_12 : decode mm_OneSided_reach.2.1 12 = .ok (.aload_n 0, 1) := by decide +kernel
theorem dd_OneSided_reach_13 : decode mm_OneSided_reach.2.1 13 = .ok (.getfield 19, 3) := by decide +kernel
theorem dd_OneSided_reach_16 : decode mm_OneSided_reach.2.1 16 = .ok (.aload_n 0, 1) := by decide +kernel
theorem dd_OneSided_reach_17 : decode mm_OneSided_reach.2.1 17 = .ok (.getfield 29, 3) := by decide +kernel
theorem dd_OneSided_reach_20 : decode mm_OneSided_reach.2.1 20 = .ok (.getfield 149, 3) := by decide +kernel
theorem dd_OneSided_reach_23 : decode mm_OneSided_reach.2.1 23 = .ok (.iload_n 1, 1) := by decide +kernel
theorem dd_OneSided_reach_24 : decode mm_OneSided_reach.2.1 24 = .ok (.invokevirtual 251, 3) := by decide +kernel
theorem cw_11_251 : cwOk 11 251 0 94 4 7 5 = true := by decide +kernel
theorem mt_Plans_roomsByTheEnd : MTB 94 = some mm_Plans_roomsByTheEnd := rfl
theorem dd_OneSided_reach_27 : decode mm_OneSided_reach.2.1 27 = .ok (.goto 4, 3) := by decide +kernel
theorem dd_OneSided_stuck_0 : decode mm_OneSided_stuck.2.1 0 = .ok (.iconst 0, 1) := by decide +kernel
theorem dd_OneSided_stuck_1 : decode mm_OneSided_stuck.2.1 1 = .ok (.istore_n 1, 1) := by decide +kernel
theorem dd_OneSided_stuck_2 : decode mm_OneSided_stuck.2.1 2 = .ok (.iconst 0, 1) := by decide +kernel
theorem dd_OneSided_stuck_3 : decode mm_OneSided_stuck.2.1 3 = .ok (.istore_n 2, 1) := by decide +kernel
theorem dd_OneSided_stuck_4 : decode mm_OneSided_stuck.2.1 4 = .ok (.iload_n 2, 1) := by decide +kernel
theorem dd_OneSided_stuck_5 : decode mm_OneSided_stuck.2.1 5 = .ok (.aload_n 0, 1) := by decide +kernel
theorem dd_OneSided_stuck_6 : decode mm_OneSided_stuck.2.1 6 = .ok (.getfield 19, 3) := by decide +kernel
theorem dd_OneSided_stuck_9 : decode mm_OneSided_stuck.2.1 9 = .ok (.getfield 254, 3) := by decide +kernel
theorem dd_OneSided_stuck_12 : decode mm_OneSided_stuck.2.1 12 = .ok (.if_icmp .ge (38), 3) := by decide +kernel
theorem dd_OneSided_stuck_50 : decode mm_OneSided_stuck.2.1 50 = .ok (.iload_n 1, 1) := by decide +kernel
theorem dd_OneSided_stuck_51 : decode mm_OneSided_stuck.2.1 51 = .ok (.ireturn, 1) := by decide +kernel
theorem dd_OneSided_stuck_15 : decode mm_OneSided_stuck.2.1 15 = .ok (.aload_n 0, 1) := by decide +kernel
theorem dd_OneSided_stuck_16 : decode mm_OneSided_stuck.2.1 16 = .ok (.getfield 49, 3) := by decide +kernel
theorem dd_OneSided_stuck_19 : decode mm_OneSided_stuck.2.1 19 = .ok (.aload_n 0, 1) := by decide +kernel
theorem dd_OneSided_stuck_20 : decode mm_OneSided_stuck.2.1 20 = .ok (.getfield 19, 3) := by decide +kernel
theorem dd_OneSided_stuck_23 : decode mm_OneSided_stuck.2.1 23 = .ok (.aload_n 0, 1) := by decide +kernel
theorem dd_OneSided_stuck_24 : decode mm_OneSided_stuck.2.1 24 = .ok (.getfield 29, 3) := by decide +kernel
theorem dd_OneSided_stuck_27 : decode mm_OneSided_stuck.2.1 27 = .ok (.getfield 149, 3) := by decide +kernel
theorem dd_OneSided_stuck_30 : decode mm_OneSided_stuck.2.1 30 = .ok (.iload_n 2, 1) := by decide +kernel
theorem dd_OneSided_stuck_31 : decode mm_OneSided_stuck.2.1 31 = .ok (.invokevirtual 237, 3) := by decide +kernel
theorem cw_11_237 : cwOk 11 237 0 86 4 11 5 = true := by decide +kernel
theorem mt_Plans_homeHour : MTB 86 = some mm_Plans_homeHour := rfl
theorem dd_OneSided_stuck_34 : decode mm_OneSided_stuck.2.1 34 = .ok (.iconst (-1), 1) := by decide +kernel
theorem dd_OneSided_stuck_35 : decode mm_OneSided_stuck.2.1 35 = .ok (.if_icmp .ne (9), 3) := by decide +kernel
theorem dd_OneSided_stuck_44 : decode mm_OneSided_stuck.2.1 44 = .ok (.iinc 2 1, 3) := by decide +kernel
theorem dd_OneSided_stuck_47 : decode mm_OneSided_stuck.2.1 47 = .ok (.goto (-43), 3) := by decide +kernel
theorem dd_OneSided_stuck_38 : decode mm_OneSided_stuck.2.1 38 = .ok (.iload_n 1, 1) := by decide +kernel
theorem dd_OneSided_stuck_39 : decode mm_OneSided_stuck.2.1 39 = .ok (.iconst 1, 1) := by decide +kernel
theorem dd_OneSided_stuck_40 : decode mm_OneSided_stuck.2.1 40 = .ok (.iload_n 2, 1) := by decide +kernel
theorem dd_OneSided_stuck_41 : decode mm_OneSided_stuck.2.1 41 = .ok (.ishl, 1) := by decide +kernel
theorem dd_OneSided_stuck_42 : decode mm_OneSided_stuck.2.1 42 = .ok (.ior, 1) := by decide +kernel
theorem dd_OneSided_stuck_43 : decode mm_OneSided_stuck.2.1 43 = .ok (.istore_n 1, 1) := by decide +kernel
theorem dd_soonest_0 : decode mm_soonest.2.1 0 = .ok (.aload_n 0, 1) := by decide +kernel
theorem dd_soonest_1 : decode mm_soonest.2.1 1 = .ok (.iconst 0, 1) := by decide +kernel
theorem dd_soonest_2 : decode mm_soonest.2.1 2 = .ok (.putfield 1, 3) := by decide +kernel
theorem dd_soonest_5 : decode mm_soonest.2.1 5 = .ok (.aload_n 0, 1) := by decide +kernel
theorem dd_soonest_6 : decode mm_soonest.2.1 6 = .ok (.iload_n 1, 1) := by decide +kernel
theorem dd_soonest_7 : decode mm_soonest.2.1 7 = .ok (.invokevirtual 367, 3) := by decide +kernel
theorem dd_soonest_10 : decode mm_soonest.2.1 10 = .ok (.ifCond .eq (30), 3) := by decide +kernel
theorem dd_soonest_40 : decode mm_soonest.2.1 40 = .ok (.iconst (-1), 1) := by decide +kernel
theorem dd_soonest_41 : decode mm_soonest.2.1 41 = .ok (.ireturn, 1) := by decide +kernel
theorem dd_soonest_13 : decode mm_soonest.2.1 13 = .ok (.aload_n 0, 1) := by decide +kernel
theorem dd_soonest_14 : decode mm_soonest.2.1 14 = .ok (.iload_n 2, 1) := by decide +kernel
theorem dd_soonest_15 : decode mm_soonest.2.1 15 = .ok (.invokevirtual 370, 3) := by decide +kernel
theorem dd_soonest_18 : decode mm_soonest.2.1 18 = .ok (.ifCond .eq (22), 3) := by decide +kernel
theorem dd_soonest_21 : decode mm_soonest.2.1 21 = .ok (.aload_n 0, 1) := by decide +kernel
theorem dd_soonest_22 : decode mm_soonest.2.1 22 = .ok (.iconst 0, 1) := by decide +kernel
theorem dd_soonest_23 : decode mm_soonest.2.1 23 = .ok (.iload_n 1, 1) := by decide +kernel
theorem dd_soonest_24 : decode mm_soonest.2.1 24 = .ok (.iconst 1, 1) := by decide +kernel
theorem dd_soonest_25 : decode mm_soonest.2.1 25 = .ok (.iload_n 2, 1) := by decide +kernel
theorem dd_soonest_26 : decode mm_soonest.2.1 26 = .ok (.ishl, 1) := by decide +kernel
theorem dd_soonest_27 : decode mm_soonest.2.1 27 = .ok (.iconst 1, 1) := by decide +kernel
theorem dd_soonest_28 : decode mm_soonest.2.1 28 = .ok (.bipush 10, 2) := by decide +kernel
theorem dd_soonest_30 : decode mm_soonest.2.1 30 = .ok (.iload_n 2, 1) := by decide +kernel
theorem dd_soonest_31 : decode mm_soonest.2.1 31 = .ok (.iadd, 1) := by decide +kernel
theorem dd_soonest_32 : decode mm_soonest.2.1 32 = .ok (.ishl, 1) := by decide +kernel
theorem dd_soonest_33 : decode mm_soonest.2.1 33 = .ok (.ior, 1) := by decide +kernel
theorem dd_soonest_34 : decode mm_soonest.2.1 34 = .ok (.invokevirtual 393, 3) := by decide +kernel
theorem dd_soonest_37 : decode mm_soonest.2.1 37 = .ok (.goto 4, 3) := by decide +kernel
theorem dd_reach_0 : decode mm_reach.2.1 0 = .ok (.aload_n 0, 1) := by decide +kernel
theorem dd_reach_1 : decode mm_reach.2.1 1 = .ok (.iconst 0, 1) := by decide +kernel
theorem dd_reach_2 : decode mm_reach.2.1 2 = .ok (.putfield 1, 3) := by decide +kernel
theorem dd_reach_5 : decode mm_reach.2.1 5 = .ok (.aload_n 0, 1) := by decide +kernel
theorem dd_reach_6 : decode mm_reach.2.1 6 = .ok (.iload_n 1, 1) := by decide +kernel
theorem dd_reach_7 : decode mm_reach.2.1 7 = .ok (.invokevirtual 367, 3) := by decide +kernel
theorem dd_reach_10 : decode mm_reach.2.1 10 = .ok (.ifCond .ne (5), 3) := by decide +kernel
theorem dd_reach_13 : decode mm_reach.2.1 13 = .ok (.iconst (-1), 1) := by decide +kernel
theorem dd_reach_14 : decode mm_reach.2.1 14 = .ok (.ireturn, 1) := by decide +kernel
theorem dd_reach_15 : decode mm_reach.2.1 15 = .ok (.aload_n 0, 1) := by decide +kernel
theorem dd_reach_16 : decode mm_reach.2.1 16 = .ok (.iconst 0, 1) := by decide +kernel
theorem dd_reach_17 : decode mm_reach.2.1 17 = .ok (.iload_n 1, 1) := by decide +kernel
theorem dd_reach_18 : decode mm_reach.2.1 18 = .ok (.invokevirtual 386, 3) := by decide +kernel
theorem dd_reach_21 : decode mm_reach.2.1 21 = .ok (.istore_n 2, 1) := by decide +kernel
theorem dd_reach_22 : decode mm_reach.2.1 22 = .ok (.aload_n 0, 1) := by decide +kernel
theorem dd_reach_23 : decode mm_reach.2.1 23 = .ok (.getfield 125, 3) := by decide +kernel
theorem dd_reach_26 : decode mm_reach.2.1 26 = .ok (.iconst 0, 1) := by decide +kernel
theorem dd_reach_27 : decode mm_reach.2.1 27 = .ok (.iaload, 1) := by decide +kernel
theorem dd_reach_28 : decode mm_reach.2.1 28 = .ok (.aload_n 0, 1) := by decide +kernel
theorem dd_reach_29 : decode mm_reach.2.1 29 = .ok (.getfield 125, 3) := by decide +kernel
theorem dd_reach_32 : decode mm_reach.2.1 32 = .ok (.bipush 14, 2) := by decide +kernel
theorem dd_reach_34 : decode mm_reach.2.1 34 = .ok (.iload_n 1, 1) := by decide +kernel
theorem dd_reach_35 : decode mm_reach.2.1 35 = .ok (.iadd, 1) := by decide +kernel
theorem dd_reach_36 : decode mm_reach.2.1 36 = .ok (.iaload, 1) := by decide +kernel
theorem dd_reach_37 : decode mm_reach.2.1 37 = .ok (.iadd, 1) := by decide +kernel
theorem dd_reach_38 : decode mm_reach.2.1 38 = .ok (.istore_n 3, 1) := by decide +kernel
theorem dd_reach_39 : decode mm_reach.2.1 39 = .ok (.iload_n 3, 1) := by decide +kernel
theorem dd_reach_40 : decode mm_reach.2.1 40 = .ok (.bipush 24, 2) := by decide +kernel
theorem dd_reach_42 : decode mm_reach.2.1 42 = .ok (.if_icmp .ge (18), 3) := by decide +kernel
theorem dd_reach_60 : decode mm_reach.2.1 60 = .ok (.iload_n 2, 1) := by decide +kernel
theorem dd_reach_61 : decode mm_reach.2.1 61 = .ok (.iload_n 2, 1) := by decide +kernel
theorem dd_reach_62 : decode mm_reach.2.1 62 = .ok (.bipush 10, 2) := by decide +kernel
theorem dd_reach_64 : decode mm_reach.2.1 64 = .ok (.ishr, 1) := by decide +kernel
theorem dd_reach_65 : decode mm_reach.2.1 65 = .ok (.ior, 1) := by decide +kernel
theorem dd_reach_66 : decode mm_reach.2.1 66 = .ok (.sipush 1023, 3) := by decide +kernel
theorem dd_reach_69 : decode mm_reach.2.1 69 = .ok (.iand, 1) := by decide +kernel
theorem dd_reach_70 : decode mm_reach.2.1 70 = .ok (.ireturn, 1) := by decide +kernel
theorem dd_reach_45 : decode mm_reach.2.1 45 = .ok (.aload_n 0, 1) := by decide +kernel
theorem dd_reach_46 : decode mm_reach.2.1 46 = .ok (.iconst 0, 1) := by decide +kernel
theorem dd_reach_47 : decode mm_reach.2.1 47 = .ok (.iload_n 1, 1) := by decide +kernel
theorem dd_reach_48 : decode mm_reach.2.1 48 = .ok (.iload_n 2, 1) := by decide +kernel
theorem dd_reach_49 : decode mm_reach.2.1 49 = .ok (.iload_n 3, 1) := by decide +kernel
theorem dd_reach_50 : decode mm_reach.2.1 50 = .ok (.invokevirtual 389, 3) := by decide +kernel
theorem dd_reach_53 : decode mm_reach.2.1 53 = .ok (.istore_n 2, 1) := by decide +kernel
theorem dd_reach_54 : decode mm_reach.2.1 54 = .ok (.iinc 3 1, 3) := by decide +kernel
theorem dd_reach_57 : decode mm_reach.2.1 57 = .ok (.goto (-18), 3) := by decide +kernel
theorem dd_stuck_0 : decode mm_stuck.2.1 0 = .ok (.aload_n 0, 1) := by decide +kernel
theorem dd_stuck_1 : decode mm_stuck.2.1 1 = .ok (.iconst 0, 1) := by decide +kernel
theorem dd_stuck_2 : decode mm_stuck.2.1 2 = .ok (.putfield 1, 3) := by decide +kernel
theorem dd_stuck_5 : decode mm_stuck.2.1 5 = .ok (.iconst 0, 1) := by decide +kernel
theorem dd_stuck_6 : decode mm_stuck.2.1 6 = .ok (.istore_n 1, 1) := by decide +kernel
theorem dd_stuck_7 : decode mm_stuck.2.1 7 = .ok (.iconst 0, 1) := by decide +kernel
theorem dd_stuck_8 : decode mm_stuck.2.1 8 = .ok (.istore_n 2, 1) := by decide +kernel
theorem dd_stuck_9 : decode mm_stuck.2.1 9 = .ok (.iload_n 2, 1) := by decide +kernel
theorem dd_stuck_10 : decode mm_stuck.2.1 10 = .ok (.aload_n 0, 1) := by decide +kernel
theorem dd_stuck_11 : decode mm_stuck.2.1 11 = .ok (.invokevirtual 338, 3) := by decide +kernel
theorem dd_stuck_14 : decode mm_stuck.2.1 14 = .ok (.if_icmp .ge (28), 3) := by decide +kernel
theorem dd_stuck_42 : decode mm_stuck.2.1 42 = .ok (.iload_n 1, 1) := by decide +kernel
theorem dd_stuck_43 : decode mm_stuck.2.1 43 = .ok (.ireturn, 1) := by decide +kernel
theorem dd_stuck_17 : decode mm_stuck.2.1 17 = .ok (.iload_n 1, 1) := by decide +kernel
theorem dd_stuck_18 : decode mm_stuck.2.1 18 = .ok (.aload_n 0, 1) := by decide +kernel
theorem dd_stuck_19 : decode mm_stuck.2.1 19 = .ok (.iconst 0, 1) := by decide +kernel
theorem dd_stuck_20 : decode mm_stuck.2.1 20 = .ok (.iload_n 2, 1) := by decide +kernel
theorem dd_stuck_21 : decode mm_stuck.2.1 21 = .ok (.invokevirtual 397, 3) := by decide +kernel
theorem dd_stuck_24 : decode mm_stuck.2.1 24 = .ok (.ifCond .ge (9), 3) := by decide +kernel
theorem dd_stuck_33 : decode mm_stuck.2.1 33 = .ok (.iconst 0, 1) := by decide +kernel
theorem dd_stuck_34 : decode mm_stuck.2.1 34 = .ok (.ior, 1) := by decide +kernel
theorem dd_stuck_35 : decode mm_stuck.2.1 35 = .ok (.istore_n 1, 1) := by decide +kernel
theorem dd_stuck_36 : decode mm_stuck.2.1 36 = .ok (.iinc 2 1, 3) := by decide +kernel
theorem dd_stuck_39 : decode mm_stuck.2.1 39 = .ok (.goto (-30), 3) := by decide +kernel
theorem dd_stuck_27 : decode mm_stuck.2.1 27 = .ok (.iconst 1, 1) := by decide +kernel
theorem dd_stuck_28 : decode mm_stuck.2.1 28 = .ok (.iload_n 2, 1) := by decide +kernel
theorem dd_stuck_29 : decode mm_stuck.2.1 29 = .ok (.ishl, 1) := by decide +kernel
theorem dd_stuck_30 : decode mm_stuck.2.1 30 = .ok (.goto 4, 3) := by decide +kernel
theorem B_Quarter_entered_0 {xs : Nat → Int} {xl e : Nat} {h : LH} {Q : Option LV → LH → Prop} {v1 v2 v3 : Int} {q : Int} (hq : q = 5 ∨ q = 32) (hF : RF h)
    (k : Rn xs xl e mm_Quarter_entered 6 [some (.inr (.inr q)), some (.inl v1), some (.inl v2), some (.inl v3), some (.inl 0), some (.inl 0), none] [] h Q) :
    Rn xs xl e mm_Quarter_entered 0 [some (.inr (.inr q)), some (.inl v1), some (.inl v2), some (.inl v3), none, none, none] [] h Q := by
  refine R_ic dd_Quarter_entered_0 (by decide) rfl ?_
  refine R_st (ls' := [some (.inr (.inr q)), some (.inl v1), some (.inl v2), some (.inl v3), some (.inl 0), none, none]) dd_Quarter_entered_1 rfl rfl rfl (Nat.le_of_ble_eq_true rfl) rfl rfl ?_
  refine R_ic dd_Quarter_entered_3 (by decide) rfl ?_
  refine R_st (ls' := [some (.inr (.inr q)), some (.inl v1), some (.inl v2), some (.inl v3), some (.inl 0), some (.inl 0), none]) dd_Quarter_entered_4 rfl rfl rfl (Nat.le_of_ble_eq_true rfl) rfl rfl ?_
  exact k
theorem B_Quarter_entered_6 {xs : Nat → Int} {xl e : Nat} {h : LH} {Q : Option LV → LH → Prop} {v1 v2 v3 v4 v5 : Int} {q : Int} (hq : q = 5 ∨ q = 32) {o6 : Option LV} (hF : RF h) (hP : PT h) (r_v5 : 0 ≤ v5 ∧ v5 ≤ 14)
    (k : ((rd h q 2) ≤ v5 →
        Q (some (.inl v4)) h) ∧
      (v5 < (rd h q 2) →
        (0 ≤ v5 ∧ v5 < 14) ∧
        ((zand (zshr v1 v5) 1) = 0 →
          Rn xs xl e mm_Quarter_entered 57 [some (.inr (.inr q)), some (.inl v1), some (.inl v2), some (.inl v3), some (.inl v4), some (.inl v5), some (.inr (.inr (q + 7 + v5)))] [] h Q) ∧
        ((zand (zshr v1 v5) 1) ≠ 0 →
          ((zand (zshr v3 (rd h (q + 7 + v5) 2)) 1) = 0 →
            Rn xs xl e mm_Quarter_entered 57 [some (.inr (.inr q)), some (.inl v1), some (.inl v2), some (.inl v3), some (.inl v4), some (.inl v5), some (.inr (.inr (q + 7 + v5)))] [] h Q) ∧
          ((zand (zshr v3 (rd h (q + 7 + v5) 2)) 1) ≠ 0 →
            Rn xs xl e mm_Quarter_entered 57 [some (.inr (.inr q)), some (.inl v1), some (.inl v2), some (.inl v3), some (.inl (zor v4 (zshl 1 (rd h (q + 7 + v5) 3)))), some (.inl v5), some (.inr (.inr (q + 7 + v5)))] [] h Q)))) :
    Rn xs xl e mm_Quarter_entered 6 [some (.inr (.inr q)), some (.inl v1), some (.inl v2), some (.inl v3), some (.inl v4), some (.inl v5), o6] [] h Q := by
  refine R_ld (v := .inl v5) dd_Quarter_entered_6 rfl rfl rfl rfl ?_
  refine R_ld (v := .inr (.inr q)) dd_Quarter_entered_8 rfl rfl rfl rfl ?_
  refine R_gf (v := .inl (rd h q 2)) dd_Quarter_entered_9 fd_6_42 (io_q hq) (congrArg (fun z : Int => (Sum.inl z : LV)) (rfl)) rfl ?_
  refine R_icmp dd_Quarter_entered_12 rfl rfl (fun (c2 : (rd h q 2) ≤ v5) => ?_) (fun (c2 : v5 < (rd h q 2)) => ?_)
  · replace k := k.1 c2
    refine R_ld (v := .inl v4) dd_Quarter_entered_96 rfl rfl rfl rfl ?_
    exact R_iret dd_Quarter_entered_98 rfl k
  · replace k := k.2 c2
    refine R_ld (v := .inr (.inr q)) dd_Quarter_entered_15 rfl rfl rfl rfl ?_
    refine R_gf (v := .inr (.inr (q + 1))) dd_Quarter_entered_16 fd_6_17 (io_q hq) (congrArg (fun z : Int => (Sum.inr (Sum.inr z) : LV)) (rq_arr hF hq)) rfl ?_
    refine R_ld (v := .inl v5) dd_Quarter_entered_19 rfl rfl rfl rfl ?_
    obtain ⟨s1, k⟩ := k
    refine R_aald (v := (q + 7 + v5)) (n := 14) dd_Quarter_entered_21 (ia_dq hq) (la_dq hq) s1 (rq_d hP hq s1) rfl ?_
    refine R_st (ls' := [some (.inr (.inr q)), some (.inl v1), some (.inl v2), some (.inl v3), some (.inl v4), some (.inl v5), some (.inr (.inr (q + 7 + v5)))]) dd_Quarter_entered_22 rfl rfl rfl (Nat.le_of_ble_eq_true rfl) rfl rfl ?_
    refine R_ld (v := .inl v1) dd_Quarter_entered_24 rfl rfl rfl rfl ?_
    refine R_ld (v := .inl v5) dd_Quarter_entered_25 rfl rfl rfl rfl ?_
    refine R_A dd_Quarter_entered_27 rfl rfl rfl rfl ?_
    refine R_ic dd_Quarter_entered_28 (by decide) rfl ?_
    refine R_A dd_Quarter_entered_29 rfl rfl rfl rfl ?_
    refine R_if dd_Quarter_entered_30 rfl rfl (fun (c3 : (zand (zshr v1 v5) 1) = 0) => ?_) (fun (c3 : (zand (zshr v1 v5) 1) ≠ 0) => ?_)
    · replace k := k.1 c3
      exact k
    · replace k := k.2 c3
      refine R_ld (v := .inl v3) dd_Quarter_entered_33 rfl rfl rfl rfl ?_
      refine R_ld (v := .inr (.inr (q + 7 + v5))) dd_Quarter_entered_34 rfl rfl rfl rfl ?_
      refine R_gf (v := .inl (rd h (q + 7 + v5) 2)) dd_Quarter_entered_36 fd_6_77 (io_d hq (by omega)) (congrArg (fun z : Int => (Sum.inl z : LV)) (rfl)) rfl ?_
      refine R_A dd_Quarter_entered_39 rfl rfl rfl rfl ?_
      refine R_ic dd_Quarter_entered_40 (by decide) rfl ?_
      refine R_A dd_Quarter_entered_41 rfl rfl rfl rfl ?_
      refine R_if dd_Quarter_entered_42 rfl rfl (fun (c4 : (zand (zshr v3 (rd h (q + 7 + v5) 2)) 1) = 0) => ?_) (fun (c4 : (zand (zshr v3 (rd h (q + 7 + v5) 2)) 1) ≠ 0) => ?_)
      · replace k := k.1 c4
        exact k
      · replace k := k.2 c4
        refine R_ld (v := .inl v4) dd_Quarter_entered_45 rfl rfl rfl rfl ?_
        refine R_ic dd_Quarter_entered_47 (by decide) rfl ?_
        refine R_ld (v := .inr (.inr (q + 7 + v5))) dd_Quarter_entered_48 rfl rfl rfl rfl ?_
        refine R_gf (v := .inl (rd h (q + 7 + v5) 3)) dd_Quarter_entered_50 fd_6_70 (io_d hq (by omega)) (congrArg (fun z : Int => (Sum.inl z : LV)) (rfl)) rfl ?_
        refine R_A dd_Quarter_entered_53 rfl rfl rfl rfl ?_
        refine R_A dd_Quarter_entered_54 rfl rfl rfl rfl ?_
        refine R_st (ls' := [some (.inr (.inr q)), some (.inl v1), some (.inl v2), some (.inl v3), some (.inl (zor v4 (zshl 1 (rd h (q + 7 + v5) 3)))), some (.inl v5), some (.inr (.inr (q + 7 + v5)))]) dd_Quarter_entered_55 rfl rfl rfl (Nat.le_of_ble_eq_true rfl) rfl rfl ?_
        exact k
theorem B_Quarter_entered_57 {xs : Nat → Int} {xl e : Nat} {h : LH} {Q : Option LV → LH → Prop} {v1 v2 v3 v4 v5 : Int} {q : Int} (hq : q = 5 ∨ q = 32) (hF : RF h) (r_v5 : 0 ≤ v5 ∧ v5 ≤ 13)
    (k : ((zand (zshr v2 v5) 1) = 0 →
        Rn xs xl e mm_Quarter_entered 6 [some (.inr (.inr q)), some (.inl v1), some (.inl v2), some (.inl v3), some (.inl v4), some (.inl (v5 + 1)), some (.inr (.inr (q + 7 + v5)))] [] h Q) ∧
      ((zand (zshr v2 v5) 1) ≠ 0 →
        ((zand (zshr v3 (rd h (q + 7 + v5) 3)) 1) = 0 →
          Rn xs xl e mm_Quarter_entered 6 [some (.inr (.inr q)), some (.inl v1), some (.inl v2), some (.inl v3), some (.inl v4), some (.inl (v5 + 1)), some (.inr (.inr (q + 7 + v5)))] [] h Q) ∧
        ((zand (zshr v3 (rd h (q + 7 + v5) 3)) 1) ≠ 0 →
          Rn xs xl e mm_Quarter_entered 6 [some (.inr (.inr q)), some (.inl v1), some (.inl v2), some (.inl v3), some (.inl (zor v4 (zshl 1 (rd h (q + 7 + v5) 2)))), some (.inl (v5 + 1)), some (.inr (.inr (q + 7 + v5)))] [] h Q))) :
    Rn xs xl e mm_Quarter_entered 57 [some (.inr (.inr q)), some (.inl v1), some (.inl v2), some (.inl v3), some (.inl v4), some (.inl v5), some (.inr (.inr (q + 7 + v5)))] [] h Q := by
  refine R_ld (v := .inl v2) dd_Quarter_entered_57 rfl rfl rfl rfl ?_
  refine R_ld (v := .inl v5) dd_Quarter_entered_58 rfl rfl rfl rfl ?_
  refine R_A dd_Quarter_entered_60 rfl rfl rfl rfl ?_
  refine R_ic dd_Quarter_entered_61 (by decide) rfl ?_
  refine R_A dd_Quarter_entered_62 rfl rfl rfl rfl ?_
  refine R_if dd_Quarter_entered_63 rfl rfl (fun (c1 : (zand (zshr v2 v5) 1) = 0) => ?_) (fun (c1 : (zand (zshr v2 v5) 1) ≠ 0) => ?_)
  · replace k := k.1 c1
    refine R_inc (y := v5 + 1) (ls' := [some (.inr (.inr q)), some (.inl v1), some (.inl v2), some (.inl v3), some (.inl v4), some (.inl (v5 + 1)), some (.inr (.inr (q + 7 + v5)))]) dd_Quarter_entered_90 rfl (by decide) (by omega) (by omega) rfl rfl ?_
    refine R_goto dd_Quarter_entered_93 rfl ?_
    exact k
  · replace k := k.2 c1
    refine R_ld (v := .inl v3) dd_Quarter_entered_66 rfl rfl rfl rfl ?_
    refine R_ld (v := .inr (.inr (q + 7 + v5))) dd_Quarter_entered_67 rfl rfl rfl rfl ?_
    refine R_gf (v := .inl (rd h (q + 7 + v5) 3)) dd_Quarter_entered_69 fd_6_70 (io_d hq (by omega)) (congrArg (fun z : Int => (Sum.inl z : LV)) (rfl)) rfl ?_
    refine R_A dd_Quarter_entered_72 rfl rfl rfl rfl ?_
    refine R_ic dd_Quarter_entered_73 (by decide) rfl ?_
    refine R_A dd_Quarter_entered_74 rfl rfl rfl rfl ?_
    refine R_if dd_Quarter_entered_75 rfl rfl (fun (c2 : (zand (zshr v3 (rd h (q + 7 + v5) 3)) 1) = 0) => ?_) (fun (c2 : (zand (zshr v3 (rd h (q + 7 + v5) 3)) 1) ≠ 0) => ?_)
    · replace k := k.1 c2
      refine R_inc (y := v5 + 1) (ls' := [some (.inr (.inr q)), some (.inl v1), some (.inl v2), some (.inl v3), some (.inl v4), some (.inl (v5 + 1)), some (.inr (.inr (q + 7 + v5)))]) dd_Quarter_entered_90 rfl (by decide) (by omega) (by omega) rfl rfl ?_
      refine R_goto dd_Quarter_entered_93 rfl ?_
      exact k
    · replace k := k.2 c2
      refine R_ld (v := .inl v4) dd_Quarter_entered_78 rfl rfl rfl rfl ?_
      refine R_ic dd_Quarter_entered_80 (by decide) rfl ?_
      refine R_ld (v := .inr (.inr (q + 7 + v5))) dd_Quarter_entered_81 rfl rfl rfl rfl ?_
      refine R_gf (v := .inl (rd h (q + 7 + v5) 2)) dd_Quarter_entered_83 fd_6_77 (io_d hq (by omega)) (congrArg (fun z : Int => (Sum.inl z : LV)) (rfl)) rfl ?_
      refine R_A dd_Quarter_entered_86 rfl rfl rfl rfl ?_
      refine R_A dd_Quarter_entered_87 rfl rfl rfl rfl ?_
      refine R_st (ls' := [some (.inr (.inr q)), some (.inl v1), some (.inl v2), some (.inl v3), some (.inl (zor v4 (zshl 1 (rd h (q + 7 + v5) 2)))), some (.inl v5), some (.inr (.inr (q + 7 + v5)))]) dd_Quarter_entered_88 rfl rfl rfl (Nat.le_of_ble_eq_true rfl) rfl rfl ?_
      refine R_inc (y := v5 + 1) (ls' := [some (.inr (.inr q)), some (.inl v1), some (.inl v2), some (.inl v3), some (.inl (zor v4 (zshl 1 (rd h (q + 7 + v5) 2)))), some (.inl (v5 + 1)), some (.inr (.inr (q + 7 + v5)))]) dd_Quarter_entered_90 rfl (by decide) (by omega) (by omega) rfl rfl ?_
      refine R_goto dd_Quarter_entered_93 rfl ?_
      exact k
theorem B_Plans_nextRooms_0 {xs : Nat → Int} {xl e : Nat} {h : LH} {Q : Option LV → LH → Prop} {v2 v3 v4 : Int} {q : Int} (hq : q = 5 ∨ q = 32) {sc : Int} (hsc : scn sc) (hc0 : 60 ≤ sc) (hF : RF h)
    (k : (∃ c, c < e ∧ Rn xs xl c mm_Quarter_aheadIn 0 [some (.inr (.inr q)), some (.inl v2), some (.inl v3), some (.inl (rd h sc 1))] [] h (fun r h' => Rn xs xl e mm_Plans_nextRooms 10 [some (.inr (.inr q)), some (.inr (.inr sc)), some (.inl v2), some (.inl v3), some (.inl v4), none, none] (r.toList ++ []) h' Q))) :
    Rn xs xl e mm_Plans_nextRooms 0 [some (.inr (.inr q)), some (.inr (.inr sc)), some (.inl v2), some (.inl v3), some (.inl v4), none, none] [] h Q := by
  refine R_ld (v := .inr (.inr q)) dd_Plans_nextRooms_0 rfl rfl rfl rfl ?_
  refine R_ld (v := .inl v2) dd_Plans_nextRooms_1 rfl rfl rfl rfl ?_
  refine R_ld (v := .inl v3) dd_Plans_nextRooms_2 rfl rfl rfl rfl ?_
  refine R_ld (v := .inr (.inr sc)) dd_Plans_nextRooms_3 rfl rfl rfl rfl ?_
  refine R_gf (v := .inl (rd h sc 1)) dd_Plans_nextRooms_4 fd_5_46 (io_c hsc) (congrArg (fun z : Int => (Sum.inl z : LV)) (rfl)) rfl ?_
  obtain ⟨c, hc, k⟩ := k
  exact R_call (as := [.inr (.inr q), .inl v2, .inl v3, .inl (rd h sc 1)]) (rest := []) (M' := mm_Quarter_aheadIn) (ls0 := [some (.inr (.inr q)), some (.inl v2), some (.inl v3), some (.inl (rd h sc 1))]) dd_Plans_nextRooms_7 rfl rfl (cw_v cw_5_49 (io_q hq) rfl rfl (Nat.le_of_ble_eq_true rfl) (Nat.le_of_ble_eq_true rfl)) mt_Quarter_aheadIn rfl hc rfl k
theorem B_Plans_nextRooms_10 {xs : Nat → Int} {xl e : Nat} {h : LH} {Q : Option LV → LH → Prop} {v2 v3 v4 w0 : Int} {q : Int} (hq : q = 5 ∨ q = 32) {sc : Int} (hsc : scn sc) (hc0 : 60 ≤ sc) (hF : RF h)
    (k : (∃ c, c < e ∧ Rn xs xl c mm_Quarter_backIn 0 [some (.inr (.inr q)), some (.inl v2), some (.inl v3), some (.inl (rd h sc 1))] [] h (fun r h' => Rn xs xl e mm_Plans_nextRooms 22 [some (.inr (.inr q)), some (.inr (.inr sc)), some (.inl v2), some (.inl v3), some (.inl v4), some (.inl w0), none] (r.toList ++ []) h' Q))) :
    Rn xs xl e mm_Plans_nextRooms 10 [some (.inr (.inr q)), some (.inr (.inr sc)), some (.inl v2), some (.inl v3), some (.inl v4), none, none] [.inl w0] h Q := by
  refine R_st (ls' := [some (.inr (.inr q)), some (.inr (.inr sc)), some (.inl v2), some (.inl v3), some (.inl v4), some (.inl w0), none]) dd_Plans_nextRooms_10 rfl rfl rfl (Nat.le_of_ble_eq_true rfl) rfl rfl ?_
  refine R_ld (v := .inr (.inr q)) dd_Plans_nextRooms_12 rfl rfl rfl rfl ?_
  refine R_ld (v := .inl v2) dd_Plans_nextRooms_13 rfl rfl rfl rfl ?_
  refine R_ld (v := .inl v3) dd_Plans_nextRooms_14 rfl rfl rfl rfl ?_
  refine R_ld (v := .inr (.inr sc)) dd_Plans_nextRooms_15 rfl rfl rfl rfl ?_
  refine R_gf (v := .inl (rd h sc 1)) dd_Plans_nextRooms_16 fd_5_46 (io_c hsc) (congrArg (fun z : Int => (Sum.inl z : LV)) (rfl)) rfl ?_
  obtain ⟨c, hc, k⟩ := k
  exact R_call (as := [.inr (.inr q), .inl v2, .inl v3, .inl (rd h sc 1)]) (rest := []) (M' := mm_Quarter_backIn) (ls0 := [some (.inr (.inr q)), some (.inl v2), some (.inl v3), some (.inl (rd h sc 1))]) dd_Plans_nextRooms_19 rfl rfl (cw_v cw_5_53 (io_q hq) rfl rfl (Nat.le_of_ble_eq_true rfl) (Nat.le_of_ble_eq_true rfl)) mt_Quarter_backIn rfl hc rfl k
theorem B_Plans_nextRooms_22 {xs : Nat → Int} {xl e : Nat} {h : LH} {Q : Option LV → LH → Prop} {v2 v3 v4 v5 w0 : Int} {q : Int} (hq : q = 5 ∨ q = 32) {sc : Int} (hsc : scn sc) (hc0 : 60 ≤ sc) (hF : RF h)
    (k : (∃ c, c < e ∧ Rn xs xl c mm_Quarter_entered 0 [some (.inr (.inr q)), some (.inl v5), some (.inl w0), some (.inl v4), none, none, none] [] h (fun r h' => Rn xs xl e mm_Plans_nextRooms 34 [some (.inr (.inr q)), some (.inr (.inr sc)), some (.inl v2), some (.inl v3), some (.inl v4), some (.inl v5), some (.inl w0)] (r.toList ++ []) h' Q))) :
    Rn xs xl e mm_Plans_nextRooms 22 [some (.inr (.inr q)), some (.inr (.inr sc)), some (.inl v2), some (.inl v3), some (.inl v4), some (.inl v5), none] [.inl w0] h Q := by
  refine R_st (ls' := [some (.inr (.inr q)), some (.inr (.inr sc)), some (.inl v2), some (.inl v3), some (.inl v4), some (.inl v5), some (.inl w0)]) dd_Plans_nextRooms_22 rfl rfl rfl (Nat.le_of_ble_eq_true rfl) rfl rfl ?_
  refine R_ld (v := .inr (.inr q)) dd_Plans_nextRooms_24 rfl rfl rfl rfl ?_
  refine R_ld (v := .inl v5) dd_Plans_nextRooms_25 rfl rfl rfl rfl ?_
  refine R_ld (v := .inl w0) dd_Plans_nextRooms_27 rfl rfl rfl rfl ?_
  refine R_ld (v := .inl v4) dd_Plans_nextRooms_29 rfl rfl rfl rfl ?_
  obtain ⟨c, hc, k⟩ := k
  exact R_call (as := [.inr (.inr q), .inl v5, .inl w0, .inl v4]) (rest := []) (M' := mm_Quarter_entered) (ls0 := [some (.inr (.inr q)), some (.inl v5), some (.inl w0), some (.inl v4), none, none, none]) dd_Plans_nextRooms_31 rfl rfl (cw_v cw_5_56 (io_q hq) rfl rfl (Nat.le_of_ble_eq_true rfl) (Nat.le_of_ble_eq_true rfl)) mt_Quarter_entered rfl hc rfl k
theorem B_Plans_nextRooms_34 {xs : Nat → Int} {xl e : Nat} {h : LH} {Q : Option LV → LH → Prop} {v2 v3 v4 v5 v6 w0 : Int} {q : Int} (hq : q = 5 ∨ q = 32) {sc : Int} (hsc : scn sc) (hc0 : 60 ≤ sc) (hF : RF h)
    (k : Q (some (.inl w0)) h) :
    Rn xs xl e mm_Plans_nextRooms 34 [some (.inr (.inr q)), some (.inr (.inr sc)), some (.inl v2), some (.inl v3), some (.inl v4), some (.inl v5), some (.inl v6)] [.inl w0] h Q := by
  exact R_iret dd_Plans_nextRooms_34 rfl k
theorem B_Plans_firstHourIn_0 {xs : Nat → Int} {xl e : Nat} {h : LH} {Q : Option LV → LH → Prop} {v3 v4 : Int} {q : Int} (hq : q = 5 ∨ q = 32) {sc : Int} (hsc : scn sc) (hc0 : 60 ≤ sc) (hF : RF h) (hP : PT h) (r_v3 : 0 ≤ v3 ∧ v3 ≤ 5) (he : 1 ≤ e)
    (k : ((rd h (sc + 1) v3) ≠ v4 →
        (-2147483648 ≤ (rd h sc 0) + (zand (zshr (rd h sc 2) v3) 1) ∧ (rd h sc 0) + (zand (zshr (rd h sc 2) v3) 1) ≤ 2147483647) ∧
        Rn xs xl e mm_Plans_firstHourIn 44 [some (.inr (.inr 77)), some (.inr (.inr q)), some (.inr (.inr sc)), some (.inl v3), some (.inl v4), some (.inl (rd h (q + 21 + v3) 1)), some (.inl (zshl 1 (rd h (sc + 1) v3))), some (.inl ((rd h sc 0) + (zand (zshr (rd h sc 2) v3) 1)))] [] h Q) ∧
      ((rd h (sc + 1) v3) = v4 →
        Q (some (.inl (rd h sc 0))) h)) :
    Rn xs xl e mm_Plans_firstHourIn 0 [some (.inr (.inr 77)), some (.inr (.inr q)), some (.inr (.inr sc)), some (.inl v3), some (.inl v4), none, none, none] [] h Q := by
  refine R_ld (v := .inr (.inr sc)) dd_Plans_firstHourIn_0 rfl rfl rfl rfl ?_
  refine R_gf (v := .inr (.inr (sc + 1))) dd_Plans_firstHourIn_1 fd_5_18 (io_c hsc) (congrArg (fun z : Int => (Sum.inr (Sum.inr z) : LV)) (rs_wh hF hsc)) rfl ?_
  refine R_ld (v := .inl v3) dd_Plans_firstHourIn_4 rfl rfl rfl rfl ?_
  refine R_iald (v := (rd h (sc + 1) v3)) (n := 6) dd_Plans_firstHourIn_5 (ia_wc hsc) (la_wc hsc) (by omega) (rfl) rfl ?_
  refine R_ld (v := .inl v4) dd_Plans_firstHourIn_6 rfl rfl rfl rfl ?_
  refine R_icmp dd_Plans_firstHourIn_8 rfl rfl (fun (c2 : (rd h (sc + 1) v3) ≠ v4) => ?_) (fun (c2 : (rd h (sc + 1) v3) = v4) => ?_)
  · replace k := k.1 c2
    refine R_ld (v := .inr (.inr q)) dd_Plans_firstHourIn_16 rfl rfl rfl rfl ?_
    refine R_gf (v := .inr (.inr (q + 2))) dd_Plans_firstHourIn_17 fd_5_27 (io_q hq) (congrArg (fun z : Int => (Sum.inr (Sum.inr z) : LV)) (rq_ppl hF hq)) rfl ?_
    refine R_ld (v := .inl v3) dd_Plans_firstHourIn_20 rfl rfl rfl rfl ?_
    refine R_aald (v := (q + 21 + v3)) (n := 6) dd_Plans_firstHourIn_21 (ia_pq hq) (la_pq hq) (by omega) (rq_p hP hq (by omega)) rfl ?_
    refine R_gf (v := .inl (rd h (q + 21 + v3) 1)) dd_Plans_firstHourIn_22 fd_5_33 (io_p hq (by omega)) (congrArg (fun z : Int => (Sum.inl z : LV)) (rfl)) rfl ?_
    refine R_st (ls' := [some (.inr (.inr 77)), some (.inr (.inr q)), some (.inr (.inr sc)), some (.inl v3), some (.inl v4), some (.inl (rd h (q + 21 + v3) 1)), none, none]) dd_Plans_firstHourIn_25 rfl rfl rfl (Nat.le_of_ble_eq_true rfl) rfl rfl ?_
    refine R_ic dd_Plans_firstHourIn_27 (by decide) rfl ?_
    refine R_ld (v := .inr (.inr sc)) dd_Plans_firstHourIn_28 rfl rfl rfl rfl ?_
    refine R_gf (v := .inr (.inr (sc + 1))) dd_Plans_firstHourIn_29 fd_5_18 (io_c hsc) (congrArg (fun z : Int => (Sum.inr (Sum.inr z) : LV)) (rs_wh hF hsc)) rfl ?_
    refine R_ld (v := .inl v3) dd_Plans_firstHourIn_32 rfl rfl rfl rfl ?_
    refine R_iald (v := (rd h (sc + 1) v3)) (n := 6) dd_Plans_firstHourIn_33 (ia_wc hsc) (la_wc hsc) (by omega) (rfl) rfl ?_
    refine R_A dd_Plans_firstHourIn_34 rfl rfl rfl rfl ?_
    refine R_st (ls' := [some (.inr (.inr 77)), some (.inr (.inr q)), some (.inr (.inr sc)), some (.inl v3), some (.inl v4), some (.inl (rd h (q + 21 + v3) 1)), some (.inl (zshl 1 (rd h (sc + 1) v3))), none]) dd_Plans_firstHourIn_35 rfl rfl rfl (Nat.le_of_ble_eq_true rfl) rfl rfl ?_
    refine R_ld (v := .inr (.inr sc)) dd_Plans_firstHourIn_37 rfl rfl rfl rfl ?_
    refine R_ld (v := .inl v3) dd_Plans_firstHourIn_38 rfl rfl rfl rfl ?_
    refine R_call (as := [.inr (.inr sc), .inl v3]) (rest := []) (M' := mm_Scene_firstFreeHour) (ls0 := [some (.inr (.inr sc)), some (.inl v3)]) dd_Plans_firstHourIn_39 rfl rfl (cw_v cw_5_38 (io_c hsc) rfl rfl (Nat.le_of_ble_eq_true rfl) (Nat.le_of_ble_eq_true rfl)) mt_Scene_firstFreeHour rfl (c := e - 1) (by omega) rfl ?_
    refine R_ld (v := .inr (.inr sc)) dd_Scene_firstFreeHour_0 rfl rfl rfl rfl ?_
    refine R_gf (v := .inl (rd h sc 0)) dd_Scene_firstFreeHour_1 fd_9_18 (io_c hsc) (congrArg (fun z : Int => (Sum.inl z : LV)) (rfl)) rfl ?_
    refine R_ld (v := .inr (.inr sc)) dd_Scene_firstFreeHour_4 rfl rfl rfl rfl ?_
    refine R_gf (v := .inl (rd h sc 2)) dd_Scene_firstFreeHour_5 fd_9_25 (io_c hsc) (congrArg (fun z : Int => (Sum.inl z : LV)) (rfl)) rfl ?_
    refine R_ld (v := .inl v3) dd_Scene_firstFreeHour_8 rfl rfl rfl rfl ?_
    refine R_A dd_Scene_firstFreeHour_9 rfl rfl rfl rfl ?_
    refine R_ic dd_Scene_firstFreeHour_10 (by decide) rfl ?_
    refine R_A dd_Scene_firstFreeHour_11 rfl rfl rfl rfl ?_
    obtain ⟨s1, k⟩ := k
    refine R_iadd (c := (rd h sc 0) + (zand (zshr (rd h sc 2) v3) 1)) dd_Scene_firstFreeHour_12 (by omega) s1 rfl ?_
    refine R_iret dd_Scene_firstFreeHour_13 rfl ?_
    change Rn xs xl e mm_Plans_firstHourIn 42 [some (.inr (.inr 77)), some (.inr (.inr q)), some (.inr (.inr sc)), some (.inl v3), some (.inl v4), some (.inl (rd h (q + 21 + v3) 1)), some (.inl (zshl 1 (rd h (sc + 1) v3))), none] [.inl ((rd h sc 0) + (zand (zshr (rd h sc 2) v3) 1))] h _
    refine R_st (ls' := [some (.inr (.inr 77)), some (.inr (.inr q)), some (.inr (.inr sc)), some (.inl v3), some (.inl v4), some (.inl (rd h (q + 21 + v3) 1)), some (.inl (zshl 1 (rd h (sc + 1) v3))), some (.inl ((rd h sc 0) + (zand (zshr (rd h sc 2) v3) 1)))]) dd_Plans_firstHourIn_42 rfl rfl rfl (Nat.le_of_ble_eq_true rfl) rfl rfl ?_
    exact k
  · replace k := k.2 c2
    refine R_ld (v := .inr (.inr sc)) dd_Plans_firstHourIn_11 rfl rfl rfl rfl ?_
    refine R_gf (v := .inl (rd h sc 0)) dd_Plans_firstHourIn_12 fd_5_23 (io_c hsc) (congrArg (fun z : Int => (Sum.inl z : LV)) (rfl)) rfl ?_
    exact R_iret dd_Plans_firstHourIn_15 rfl k
theorem B_Plans_firstHourIn_44 {xs : Nat → Int} {xl e : Nat} {h : LH} {Q : Option LV → LH → Prop} {v3 v4 v5 v6 v7 : Int} {q : Int} (hq : q = 5 ∨ q = 32) {sc : Int} (hsc : scn sc) (hc0 : 60 ≤ sc) (hF : RF h) (r_v3 : 0 ≤ v3 ∧ v3 ≤ 5) (r_v7 : 0 ≤ v7 ∧ v7 ≤ 25)
    (k : (24 ≤ v7 →
        Q (some (.inl (-1))) h) ∧
      (v7 < 24 →
        (∃ c, c < e ∧ Rn xs xl c mm_Plans_nextRooms 0 [some (.inr (.inr q)), some (.inr (.inr sc)), some (.inl v5), some (.inl v7), some (.inl v6), none, none] [] h (fun r h' => Rn xs xl e mm_Plans_firstHourIn 64 [some (.inr (.inr 77)), some (.inr (.inr q)), some (.inr (.inr sc)), some (.inl v3), some (.inl v4), some (.inl v5), some (.inl v6), some (.inl v7)] (r.toList ++ [.inl v6]) h' Q)))) :
    Rn xs xl e mm_Plans_firstHourIn 44 [some (.inr (.inr 77)), some (.inr (.inr q)), some (.inr (.inr sc)), some (.inl v3), some (.inl v4), some (.inl v5), some (.inl v6), some (.inl v7)] [] h Q := by
  refine R_ld (v := .inl v7) dd_Plans_firstHourIn_44 rfl rfl rfl rfl ?_
  refine R_bi dd_Plans_firstHourIn_46 (by decide) rfl ?_
  refine R_icmp dd_Plans_firstHourIn_48 rfl rfl (fun (c2 : 24 ≤ v7) => ?_) (fun (c2 : v7 < 24) => ?_)
  · replace k := k.1 c2
    refine R_ic dd_Plans_firstHourIn_86 (by decide) rfl ?_
    exact R_iret dd_Plans_firstHourIn_87 rfl k
  · replace k := k.2 c2
    refine R_ld (v := .inl v6) dd_Plans_firstHourIn_51 rfl rfl rfl rfl ?_
    refine R_ld (v := .inr (.inr q)) dd_Plans_firstHourIn_53 rfl rfl rfl rfl ?_
    refine R_ld (v := .inr (.inr sc)) dd_Plans_firstHourIn_54 rfl rfl rfl rfl ?_
    refine R_ld (v := .inl v5) dd_Plans_firstHourIn_55 rfl rfl rfl rfl ?_
    refine R_ld (v := .inl v7) dd_Plans_firstHourIn_57 rfl rfl rfl rfl ?_
    refine R_ld (v := .inl v6) dd_Plans_firstHourIn_59 rfl rfl rfl rfl ?_
    obtain ⟨c, hc, k⟩ := k
    exact R_call (as := [.inr (.inr q), .inr (.inr sc), .inl v5, .inl v7, .inl v6]) (rest := [.inl v6]) (M' := mm_Plans_nextRooms) (ls0 := [some (.inr (.inr q)), some (.inr (.inr sc)), some (.inl v5), some (.inl v7), some (.inl v6), none, none]) dd_Plans_firstHourIn_61 rfl rfl (cw_s cw_5_42 rfl rfl (Nat.le_of_ble_eq_true rfl) (Nat.le_of_ble_eq_true rfl)) mt_Plans_nextRooms rfl hc rfl k
theorem B_Plans_firstHourIn_64 {xs : Nat → Int} {xl e : Nat} {h : LH} {Q : Option LV → LH → Prop} {v3 v4 v5 v6 v7 w0 w1 : Int} {q : Int} (hq : q = 5 ∨ q = 32) {sc : Int} (hsc : scn sc) (hc0 : 60 ≤ sc) (hF : RF h) (r_v7 : 0 ≤ v7 ∧ v7 ≤ 23)
    (k : ((zand (zshr (zor w0 w1) v4) 1) = 0 →
        Rn xs xl e mm_Plans_firstHourIn 44 [some (.inr (.inr 77)), some (.inr (.inr q)), some (.inr (.inr sc)), some (.inl v3), some (.inl v4), some (.inl v5), some (.inl (zor w0 w1)), some (.inl (v7 + 1))] [] h Q) ∧
      ((zand (zshr (zor w0 w1) v4) 1) ≠ 0 →
        Q (some (.inl v7)) h)) :
    Rn xs xl e mm_Plans_firstHourIn 64 [some (.inr (.inr 77)), some (.inr (.inr q)), some (.inr (.inr sc)), some (.inl v3), some (.inl v4), some (.inl v5), some (.inl v6), some (.inl v7)] [.inl w1, .inl w0] h Q := by
  refine R_A dd_Plans_firstHourIn_64 rfl rfl rfl rfl ?_
  refine R_st (ls' := [some (.inr (.inr 77)), some (.inr (.inr q)), some (.inr (.inr sc)), some (.inl v3), some (.inl v4), some (.inl v5), some (.inl (zor w0 w1)), some (.inl v7)]) dd_Plans_firstHourIn_65 rfl rfl rfl (Nat.le_of_ble_eq_true rfl) rfl rfl ?_
  refine R_ld (v := .inl (zor w0 w1)) dd_Plans_firstHourIn_67 rfl rfl rfl rfl ?_
  refine R_ld (v := .inl v4) dd_Plans_firstHourIn_69 rfl rfl rfl rfl ?_
  refine R_A dd_Plans_firstHourIn_71 rfl rfl rfl rfl ?_
  refine R_ic dd_Plans_firstHourIn_72 (by decide) rfl ?_
  refine R_A dd_Plans_firstHourIn_73 rfl rfl rfl rfl ?_
  refine R_if dd_Plans_firstHourIn_74 rfl rfl (fun (c1 : (zand (zshr (zor w0 w1) v4) 1) = 0) => ?_) (fun (c1 : (zand (zshr (zor w0 w1) v4) 1) ≠ 0) => ?_)
  · replace k := k.1 c1
    refine R_inc (y := v7 + 1) (ls' := [some (.inr (.inr 77)), some (.inr (.inr q)), some (.inr (.inr sc)), some (.inl v3), some (.inl v4), some (.inl v5), some (.inl (zor w0 w1)), some (.inl (v7 + 1))]) dd_Plans_firstHourIn_80 rfl (by decide) (by omega) (by omega) rfl rfl ?_
    refine R_goto dd_Plans_firstHourIn_83 rfl ?_
    exact k
  · replace k := k.2 c1
    refine R_ld (v := .inl v7) dd_Plans_firstHourIn_77 rfl rfl rfl rfl ?_
    exact R_iret dd_Plans_firstHourIn_79 rfl k
theorem B_Plans_roomsByTheEnd_0 {xs : Nat → Int} {xl e : Nat} {h : LH} {Q : Option LV → LH → Prop} {v3 : Int} {q : Int} (hq : q = 5 ∨ q = 32) {sc : Int} (hsc : scn sc) (hc0 : 60 ≤ sc) (hF : RF h) (hP : PT h) (r_v3 : 0 ≤ v3 ∧ v3 ≤ 5) (he : 1 ≤ e)
    (k : (-2147483648 ≤ (rd h sc 0) + (zand (zshr (rd h sc 2) v3) 1) ∧ (rd h sc 0) + (zand (zshr (rd h sc 2) v3) 1) ≤ 2147483647) ∧
      Rn xs xl e mm_Plans_roomsByTheEnd 28 [some (.inr (.inr 77)), some (.inr (.inr q)), some (.inr (.inr sc)), some (.inl v3), some (.inl (rd h (q + 21 + v3) 1)), some (.inl (zshl 1 (rd h (sc + 1) v3))), some (.inl ((rd h sc 0) + (zand (zshr (rd h sc 2) v3) 1)))] [] h Q) :
    Rn xs xl e mm_Plans_roomsByTheEnd 0 [some (.inr (.inr 77)), some (.inr (.inr q)), some (.inr (.inr sc)), some (.inl v3), none, none, none] [] h Q := by
  refine R_ld (v := .inr (.inr q)) dd_Plans_roomsByTheEnd_0 rfl rfl rfl rfl ?_
  refine R_gf (v := .inr (.inr (q + 2))) dd_Plans_roomsByTheEnd_1 fd_5_27 (io_q hq) (congrArg (fun z : Int => (Sum.inr (Sum.inr z) : LV)) (rq_ppl hF hq)) rfl ?_
  refine R_ld (v := .inl v3) dd_Plans_roomsByTheEnd_4 rfl rfl rfl rfl ?_
  refine R_aald (v := (q + 21 + v3)) (n := 6) dd_Plans_roomsByTheEnd_5 (ia_pq hq) (la_pq hq) (by omega) (rq_p hP hq (by omega)) rfl ?_
  refine R_gf (v := .inl (rd h (q + 21 + v3) 1)) dd_Plans_roomsByTheEnd_6 fd_5_33 (io_p hq (by omega)) (congrArg (fun z : Int => (Sum.inl z : LV)) (rfl)) rfl ?_
  refine R_st (ls' := [some (.inr (.inr 77)), some (.inr (.inr q)), some (.inr (.inr sc)), some (.inl v3), some (.inl (rd h (q + 21 + v3) 1)), none, none]) dd_Plans_roomsByTheEnd_9 rfl rfl rfl (Nat.le_of_ble_eq_true rfl) rfl rfl ?_
  refine R_ic dd_Plans_roomsByTheEnd_11 (by decide) rfl ?_
  refine R_ld (v := .inr (.inr sc)) dd_Plans_roomsByTheEnd_12 rfl rfl rfl rfl ?_
  refine R_gf (v := .inr (.inr (sc + 1))) dd_Plans_roomsByTheEnd_13 fd_5_18 (io_c hsc) (congrArg (fun z : Int => (Sum.inr (Sum.inr z) : LV)) (rs_wh hF hsc)) rfl ?_
  refine R_ld (v := .inl v3) dd_Plans_roomsByTheEnd_16 rfl rfl rfl rfl ?_
  refine R_iald (v := (rd h (sc + 1) v3)) (n := 6) dd_Plans_roomsByTheEnd_17 (ia_wc hsc) (la_wc hsc) (by omega) (rfl) rfl ?_
  refine R_A dd_Plans_roomsByTheEnd_18 rfl rfl rfl rfl ?_
  refine R_st (ls' := [some (.inr (.inr 77)), some (.inr (.inr q)), some (.inr (.inr sc)), some (.inl v3), some (.inl (rd h (q + 21 + v3) 1)), some (.inl (zshl 1 (rd h (sc + 1) v3))), none]) dd_Plans_roomsByTheEnd_19 rfl rfl rfl (Nat.le_of_ble_eq_true rfl) rfl rfl ?_
  refine R_ld (v := .inr (.inr sc)) dd_Plans_roomsByTheEnd_21 rfl rfl rfl rfl ?_
  refine R_ld (v := .inl v3) dd_Plans_roomsByTheEnd_22 rfl rfl rfl rfl ?_
  refine R_call (as := [.inr (.inr sc), .inl v3]) (rest := []) (M' := mm_Scene_firstFreeHour) (ls0 := [some (.inr (.inr sc)), some (.inl v3)]) dd_Plans_roomsByTheEnd_23 rfl rfl (cw_v cw_5_38 (io_c hsc) rfl rfl (Nat.le_of_ble_eq_true rfl) (Nat.le_of_ble_eq_true rfl)) mt_Scene_firstFreeHour rfl (c := e - 1) (by omega) rfl ?_
  refine R_ld (v := .inr (.inr sc)) dd_Scene_firstFreeHour_0 rfl rfl rfl rfl ?_
  refine R_gf (v := .inl (rd h sc 0)) dd_Scene_firstFreeHour_1 fd_9_18 (io_c hsc) (congrArg (fun z : Int => (Sum.inl z : LV)) (rfl)) rfl ?_
  refine R_ld (v := .inr (.inr sc)) dd_Scene_firstFreeHour_4 rfl rfl rfl rfl ?_
  refine R_gf (v := .inl (rd h sc 2)) dd_Scene_firstFreeHour_5 fd_9_25 (io_c hsc) (congrArg (fun z : Int => (Sum.inl z : LV)) (rfl)) rfl ?_
  refine R_ld (v := .inl v3) dd_Scene_firstFreeHour_8 rfl rfl rfl rfl ?_
  refine R_A dd_Scene_firstFreeHour_9 rfl rfl rfl rfl ?_
  refine R_ic dd_Scene_firstFreeHour_10 (by decide) rfl ?_
  refine R_A dd_Scene_firstFreeHour_11 rfl rfl rfl rfl ?_
  obtain ⟨s1, k⟩ := k
  refine R_iadd (c := (rd h sc 0) + (zand (zshr (rd h sc 2) v3) 1)) dd_Scene_firstFreeHour_12 (by omega) s1 rfl ?_
  refine R_iret dd_Scene_firstFreeHour_13 rfl ?_
  change Rn xs xl e mm_Plans_roomsByTheEnd 26 [some (.inr (.inr 77)), some (.inr (.inr q)), some (.inr (.inr sc)), some (.inl v3), some (.inl (rd h (q + 21 + v3) 1)), some (.inl (zshl 1 (rd h (sc + 1) v3))), none] [.inl ((rd h sc 0) + (zand (zshr (rd h sc 2) v3) 1))] h _
  refine R_st (ls' := [some (.inr (.inr 77)), some (.inr (.inr q)), some (.inr (.inr sc)), some (.inl v3), some (.inl (rd h (q + 21 + v3) 1)), some (.inl (zshl 1 (rd h (sc + 1) v3))), some (.inl ((rd h sc 0) + (zand (zshr (rd h sc 2) v3) 1)))]) dd_Plans_roomsByTheEnd_26 rfl rfl rfl (Nat.le_of_ble_eq_true rfl) rfl rfl ?_
  exact k
theorem B_Plans_roomsByTheEnd_28 {xs : Nat → Int} {xl e : Nat} {h : LH} {Q : Option LV → LH → Prop} {v3 v4 v5 v6 : Int} {q : Int} (hq : q = 5 ∨ q = 32) {sc : Int} (hsc : scn sc) (hc0 : 60 ≤ sc) (hF : RF h) (r_v3 : 0 ≤ v3 ∧ v3 ≤ 5) (r_v6 : 0 ≤ v6 ∧ v6 ≤ 25)
    (k : (24 ≤ v6 →
        Q (some (.inl v5)) h) ∧
      (v6 < 24 →
        (∃ c, c < e ∧ Rn xs xl c mm_Plans_nextRooms 0 [some (.inr (.inr q)), some (.inr (.inr sc)), some (.inl v4), some (.inl v6), some (.inl v5), none, none] [] h (fun r h' => Rn xs xl e mm_Plans_roomsByTheEnd 48 [some (.inr (.inr 77)), some (.inr (.inr q)), some (.inr (.inr sc)), some (.inl v3), some (.inl v4), some (.inl v5), some (.inl v6)] (r.toList ++ [.inl v5]) h' Q)))) :
    Rn xs xl e mm_Plans_roomsByTheEnd 28 [some (.inr (.inr 77)), some (.inr (.inr q)), some (.inr (.inr sc)), some (.inl v3), some (.inl v4), some (.inl v5), some (.inl v6)] [] h Q := by
  refine R_ld (v := .inl v6) dd_Plans_roomsByTheEnd_28 rfl rfl rfl rfl ?_
  refine R_bi dd_Plans_roomsByTheEnd_30 (by decide) rfl ?_
  refine R_icmp dd_Plans_roomsByTheEnd_32 rfl rfl (fun (c2 : 24 ≤ v6) => ?_) (fun (c2 : v6 < 24) => ?_)
  · replace k := k.1 c2
    refine R_ld (v := .inl v5) dd_Plans_roomsByTheEnd_57 rfl rfl rfl rfl ?_
    exact R_iret dd_Plans_roomsByTheEnd_59 rfl k
  · replace k := k.2 c2
    refine R_ld (v := .inl v5) dd_Plans_roomsByTheEnd_35 rfl rfl rfl rfl ?_
    refine R_ld (v := .inr (.inr q)) dd_Plans_roomsByTheEnd_37 rfl rfl rfl rfl ?_
    refine R_ld (v := .inr (.inr sc)) dd_Plans_roomsByTheEnd_38 rfl rfl rfl rfl ?_
    refine R_ld (v := .inl v4) dd_Plans_roomsByTheEnd_39 rfl rfl rfl rfl ?_
    refine R_ld (v := .inl v6) dd_Plans_roomsByTheEnd_41 rfl rfl rfl rfl ?_
    refine R_ld (v := .inl v5) dd_Plans_roomsByTheEnd_43 rfl rfl rfl rfl ?_
    obtain ⟨c, hc, k⟩ := k
    exact R_call (as := [.inr (.inr q), .inr (.inr sc), .inl v4, .inl v6, .inl v5]) (rest := [.inl v5]) (M' := mm_Plans_nextRooms) (ls0 := [some (.inr (.inr q)), some (.inr (.inr sc)), some (.inl v4), some (.inl v6), some (.inl v5), none, none]) dd_Plans_roomsByTheEnd_45 rfl rfl (cw_s cw_5_42 rfl rfl (Nat.le_of_ble_eq_true rfl) (Nat.le_of_ble_eq_true rfl)) mt_Plans_nextRooms rfl hc rfl k
theorem B_Plans_roomsByTheEnd_48 {xs : Nat → Int} {xl e : Nat} {h : LH} {Q : Option LV → LH → Prop} {v3 v4 v5 v6 w0 w1 : Int} {q : Int} (hq : q = 5 ∨ q = 32) {sc : Int} (hsc : scn sc) (hc0 : 60 ≤ sc) (hF : RF h) (r_v6 : 0 ≤ v6 ∧ v6 ≤ 23)
    (k : Rn xs xl e mm_Plans_roomsByTheEnd 28 [some (.inr (.inr 77)), some (.inr (.inr q)), some (.inr (.inr sc)), some (.inl v3), some (.inl v4), some (.inl (zor w0 w1)), some (.inl (v6 + 1))] [] h Q) :
    Rn xs xl e mm_Plans_roomsByTheEnd 48 [some (.inr (.inr 77)), some (.inr (.inr q)), some (.inr (.inr sc)), some (.inl v3), some (.inl v4), some (.inl v5), some (.inl v6)] [.inl w1, .inl w0] h Q := by
  refine R_A dd_Plans_roomsByTheEnd_48 rfl rfl rfl rfl ?_
  refine R_st (ls' := [some (.inr (.inr 77)), some (.inr (.inr q)), some (.inr (.inr sc)), some (.inl v3), some (.inl v4), some (.inl (zor w0 w1)), some (.inl v6)]) dd_Plans_roomsByTheEnd_49 rfl rfl rfl (Nat.le_of_ble_eq_true rfl) rfl rfl ?_
  refine R_inc (y := v6 + 1) (ls' := [some (.inr (.inr 77)), some (.inr (.inr q)), some (.inr (.inr sc)), some (.inl v3), some (.inl v4), some (.inl (zor w0 w1)), some (.inl (v6 + 1))]) dd_Plans_roomsByTheEnd_51 rfl (by decide) (by omega) (by omega) rfl rfl ?_
  refine R_goto dd_Plans_roomsByTheEnd_54 rfl ?_
  exact k
theorem B_Plans_homeHour_0 {xs : Nat → Int} {xl e : Nat} {h : LH} {Q : Option LV → LH → Prop} {v3 : Int} {q : Int} (hq : q = 5 ∨ q = 32) {sc : Int} (hsc : scn sc) (hc0 : 60 ≤ sc) (hF : RF h) (hP : PT h) (r_v3 : 0 ≤ v3 ∧ v3 ≤ 5)
    (k : ((zand (zshr (rd h sc 3) v3) 1) = 0 →
        Rn xs xl e mm_Plans_homeHour 35 [some (.inr (.inr 77)), some (.inr (.inr q)), some (.inr (.inr sc)), some (.inl v3), some (.inr (.inr (q + 21 + v3))), some (.inl (zshl 1 (rd h (q + 21 + v3) 3))), some (.inl 0), none, none, none, none] [] h Q) ∧
      ((zand (zshr (rd h sc 3) v3) 1) ≠ 0 →
        Rn xs xl e mm_Plans_homeHour 35 [some (.inr (.inr 77)), some (.inr (.inr q)), some (.inr (.inr sc)), some (.inl v3), some (.inr (.inr (q + 21 + v3))), some (.inl (zshl 1 (rd h (q + 21 + v3) 3))), some (.inl 1), none, none, none, none] [] h Q)) :
    Rn xs xl e mm_Plans_homeHour 0 [some (.inr (.inr 77)), some (.inr (.inr q)), some (.inr (.inr sc)), some (.inl v3), none, none, none, none, none, none, none] [] h Q := by
  refine R_ld (v := .inr (.inr q)) dd_Plans_homeHour_0 rfl rfl rfl rfl ?_
  refine R_gf (v := .inr (.inr (q + 2))) dd_Plans_homeHour_1 fd_5_27 (io_q hq) (congrArg (fun z : Int => (Sum.inr (Sum.inr z) : LV)) (rq_ppl hF hq)) rfl ?_
  refine R_ld (v := .inl v3) dd_Plans_homeHour_4 rfl rfl rfl rfl ?_
  refine R_aald (v := (q + 21 + v3)) (n := 6) dd_Plans_homeHour_5 (ia_pq hq) (la_pq hq) (by omega) (rq_p hP hq (by omega)) rfl ?_
  refine R_st (ls' := [some (.inr (.inr 77)), some (.inr (.inr q)), some (.inr (.inr sc)), some (.inl v3), some (.inr (.inr (q + 21 + v3))), none, none, none, none, none, none]) dd_Plans_homeHour_6 rfl rfl rfl (Nat.le_of_ble_eq_true rfl) rfl rfl ?_
  refine R_ic dd_Plans_homeHour_8 (by decide) rfl ?_
  refine R_ld (v := .inr (.inr (q + 21 + v3))) dd_Plans_homeHour_9 rfl rfl rfl rfl ?_
  refine R_gf (v := .inl (rd h (q + 21 + v3) 3)) dd_Plans_homeHour_11 fd_5_59 (io_p hq (by omega)) (congrArg (fun z : Int => (Sum.inl z : LV)) (rfl)) rfl ?_
  refine R_A dd_Plans_homeHour_14 rfl rfl rfl rfl ?_
  refine R_st (ls' := [some (.inr (.inr 77)), some (.inr (.inr q)), some (.inr (.inr sc)), some (.inl v3), some (.inr (.inr (q + 21 + v3))), some (.inl (zshl 1 (rd h (q + 21 + v3) 3))), none, none, none, none, none]) dd_Plans_homeHour_15 rfl rfl rfl (Nat.le_of_ble_eq_true rfl) rfl rfl ?_
  refine R_ld (v := .inr (.inr sc)) dd_Plans_homeHour_17 rfl rfl rfl rfl ?_
  refine R_gf (v := .inl (rd h sc 3)) dd_Plans_homeHour_18 fd_5_62 (io_c hsc) (congrArg (fun z : Int => (Sum.inl z : LV)) (rfl)) rfl ?_
  refine R_ld (v := .inl v3) dd_Plans_homeHour_21 rfl rfl rfl rfl ?_
  refine R_A dd_Plans_homeHour_22 rfl rfl rfl rfl ?_
  refine R_ic dd_Plans_homeHour_23 (by decide) rfl ?_
  refine R_A dd_Plans_homeHour_24 rfl rfl rfl rfl ?_
  refine R_if dd_Plans_homeHour_25 rfl rfl (fun (c1 : (zand (zshr (rd h sc 3) v3) 1) = 0) => ?_) (fun (c1 : (zand (zshr (rd h sc 3) v3) 1) ≠ 0) => ?_)
  · replace k := k.1 c1
    refine R_ic dd_Plans_homeHour_32 (by decide) rfl ?_
    refine R_st (ls' := [some (.inr (.inr 77)), some (.inr (.inr q)), some (.inr (.inr sc)), some (.inl v3), some (.inr (.inr (q + 21 + v3))), some (.inl (zshl 1 (rd h (q + 21 + v3) 3))), some (.inl 0), none, none, none, none]) dd_Plans_homeHour_33 rfl rfl rfl (Nat.le_of_ble_eq_true rfl) rfl rfl ?_
    exact k
  · replace k := k.2 c1
    refine R_ic dd_Plans_homeHour_28 (by decide) rfl ?_
    refine R_goto dd_Plans_homeHour_29 rfl ?_
    refine R_st (ls' := [some (.inr (.inr 77)), some (.inr (.inr q)), some (.inr (.inr sc)), some (.inl v3), some (.inr (.inr (q + 21 + v3))), some (.inl (zshl 1 (rd h (q + 21 + v3) 3))), some (.inl 1), none, none, none, none]) dd_Plans_homeHour_33 rfl rfl rfl (Nat.le_of_ble_eq_true rfl) rfl rfl ?_
    exact k
theorem B_Plans_homeHour_35 {xs : Nat → Int} {xl e : Nat} {h : LH} {Q : Option LV → LH → Prop} {v3 v5 v6 : Int} {q : Int} (hq : q = 5 ∨ q = 32) {sc : Int} (hsc : scn sc) (hc0 : 60 ≤ sc) (hF : RF h) (r_v3 : 0 ≤ v3 ∧ v3 ≤ 5)
    (k : (v6 = 0 →
        Rn xs xl e mm_Plans_homeHour 54 [some (.inr (.inr 77)), some (.inr (.inr q)), some (.inr (.inr sc)), some (.inl v3), some (.inr (.inr (q + 21 + v3))), some (.inl v5), some (.inl v6), some (.inl (zshl 1 (rd h (sc + 1) v3))), none, none, none] [] h Q) ∧
      (v6 ≠ 0 →
        Rn xs xl e mm_Plans_homeHour 54 [some (.inr (.inr 77)), some (.inr (.inr q)), some (.inr (.inr sc)), some (.inl v3), some (.inr (.inr (q + 21 + v3))), some (.inl v5), some (.inl v6), some (.inl 0), none, none, none] [] h Q)) :
    Rn xs xl e mm_Plans_homeHour 35 [some (.inr (.inr 77)), some (.inr (.inr q)), some (.inr (.inr sc)), some (.inl v3), some (.inr (.inr (q + 21 + v3))), some (.inl v5), some (.inl v6), none, none, none, none] [] h Q := by
  refine R_ld (v := .inl v6) dd_Plans_homeHour_35 rfl rfl rfl rfl ?_
  refine R_if dd_Plans_homeHour_37 rfl rfl (fun (c1 : v6 = 0) => ?_) (fun (c1 : v6 ≠ 0) => ?_)
  · replace k := k.1 c1
    refine R_ic dd_Plans_homeHour_44 (by decide) rfl ?_
    refine R_ld (v := .inr (.inr sc)) dd_Plans_homeHour_45 rfl rfl rfl rfl ?_
    refine R_gf (v := .inr (.inr (sc + 1))) dd_Plans_homeHour_46 fd_5_18 (io_c hsc) (congrArg (fun z : Int => (Sum.inr (Sum.inr z) : LV)) (rs_wh hF hsc)) rfl ?_
    refine R_ld (v := .inl v3) dd_Plans_homeHour_49 rfl rfl rfl rfl ?_
    refine R_iald (v := (rd h (sc + 1) v3)) (n := 6) dd_Plans_homeHour_50 (ia_wc hsc) (la_wc hsc) (by omega) (rfl) rfl ?_
    refine R_A dd_Plans_homeHour_51 rfl rfl rfl rfl ?_
    refine R_st (ls' := [some (.inr (.inr 77)), some (.inr (.inr q)), some (.inr (.inr sc)), some (.inl v3), some (.inr (.inr (q + 21 + v3))), some (.inl v5), some (.inl v6), some (.inl (zshl 1 (rd h (sc + 1) v3))), none, none, none]) dd_Plans_homeHour_52 rfl rfl rfl (Nat.le_of_ble_eq_true rfl) rfl rfl ?_
    exact k
  · replace k := k.2 c1
    refine R_ic dd_Plans_homeHour_40 (by decide) rfl ?_
    refine R_goto dd_Plans_homeHour_41 rfl ?_
    refine R_st (ls' := [some (.inr (.inr 77)), some (.inr (.inr q)), some (.inr (.inr sc)), some (.inl v3), some (.inr (.inr (q + 21 + v3))), some (.inl v5), some (.inl v6), some (.inl 0), none, none, none]) dd_Plans_homeHour_52 rfl rfl rfl (Nat.le_of_ble_eq_true rfl) rfl rfl ?_
    exact k
theorem B_Plans_homeHour_54 {xs : Nat → Int} {xl e : Nat} {h : LH} {Q : Option LV → LH → Prop} {v3 v5 v6 v7 : Int} {q : Int} (hq : q = 5 ∨ q = 32) {sc : Int} (hsc : scn sc) (hc0 : 60 ≤ sc) (hF : RF h) (r_v3 : 0 ≤ v3 ∧ v3 ≤ 5)
    (k : (v6 = 0 →
        Rn xs xl e mm_Plans_homeHour 73 [some (.inr (.inr 77)), some (.inr (.inr q)), some (.inr (.inr sc)), some (.inl v3), some (.inr (.inr (q + 21 + v3))), some (.inl v5), some (.inl v6), some (.inl v7), some (.inl 0), none, none] [] h Q) ∧
      (v6 ≠ 0 →
        Rn xs xl e mm_Plans_homeHour 73 [some (.inr (.inr 77)), some (.inr (.inr q)), some (.inr (.inr sc)), some (.inl v3), some (.inr (.inr (q + 21 + v3))), some (.inl v5), some (.inl v6), some (.inl v7), some (.inl (zshl 1 (rd h (sc + 1) v3))), none, none] [] h Q)) :
    Rn xs xl e mm_Plans_homeHour 54 [some (.inr (.inr 77)), some (.inr (.inr q)), some (.inr (.inr sc)), some (.inl v3), some (.inr (.inr (q + 21 + v3))), some (.inl v5), some (.inl v6), some (.inl v7), none, none, none] [] h Q := by
  refine R_ld (v := .inl v6) dd_Plans_homeHour_54 rfl rfl rfl rfl ?_
  refine R_if dd_Plans_homeHour_56 rfl rfl (fun (c1 : v6 = 0) => ?_) (fun (c1 : v6 ≠ 0) => ?_)
  · replace k := k.1 c1
    refine R_ic dd_Plans_homeHour_70 (by decide) rfl ?_
    refine R_st (ls' := [some (.inr (.inr 77)), some (.inr (.inr q)), some (.inr (.inr sc)), some (.inl v3), some (.inr (.inr (q + 21 + v3))), some (.inl v5), some (.inl v6), some (.inl v7), some (.inl 0), none, none]) dd_Plans_homeHour_71 rfl rfl rfl (Nat.le_of_ble_eq_true rfl) rfl rfl ?_
    exact k
  · replace k := k.2 c1
    refine R_ic dd_Plans_homeHour_59 (by decide) rfl ?_
    refine R_ld (v := .inr (.inr sc)) dd_Plans_homeHour_60 rfl rfl rfl rfl ?_
    refine R_gf (v := .inr (.inr (sc + 1))) dd_Plans_homeHour_61 fd_5_18 (io_c hsc) (congrArg (fun z : Int => (Sum.inr (Sum.inr z) : LV)) (rs_wh hF hsc)) rfl ?_
    refine R_ld (v := .inl v3) dd_Plans_homeHour_64 rfl rfl rfl rfl ?_
    refine R_iald (v := (rd h (sc + 1) v3)) (n := 6) dd_Plans_homeHour_65 (ia_wc hsc) (la_wc hsc) (by omega) (rfl) rfl ?_
    refine R_A dd_Plans_homeHour_66 rfl rfl rfl rfl ?_
    refine R_goto dd_Plans_homeHour_67 rfl ?_
    refine R_st (ls' := [some (.inr (.inr 77)), some (.inr (.inr q)), some (.inr (.inr sc)), some (.inl v3), some (.inr (.inr (q + 21 + v3))), some (.inl v5), some (.inl v6), some (.inl v7), some (.inl (zshl 1 (rd h (sc + 1) v3))), none, none]) dd_Plans_homeHour_71 rfl rfl rfl (Nat.le_of_ble_eq_true rfl) rfl rfl ?_
    exact k
theorem B_Plans_homeHour_73 {xs : Nat → Int} {xl e : Nat} {h : LH} {Q : Option LV → LH → Prop} {v3 v5 v6 v7 v8 : Int} {q : Int} (hq : q = 5 ∨ q = 32) {sc : Int} (hsc : scn sc) (hc0 : 60 ≤ sc) (hF : RF h) (r_v3 : 0 ≤ v3 ∧ v3 ≤ 5) (he : 1 ≤ e)
    (k : ((zand (zshr v8 (rd h (q + 21 + v3) 2)) 1) = 0 →
        (-2147483648 ≤ (rd h sc 0) + (zand (zshr (rd h sc 2) v3) 1) ∧ (rd h sc 0) + (zand (zshr (rd h sc 2) v3) 1) ≤ 2147483647) ∧
        Rn xs xl e mm_Plans_homeHour 98 [some (.inr (.inr 77)), some (.inr (.inr q)), some (.inr (.inr sc)), some (.inl v3), some (.inr (.inr (q + 21 + v3))), some (.inl v5), some (.inl v6), some (.inl v7), some (.inl v8), some (.inl ((rd h sc 0) + (zand (zshr (rd h sc 2) v3) 1))), none] [] h Q) ∧
      ((zand (zshr v8 (rd h (q + 21 + v3) 2)) 1) ≠ 0 →
        Q (some (.inl (rd h sc 0))) h)) :
    Rn xs xl e mm_Plans_homeHour 73 [some (.inr (.inr 77)), some (.inr (.inr q)), some (.inr (.inr sc)), some (.inl v3), some (.inr (.inr (q + 21 + v3))), some (.inl v5), some (.inl v6), some (.inl v7), some (.inl v8), none, none] [] h Q := by
  refine R_ld (v := .inl v8) dd_Plans_homeHour_73 rfl rfl rfl rfl ?_
  refine R_ld (v := .inr (.inr (q + 21 + v3))) dd_Plans_homeHour_75 rfl rfl rfl rfl ?_
  refine R_gf (v := .inl (rd h (q + 21 + v3) 2)) dd_Plans_homeHour_77 fd_5_65 (io_p hq (by omega)) (congrArg (fun z : Int => (Sum.inl z : LV)) (rfl)) rfl ?_
  refine R_A dd_Plans_homeHour_80 rfl rfl rfl rfl ?_
  refine R_ic dd_Plans_homeHour_81 (by decide) rfl ?_
  refine R_A dd_Plans_homeHour_82 rfl rfl rfl rfl ?_
  refine R_if dd_Plans_homeHour_83 rfl rfl (fun (c2 : (zand (zshr v8 (rd h (q + 21 + v3) 2)) 1) = 0) => ?_) (fun (c2 : (zand (zshr v8 (rd h (q + 21 + v3) 2)) 1) ≠ 0) => ?_)
  · replace k := k.1 c2
    refine R_ld (v := .inr (.inr sc)) dd_Plans_homeHour_91 rfl rfl rfl rfl ?_
    refine R_ld (v := .inl v3) dd_Plans_homeHour_92 rfl rfl rfl rfl ?_
    refine R_call (as := [.inr (.inr sc), .inl v3]) (rest := []) (M' := mm_Scene_firstFreeHour) (ls0 := [some (.inr (.inr sc)), some (.inl v3)]) dd_Plans_homeHour_93 rfl rfl (cw_v cw_5_38 (io_c hsc) rfl rfl (Nat.le_of_ble_eq_true rfl) (Nat.le_of_ble_eq_true rfl)) mt_Scene_firstFreeHour rfl (c := e - 1) (by omega) rfl ?_
    refine R_ld (v := .inr (.inr sc)) dd_Scene_firstFreeHour_0 rfl rfl rfl rfl ?_
    refine R_gf (v := .inl (rd h sc 0)) dd_Scene_firstFreeHour_1 fd_9_18 (io_c hsc) (congrArg (fun z : Int => (Sum.inl z : LV)) (rfl)) rfl ?_
    refine R_ld (v := .inr (.inr sc)) dd_Scene_firstFreeHour_4 rfl rfl rfl rfl ?_
    refine R_gf (v := .inl (rd h sc 2)) dd_Scene_firstFreeHour_5 fd_9_25 (io_c hsc) (congrArg (fun z : Int => (Sum.inl z : LV)) (rfl)) rfl ?_
    refine R_ld (v := .inl v3) dd_Scene_firstFreeHour_8 rfl rfl rfl rfl ?_
    refine R_A dd_Scene_firstFreeHour_9 rfl rfl rfl rfl ?_
    refine R_ic dd_Scene_firstFreeHour_10 (by decide) rfl ?_
    refine R_A dd_Scene_firstFreeHour_11 rfl rfl rfl rfl ?_
    obtain ⟨s1, k⟩ := k
    refine R_iadd (c := (rd h sc 0) + (zand (zshr (rd h sc 2) v3) 1)) dd_Scene_firstFreeHour_12 (by omega) s1 rfl ?_
    refine R_iret dd_Scene_firstFreeHour_13 rfl ?_
    change Rn xs xl e mm_Plans_homeHour 96 [some (.inr (.inr 77)), some (.inr (.inr q)), some (.inr (.inr sc)), some (.inl v3), some (.inr (.inr (q + 21 + v3))), some (.inl v5), some (.inl v6), some (.inl v7), some (.inl v8), none, none] [.inl ((rd h sc 0) + (zand (zshr (rd h sc 2) v3) 1))] h _
    refine R_st (ls' := [some (.inr (.inr 77)), some (.inr (.inr q)), some (.inr (.inr sc)), some (.inl v3), some (.inr (.inr (q + 21 + v3))), some (.inl v5), some (.inl v6), some (.inl v7), some (.inl v8), some (.inl ((rd h sc 0) + (zand (zshr (rd h sc 2) v3) 1))), none]) dd_Plans_homeHour_96 rfl rfl rfl (Nat.le_of_ble_eq_true rfl) rfl rfl ?_
    exact k
  · replace k := k.2 c2
    refine R_ld (v := .inr (.inr sc)) dd_Plans_homeHour_86 rfl rfl rfl rfl ?_
    refine R_gf (v := .inl (rd h sc 0)) dd_Plans_homeHour_87 fd_5_23 (io_c hsc) (congrArg (fun z : Int => (Sum.inl z : LV)) (rfl)) rfl ?_
    exact R_iret dd_Plans_homeHour_90 rfl k
theorem B_Plans_homeHour_98 {xs : Nat → Int} {xl e : Nat} {h : LH} {Q : Option LV → LH → Prop} {v3 v5 v6 v7 v8 v9 : Int} {q : Int} (hq : q = 5 ∨ q = 32) {sc : Int} (hsc : scn sc) (hc0 : 60 ≤ sc) {o10 : Option LV} (hF : RF h) (r_v3 : 0 ≤ v3 ∧ v3 ≤ 5) (r_v9 : 0 ≤ v9 ∧ v9 ≤ 25)
    (k : (24 ≤ v9 →
        Q (some (.inl (-1))) h) ∧
      (v9 < 24 →
        (∃ c, c < e ∧ Rn xs xl c mm_Plans_nextRooms 0 [some (.inr (.inr q)), some (.inr (.inr sc)), some (.inl (rd h (q + 21 + v3) 1)), some (.inl v9), some (.inl v7), none, none] [] h (fun r h' => Rn xs xl e mm_Plans_homeHour 119 [some (.inr (.inr 77)), some (.inr (.inr q)), some (.inr (.inr sc)), some (.inl v3), some (.inr (.inr (q + 21 + v3))), some (.inl v5), some (.inl v6), some (.inl v7), some (.inl v8), some (.inl v9), o10] (r.toList ++ []) h' Q)))) :
    Rn xs xl e mm_Plans_homeHour 98 [some (.inr (.inr 77)), some (.inr (.inr q)), some (.inr (.inr sc)), some (.inl v3), some (.inr (.inr (q + 21 + v3))), some (.inl v5), some (.inl v6), some (.inl v7), some (.inl v8), some (.inl v9), o10] [] h Q := by
  refine R_ld (v := .inl v9) dd_Plans_homeHour_98 rfl rfl rfl rfl ?_
  refine R_bi dd_Plans_homeHour_100 (by decide) rfl ?_
  refine R_icmp dd_Plans_homeHour_102 rfl rfl (fun (c2 : 24 ≤ v9) => ?_) (fun (c2 : v9 < 24) => ?_)
  · replace k := k.1 c2
    refine R_ic dd_Plans_homeHour_180 (by decide) rfl ?_
    exact R_iret dd_Plans_homeHour_181 rfl k
  · replace k := k.2 c2
    refine R_ld (v := .inr (.inr q)) dd_Plans_homeHour_105 rfl rfl rfl rfl ?_
    refine R_ld (v := .inr (.inr sc)) dd_Plans_homeHour_106 rfl rfl rfl rfl ?_
    refine R_ld (v := .inr (.inr (q + 21 + v3))) dd_Plans_homeHour_107 rfl rfl rfl rfl ?_
    refine R_gf (v := .inl (rd h (q + 21 + v3) 1)) dd_Plans_homeHour_109 fd_5_33 (io_p hq (by omega)) (congrArg (fun z : Int => (Sum.inl z : LV)) (rfl)) rfl ?_
    refine R_ld (v := .inl v9) dd_Plans_homeHour_112 rfl rfl rfl rfl ?_
    refine R_ld (v := .inl v7) dd_Plans_homeHour_114 rfl rfl rfl rfl ?_
    obtain ⟨c, hc, k⟩ := k
    exact R_call (as := [.inr (.inr q), .inr (.inr sc), .inl (rd h (q + 21 + v3) 1), .inl v9, .inl v7]) (rest := []) (M' := mm_Plans_nextRooms) (ls0 := [some (.inr (.inr q)), some (.inr (.inr sc)), some (.inl (rd h (q + 21 + v3) 1)), some (.inl v9), some (.inl v7), none, none]) dd_Plans_homeHour_116 rfl rfl (cw_s cw_5_42 rfl rfl (Nat.le_of_ble_eq_true rfl) (Nat.le_of_ble_eq_true rfl)) mt_Plans_nextRooms rfl hc rfl k
theorem B_Plans_homeHour_119 {xs : Nat → Int} {xl e : Nat} {h : LH} {Q : Option LV → LH → Prop} {v3 v5 v6 v7 v8 v9 w0 : Int} {q : Int} (hq : q = 5 ∨ q = 32) {sc : Int} (hsc : scn sc) (hc0 : 60 ≤ sc) {o10 : Option LV} (hF : RF h) (r_v3 : 0 ≤ v3 ∧ v3 ≤ 5) (r_v9 : 0 ≤ v9 ∧ v9 ≤ 23)
    (k : (∃ c, c < e ∧ Rn xs xl c mm_Plans_nextRooms 0 [some (.inr (.inr q)), some (.inr (.inr sc)), some (.inl (rd h (q + 21 + v3) 1)), some (.inl v9), some (.inl v8), none, none] [] h (fun r h' => Rn xs xl e mm_Plans_homeHour 137 [some (.inr (.inr 77)), some (.inr (.inr q)), some (.inr (.inr sc)), some (.inl v3), some (.inr (.inr (q + 21 + v3))), some (.inl v5), some (.inl v6), some (.inl v7), some (.inl v8), some (.inl v9), some (.inl w0)] (r.toList ++ [.inl v8]) h' Q))) :
    Rn xs xl e mm_Plans_homeHour 119 [some (.inr (.inr 77)), some (.inr (.inr q)), some (.inr (.inr sc)), some (.inl v3), some (.inr (.inr (q + 21 + v3))), some (.inl v5), some (.inl v6), some (.inl v7), some (.inl v8), some (.inl v9), o10] [.inl w0] h Q := by
  refine R_st (ls' := [some (.inr (.inr 77)), some (.inr (.inr q)), some (.inr (.inr sc)), some (.inl v3), some (.inr (.inr (q + 21 + v3))), some (.inl v5), some (.inl v6), some (.inl v7), some (.inl v8), some (.inl v9), some (.inl w0)]) dd_Plans_homeHour_119 rfl rfl rfl (Nat.le_of_ble_eq_true rfl) rfl rfl ?_
  refine R_ld (v := .inl v8) dd_Plans_homeHour_121 rfl rfl rfl rfl ?_
  refine R_ld (v := .inr (.inr q)) dd_Plans_homeHour_123 rfl rfl rfl rfl ?_
  refine R_ld (v := .inr (.inr sc)) dd_Plans_homeHour_124 rfl rfl rfl rfl ?_
  refine R_ld (v := .inr (.inr (q + 21 + v3))) dd_Plans_homeHour_125 rfl rfl rfl rfl ?_
  refine R_gf (v := .inl (rd h (q + 21 + v3) 1)) dd_Plans_homeHour_127 fd_5_33 (io_p hq (by omega)) (congrArg (fun z : Int => (Sum.inl z : LV)) (rfl)) rfl ?_
  refine R_ld (v := .inl v9) dd_Plans_homeHour_130 rfl rfl rfl rfl ?_
  refine R_ld (v := .inl v8) dd_Plans_homeHour_132 rfl rfl rfl rfl ?_
  obtain ⟨c, hc, k⟩ := k
  exact R_call (as := [.inr (.inr q), .inr (.inr sc), .inl (rd h (q + 21 + v3) 1), .inl v9, .inl v8]) (rest := [.inl v8]) (M' := mm_Plans_nextRooms) (ls0 := [some (.inr (.inr q)), some (.inr (.inr sc)), some (.inl (rd h (q + 21 + v3) 1)), some (.inl v9), some (.inl v8), none, none]) dd_Plans_homeHour_134 rfl rfl (cw_s cw_5_42 rfl rfl (Nat.le_of_ble_eq_true rfl) (Nat.le_of_ble_eq_true rfl)) mt_Plans_nextRooms rfl hc rfl k
theorem B_Plans_homeHour_137 {xs : Nat → Int} {xl e : Nat} {h : LH} {Q : Option LV → LH → Prop} {v3 v5 v6 v7 v8 v9 v10 w0 w1 : Int} {q : Int} (hq : q = 5 ∨ q = 32) {sc : Int} (hsc : scn sc) (hc0 : 60 ≤ sc) (hF : RF h) (r_v3 : 0 ≤ v3 ∧ v3 ≤ 5) (r_v9 : 0 ≤ v9 ∧ v9 ≤ 23)
    (k : ((zand (zshr (zor w0 (zor w1 (zand v10 v5))) (rd h (q + 21 + v3) 2)) 1) = 0 →
        Rn xs xl e mm_Plans_homeHour 98 [some (.inr (.inr 77)), some (.inr (.inr q)), some (.inr (.inr sc)), some (.inl v3), some (.inr (.inr (q + 21 + v3))), some (.inl v5), some (.inl v6), some (.inl (zor v7 (zand v10 (zxor v5 (-1))))), some (.inl (zor w0 (zor w1 (zand v10 v5)))), some (.inl (v9 + 1)), some (.inl v10)] [] h Q) ∧
      ((zand (zshr (zor w0 (zor w1 (zand v10 v5))) (rd h (q + 21 + v3) 2)) 1) ≠ 0 →
        Q (some (.inl v9)) h)) :
    Rn xs xl e mm_Plans_homeHour 137 [some (.inr (.inr 77)), some (.inr (.inr q)), some (.inr (.inr sc)), some (.inl v3), some (.inr (.inr (q + 21 + v3))), some (.inl v5), some (.inl v6), some (.inl v7), some (.inl v8), some (.inl v9), some (.inl v10)] [.inl w1, .inl w0] h Q := by
  refine R_ld (v := .inl v10) dd_Plans_homeHour_137 rfl rfl rfl rfl ?_
  refine R_ld (v := .inl v5) dd_Plans_homeHour_139 rfl rfl rfl rfl ?_
  refine R_A dd_Plans_homeHour_141 rfl rfl rfl rfl ?_
  refine R_A dd_Plans_homeHour_142 rfl rfl rfl rfl ?_
  refine R_A dd_Plans_homeHour_143 rfl rfl rfl rfl ?_
  refine R_st (ls' := [some (.inr (.inr 77)), some (.inr (.inr q)), some (.inr (.inr sc)), some (.inl v3), some (.inr (.inr (q + 21 + v3))), some (.inl v5), some (.inl v6), some (.inl v7), some (.inl (zor w0 (zor w1 (zand v10 v5)))), some (.inl v9), some (.inl v10)]) dd_Plans_homeHour_144 rfl rfl rfl (Nat.le_of_ble_eq_true rfl) rfl rfl ?_
  refine R_ld (v := .inl v7) dd_Plans_homeHour_146 rfl rfl rfl rfl ?_
  refine R_ld (v := .inl v10) dd_Plans_homeHour_148 rfl rfl rfl rfl ?_
  refine R_ld (v := .inl v5) dd_Plans_homeHour_150 rfl rfl rfl rfl ?_
  refine R_ic dd_Plans_homeHour_152 (by decide) rfl ?_
  refine R_A dd_Plans_homeHour_153 rfl rfl rfl rfl ?_
  refine R_A dd_Plans_homeHour_154 rfl rfl rfl rfl ?_
  refine R_A dd_Plans_homeHour_155 rfl rfl rfl rfl ?_
  refine R_st (ls' := [some (.inr (.inr 77)), some (.inr (.inr q)), some (.inr (.inr sc)), some (.inl v3), some (.inr (.inr (q + 21 + v3))), some (.inl v5), some (.inl v6), some (.inl (zor v7 (zand v10 (zxor v5 (-1))))), some (.inl (zor w0 (zor w1 (zand v10 v5)))), some (.inl v9), some (.inl v10)]) dd_Plans_homeHour_156 rfl rfl rfl (Nat.le_of_ble_eq_true rfl) rfl rfl ?_
  refine R_ld (v := .inl (zor w0 (zor w1 (zand v10 v5)))) dd_Plans_homeHour_158 rfl rfl rfl rfl ?_
  refine R_ld (v := .inr (.inr (q + 21 + v3))) dd_Plans_homeHour_160 rfl rfl rfl rfl ?_
  refine R_gf (v := .inl (rd h (q + 21 + v3) 2)) dd_Plans_homeHour_162 fd_5_65 (io_p hq (by omega)) (congrArg (fun z : Int => (Sum.inl z : LV)) (rfl)) rfl ?_
  refine R_A dd_Plans_homeHour_165 rfl rfl rfl rfl ?_
  refine R_ic dd_Plans_homeHour_166 (by decide) rfl ?_
  refine R_A dd_Plans_homeHour_167 rfl rfl rfl rfl ?_
  refine R_if dd_Plans_homeHour_168 rfl rfl (fun (c1 : (zand (zshr (zor w0 (zor w1 (zand v10 v5))) (rd h (q + 21 + v3) 2)) 1) = 0) => ?_) (fun (c1 : (zand (zshr (zor w0 (zor w1 (zand v10 v5))) (rd h (q + 21 + v3) 2)) 1) ≠ 0) => ?_)
  · replace k := k.1 c1
    refine R_inc (y := v9 + 1) (ls' := [some (.inr (.inr 77)), some (.inr (.inr q)), some (.inr (.inr sc)), some (.inl v3), some (.inr (.inr (q + 21 + v3))), some (.inl v5), some (.inl v6), some (.inl (zor v7 (zand v10 (zxor v5 (-1))))), some (.inl (zor w0 (zor w1 (zand v10 v5)))), some (.inl (v9 + 1)), some (.inl v10)]) dd_Plans_homeHour_174 rfl (by decide) (by omega) (by omega) rfl rfl ?_
    refine R_goto dd_Plans_homeHour_177 rfl ?_
    exact k
  · replace k := k.2 c1
    refine R_ld (v := .inl v9) dd_Plans_homeHour_171 rfl rfl rfl rfl ?_
    exact R_iret dd_Plans_homeHour_173 rfl k
theorem B_OneSided_soonest_0 {xs : Nat → Int} {xl e : Nat} {h : LH} {Q : Option LV → LH → Prop} {v1 v2 : Int} {q : Int} (hq : q = 5 ∨ q = 32) (hQ : rd h 1 ((1 : Nat) : Int) = q) (hF : RF h) (he : 1 ≤ e)
    (k : (v1 < 0 →
        Q (some (.inl (-1))) h) ∧
      (0 ≤ v1 →
        ((rd h q 4) ≤ v1 →
          Q (some (.inl (-1))) h) ∧
        (v1 < (rd h q 4) →
          (v2 < 0 →
            Q (some (.inl (-1))) h) ∧
          (0 ≤ v2 →
            ((rd h q 0) ≤ v2 →
              Q (some (.inl (-1))) h) ∧
            (v2 < (rd h q 0) →
              (∃ c, c < e ∧ Rn xs xl c mm_Plans_firstHourIn 0 [some (.inr (.inr 77)), some (.inr (.inr q)), some (.inr (.inr 60)), some (.inl v1), some (.inl v2), none, none, none] [] h (fun r h' => Rn xs xl e mm_OneSided_soonest 38 [some (.inr (.inr 1)), some (.inl v1), some (.inl v2)] (r.toList ++ []) h' Q))))))) :
    Rn xs xl e mm_OneSided_soonest 0 [some (.inr (.inr 1)), some (.inl v1), some (.inl v2)] [] h Q := by
  refine R_ld (v := .inr (.inr 1)) dd_OneSided_soonest_0 rfl rfl rfl rfl ?_
  refine R_ld (v := .inl v1) dd_OneSided_soonest_1 rfl rfl rfl rfl ?_
  refine R_call (as := [.inr (.inr 1), .inl v1]) (rest := []) (M' := mm_OneSided_isPerson) (ls0 := [some (.inr (.inr 1)), some (.inl v1)]) dd_OneSided_soonest_2 rfl rfl (cw_v cw_11_160 io_1 rfl rfl (Nat.le_of_ble_eq_true rfl) (Nat.le_of_ble_eq_true rfl)) mt_OneSided_isPerson rfl (c := e - 1) (by omega) rfl ?_
  refine R_ld (v := .inl v1) dd_OneSided_isPerson_0 rfl rfl rfl rfl ?_
  refine R_if dd_OneSided_isPerson_1 rfl rfl (fun (c2 : v1 < 0) => ?_) (fun (c2 : 0 ≤ v1) => ?_)
  · replace k := k.1 c2
    refine R_ic dd_OneSided_isPerson_19 (by decide) rfl ?_
    refine R_zret dd_OneSided_isPerson_20 rfl (by decide) ?_
    change Rn xs xl e mm_OneSided_soonest 5 [some (.inr (.inr 1)), some (.inl v1), some (.inl v2)] [.inl 0] h _
    refine R_if dd_OneSided_soonest_5 rfl rfl (fun (c3 : 0 = 0) => ?_) (fun (c3 : 0 ≠ 0) => ?_)
    · skip
      refine R_ic dd_OneSided_soonest_16 (by decide) rfl ?_
      exact R_iret dd_OneSided_soonest_17 rfl k
    · exact absurd c3 (by omega)
  · replace k := k.2 c2
    refine R_ld (v := .inl v1) dd_OneSided_isPerson_4 rfl rfl rfl rfl ?_
    refine R_ld (v := .inr (.inr 1)) dd_OneSided_isPerson_5 rfl rfl rfl rfl ?_
    refine R_gf (v := .inr (.inr q)) dd_OneSided_isPerson_6 fd_11_19 io_1 (congrArg (fun z : Int => (Sum.inr (Sum.inr z) : LV)) hQ) rfl ?_
    refine R_gf (v := .inl (rd h q 4)) dd_OneSided_isPerson_9 fd_11_254 (io_q hq) (congrArg (fun z : Int => (Sum.inl z : LV)) (rfl)) rfl ?_
    refine R_icmp dd_OneSided_isPerson_12 rfl rfl (fun (c4 : (rd h q 4) ≤ v1) => ?_) (fun (c4 : v1 < (rd h q 4)) => ?_)
    · replace k := k.1 c4
      refine R_ic dd_OneSided_isPerson_19 (by decide) rfl ?_
      refine R_zret dd_OneSided_isPerson_20 rfl (by decide) ?_
      change Rn xs xl e mm_OneSided_soonest 5 [some (.inr (.inr 1)), some (.inl v1), some (.inl v2)] [.inl 0] h _
      refine R_if dd_OneSided_soonest_5 rfl rfl (fun (c5 : 0 = 0) => ?_) (fun (c5 : 0 ≠ 0) => ?_)
      · skip
        refine R_ic dd_OneSided_soonest_16 (by decide) rfl ?_
        exact R_iret dd_OneSided_soonest_17 rfl k
      · exact absurd c5 (by omega)
    · replace k := k.2 c4
      refine R_ic dd_OneSided_isPerson_15 (by decide) rfl ?_
      refine R_goto dd_OneSided_isPerson_16 rfl ?_
      refine R_zret dd_OneSided_isPerson_20 rfl (by decide) ?_
      change Rn xs xl e mm_OneSided_soonest 5 [some (.inr (.inr 1)), some (.inl v1), some (.inl v2)] [.inl 1] h _
      refine R_if dd_OneSided_soonest_5 rfl rfl (fun (c6 : 1 = 0) => ?_) (fun (c6 : 1 ≠ 0) => ?_)
      · exact absurd c6 (by omega)
      · skip
        refine R_ld (v := .inr (.inr 1)) dd_OneSided_soonest_8 rfl rfl rfl rfl ?_
        refine R_ld (v := .inl v2) dd_OneSided_soonest_9 rfl rfl rfl rfl ?_
        refine R_call (as := [.inr (.inr 1), .inl v2]) (rest := []) (M' := mm_OneSided_isRoom) (ls0 := [some (.inr (.inr 1)), some (.inl v2)]) dd_OneSided_soonest_10 rfl rfl (cw_v cw_11_190 io_1 rfl rfl (Nat.le_of_ble_eq_true rfl) (Nat.le_of_ble_eq_true rfl)) mt_OneSided_isRoom rfl (c := e - 1) (by omega) rfl ?_
        refine R_ld (v := .inl v2) dd_OneSided_isRoom_0 rfl rfl rfl rfl ?_
        refine R_if dd_OneSided_isRoom_1 rfl rfl (fun (c7 : v2 < 0) => ?_) (fun (c7 : 0 ≤ v2) => ?_)
        · replace k := k.1 c7
          refine R_ic dd_OneSided_isRoom_19 (by decide) rfl ?_
          refine R_zret dd_OneSided_isRoom_20 rfl (by decide) ?_
          change Rn xs xl e mm_OneSided_soonest 13 [some (.inr (.inr 1)), some (.inl v1), some (.inl v2)] [.inl 0] h _
          refine R_if dd_OneSided_soonest_13 rfl rfl (fun (c8 : 0 ≠ 0) => ?_) (fun (c8 : 0 = 0) => ?_)
          · exact absurd c8 (by omega)
          · skip
            refine R_ic dd_OneSided_soonest_16 (by decide) rfl ?_
            exact R_iret dd_OneSided_soonest_17 rfl k
        · replace k := k.2 c7
          refine R_ld (v := .inl v2) dd_OneSided_isRoom_4 rfl rfl rfl rfl ?_
          refine R_ld (v := .inr (.inr 1)) dd_OneSided_isRoom_5 rfl rfl rfl rfl ?_
          refine R_gf (v := .inr (.inr q)) dd_OneSided_isRoom_6 fd_11_19 io_1 (congrArg (fun z : Int => (Sum.inr (Sum.inr z) : LV)) hQ) rfl ?_
          refine R_gf (v := .inl (rd h q 0)) dd_OneSided_isRoom_9 fd_11_267 (io_q hq) (congrArg (fun z : Int => (Sum.inl z : LV)) (rfl)) rfl ?_
          refine R_icmp dd_OneSided_isRoom_12 rfl rfl (fun (c9 : (rd h q 0) ≤ v2) => ?_) (fun (c9 : v2 < (rd h q 0)) => ?_)
          · replace k := k.1 c9
            refine R_ic dd_OneSided_isRoom_19 (by decide) rfl ?_
            refine R_zret dd_OneSided_isRoom_20 rfl (by decide) ?_
            change Rn xs xl e mm_OneSided_soonest 13 [some (.inr (.inr 1)), some (.inl v1), some (.inl v2)] [.inl 0] h _
            refine R_if dd_OneSided_soonest_13 rfl rfl (fun (c10 : 0 ≠ 0) => ?_) (fun (c10 : 0 = 0) => ?_)
            · exact absurd c10 (by omega)
            · skip
              refine R_ic dd_OneSided_soonest_16 (by decide) rfl ?_
              exact R_iret dd_OneSided_soonest_17 rfl k
          · replace k := k.2 c9
            refine R_ic dd_OneSided_isRoom_15 (by decide) rfl ?_
            refine R_goto dd_OneSided_isRoom_16 rfl ?_
            refine R_zret dd_OneSided_isRoom_20 rfl (by decide) ?_
            change Rn xs xl e mm_OneSided_soonest 13 [some (.inr (.inr 1)), some (.inl v1), some (.inl v2)] [.inl 1] h _
            refine R_if dd_OneSided_soonest_13 rfl rfl (fun (c11 : 1 ≠ 0) => ?_) (fun (c11 : 1 = 0) => ?_)
            · skip
              refine R_ld (v := .inr (.inr 1)) dd_OneSided_soonest_18 rfl rfl rfl rfl ?_
              refine R_gf (v := .inr (.inr 77)) dd_OneSided_soonest_19 fd_11_49 io_1 (congrArg (fun z : Int => (Sum.inr (Sum.inr z) : LV)) (rf_1_10 hF)) rfl ?_
              refine R_ld (v := .inr (.inr 1)) dd_OneSided_soonest_22 rfl rfl rfl rfl ?_
              refine R_gf (v := .inr (.inr q)) dd_OneSided_soonest_23 fd_11_19 io_1 (congrArg (fun z : Int => (Sum.inr (Sum.inr z) : LV)) hQ) rfl ?_
              refine R_ld (v := .inr (.inr 1)) dd_OneSided_soonest_26 rfl rfl rfl rfl ?_
              refine R_gf (v := .inr (.inr 59)) dd_OneSided_soonest_27 fd_11_29 io_1 (congrArg (fun z : Int => (Sum.inr (Sum.inr z) : LV)) (rf_1_3 hF)) rfl ?_
              refine R_gf (v := .inr (.inr 60)) dd_OneSided_soonest_30 fd_11_149 io_59 (congrArg (fun z : Int => (Sum.inr (Sum.inr z) : LV)) (rf_59_0 hF)) rfl ?_
              refine R_ld (v := .inl v1) dd_OneSided_soonest_33 rfl rfl rfl rfl ?_
              refine R_ld (v := .inl v2) dd_OneSided_soonest_34 rfl rfl rfl rfl ?_
              obtain ⟨c, hc, k⟩ := k
              exact R_call (as := [.inr (.inr 77), .inr (.inr q), .inr (.inr 60), .inl v1, .inl v2]) (rest := []) (M' := mm_Plans_firstHourIn) (ls0 := [some (.inr (.inr 77)), some (.inr (.inr q)), some (.inr (.inr 60)), some (.inl v1), some (.inl v2), none, none, none]) dd_OneSided_soonest_35 rfl rfl (cw_v cw_11_233 io_77 rfl rfl (Nat.le_of_ble_eq_true rfl) (Nat.le_of_ble_eq_true rfl)) mt_Plans_firstHourIn rfl hc rfl k
            · exact absurd c11 (by omega)
theorem B_OneSided_soonest_38 {xs : Nat → Int} {xl e : Nat} {h : LH} {Q : Option LV → LH → Prop} {v1 v2 w0 : Int} (hF : RF h)
    (k : Q (some (.inl w0)) h) :
    Rn xs xl e mm_OneSided_soonest 38 [some (.inr (.inr 1)), some (.inl v1), some (.inl v2)] [.inl w0] h Q := by
  exact R_iret dd_OneSided_soonest_38 rfl k
theorem B_OneSided_reach_0 {xs : Nat → Int} {xl e : Nat} {h : LH} {Q : Option LV → LH → Prop} {v1 : Int} {q : Int} (hq : q = 5 ∨ q = 32) (hQ : rd h 1 ((1 : Nat) : Int) = q) (hF : RF h) (he : 1 ≤ e)
    (k : (v1 < 0 →
        Q (some (.inl (-1))) h) ∧
      (0 ≤ v1 →
        ((rd h q 4) ≤ v1 →
          Q (some (.inl (-1))) h) ∧
        (v1 < (rd h q 4) →
          (∃ c, c < e ∧ Rn xs xl c mm_Plans_roomsByTheEnd 0 [some (.inr (.inr 77)), some (.inr (.inr q)), some (.inr (.inr 60)), some (.inl v1), none, none, none] [] h (fun r h' => Rn xs xl e mm_OneSided_reach 27 [some (.inr (.inr 1)), some (.inl v1)] (r.toList ++ []) h' Q))))) :
    Rn xs xl e mm_OneSided_reach 0 [some (.inr (.inr 1)), some (.inl v1)] [] h Q := by
  refine R_ld (v := .inr (.inr 1)) dd_OneSided_reach_0 rfl rfl rfl rfl ?_
  refine R_ld (v := .inl v1) dd_OneSided_reach_1 rfl rfl rfl rfl ?_
  refine R_call (as := [.inr (.inr 1), .inl v1]) (rest := []) (M' := mm_OneSided_isPerson) (ls0 := [some (.inr (.inr 1)), some (.inl v1)]) dd_OneSided_reach_2 rfl rfl (cw_v cw_11_160 io_1 rfl rfl (Nat.le_of_ble_eq_true rfl) (Nat.le_of_ble_eq_true rfl)) mt_OneSided_isPerson rfl (c := e - 1) (by omega) rfl ?_
  refine R_ld (v := .inl v1) dd_OneSided_isPerson_0 rfl rfl rfl rfl ?_
  refine R_if dd_OneSided_isPerson_1 rfl rfl (fun (c2 : v1 < 0) => ?_) (fun (c2 : 0 ≤ v1) => ?_)
  · replace k := k.1 c2
    refine R_ic dd_OneSided_isPerson_19 (by decide) rfl ?_
    refine R_zret dd_OneSided_isPerson_20 rfl (by decide) ?_
    change Rn xs xl e mm_OneSided_reach 5 [some (.inr (.inr 1)), some (.inl v1)] [.inl 0] h _
    refine R_if dd_OneSided_reach_5 rfl rfl (fun (c3 : 0 = 0) => ?_) (fun (c3 : 0 ≠ 0) => ?_)
    · skip
      refine R_ic dd_OneSided_reach_30 (by decide) rfl ?_
      exact R_iret dd_OneSided_reach_31 rfl k
    · exact absurd c3 (by omega)
  · replace k := k.2 c2
    refine R_ld (v := .inl v1) dd_OneSided_isPerson_4 rfl rfl rfl rfl ?_
    refine R_ld (v := .inr (.inr 1)) dd_OneSided_isPerson_5 rfl rfl rfl rfl ?_
    refine R_gf (v := .inr (.inr q)) dd_OneSided_isPerson_6 fd_11_19 io_1 (congrArg (fun z : Int => (Sum.inr (Sum.inr z) : LV)) hQ) rfl ?_
    refine R_gf (v := .inl (rd h q 4)) dd_OneSided_isPerson_9 fd_11_254 (io_q hq) (congrArg (fun z : Int => (Sum.inl z : LV)) (rfl)) rfl ?_
    refine R_icmp dd_OneSided_isPerson_12 rfl rfl (fun (c4 : (rd h q 4) ≤ v1) => ?_) (fun (c4 : v1 < (rd h q 4)) => ?_)
    · replace k := k.1 c4
      refine R_ic dd_OneSided_isPerson_19 (by decide) rfl ?_
      refine R_zret dd_OneSided_isPerson_20 rfl (by decide) ?_
      change Rn xs xl e mm_OneSided_reach 5 [some (.inr (.inr 1)), some (.inl v1)] [.inl 0] h _
      refine R_if dd_OneSided_reach_5 rfl rfl (fun (c5 : 0 = 0) => ?_) (fun (c5 : 0 ≠ 0) => ?_)
      · skip
        refine R_ic dd_OneSided_reach_30 (by decide) rfl ?_
        exact R_iret dd_OneSided_reach_31 rfl k
      · exact absurd c5 (by omega)
    · replace k := k.2 c4
      refine R_ic dd_OneSided_isPerson_15 (by decide) rfl ?_
      refine R_goto dd_OneSided_isPerson_16 rfl ?_
      refine R_zret dd_OneSided_isPerson_20 rfl (by decide) ?_
      change Rn xs xl e mm_OneSided_reach 5 [some (.inr (.inr 1)), some (.inl v1)] [.inl 1] h _
      refine R_if dd_OneSided_reach_5 rfl rfl (fun (c6 : 1 = 0) => ?_) (fun (c6 : 1 ≠ 0) => ?_)
      · exact absurd c6 (by omega)
      · skip
        refine R_ld (v := .inr (.inr 1)) dd_OneSided_reach_8 rfl rfl rfl rfl ?_
        refine R_gf (v := .inr (.inr 77)) dd_OneSided_reach_9 fd_11_49 io_1 (congrArg (fun z : Int => (Sum.inr (Sum.inr z) : LV)) (rf_1_10 hF)) rfl ?_
        refine R_ld (v := .inr (.inr 1)) dd_OneSided_reach_12 rfl rfl rfl rfl ?_
        refine R_gf (v := .inr (.inr q)) dd_OneSided_reach_13 fd_11_19 io_1 (congrArg (fun z : Int => (Sum.inr (Sum.inr z) : LV)) hQ) rfl ?_
        refine R_ld (v := .inr (.inr 1)) dd_OneSided_reach_16 rfl rfl rfl rfl ?_
        refine R_gf (v := .inr (.inr 59)) dd_OneSided_reach_17 fd_11_29 io_1 (congrArg (fun z : Int => (Sum.inr (Sum.inr z) : LV)) (rf_1_3 hF)) rfl ?_
        refine R_gf (v := .inr (.inr 60)) dd_OneSided_reach_20 fd_11_149 io_59 (congrArg (fun z : Int => (Sum.inr (Sum.inr z) : LV)) (rf_59_0 hF)) rfl ?_
        refine R_ld (v := .inl v1) dd_OneSided_reach_23 rfl rfl rfl rfl ?_
        obtain ⟨c, hc, k⟩ := k
        exact R_call (as := [.inr (.inr 77), .inr (.inr q), .inr (.inr 60), .inl v1]) (rest := []) (M' := mm_Plans_roomsByTheEnd) (ls0 := [some (.inr (.inr 77)), some (.inr (.inr q)), some (.inr (.inr 60)), some (.inl v1), none, none, none]) dd_OneSided_reach_24 rfl rfl (cw_v cw_11_251 io_77 rfl rfl (Nat.le_of_ble_eq_true rfl) (Nat.le_of_ble_eq_true rfl)) mt_Plans_roomsByTheEnd rfl hc rfl k
theorem B_OneSided_reach_27 {xs : Nat → Int} {xl e : Nat} {h : LH} {Q : Option LV → LH → Prop} {v1 w0 : Int} (hF : RF h)
    (k : Q (some (.inl w0)) h) :
    Rn xs xl e mm_OneSided_reach 27 [some (.inr (.inr 1)), some (.inl v1)] [.inl w0] h Q := by
  refine R_goto dd_OneSided_reach_27 rfl ?_
  exact R_iret dd_OneSided_reach_31 rfl k
theorem B_OneSided_stuck_0 {xs : Nat → Int} {xl e : Nat} {h : LH} {Q : Option LV → LH → Prop} (hF : RF h)
    (k : Rn xs xl e mm_OneSided_stuck 4 [some (.inr (.inr 1)), some (.inl 0), some (.inl 0)] [] h Q) :
    Rn xs xl e mm_OneSided_stuck 0 [some (.inr (.inr 1)), none, none] [] h Q := by
  refine R_ic dd_OneSided_stuck_0 (by decide) rfl ?_
  refine R_st (ls' := [some (.inr (.inr 1)), some (.inl 0), none]) dd_OneSided_stuck_1 rfl rfl rfl (Nat.le_of_ble_eq_true rfl) rfl rfl ?_
  refine R_ic dd_OneSided_stuck_2 (by decide) rfl ?_
  refine R_st (ls' := [some (.inr (.inr 1)), some (.inl 0), some (.inl 0)]) dd_OneSided_stuck_3 rfl rfl rfl (Nat.le_of_ble_eq_true rfl) rfl rfl ?_
  exact k
theorem B_OneSided_stuck_4 {xs : Nat → Int} {xl e : Nat} {h : LH} {Q : Option LV → LH → Prop} {v1 v2 : Int} {q : Int} (hq : q = 5 ∨ q = 32) (hQ : rd h 1 ((1 : Nat) : Int) = q) (hF : RF h) (r_v2 : 0 ≤ v2 ∧ v2 ≤ 6)
    (k : ((rd h q 4) ≤ v2 →
        Q (some (.inl v1)) h) ∧
      (v2 < (rd h q 4) →
        (∃ c, c < e ∧ Rn xs xl c mm_Plans_homeHour 0 [some (.inr (.inr 77)), some (.inr (.inr q)), some (.inr (.inr 60)), some (.inl v2), none, none, none, none, none, none, none] [] h (fun r h' => Rn xs xl e mm_OneSided_stuck 34 [some (.inr (.inr 1)), some (.inl v1), some (.inl v2)] (r.toList ++ []) h' Q)))) :
    Rn xs xl e mm_OneSided_stuck 4 [some (.inr (.inr 1)), some (.inl v1), some (.inl v2)] [] h Q := by
  refine R_ld (v := .inl v2) dd_OneSided_stuck_4 rfl rfl rfl rfl ?_
  refine R_ld (v := .inr (.inr 1)) dd_OneSided_stuck_5 rfl rfl rfl rfl ?_
  refine R_gf (v := .inr (.inr q)) dd_OneSided_stuck_6 fd_11_19 io_1 (congrArg (fun z : Int => (Sum.inr (Sum.inr z) : LV)) hQ) rfl ?_
  refine R_gf (v := .inl (rd h q 4)) dd_OneSided_stuck_9 fd_11_254 (io_q hq) (congrArg (fun z : Int => (Sum.inl z : LV)) (rfl)) rfl ?_
  refine R_icmp dd_OneSided_stuck_12 rfl rfl (fun (c2 : (rd h q 4) ≤ v2) => ?_) (fun (c2 : v2 < (rd h q 4)) => ?_)
  · replace k := k.1 c2
    refine R_ld (v := .inl v1) dd_OneSided_stuck_50 rfl rfl rfl rfl ?_
    exact R_iret dd_OneSided_stuck_51 rfl k
  · replace k := k.2 c2
    refine R_ld (v := .inr (.inr 1)) dd_OneSided_stuck_15 rfl rfl rfl rfl ?_
    refine R_gf (v := .inr (.inr 77)) dd_OneSided_stuck_16 fd_11_49 io_1 (congrArg (fun z : Int => (Sum.inr (Sum.inr z) : LV)) (rf_1_10 hF)) rfl ?_
    refine R_ld (v := .inr (.inr 1)) dd_OneSided_stuck_19 rfl rfl rfl rfl ?_
    refine R_gf (v := .inr (.inr q)) dd_OneSided_stuck_20 fd_11_19 io_1 (congrArg (fun z : Int => (Sum.inr (Sum.inr z) : LV)) hQ) rfl ?_
    refine R_ld (v := .inr (.inr 1)) dd_OneSided_stuck_23 rfl rfl rfl rfl ?_
    refine R_gf (v := .inr (.inr 59)) dd_OneSided_stuck_24 fd_11_29 io_1 (congrArg (fun z : Int => (Sum.inr (Sum.inr z) : LV)) (rf_1_3 hF)) rfl ?_
    refine R_gf (v := .inr (.inr 60)) dd_OneSided_stuck_27 fd_11_149 io_59 (congrArg (fun z : Int => (Sum.inr (Sum.inr z) : LV)) (rf_59_0 hF)) rfl ?_
    refine R_ld (v := .inl v2) dd_OneSided_stuck_30 rfl rfl rfl rfl ?_
    obtain ⟨c, hc, k⟩ := k
    exact R_call (as := [.inr (.inr 77), .inr (.inr q), .inr (.inr 60), .inl v2]) (rest := []) (M' := mm_Plans_homeHour) (ls0 := [some (.inr (.inr 77)), some (.inr (.inr q)), some (.inr (.inr 60)), some (.inl v2), none, none, none, none, none, none, none]) dd_OneSided_stuck_31 rfl rfl (cw_v cw_11_237 io_77 rfl rfl (Nat.le_of_ble_eq_true rfl) (Nat.le_of_ble_eq_true rfl)) mt_Plans_homeHour rfl hc rfl k
theorem B_OneSided_stuck_34 {xs : Nat → Int} {xl e : Nat} {h : LH} {Q : Option LV → LH → Prop} {v1 v2 w0 : Int} (hF : RF h) (r_v2 : 0 ≤ v2 ∧ v2 ≤ 5)
    (k : (w0 ≠ (-1) →
        Rn xs xl e mm_OneSided_stuck 4 [some (.inr (.inr 1)), some (.inl v1), some (.inl (v2 + 1))] [] h Q) ∧
      (w0 = (-1) →
        Rn xs xl e mm_OneSided_stuck 4 [some (.inr (.inr 1)), some (.inl (zor v1 (zshl 1 v2))), some (.inl (v2 + 1))] [] h Q)) :
    Rn xs xl e mm_OneSided_stuck 34 [some (.inr (.inr 1)), some (.inl v1), some (.inl v2)] [.inl w0] h Q := by
  refine R_ic dd_OneSided_stuck_34 (by decide) rfl ?_
  refine R_icmp dd_OneSided_stuck_35 rfl rfl (fun (c1 : w0 ≠ (-1)) => ?_) (fun (c1 : w0 = (-1)) => ?_)
  · replace k := k.1 c1
    refine R_inc (y := v2 + 1) (ls' := [some (.inr (.inr 1)), some (.inl v1), some (.inl (v2 + 1))]) dd_OneSided_stuck_44 rfl (by decide) (by omega) (by omega) rfl rfl ?_
    refine R_goto dd_OneSided_stuck_47 rfl ?_
    exact k
  · replace k := k.2 c1
    refine R_ld (v := .inl v1) dd_OneSided_stuck_38 rfl rfl rfl rfl ?_
    refine R_ic dd_OneSided_stuck_39 (by decide) rfl ?_
    refine R_ld (v := .inl v2) dd_OneSided_stuck_40 rfl rfl rfl rfl ?_
    refine R_A dd_OneSided_stuck_41 rfl rfl rfl rfl ?_
    refine R_A dd_OneSided_stuck_42 rfl rfl rfl rfl ?_
    refine R_st (ls' := [some (.inr (.inr 1)), some (.inl (zor v1 (zshl 1 v2))), some (.inl v2)]) dd_OneSided_stuck_43 rfl rfl rfl (Nat.le_of_ble_eq_true rfl) rfl rfl ?_
    refine R_inc (y := v2 + 1) (ls' := [some (.inr (.inr 1)), some (.inl (zor v1 (zshl 1 v2))), some (.inl (v2 + 1))]) dd_OneSided_stuck_44 rfl (by decide) (by omega) (by omega) rfl rfl ?_
    refine R_goto dd_OneSided_stuck_47 rfl ?_
    exact k
theorem B_soonest_0 {xs : Nat → Int} {xl e : Nat} {h : LH} {Q : Option LV → LH → Prop} {v1 v2 : Int} (hF : RF h) (he : 2 ≤ e)
    (k : (v1 < 0 →
        Q (some (.inl (-1))) (wr h 182 0 0)) ∧
      (0 ≤ v1 →
        ((rd h 188 2) ≤ v1 →
          Q (some (.inl (-1))) (wr h 182 0 0)) ∧
        (v1 < (rd h 188 2) →
          (v2 < 0 →
            Q (some (.inl (-1))) (wr h 182 0 0)) ∧
          (0 ≤ v2 →
            ((rd h 188 0) ≤ v2 →
              Q (some (.inl (-1))) (wr h 182 0 0)) ∧
            (v2 < (rd h 188 0) →
              (-2147483648 ≤ v2 + 10 ∧ v2 + 10 ≤ 2147483647) ∧
              (∃ c, c < e ∧ Rn xs xl c mm_firstHour 0 [some (.inr (.inr 182)), some (.inl 0), some (.inl v1), some (.inl (zor (zshl 1 v2) (zshl 1 (v2 + 10)))), none, none] [] (wr h 182 0 0) (fun r h' => Rn xs xl e mm_soonest 37 [some (.inr (.inr 182)), some (.inl v1), some (.inl v2)] (r.toList ++ []) h' Q))))))) :
    Rn xs xl e mm_soonest 0 [some (.inr (.inr 182)), some (.inl v1), some (.inl v2)] [] h Q := by
  refine R_ld (v := .inr (.inr 182)) dd_soonest_0 rfl rfl rfl rfl ?_
  refine R_ic dd_soonest_1 (by decide) rfl ?_
  refine R_pf (z := 0) dd_soonest_2 fd_12_1 io_182 fn_12_0 rfl rfl ?_
  refine R_ld (v := .inr (.inr 182)) dd_soonest_5 rfl rfl rfl rfl ?_
  refine R_ld (v := .inl v1) dd_soonest_6 rfl rfl rfl rfl ?_
  refine R_call (as := [.inr (.inr 182), .inl v1]) (rest := []) (M' := mm_isPerson) (ls0 := [some (.inr (.inr 182)), some (.inl v1)]) dd_soonest_7 rfl rfl (cw_v cw_12_367 io_182 rfl rfl (Nat.le_of_ble_eq_true rfl) (Nat.le_of_ble_eq_true rfl)) mt_isPerson rfl (c := e - 1) (by omega) rfl ?_
  refine R_ld (v := .inl v1) dd_isPerson_0 rfl rfl rfl rfl ?_
  refine R_if dd_isPerson_1 rfl rfl (fun (c3 : v1 < 0) => ?_) (fun (c3 : 0 ≤ v1) => ?_)
  · replace k := k.1 c3
    refine R_ic dd_isPerson_16 (by decide) rfl ?_
    refine R_zret dd_isPerson_17 rfl (by decide) ?_
    change Rn xs xl e mm_soonest 10 [some (.inr (.inr 182)), some (.inl v1), some (.inl v2)] [.inl 0] (wr h 182 0 0) _
    refine R_if dd_soonest_10 rfl rfl (fun (c4 : 0 = 0) => ?_) (fun (c4 : 0 ≠ 0) => ?_)
    · skip
      refine R_ic dd_soonest_40 (by decide) rfl ?_
      exact R_iret dd_soonest_41 rfl k
    · exact absurd c4 (by omega)
  · replace k := k.2 c3
    refine R_ld (v := .inl v1) dd_isPerson_4 rfl rfl rfl rfl ?_
    refine R_ld (v := .inr (.inr 182)) dd_isPerson_5 rfl rfl rfl rfl ?_
    refine R_call (as := [.inr (.inr 182)]) (rest := [.inl v1]) (M' := mm_people) (ls0 := [some (.inr (.inr 182))]) dd_isPerson_6 rfl rfl (cw_v cw_12_338 io_182 rfl rfl (Nat.le_of_ble_eq_true rfl) (Nat.le_of_ble_eq_true rfl)) mt_people rfl (c := e - 2) (by omega) rfl ?_
    refine R_ld (v := .inr (.inr 182)) dd_people_0 rfl rfl rfl rfl ?_
    refine R_gf (v := .inr (.inr 188)) dd_people_1 fd_12_95 io_182 (congrArg (fun z : Int => (Sum.inr (Sum.inr z) : LV)) ((rdw_nei (by omega)).trans (rf_182_10 hF))) rfl ?_
    refine R_ic dd_people_4 (by decide) rfl ?_
    refine R_iald (v := (rd h 188 2)) (n := 300) dd_people_5 ia_188 la_188 (by decide) (rdw_ne (by decide)) rfl ?_
    refine R_iret dd_people_6 rfl ?_
    change Rn xs xl (e - 1) mm_isPerson 9 [some (.inr (.inr 182)), some (.inl v1)] [.inl (rd h 188 2), .inl v1] (wr h 182 0 0) _
    refine R_icmp dd_isPerson_9 rfl rfl (fun (c5 : (rd h 188 2) ≤ v1) => ?_) (fun (c5 : v1 < (rd h 188 2)) => ?_)
    · replace k := k.1 c5
      refine R_ic dd_isPerson_16 (by decide) rfl ?_
      refine R_zret dd_isPerson_17 rfl (by decide) ?_
      change Rn xs xl e mm_soonest 10 [some (.inr (.inr 182)), some (.inl v1), some (.inl v2)] [.inl 0] (wr h 182 0 0) _
      refine R_if dd_soonest_10 rfl rfl (fun (c6 : 0 = 0) => ?_) (fun (c6 : 0 ≠ 0) => ?_)
      · skip
        refine R_ic dd_soonest_40 (by decide) rfl ?_
        exact R_iret dd_soonest_41 rfl k
      · exact absurd c6 (by omega)
    · replace k := k.2 c5
      refine R_ic dd_isPerson_12 (by decide) rfl ?_
      refine R_goto dd_isPerson_13 rfl ?_
      refine R_zret dd_isPerson_17 rfl (by decide) ?_
      change Rn xs xl e mm_soonest 10 [some (.inr (.inr 182)), some (.inl v1), some (.inl v2)] [.inl 1] (wr h 182 0 0) _
      refine R_if dd_soonest_10 rfl rfl (fun (c7 : 1 = 0) => ?_) (fun (c7 : 1 ≠ 0) => ?_)
      · exact absurd c7 (by omega)
      · skip
        refine R_ld (v := .inr (.inr 182)) dd_soonest_13 rfl rfl rfl rfl ?_
        refine R_ld (v := .inl v2) dd_soonest_14 rfl rfl rfl rfl ?_
        refine R_call (as := [.inr (.inr 182), .inl v2]) (rest := []) (M' := mm_isRoom) (ls0 := [some (.inr (.inr 182)), some (.inl v2)]) dd_soonest_15 rfl rfl (cw_v cw_12_370 io_182 rfl rfl (Nat.le_of_ble_eq_true rfl) (Nat.le_of_ble_eq_true rfl)) mt_isRoom rfl (c := e - 1) (by omega) rfl ?_
        refine R_ld (v := .inl v2) dd_isRoom_0 rfl rfl rfl rfl ?_
        refine R_if dd_isRoom_1 rfl rfl (fun (c8 : v2 < 0) => ?_) (fun (c8 : 0 ≤ v2) => ?_)
        · replace k := k.1 c8
          refine R_ic dd_isRoom_16 (by decide) rfl ?_
          refine R_zret dd_isRoom_17 rfl (by decide) ?_
          change Rn xs xl e mm_soonest 18 [some (.inr (.inr 182)), some (.inl v1), some (.inl v2)] [.inl 0] (wr h 182 0 0) _
          refine R_if dd_soonest_18 rfl rfl (fun (c9 : 0 = 0) => ?_) (fun (c9 : 0 ≠ 0) => ?_)
          · skip
            refine R_ic dd_soonest_40 (by decide) rfl ?_
            exact R_iret dd_soonest_41 rfl k
          · exact absurd c9 (by omega)
        · replace k := k.2 c8
          refine R_ld (v := .inl v2) dd_isRoom_4 rfl rfl rfl rfl ?_
          refine R_ld (v := .inr (.inr 182)) dd_isRoom_5 rfl rfl rfl rfl ?_
          refine R_call (as := [.inr (.inr 182)]) (rest := [.inl v2]) (M' := mm_rooms) (ls0 := [some (.inr (.inr 182))]) dd_isRoom_6 rfl rfl (cw_v cw_12_332 io_182 rfl rfl (Nat.le_of_ble_eq_true rfl) (Nat.le_of_ble_eq_true rfl)) mt_rooms rfl (c := e - 2) (by omega) rfl ?_
          refine R_ld (v := .inr (.inr 182)) dd_rooms_0 rfl rfl rfl rfl ?_
          refine R_gf (v := .inr (.inr 188)) dd_rooms_1 fd_12_95 io_182 (congrArg (fun z : Int => (Sum.inr (Sum.inr z) : LV)) ((rdw_nei (by omega)).trans (rf_182_10 hF))) rfl ?_
          refine R_ic dd_rooms_4 (by decide) rfl ?_
          refine R_iald (v := (rd h 188 0)) (n := 300) dd_rooms_5 ia_188 la_188 (by decide) (rdw_ne (by decide)) rfl ?_
          refine R_iret dd_rooms_6 rfl ?_
          change Rn xs xl (e - 1) mm_isRoom 9 [some (.inr (.inr 182)), some (.inl v2)] [.inl (rd h 188 0), .inl v2] (wr h 182 0 0) _
          refine R_icmp dd_isRoom_9 rfl rfl (fun (c10 : (rd h 188 0) ≤ v2) => ?_) (fun (c10 : v2 < (rd h 188 0)) => ?_)
          · replace k := k.1 c10
            refine R_ic dd_isRoom_16 (by decide) rfl ?_
            refine R_zret dd_isRoom_17 rfl (by decide) ?_
            change Rn xs xl e mm_soonest 18 [some (.inr (.inr 182)), some (.inl v1), some (.inl v2)] [.inl 0] (wr h 182 0 0) _
            refine R_if dd_soonest_18 rfl rfl (fun (c11 : 0 = 0) => ?_) (fun (c11 : 0 ≠ 0) => ?_)
            · skip
              refine R_ic dd_soonest_40 (by decide) rfl ?_
              exact R_iret dd_soonest_41 rfl k
            · exact absurd c11 (by omega)
          · replace k := k.2 c10
            refine R_ic dd_isRoom_12 (by decide) rfl ?_
            refine R_goto dd_isRoom_13 rfl ?_
            refine R_zret dd_isRoom_17 rfl (by decide) ?_
            change Rn xs xl e mm_soonest 18 [some (.inr (.inr 182)), some (.inl v1), some (.inl v2)] [.inl 1] (wr h 182 0 0) _
            refine R_if dd_soonest_18 rfl rfl (fun (c12 : 1 = 0) => ?_) (fun (c12 : 1 ≠ 0) => ?_)
            · exact absurd c12 (by omega)
            · skip
              refine R_ld (v := .inr (.inr 182)) dd_soonest_21 rfl rfl rfl rfl ?_
              refine R_ic dd_soonest_22 (by decide) rfl ?_
              refine R_ld (v := .inl v1) dd_soonest_23 rfl rfl rfl rfl ?_
              refine R_ic dd_soonest_24 (by decide) rfl ?_
              refine R_ld (v := .inl v2) dd_soonest_25 rfl rfl rfl rfl ?_
              refine R_A dd_soonest_26 rfl rfl rfl rfl ?_
              refine R_ic dd_soonest_27 (by decide) rfl ?_
              refine R_bi dd_soonest_28 (by decide) rfl ?_
              refine R_ld (v := .inl v2) dd_soonest_30 rfl rfl rfl rfl ?_
              obtain ⟨s1, k⟩ := k
              refine R_iadd (c := v2 + 10) dd_soonest_31 (by omega) s1 rfl ?_
              refine R_A dd_soonest_32 rfl rfl rfl rfl ?_
              refine R_A dd_soonest_33 rfl rfl rfl rfl ?_
              obtain ⟨c, hc, k⟩ := k
              exact R_call (as := [.inr (.inr 182), .inl 0, .inl v1, .inl (zor (zshl 1 v2) (zshl 1 (v2 + 10)))]) (rest := []) (M' := mm_firstHour) (ls0 := [some (.inr (.inr 182)), some (.inl 0), some (.inl v1), some (.inl (zor (zshl 1 v2) (zshl 1 (v2 + 10)))), none, none]) dd_soonest_34 rfl rfl (cw_v cw_12_393 io_182 rfl rfl (Nat.le_of_ble_eq_true rfl) (Nat.le_of_ble_eq_true rfl)) mt_firstHour rfl hc rfl k
theorem B_soonest_37 {xs : Nat → Int} {xl e : Nat} {h : LH} {Q : Option LV → LH → Prop} {v1 v2 w0 : Int} (hF : RF h)
    (k : Q (some (.inl w0)) h) :
    Rn xs xl e mm_soonest 37 [some (.inr (.inr 182)), some (.inl v1), some (.inl v2)] [.inl w0] h Q := by
  refine R_goto dd_soonest_37 rfl ?_
  exact R_iret dd_soonest_41 rfl k
theorem B_reach_0 {xs : Nat → Int} {xl e : Nat} {h : LH} {Q : Option LV → LH → Prop} {v1 : Int} (hF : RF h) (he : 2 ≤ e)
    (k : (v1 < 0 →
        Q (some (.inl (-1))) (wr h 182 0 0)) ∧
      (0 ≤ v1 →
        ((rd h 188 2) ≤ v1 →
          Q (some (.inl (-1))) (wr h 182 0 0)) ∧
        (v1 < (rd h 188 2) →
          (-2147483648 ≤ v1 + 2 ∧ v1 + 2 ≤ 2147483647) ∧
          (0 ≤ v1 + 2 ∧ v1 + 2 < 1610) ∧
          (-2147483648 ≤ v1 + 8 ∧ v1 + 8 ≤ 2147483647) ∧
          (0 ≤ v1 + 8 ∧ v1 + 8 < 1610) ∧
          ((rd h 198 (v1 + 8)) ≠ 1 →
            (-2147483648 ≤ (rd h 198 (v1 + 2)) ∧ (rd h 198 (v1 + 2)) ≤ 2147483647) ∧
            (-2147483648 ≤ v1 + 14 ∧ v1 + 14 ≤ 2147483647) ∧
            (0 ≤ v1 + 14 ∧ v1 + 14 < 1610) ∧
            (-2147483648 ≤ (rd h 198 0) + (rd h 198 (v1 + 14)) ∧ (rd h 198 0) + (rd h 198 (v1 + 14)) ≤ 2147483647) ∧
            Rn xs xl e mm_reach 39 [some (.inr (.inr 182)), some (.inl v1), some (.inl (zshl 1 (rd h 198 (v1 + 2)))), some (.inl ((rd h 198 0) + (rd h 198 (v1 + 14))))] [] (wr h 182 0 0) Q) ∧
          ((rd h 198 (v1 + 8)) = 1 →
            (-2147483648 ≤ (rd h 198 (v1 + 2)) + 10 ∧ (rd h 198 (v1 + 2)) + 10 ≤ 2147483647) ∧
            (-2147483648 ≤ v1 + 14 ∧ v1 + 14 ≤ 2147483647) ∧
            (0 ≤ v1 + 14 ∧ v1 + 14 < 1610) ∧
            (-2147483648 ≤ (rd h 198 0) + (rd h 198 (v1 + 14)) ∧ (rd h 198 0) + (rd h 198 (v1 + 14)) ≤ 2147483647) ∧
            Rn xs xl e mm_reach 39 [some (.inr (.inr 182)), some (.inl v1), some (.inl (zshl 1 ((rd h 198 (v1 + 2)) + 10))), some (.inl ((rd h 198 0) + (rd h 198 (v1 + 14))))] [] (wr h 182 0 0) Q)))) :
    Rn xs xl e mm_reach 0 [some (.inr (.inr 182)), some (.inl v1), none, none] [] h Q := by
  refine R_ld (v := .inr (.inr 182)) dd_reach_0 rfl rfl rfl rfl ?_
  refine R_ic dd_reach_1 (by decide) rfl ?_
  refine R_pf (z := 0) dd_reach_2 fd_12_1 io_182 fn_12_0 rfl rfl ?_
  refine R_ld (v := .inr (.inr 182)) dd_reach_5 rfl rfl rfl rfl ?_
  refine R_ld (v := .inl v1) dd_reach_6 rfl rfl rfl rfl ?_
  refine R_call (as := [.inr (.inr 182), .inl v1]) (rest := []) (M' := mm_isPerson) (ls0 := [some (.inr (.inr 182)), some (.inl v1)]) dd_reach_7 rfl rfl (cw_v cw_12_367 io_182 rfl rfl (Nat.le_of_ble_eq_true rfl) (Nat.le_of_ble_eq_true rfl)) mt_isPerson rfl (c := e - 1) (by omega) rfl ?_
  refine R_ld (v := .inl v1) dd_isPerson_0 rfl rfl rfl rfl ?_
  refine R_if dd_isPerson_1 rfl rfl (fun (c13 : v1 < 0) => ?_) (fun (c13 : 0 ≤ v1) => ?_)
  · replace k := k.1 c13
    refine R_ic dd_isPerson_16 (by decide) rfl ?_
    refine R_zret dd_isPerson_17 rfl (by decide) ?_
    change Rn xs xl e mm_reach 10 [some (.inr (.inr 182)), some (.inl v1), none, none] [.inl 0] (wr h 182 0 0) _
    refine R_if dd_reach_10 rfl rfl (fun (c14 : 0 ≠ 0) => ?_) (fun (c14 : 0 = 0) => ?_)
    · exact absurd c14 (by omega)
    · skip
      refine R_ic dd_reach_13 (by decide) rfl ?_
      exact R_iret dd_reach_14 rfl k
  · replace k := k.2 c13
    refine R_ld (v := .inl v1) dd_isPerson_4 rfl rfl rfl rfl ?_
    refine R_ld (v := .inr (.inr 182)) dd_isPerson_5 rfl rfl rfl rfl ?_
    refine R_call (as := [.inr (.inr 182)]) (rest := [.inl v1]) (M' := mm_people) (ls0 := [some (.inr (.inr 182))]) dd_isPerson_6 rfl rfl (cw_v cw_12_338 io_182 rfl rfl (Nat.le_of_ble_eq_true rfl) (Nat.le_of_ble_eq_true rfl)) mt_people rfl (c := e - 2) (by omega) rfl ?_
    refine R_ld (v := .inr (.inr 182)) dd_people_0 rfl rfl rfl rfl ?_
    refine R_gf (v := .inr (.inr 188)) dd_people_1 fd_12_95 io_182 (congrArg (fun z : Int => (Sum.inr (Sum.inr z) : LV)) ((rdw_nei (by omega)).trans (rf_182_10 hF))) rfl ?_
    refine R_ic dd_people_4 (by decide) rfl ?_
    refine R_iald (v := (rd h 188 2)) (n := 300) dd_people_5 ia_188 la_188 (by decide) (rdw_ne (by decide)) rfl ?_
    refine R_iret dd_people_6 rfl ?_
    change Rn xs xl (e - 1) mm_isPerson 9 [some (.inr (.inr 182)), some (.inl v1)] [.inl (rd h 188 2), .inl v1] (wr h 182 0 0) _
    refine R_icmp dd_isPerson_9 rfl rfl (fun (c15 : (rd h 188 2) ≤ v1) => ?_) (fun (c15 : v1 < (rd h 188 2)) => ?_)
    · replace k := k.1 c15
      refine R_ic dd_isPerson_16 (by decide) rfl ?_
      refine R_zret dd_isPerson_17 rfl (by decide) ?_
      change Rn xs xl e mm_reach 10 [some (.inr (.inr 182)), some (.inl v1), none, none] [.inl 0] (wr h 182 0 0) _
      refine R_if dd_reach_10 rfl rfl (fun (c16 : 0 ≠ 0) => ?_) (fun (c16 : 0 = 0) => ?_)
      · exact absurd c16 (by omega)
      · skip
        refine R_ic dd_reach_13 (by decide) rfl ?_
        exact R_iret dd_reach_14 rfl k
    · replace k := k.2 c15
      refine R_ic dd_isPerson_12 (by decide) rfl ?_
      refine R_goto dd_isPerson_13 rfl ?_
      refine R_zret dd_isPerson_17 rfl (by decide) ?_
      change Rn xs xl e mm_reach 10 [some (.inr (.inr 182)), some (.inl v1), none, none] [.inl 1] (wr h 182 0 0) _
      refine R_if dd_reach_10 rfl rfl (fun (c17 : 1 ≠ 0) => ?_) (fun (c17 : 1 = 0) => ?_)
      · skip
        refine R_ld (v := .inr (.inr 182)) dd_reach_15 rfl rfl rfl rfl ?_
        refine R_ic dd_reach_16 (by decide) rfl ?_
        refine R_ld (v := .inl v1) dd_reach_17 rfl rfl rfl rfl ?_
        refine R_call (as := [.inr (.inr 182), .inl 0, .inl v1]) (rest := []) (M' := mm_startOf) (ls0 := [some (.inr (.inr 182)), some (.inl 0), some (.inl v1)]) dd_reach_18 rfl rfl (cw_v cw_12_386 io_182 rfl rfl (Nat.le_of_ble_eq_true rfl) (Nat.le_of_ble_eq_true rfl)) mt_startOf rfl (c := e - 1) (by omega) rfl ?_
        refine R_ic dd_startOf_0 (by decide) rfl ?_
        refine R_ld (v := .inr (.inr 182)) dd_startOf_1 rfl rfl rfl rfl ?_
        refine R_gf (v := .inr (.inr 198)) dd_startOf_2 fd_12_125 io_182 (congrArg (fun z : Int => (Sum.inr (Sum.inr z) : LV)) ((rdw_nei (by omega)).trans (rf_182_24 hF))) rfl ?_
        refine R_ld (v := .inl 0) dd_startOf_5 rfl rfl rfl rfl ?_
        refine R_ic dd_startOf_6 (by decide) rfl ?_
        refine R_iadd (c := 2) dd_startOf_7 (by omega) (by decide) rfl ?_
        refine R_ld (v := .inl v1) dd_startOf_8 rfl rfl rfl rfl ?_
        obtain ⟨s1, k⟩ := k
        refine R_iadd (c := v1 + 2) dd_startOf_9 (by omega) s1 rfl ?_
        obtain ⟨s2, k⟩ := k
        refine R_iald (v := (rd h 198 (v1 + 2))) (n := 1610) dd_startOf_10 ia_198 la_198 s2 (rdw_ne (by decide)) rfl ?_
        refine R_ld (v := .inr (.inr 182)) dd_startOf_11 rfl rfl rfl rfl ?_
        refine R_gf (v := .inr (.inr 198)) dd_startOf_12 fd_12_125 io_182 (congrArg (fun z : Int => (Sum.inr (Sum.inr z) : LV)) ((rdw_nei (by omega)).trans (rf_182_24 hF))) rfl ?_
        refine R_ld (v := .inl 0) dd_startOf_15 rfl rfl rfl rfl ?_
        refine R_bi dd_startOf_16 (by decide) rfl ?_
        refine R_iadd (c := 8) dd_startOf_18 (by omega) (by decide) rfl ?_
        refine R_ld (v := .inl v1) dd_startOf_19 rfl rfl rfl rfl ?_
        obtain ⟨s3, k⟩ := k
        refine R_iadd (c := v1 + 8) dd_startOf_20 (by omega) s3 rfl ?_
        obtain ⟨s4, k⟩ := k
        refine R_iald (v := (rd h 198 (v1 + 8))) (n := 1610) dd_startOf_21 ia_198 la_198 s4 (rdw_ne (by decide)) rfl ?_
        refine R_ic dd_startOf_22 (by decide) rfl ?_
        refine R_icmp dd_startOf_23 rfl rfl (fun (c18 : (rd h 198 (v1 + 8)) ≠ 1) => ?_) (fun (c18 : (rd h 198 (v1 + 8)) = 1) => ?_)
        · replace k := k.1 c18
          refine R_ic dd_startOf_31 (by decide) rfl ?_
          obtain ⟨s5, k⟩ := k
          refine R_iadd (c := (rd h 198 (v1 + 2))) dd_startOf_32 (by omega) s5 rfl ?_
          refine R_A dd_startOf_33 rfl rfl rfl rfl ?_
          refine R_iret dd_startOf_34 rfl ?_
          change Rn xs xl e mm_reach 21 [some (.inr (.inr 182)), some (.inl v1), none, none] [.inl (zshl 1 (rd h 198 (v1 + 2)))] (wr h 182 0 0) _
          refine R_st (ls' := [some (.inr (.inr 182)), some (.inl v1), some (.inl (zshl 1 (rd h 198 (v1 + 2)))), none]) dd_reach_21 rfl rfl rfl (Nat.le_of_ble_eq_true rfl) rfl rfl ?_
          refine R_ld (v := .inr (.inr 182)) dd_reach_22 rfl rfl rfl rfl ?_
          refine R_gf (v := .inr (.inr 198)) dd_reach_23 fd_12_125 io_182 (congrArg (fun z : Int => (Sum.inr (Sum.inr z) : LV)) ((rdw_nei (by omega)).trans (rf_182_24 hF))) rfl ?_
          refine R_ic dd_reach_26 (by decide) rfl ?_
          refine R_iald (v := (rd h 198 0)) (n := 1610) dd_reach_27 ia_198 la_198 (by decide) (rdw_ne (by decide)) rfl ?_
          refine R_ld (v := .inr (.inr 182)) dd_reach_28 rfl rfl rfl rfl ?_
          refine R_gf (v := .inr (.inr 198)) dd_reach_29 fd_12_125 io_182 (congrArg (fun z : Int => (Sum.inr (Sum.inr z) : LV)) ((rdw_nei (by omega)).trans (rf_182_24 hF))) rfl ?_
          refine R_bi dd_reach_32 (by decide) rfl ?_
          refine R_ld (v := .inl v1) dd_reach_34 rfl rfl rfl rfl ?_
          obtain ⟨s6, k⟩ := k
          refine R_iadd (c := v1 + 14) dd_reach_35 (by omega) s6 rfl ?_
          obtain ⟨s7, k⟩ := k
          refine R_iald (v := (rd h 198 (v1 + 14))) (n := 1610) dd_reach_36 ia_198 la_198 s7 (rdw_ne (by decide)) rfl ?_
          obtain ⟨s8, k⟩ := k
          refine R_iadd (c := (rd h 198 0) + (rd h 198 (v1 + 14))) dd_reach_37 (by omega) s8 rfl ?_
          refine R_st (ls' := [some (.inr (.inr 182)), some (.inl v1), some (.inl (zshl 1 (rd h 198 (v1 + 2)))), some (.inl ((rd h 198 0) + (rd h 198 (v1 + 14))))]) dd_reach_38 rfl rfl rfl (Nat.le_of_ble_eq_true rfl) rfl rfl ?_
          exact k
        · replace k := k.2 c18
          refine R_bi dd_startOf_26 (by decide) rfl ?_
          refine R_goto dd_startOf_28 rfl ?_
          obtain ⟨s9, k⟩ := k
          refine R_iadd (c := (rd h 198 (v1 + 2)) + 10) dd_startOf_32 (by omega) s9 rfl ?_
          refine R_A dd_startOf_33 rfl rfl rfl rfl ?_
          refine R_iret dd_startOf_34 rfl ?_
          change Rn xs xl e mm_reach 21 [some (.inr (.inr 182)), some (.inl v1), none, none] [.inl (zshl 1 ((rd h 198 (v1 + 2)) + 10))] (wr h 182 0 0) _
          refine R_st (ls' := [some (.inr (.inr 182)), some (.inl v1), some (.inl (zshl 1 ((rd h 198 (v1 + 2)) + 10))), none]) dd_reach_21 rfl rfl rfl (Nat.le_of_ble_eq_true rfl) rfl rfl ?_
          refine R_ld (v := .inr (.inr 182)) dd_reach_22 rfl rfl rfl rfl ?_
          refine R_gf (v := .inr (.inr 198)) dd_reach_23 fd_12_125 io_182 (congrArg (fun z : Int => (Sum.inr (Sum.inr z) : LV)) ((rdw_nei (by omega)).trans (rf_182_24 hF))) rfl ?_
          refine R_ic dd_reach_26 (by decide) rfl ?_
          refine R_iald (v := (rd h 198 0)) (n := 1610) dd_reach_27 ia_198 la_198 (by decide) (rdw_ne (by decide)) rfl ?_
          refine R_ld (v := .inr (.inr 182)) dd_reach_28 rfl rfl rfl rfl ?_
          refine R_gf (v := .inr (.inr 198)) dd_reach_29 fd_12_125 io_182 (congrArg (fun z : Int => (Sum.inr (Sum.inr z) : LV)) ((rdw_nei (by omega)).trans (rf_182_24 hF))) rfl ?_
          refine R_bi dd_reach_32 (by decide) rfl ?_
          refine R_ld (v := .inl v1) dd_reach_34 rfl rfl rfl rfl ?_
          obtain ⟨s10, k⟩ := k
          refine R_iadd (c := v1 + 14) dd_reach_35 (by omega) s10 rfl ?_
          obtain ⟨s11, k⟩ := k
          refine R_iald (v := (rd h 198 (v1 + 14))) (n := 1610) dd_reach_36 ia_198 la_198 s11 (rdw_ne (by decide)) rfl ?_
          obtain ⟨s12, k⟩ := k
          refine R_iadd (c := (rd h 198 0) + (rd h 198 (v1 + 14))) dd_reach_37 (by omega) s12 rfl ?_
          refine R_st (ls' := [some (.inr (.inr 182)), some (.inl v1), some (.inl (zshl 1 ((rd h 198 (v1 + 2)) + 10))), some (.inl ((rd h 198 0) + (rd h 198 (v1 + 14))))]) dd_reach_38 rfl rfl rfl (Nat.le_of_ble_eq_true rfl) rfl rfl ?_
          exact k
      · exact absurd c17 (by omega)
theorem B_reach_39 {xs : Nat → Int} {xl e : Nat} {h : LH} {Q : Option LV → LH → Prop} {v1 v2 v3 : Int} (hF : RF h) (r_v1 : 0 ≤ v1 ∧ v1 ≤ 5) (r_v3 : 0 ≤ v3 ∧ v3 ≤ 25)
    (k : (24 ≤ v3 →
        Q (some (.inl (zand (zor v2 (zshr v2 10)) 1023))) h) ∧
      (v3 < 24 →
        (∃ c, c < e ∧ Rn xs xl c mm_stepOf 0 [some (.inr (.inr 182)), some (.inl 0), some (.inl v1), some (.inl v2), some (.inl v3), none, none, none, none, none] [] h (fun r h' => Rn xs xl e mm_reach 53 [some (.inr (.inr 182)), some (.inl v1), some (.inl v2), some (.inl v3)] (r.toList ++ []) h' Q)))) :
    Rn xs xl e mm_reach 39 [some (.inr (.inr 182)), some (.inl v1), some (.inl v2), some (.inl v3)] [] h Q := by
  refine R_ld (v := .inl v3) dd_reach_39 rfl rfl rfl rfl ?_
  refine R_bi dd_reach_40 (by decide) rfl ?_
  refine R_icmp dd_reach_42 rfl rfl (fun (c2 : 24 ≤ v3) => ?_) (fun (c2 : v3 < 24) => ?_)
  · replace k := k.1 c2
    refine R_ld (v := .inl v2) dd_reach_60 rfl rfl rfl rfl ?_
    refine R_ld (v := .inl v2) dd_reach_61 rfl rfl rfl rfl ?_
    refine R_bi dd_reach_62 (by decide) rfl ?_
    refine R_A dd_reach_64 rfl rfl rfl rfl ?_
    refine R_A dd_reach_65 rfl rfl rfl rfl ?_
    refine R_si dd_reach_66 (by decide) rfl ?_
    refine R_A dd_reach_69 rfl rfl rfl rfl ?_
    exact R_iret dd_reach_70 rfl k
  · replace k := k.2 c2
    refine R_ld (v := .inr (.inr 182)) dd_reach_45 rfl rfl rfl rfl ?_
    refine R_ic dd_reach_46 (by decide) rfl ?_
    refine R_ld (v := .inl v1) dd_reach_47 rfl rfl rfl rfl ?_
    refine R_ld (v := .inl v2) dd_reach_48 rfl rfl rfl rfl ?_
    refine R_ld (v := .inl v3) dd_reach_49 rfl rfl rfl rfl ?_
    obtain ⟨c, hc, k⟩ := k
    exact R_call (as := [.inr (.inr 182), .inl 0, .inl v1, .inl v2, .inl v3]) (rest := []) (M' := mm_stepOf) (ls0 := [some (.inr (.inr 182)), some (.inl 0), some (.inl v1), some (.inl v2), some (.inl v3), none, none, none, none, none]) dd_reach_50 rfl rfl (cw_v cw_12_389 io_182 rfl rfl (Nat.le_of_ble_eq_true rfl) (Nat.le_of_ble_eq_true rfl)) mt_stepOf rfl hc rfl k
theorem B_reach_53 {xs : Nat → Int} {xl e : Nat} {h : LH} {Q : Option LV → LH → Prop} {v1 v2 v3 w0 : Int} (hF : RF h) (r_v3 : 0 ≤ v3 ∧ v3 ≤ 23)
    (k : Rn xs xl e mm_reach 39 [some (.inr (.inr 182)), some (.inl v1), some (.inl w0), some (.inl (v3 + 1))] [] h Q) :
    Rn xs xl e mm_reach 53 [some (.inr (.inr 182)), some (.inl v1), some (.inl v2), some (.inl v3)] [.inl w0] h Q := by
  refine R_st (ls' := [some (.inr (.inr 182)), some (.inl v1), some (.inl w0), some (.inl v3)]) dd_reach_53 rfl rfl rfl (Nat.le_of_ble_eq_true rfl) rfl rfl ?_
  refine R_inc (y := v3 + 1) (ls' := [some (.inr (.inr 182)), some (.inl v1), some (.inl w0), some (.inl (v3 + 1))]) dd_reach_54 rfl (by decide) (by omega) (by omega) rfl rfl ?_
  refine R_goto dd_reach_57 rfl ?_
  exact k
theorem B_stuck_0 {xs : Nat → Int} {xl e : Nat} {h : LH} {Q : Option LV → LH → Prop} (hF : RF h)
    (k : Rn xs xl e mm_stuck 9 [some (.inr (.inr 182)), some (.inl 0), some (.inl 0)] [] (wr h 182 0 0) Q) :
    Rn xs xl e mm_stuck 0 [some (.inr (.inr 182)), none, none] [] h Q := by
  refine R_ld (v := .inr (.inr 182)) dd_stuck_0 rfl rfl rfl rfl ?_
  refine R_ic dd_stuck_1 (by decide) rfl ?_
  refine R_pf (z := 0) dd_stuck_2 fd_12_1 io_182 fn_12_0 rfl rfl ?_
  refine R_ic dd_stuck_5 (by decide) rfl ?_
  refine R_st (ls' := [some (.inr (.inr 182)), some (.inl 0), none]) dd_stuck_6 rfl rfl rfl (Nat.le_of_ble_eq_true rfl) rfl rfl ?_
  refine R_ic dd_stuck_7 (by decide) rfl ?_
  refine R_st (ls' := [some (.inr (.inr 182)), some (.inl 0), some (.inl 0)]) dd_stuck_8 rfl rfl rfl (Nat.le_of_ble_eq_true rfl) rfl rfl ?_
  exact k
theorem B_stuck_9 {xs : Nat → Int} {xl e : Nat} {h : LH} {Q : Option LV → LH → Prop} {v1 v2 : Int} (hF : RF h) (r_v2 : 0 ≤ v2 ∧ v2 ≤ 6) (he : 1 ≤ e)
    (k : ((rd h 188 2) ≤ v2 →
        Q (some (.inl v1)) h) ∧
      (v2 < (rd h 188 2) →
        (∃ c, c < e ∧ Rn xs xl c mm_errandHour 0 [some (.inr (.inr 182)), some (.inl 0), some (.inl v2)] [] h (fun r h' => Rn xs xl e mm_stuck 24 [some (.inr (.inr 182)), some (.inl v1), some (.inl v2)] (r.toList ++ [.inl v1]) h' Q)))) :
    Rn xs xl e mm_stuck 9 [some (.inr (.inr 182)), some (.inl v1), some (.inl v2)] [] h Q := by
  refine R_ld (v := .inl v2) dd_stuck_9 rfl rfl rfl rfl ?_
  refine R_ld (v := .inr (.inr 182)) dd_stuck_10 rfl rfl rfl rfl ?_
  refine R_call (as := [.inr (.inr 182)]) (rest := [.inl v2]) (M' := mm_people) (ls0 := [some (.inr (.inr 182))]) dd_stuck_11 rfl rfl (cw_v cw_12_338 io_182 rfl rfl (Nat.le_of_ble_eq_true rfl) (Nat.le_of_ble_eq_true rfl)) mt_people rfl (c := e - 1) (by omega) rfl ?_
  refine R_ld (v := .inr (.inr 182)) dd_people_0 rfl rfl rfl rfl ?_
  refine R_gf (v := .inr (.inr 188)) dd_people_1 fd_12_95 io_182 (congrArg (fun z : Int => (Sum.inr (Sum.inr z) : LV)) (rf_182_10 hF)) rfl ?_
  refine R_ic dd_people_4 (by decide) rfl ?_
  refine R_iald (v := (rd h 188 2)) (n := 300) dd_people_5 ia_188 la_188 (by decide) (rfl) rfl ?_
  refine R_iret dd_people_6 rfl ?_
  change Rn xs xl e mm_stuck 14 [some (.inr (.inr 182)), some (.inl v1), some (.inl v2)] [.inl (rd h 188 2), .inl v2] h _
  refine R_icmp dd_stuck_14 rfl rfl (fun (c2 : (rd h 188 2) ≤ v2) => ?_) (fun (c2 : v2 < (rd h 188 2)) => ?_)
  · replace k := k.1 c2
    refine R_ld (v := .inl v1) dd_stuck_42 rfl rfl rfl rfl ?_
    exact R_iret dd_stuck_43 rfl k
  · replace k := k.2 c2
    refine R_ld (v := .inl v1) dd_stuck_17 rfl rfl rfl rfl ?_
    refine R_ld (v := .inr (.inr 182)) dd_stuck_18 rfl rfl rfl rfl ?_
    refine R_ic dd_stuck_19 (by decide) rfl ?_
    refine R_ld (v := .inl v2) dd_stuck_20 rfl rfl rfl rfl ?_
    obtain ⟨c, hc, k⟩ := k
    exact R_call (as := [.inr (.inr 182), .inl 0, .inl v2]) (rest := [.inl v1]) (M' := mm_errandHour) (ls0 := [some (.inr (.inr 182)), some (.inl 0), some (.inl v2)]) dd_stuck_21 rfl rfl (cw_v cw_12_397 io_182 rfl rfl (Nat.le_of_ble_eq_true rfl) (Nat.le_of_ble_eq_true rfl)) mt_errandHour rfl hc rfl k
theorem B_stuck_24 {xs : Nat → Int} {xl e : Nat} {h : LH} {Q : Option LV → LH → Prop} {v1 v2 w0 w1 : Int} (hF : RF h) (r_v2 : 0 ≤ v2 ∧ v2 ≤ 5)
    (k : (0 ≤ w1 →
        Rn xs xl e mm_stuck 9 [some (.inr (.inr 182)), some (.inl (zor w0 0)), some (.inl (v2 + 1))] [] h Q) ∧
      (w1 < 0 →
        Rn xs xl e mm_stuck 9 [some (.inr (.inr 182)), some (.inl (zor w0 (zshl 1 v2))), some (.inl (v2 + 1))] [] h Q)) :
    Rn xs xl e mm_stuck 24 [some (.inr (.inr 182)), some (.inl v1), some (.inl v2)] [.inl w1, .inl w0] h Q := by
  refine R_if dd_stuck_24 rfl rfl (fun (c1 : 0 ≤ w1) => ?_) (fun (c1 : w1 < 0) => ?_)
  · replace k := k.1 c1
    refine R_ic dd_stuck_33 (by decide) rfl ?_
    refine R_A dd_stuck_34 rfl rfl rfl rfl ?_
    refine R_st (ls' := [some (.inr (.inr 182)), some (.inl (zor w0 0)), some (.inl v2)]) dd_stuck_35 rfl rfl rfl (Nat.le_of_ble_eq_true rfl) rfl rfl ?_
    refine R_inc (y := v2 + 1) (ls' := [some (.inr (.inr 182)), some (.inl (zor w0 0)), some (.inl (v2 + 1))]) dd_stuck_36 rfl (by decide) (by omega) (by omega) rfl rfl ?_
    refine R_goto dd_stuck_39 rfl ?_
    exact k
  · replace k := k.2 c1
    refine R_ic dd_stuck_27 (by decide) rfl ?_
    refine R_ld (v := .inl v2) dd_stuck_28 rfl rfl rfl rfl ?_
    refine R_A dd_stuck_29 rfl rfl rfl rfl ?_
    refine R_goto dd_stuck_30 rfl ?_
    refine R_A dd_stuck_34 rfl rfl rfl rfl ?_
    refine R_st (ls' := [some (.inr (.inr 182)), some (.inl (zor w0 (zshl 1 v2))), some (.inl v2)]) dd_stuck_35 rfl rfl rfl (Nat.le_of_ble_eq_true rfl) rfl rfl ?_
    refine R_inc (y := v2 + 1) (ls' := [some (.inr (.inr 182)), some (.inl (zor w0 (zshl 1 v2))), some (.inl (v2 + 1))]) dd_stuck_36 rfl (by decide) (by omega) (by omega) rfl rfl ?_
    refine R_goto dd_stuck_39 rfl ?_
    exact k
end
section
/-! plans, part t1: what both know of doors and people; bits -/
theorem bit_ext {x y : Int} (hx : i32 x) (hy : i32 y) (h : ∀ k, 0 ≤ k → k < 32 → (bitZ x k ↔ bitZ y k)) : x = y := by
  have e : (Int32.ofInt x).toBitVec = (Int32.ofInt y).toBitVec := by
    refine BitVec.eq_of_getLsbD_eq (fun i hi => ?_)
    have q := h (i : Int) (by omega) (by omega)
    rw [bitZ_iff (by omega) (by omega), bitZ_iff (by omega) (by omega), Int.toNat_natCast] at q
    exact Bool.eq_iff_iff.mpr q
  have e2 : Int32.ofInt x = Int32.ofInt y := Int32.toBitVec_inj.mp e
  rw [← x_of hx, ← x_of hy, e2]
theorem zor_i (a b : Int) : i32 (zor a b) := x_in _
theorem zand_i (a b : Int) : i32 (zand a b) := x_in _
theorem zshl_i (a b : Int) : i32 (zshl a b) := x_in _
theorem zxor_i (a b : Int) : i32 (zxor a b) := x_in _
/-- two sets meet -/
theorem zand_ne {a b : Int} : zand a b ≠ 0 ↔ ∃ k, 0 ≤ k ∧ k < 32 ∧ bitZ a k ∧ bitZ b k := by
  constructor
  · intro h
    refine Classical.byContradiction (fun n => h ?_)
    refine bit_ext (zand_i a b) z32 (fun k k0 k1 => ?_)
    rw [bit_and k0 k1]
    exact ⟨fun z => absurd ⟨k, k0, k1, z⟩ n, fun z => absurd z bit_zero⟩
  · rintro ⟨k, k0, k1, ha, hb⟩ e
    have q := (bit_and (a := a) (b := b) k0 k1).mpr ⟨ha, hb⟩
    rw [e] at q
    exact bit_zero q
theorem bitZ_n {a k : Int} : ¬ bitZ a k ↔ zand (zshr a k) 1 = 0 := by
  have := bitZ_01 a k
  unfold bitZ
  omega
/-- what is told, within its bounds -/
def KR (K : KEY) : Prop := (0 ≤ K.1 0 ∧ K.1 0 ≤ 10) ∧ (0 ≤ K.1 1 ∧ K.1 1 ≤ 14) ∧ (0 ≤ K.1 2 ∧ K.1 2 ≤ 6) ∧ (∀ d, 0 ≤ d → d < K.1 1 → (0 ≤ K.1 (8 * d + 5) ∧ K.1 (8 * d + 5) < K.1 0) ∧ (0 ≤ K.1 (8 * d + 6) ∧ K.1 (8 * d + 6) < K.1 0) ∧ (0 ≤ K.1 (8 * d + 8) ∧ K.1 (8 * d + 8) ≤ 24) ∧ (0 ≤ K.1 (8 * d + 10) ∧ K.1 (8 * d + 10) ≤ 9) ∧ (0 ≤ K.1 (8 * d + 11) ∧ K.1 (8 * d + 11) ≤ 9)) ∧ ∀ p, 0 ≤ p → p < K.1 2 → (0 ≤ K.1 (4 * p + 116) ∧ K.1 (4 * p + 116) ≤ 3) ∧ (0 ≤ K.1 (4 * p + 117) ∧ K.1 (4 * p + 117) < K.1 0) ∧ (0 ≤ K.1 (4 * p + 118) ∧ K.1 (4 * p + 118) ≤ 9) ∧ (0 ≤ K.1 (4 * p + 119) ∧ K.1 (4 * p + 119) ≤ 24)
/-- the class's quarter q, settled under the law L, is what K tells -/
def CXq (h : LH) (K : KEY) (q : Int) (L : List Int) : Prop := RF h ∧ PT h ∧ (q = 5 ∨ q = 32) ∧ rd h 1 1 = q ∧ (rd h q 0 = K.1 0 ∧ rd h q 2 = K.1 1 ∧ rd h q 4 = K.1 2) ∧ (∀ d, 0 ≤ d → d < K.1 1 → ∀ j : Nat, j < 8 → rd h (q + 7 + d) ((j : Int) + 1) = K.1 (8 * d + 4 + (j : Int))) ∧ (∀ p, 0 ≤ p → p < K.1 2 → ∀ j : Nat, j < 4 → rd h (q + 21 + p) ((j : Int) + 1) = K.1 (116 + 4 * p + (j : Int))) ∧ (∀ s hr, 0 ≤ s → s ≤ 3 → 0 ≤ hr → hr ≤ 23 → stl h q L h s hr) ∧ ∀ d s a hr sh, 0 ≤ d → d < K.1 1 → 0 ≤ s → s ≤ 3 → 0 ≤ a → a ≤ 9 → 0 ≤ hr → hr ≤ 23 → LF K d s a hr sh 0 = inF (rd h (q + 7 + d)) L s a hr sh d
section PL1
variable {xs : Nat → Int} {xl e : Nat} {h g : LH} {Q : Option LV → LH → Prop} {K : KEY} {q : Int} {L : List Int}
theorem KR_of (hI : INV h) : KR (key h) := by
  have r0 := rq_rooms hI.1
  have r1 := rq_doors hI.1
  have r2 := rq_people hI.1
  have sp := (INV4 hI).2.2.2
  refine ⟨r0, r1, r2, fun d d0 d1 => ?_, fun p p0 p1 => ?_⟩
  · have d1' : d < rd h 188 1 := d1
    have a := rq_d1 hI.1 (i := 8 * d + 5) (d := d) (by omega) d0 (by omega)
    have b := rq_d2 hI.1 (i := 8 * d + 6) (d := d) (by omega) d0 (by omega)
    have c := rq_d4 hI.1 (i := 8 * d + 8) (d := d) (by omega) d0 (by omega)
    have f := rq_d6 hI.1 (i := 8 * d + 10) (d := d) (by omega) d0 (by omega)
    have g := rq_d7 hI.1 (i := 8 * d + 11) (d := d) (by omega) d0 (by omega)
    have s := sp.1 d d0 (by omega) d1'
    rw [show 5 + 8 * d = 8 * d + 5 by omega, show 6 + 8 * d = 8 * d + 6 by omega] at s
    exact ⟨⟨a.1, s.1⟩, ⟨b.1, s.2⟩, c, f, g⟩
  · have p1' : p < rd h 188 2 := p1
    have a := rq_p0 hI.1 (i := 4 * p + 116) (d := p) (by omega) p0 (by omega)
    have b := rq_p1 hI.1 (i := 4 * p + 117) (d := p) (by omega) p0 (by omega)
    have c := rq_p2 hI.1 (i := 4 * p + 118) (d := p) (by omega) p0 (by omega)
    have f := rq_p3 hI.1 (i := 4 * p + 119) (d := p) (by omega) p0 (by omega)
    have s := sp.2 p p0 (by omega) p1'
    rw [show 117 + 4 * p = 4 * p + 117 by omega] at s
    exact ⟨a, ⟨b.1, s⟩, c, f⟩
theorem CXq_of (hI : INV h) (hE : EQL h) : ∃ L, CXq h (key h) (rd h 1 1) L := by
  obtain ⟨-, -, hP, -, -, -, -, ⟨k1, ⟨L, l1, l2⟩, p28, p29, -⟩⟩ := id hE
  have hq : rd h 1 1 = 5 ∨ rd h 1 1 = 32 := rQf hI.1
  have lr := LRQ_of hI k1 l1
  have kr := KR_of hI
  refine ⟨L, RF_of hI.1, hP, hq, rfl, ⟨k1.1, k1.2.1, k1.2.2.1⟩, fun d d0 d1 j hj => ?_, fun p p0 p1 j hj => ?_, l2, fun d s a hr sh d0 d1 s0 s1 a0 a1 h0 h1 => ?_⟩
  · exact fdD k1 rfl d0 d1 j hj
  · exact fdP k1 rfl p0 p1 j hj
  · have d1' : d < rd h 188 1 := d1
    have nd := rq_doors hI.1
    have fd := fdD (v1 := d) k1 rfl d0 d1'
    have f2 : rd h (rd h 1 1 + 7 + d) 2 = rd h 188 (8 * d + 4 + 1) := fd 1 (by decide)
    have f3 : rd h (rd h 1 1 + 7 + d) 3 = rd h 188 (8 * d + 4 + 2) := fd 2 (by decide)
    have f6 : rd h (rd h 1 1 + 7 + d) 6 = rd h 188 (8 * d + 4 + 5) := fd 5 (by decide)
    have r2 := rq_d1 hI.1 (i := 8 * d + 4 + 1) (d := d) (by omega) d0 (by omega)
    have r3 := rq_d2 hI.1 (i := 8 * d + 4 + 2) (d := d) (by omega) d0 (by omega)
    have r6 := rq_d5 hI.1 (i := 8 * d + 4 + 5) (d := d) (by omega) d0 (by omega)
    exact LF_in hI ⟨d0, by omega⟩ ⟨s0, s1⟩ ⟨a0, a1⟩ ⟨h0, by omega⟩ fd (by omega) (by omega) (by omega) p28 p29 lr
theorem CXq_fr (hc : CXq h K q L) (hK : KR K) (hF : RF g) (f : ∀ a i, (a = 1 ∧ i = 1) ∨ a = 6 ∨ a = 7 ∨ a = 33 ∨ a = 34 ∨ a = q ∨ a = q + 5 ∨ a = q + 6 ∨ (q + 7 ≤ a ∧ a ≤ q + 26) → rd g a i = rd h a i) : CXq g K q L := by
  obtain ⟨-, c2, c3, c4, ⟨c5, c6, c7⟩, c8, c9, ca, cb⟩ := hc
  obtain ⟨-, n1, n2, -⟩ := hK
  refine ⟨hF, PT_fr c2 (fun a i ha => f a i (by omega)), c3, (f 1 1 (by omega)).trans c4, ⟨(f q 0 (by omega)).trans c5, (f q 2 (by omega)).trans c6, (f q 4 (by omega)).trans c7⟩, fun d d0 d1 j hj => ?_, fun p p0 p1 j hj => ?_, fun s hr s0 s1 h0 h1 => stl_frs (ca s hr s0 s1 h0 h1) (f _ _ (by omega)) (fun j j0 j1 => funext (fun i => f _ _ (by omega))) (fun i => f _ _ (by omega)) (fun i => f _ _ (by omega)), fun d s a hr sh d0 d1 s0 s1 a0 a1 h0 h1 => ?_⟩
  · rw [f _ _ (by omega)]; exact c8 d d0 d1 j hj
  · rw [f _ _ (by omega)]; exact c9 p p0 p1 j hj
  · rw [show rd g (q + 7 + d) = rd h (q + 7 + d) from funext (fun i => f _ _ (by omega))]
    exact cb d s a hr sh d0 d1 s0 s1 a0 a1 h0 h1
end PL1
end
