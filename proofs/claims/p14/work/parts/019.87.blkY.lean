/-! LM, by program (wip/p2/hand.py): rows of the class: lines -/
def mm_Memory_playDay : LM_M := (⟨"OneSided$Memory", "playDay", "(LOneSided$Quarter;LOneSided$Scene;)I"⟩, prog_5_method_6_code, 5, (some .int), 3, 3, 0, 849, 847, 848)
def mm_Scene_tryDoor : LM_M := (⟨"OneSided$Scene", "tryDoor", "(LOneSided$Quarter;II)I"⟩, prog_11_method_5_code, 6, (some .int), 9, 4, 0, 813, 811, 812)
def mm_Scene_pass : LM_M := (⟨"OneSided$Scene", "pass", "(I)V"⟩, prog_11_method_4_code, 2, none, 9, 2, 0, 829, 827, 828)
def mm_Memory_addLine : LM_M := (⟨"OneSided$Memory", "addLine", "(II)V"⟩, prog_5_method_5_code, 3, none, 3, 3, 0, 753, 751, 752)
def mm_Memory_copyDay : LM_M := (⟨"OneSided$Memory", "copyDay", "(LOneSided$Memory;)V"⟩, prog_5_method_4_code, 2, none, 3, 2, 0, 757, 755, 756)
def mm_Reader_takeKnownName : LM_M := (⟨"OneSided$Reader", "takeKnownName", "(I)I"⟩, prog_9_method_19_code, 2, (some .int), 7, 2, 0, 749, 748, 1000026)
def mm_Reader_isName : LM_M := (⟨"OneSided$Reader", "isName", "()Z"⟩, prog_9_method_20_code, 1, (some .boolean), 7, 1, 0, 652, 651, 1000013)
def mm_Reader_step : LM_M := (⟨"OneSided$Reader", "step", "()V"⟩, prog_9_method_24_code, 2, none, 7, 1, 0, 595, 594, 1000001)
def mm_Reader_fail : LM_M := (⟨"OneSided$Reader", "fail", "(I)V"⟩, prog_9_method_22_code, 2, none, 7, 2, 0, 628, 627, 1000007)
def mm_Reader_dayLine : LM_M := (⟨"OneSided$Reader", "dayLine", "(LOneSided$Quarter;LOneSided$Memory;)V"⟩, prog_9_method_8_code, 6, none, 7, 3, 0, 745, 744, 1000025)
def mm_Reader_takeSign : LM_M := (⟨"OneSided$Reader", "takeSign", "(C)V"⟩, prog_9_method_14_code, 2, none, 7, 2, 0, 636, 635, 1000009)
def mm_Quarter_personNamed : LM_M := (⟨"OneSided$Quarter", "personNamed", "(J)I"⟩, prog_8_method_5_code, 4, (some .int), 6, 2, 0, 660, 658, 659)
def mm_Quarter_doorNamed : LM_M := (⟨"OneSided$Quarter", "doorNamed", "(J)I"⟩, prog_8_method_4_code, 4, (some .int), 6, 2, 0, 656, 654, 655)
def mm_Reader_isSign : LM_M := (⟨"OneSided$Reader", "isSign", "(C)Z"⟩, prog_9_method_21_code, 2, (some .boolean), 7, 2, 0, 640, 639, 1000010)
def mm_Memory_copy : LM_M := (⟨"OneSided$Memory", "copy", "(LOneSided$Memory;)V"⟩, prog_5_method_3_code, 2, none, 3, 2, 0, 1181, 1179, 1180)
def mm_Scene_copy : LM_M := (⟨"OneSided$Scene", "copy", "(LOneSided$Scene;)V"⟩, prog_11_method_3_code, 2, none, 9, 2, 0, 808, 806, 807)
theorem dd_Memory_playDay_0 : decode mm_Memory_playDay.2.1 0 = .ok (.iconst (-1), 1) := by decide +kernel
theorem dd_Memory_playDay_1 : decode mm_Memory_playDay.2.1 1 = .ok (.istore_n 3, 1) := by decide +kernel
theorem dd_Memory_playDay_2 : decode mm_Memory_playDay.2.1 2 = .ok (.iconst 0, 1) := by decide +kernel
theorem dd_Memory_playDay_3 : decode mm_Memory_playDay.2.1 3 = .ok (.istore 4, 2) := by decide +kernel
theorem dd_Memory_playDay_5 : decode mm_Memory_playDay.2.1 5 = .ok (.iload 4, 2) := by decide +kernel
theorem dd_Memory_playDay_7 : decode mm_Memory_playDay.2.1 7 = .ok (.aload_n 0, 1) := by decide +kernel
theorem dd_Memory_playDay_8 : decode mm_Memory_playDay.2.1 8 = .ok (.getfield 35, 3) := by decide +kernel
theorem fd_3_35 : fld 3 35 = some (3, 1) := by decide +kernel
theorem dd_Memory_playDay_11 : decode mm_Memory_playDay.2.1 11 = .ok (.if_icmp .ge (59), 3) := by decide +kernel
theorem dd_Memory_playDay_70 : decode mm_Memory_playDay.2.1 70 = .ok (.iload_n 3, 1) := by decide +kernel
theorem dd_Memory_playDay_71 : decode mm_Memory_playDay.2.1 71 = .ok (.ireturn, 1) := by decide +kernel
theorem dd_Memory_playDay_14 : decode mm_Memory_playDay.2.1 14 = .ok (.aload_n 0, 1) := by decide +kernel
theorem dd_Memory_playDay_15 : decode mm_Memory_playDay.2.1 15 = .ok (.getfield 18, 3) := by decide +kernel
theorem fd_3_18 : fld 3 18 = some (3, 2) := by decide +kernel
theorem rf_59_2 {h : LH} (hF : RF h) : rd h 59 2 = 63 := hF 59 2 63 (by decide +kernel) (by decide +kernel)
theorem dd_Memory_playDay_18 : decode mm_Memory_playDay.2.1 18 = .ok (.iload 4, 2) := by decide +kernel
theorem dd_Memory_playDay_20 : decode mm_Memory_playDay.2.1 20 = .ok (.iaload, 1) := by decide +kernel
theorem ia_63 : isA NC 63 1 = true := by decide +kernel
theorem la_63 : (lay (63 : Int).toNat).2.2 = 24 := by decide +kernel
theorem dd_Memory_playDay_21 : decode mm_Memory_playDay.2.1 21 = .ok (.iconst (-1), 1) := by decide +kernel
theorem dd_Memory_playDay_22 : decode mm_Memory_playDay.2.1 22 = .ok (.if_icmp .ne (11), 3) := by decide +kernel
theorem dd_Memory_playDay_33 : decode mm_Memory_playDay.2.1 33 = .ok (.aload_n 2, 1) := by decide +kernel
theorem dd_Memory_playDay_34 : decode mm_Memory_playDay.2.1 34 = .ok (.aload_n 1, 1) := by decide +kernel
theorem dd_Memory_playDay_35 : decode mm_Memory_playDay.2.1 35 = .ok (.aload_n 0, 1) := by decide +kernel
theorem dd_Memory_playDay_36 : decode mm_Memory_playDay.2.1 36 = .ok (.getfield 18, 3) := by decide +kernel
theorem dd_Memory_playDay_39 : decode mm_Memory_playDay.2.1 39 = .ok (.iload 4, 2) := by decide +kernel
theorem dd_Memory_playDay_41 : decode mm_Memory_playDay.2.1 41 = .ok (.iaload, 1) := by decide +kernel
theorem dd_Memory_playDay_42 : decode mm_Memory_playDay.2.1 42 = .ok (.aload_n 0, 1) := by decide +kernel
theorem dd_Memory_playDay_43 : decode mm_Memory_playDay.2.1 43 = .ok (.getfield 22, 3) := by decide +kernel
theorem fd_3_22 : fld 3 22 = some (3, 3) := by decide +kernel
theorem rf_59_3 {h : LH} (hF : RF h) : rd h 59 3 = 64 := hF 59 3 64 (by decide +kernel) (by decide +kernel)
theorem dd_Memory_playDay_46 : decode mm_Memory_playDay.2.1 46 = .ok (.iload 4, 2) := by decide +kernel
theorem dd_Memory_playDay_48 : decode mm_Memory_playDay.2.1 48 = .ok (.iaload, 1) := by decide +kernel
theorem ia_64 : isA NC 64 1 = true := by decide +kernel
theorem la_64 : (lay (64 : Int).toNat).2.2 = 24 := by decide +kernel
theorem dd_Memory_playDay_49 : decode mm_Memory_playDay.2.1 49 = .ok (.invokevirtual 63, 3) := by decide +kernel
theorem cw_3_63 : cwOk 3 63 0 72 4 6 9 = true := by decide +kernel
theorem io_68 : isO NC 68 9 = true := by decide +kernel
theorem mt_Scene_tryDoor : MTB 72 = some mm_Scene_tryDoor := rfl
theorem dd_Memory_playDay_25 : decode mm_Memory_playDay.2.1 25 = .ok (.aload_n 2, 1) := by decide +kernel
theorem dd_Memory_playDay_26 : decode mm_Memory_playDay.2.1 26 = .ok (.iconst 1, 1) := by decide +kernel
theorem dd_Memory_playDay_27 : decode mm_Memory_playDay.2.1 27 = .ok (.invokevirtual 59, 3) := by decide +kernel
theorem cw_3_59 : cwOk 3 59 0 75 2 2 9 = true := by decide +kernel
theorem mt_Scene_pass : MTB 75 = some mm_Scene_pass := rfl
theorem dd_Memory_playDay_30 : decode mm_Memory_playDay.2.1 30 = .ok (.goto 34, 3) := by decide +kernel
theorem dd_Memory_playDay_64 : decode mm_Memory_playDay.2.1 64 = .ok (.iinc 4 1, 3) := by decide +kernel
theorem dd_Memory_playDay_67 : decode mm_Memory_playDay.2.1 67 = .ok (.goto (-62), 3) := by decide +kernel
theorem dd_Memory_playDay_52 : decode mm_Memory_playDay.2.1 52 = .ok (.iconst (-1), 1) := by decide +kernel
theorem dd_Memory_playDay_53 : decode mm_Memory_playDay.2.1 53 = .ok (.if_icmp .ne (11), 3) := by decide +kernel
theorem dd_Memory_playDay_56 : decode mm_Memory_playDay.2.1 56 = .ok (.iload_n 3, 1) := by decide +kernel
theorem dd_Memory_playDay_57 : decode mm_Memory_playDay.2.1 57 = .ok (.iconst (-1), 1) := by decide +kernel
theorem dd_Memory_playDay_58 : decode mm_Memory_playDay.2.1 58 = .ok (.if_icmp .ne (6), 3) := by decide +kernel
theorem dd_Memory_playDay_61 : decode mm_Memory_playDay.2.1 61 = .ok (.iload 4, 2) := by decide +kernel
theorem dd_Memory_playDay_63 : decode mm_Memory_playDay.2.1 63 = .ok (.istore_n 3, 1) := by decide +kernel
theorem dd_Memory_addLine_0 : decode mm_Memory_addLine.2.1 0 = .ok (.aload_n 0, 1) := by decide +kernel
theorem dd_Memory_addLine_1 : decode mm_Memory_addLine.2.1 1 = .ok (.getfield 35, 3) := by decide +kernel
theorem io_67 : isO NC 67 3 = true := by decide +kernel
theorem dd_Memory_addLine_4 : decode mm_Memory_addLine.2.1 4 = .ok (.bipush 24, 2) := by decide +kernel
theorem dd_Memory_addLine_6 : decode mm_Memory_addLine.2.1 6 = .ok (.if_icmp .ge (33), 3) := by decide +kernel
theorem dd_Memory_addLine_39 : decode mm_Memory_addLine.2.1 39 = .ok (.return_, 1) := by decide +kernel
theorem dd_Memory_addLine_9 : decode mm_Memory_addLine.2.1 9 = .ok (.aload_n 0, 1) := by decide +kernel
theorem dd_Memory_addLine_10 : decode mm_Memory_addLine.2.1 10 = .ok (.getfield 18, 3) := by decide +kernel
theorem rf_67_2 {h : LH} (hF : RF h) : rd h 67 2 = 71 := hF 67 2 71 (by decide +kernel) (by decide +kernel)
theorem dd_Memory_addLine_13 : decode mm_Memory_addLine.2.1 13 = .ok (.aload_n 0, 1) := by decide +kernel
theorem dd_Memory_addLine_14 : decode mm_Memory_addLine.2.1 14 = .ok (.getfield 35, 3) := by decide +kernel
theorem dd_Memory_addLine_17 : decode mm_Memory_addLine.2.1 17 = .ok (.iload_n 1, 1) := by decide +kernel
theorem dd_Memory_addLine_18 : decode mm_Memory_addLine.2.1 18 = .ok (.iastore, 1) := by decide +kernel
theorem ia_71 : isA NC 71 1 = true := by decide +kernel
theorem la_71 : (lay (71 : Int).toNat).2.2 = 24 := by decide +kernel
theorem dd_Memory_addLine_19 : decode mm_Memory_addLine.2.1 19 = .ok (.aload_n 0, 1) := by decide +kernel
theorem dd_Memory_addLine_20 : decode mm_Memory_addLine.2.1 20 = .ok (.getfield 22, 3) := by decide +kernel
theorem rf_67_3 {h : LH} (hF : RF h) : rd h 67 3 = 72 := hF 67 3 72 (by decide +kernel) (by decide +kernel)
theorem dd_Memory_addLine_23 : decode mm_Memory_addLine.2.1 23 = .ok (.aload_n 0, 1) := by decide +kernel
theorem dd_Memory_addLine_24 : decode mm_Memory_addLine.2.1 24 = .ok (.getfield 35, 3) := by decide +kernel
theorem dd_Memory_addLine_27 : decode mm_Memory_addLine.2.1 27 = .ok (.iload_n 2, 1) := by decide +kernel
theorem dd_Memory_addLine_28 : decode mm_Memory_addLine.2.1 28 = .ok (.iastore, 1) := by decide +kernel
theorem ia_72 : isA NC 72 1 = true := by decide +kernel
theorem la_72 : (lay (72 : Int).toNat).2.2 = 24 := by decide +kernel
theorem dd_Memory_addLine_29 : decode mm_Memory_addLine.2.1 29 = .ok (.aload_n 0, 1) := by decide +kernel
theorem dd_Memory_addLine_30 : decode mm_Memory_addLine.2.1 30 = .ok (.dup, 1) := by decide +kernel
theorem dd_Memory_addLine_31 : decode mm_Memory_addLine.2.1 31 = .ok (.getfield 35, 3) := by decide +kernel
theorem dd_Memory_addLine_34 : decode mm_Memory_addLine.2.1 34 = .ok (.iconst 1, 1) := by decide +kernel
theorem dd_Memory_addLine_35 : decode mm_Memory_addLine.2.1 35 = .ok (.iadd, 1) := by decide +kernel
theorem dd_Memory_addLine_36 : decode mm_Memory_addLine.2.1 36 = .ok (.putfield 35, 3) := by decide +kernel
theorem fn_3_1 : fin 3 1 = false := by decide +kernel
theorem dd_Memory_copyDay_0 : decode mm_Memory_copyDay.2.1 0 = .ok (.aload_n 0, 1) := by decide +kernel
theorem dd_Memory_copyDay_1 : decode mm_Memory_copyDay.2.1 1 = .ok (.aload_n 1, 1) := by decide +kernel
theorem dd_Memory_copyDay_2 : decode mm_Memory_copyDay.2.1 2 = .ok (.getfield 35, 3) := by decide +kernel
theorem dd_Memory_copyDay_5 : decode mm_Memory_copyDay.2.1 5 = .ok (.putfield 35, 3) := by decide +kernel
theorem dd_Memory_copyDay_8 : decode mm_Memory_copyDay.2.1 8 = .ok (.aload_n 1, 1) := by decide +kernel
theorem dd_Memory_copyDay_9 : decode mm_Memory_copyDay.2.1 9 = .ok (.getfield 18, 3) := by decide +kernel
theorem dd_Memory_copyDay_12 : decode mm_Memory_copyDay.2.1 12 = .ok (.iconst 0, 1) := by decide +kernel
theorem dd_Memory_copyDay_13 : decode mm_Memory_copyDay.2.1 13 = .ok (.aload_n 0, 1) := by decide +kernel
theorem dd_Memory_copyDay_14 : decode mm_Memory_copyDay.2.1 14 = .ok (.getfield 18, 3) := by decide +kernel
theorem dd_Memory_copyDay_17 : decode mm_Memory_copyDay.2.1 17 = .ok (.iconst 0, 1) := by decide +kernel
theorem dd_Memory_copyDay_18 : decode mm_Memory_copyDay.2.1 18 = .ok (.bipush 24, 2) := by decide +kernel
theorem dd_Memory_copyDay_20 : decode mm_Memory_copyDay.2.1 20 = .ok (.invokestatic 53, 3) := by decide +kernel
theorem dd_Memory_copyDay_23 : decode mm_Memory_copyDay.2.1 23 = .ok (.aload_n 1, 1) := by decide +kernel
theorem dd_Memory_copyDay_24 : decode mm_Memory_copyDay.2.1 24 = .ok (.getfield 22, 3) := by decide +kernel
theorem dd_Memory_copyDay_27 : decode mm_Memory_copyDay.2.1 27 = .ok (.iconst 0, 1) := by decide +kernel
theorem dd_Memory_copyDay_28 : decode mm_Memory_copyDay.2.1 28 = .ok (.aload_n 0, 1) := by decide +kernel
theorem dd_Memory_copyDay_29 : decode mm_Memory_copyDay.2.1 29 = .ok (.getfield 22, 3) := by decide +kernel
theorem dd_Memory_copyDay_32 : decode mm_Memory_copyDay.2.1 32 = .ok (.iconst 0, 1) := by decide +kernel
theorem dd_Memory_copyDay_33 : decode mm_Memory_copyDay.2.1 33 = .ok (.bipush 24, 2) := by decide +kernel
theorem dd_Memory_copyDay_35 : decode mm_Memory_copyDay.2.1 35 = .ok (.invokestatic 53, 3) := by decide +kernel
theorem dd_Memory_copyDay_38 : decode mm_Memory_copyDay.2.1 38 = .ok (.return_, 1) := by decide +kernel
theorem dd_Reader_takeKnownName_0 : decode mm_Reader_takeKnownName.2.1 0 = .ok (.aload_n 0, 1) := by decide +kernel
theorem dd_Reader_takeKnownName_1 : decode mm_Reader_takeKnownName.2.1 1 = .ok (.invokevirtual 205, 3) := by decide +kernel
theorem cw_7_205 : cwOk 7 205 0 32 1 1 7 = true := by decide +kernel
theorem io_2 : isO NC 2 7 = true := by decide +kernel
theorem mt_Reader_isName : MTB 32 = some mm_Reader_isName := rfl
theorem dd_Reader_takeKnownName_4 : decode mm_Reader_takeKnownName.2.1 4 = .ok (.ifCond .ne (11), 3) := by decide +kernel
theorem dd_Reader_takeKnownName_15 : decode mm_Reader_takeKnownName.2.1 15 = .ok (.iload_n 1, 1) := by decide +kernel
theorem dd_Reader_takeKnownName_16 : decode mm_Reader_takeKnownName.2.1 16 = .ok (.iconst (-1), 1) := by decide +kernel
theorem dd_Reader_takeKnownName_17 : decode mm_Reader_takeKnownName.2.1 17 = .ok (.if_icmp .ne (11), 3) := by decide +kernel
theorem dd_Reader_takeKnownName_28 : decode mm_Reader_takeKnownName.2.1 28 = .ok (.aload_n 0, 1) := by decide +kernel
theorem dd_Reader_takeKnownName_29 : decode mm_Reader_takeKnownName.2.1 29 = .ok (.invokevirtual 99, 3) := by decide +kernel
theorem cw_7_99 : cwOk 7 99 0 18 1 2 7 = true := by decide +kernel
theorem mt_Reader_step : MTB 18 = some mm_Reader_step := rfl
theorem dd_Reader_takeKnownName_20 : decode mm_Reader_takeKnownName.2.1 20 = .ok (.aload_n 0, 1) := by decide +kernel
theorem dd_Reader_takeKnownName_21 : decode mm_Reader_takeKnownName.2.1 21 = .ok (.iconst 2, 1) := by decide +kernel
theorem dd_Reader_takeKnownName_22 : decode mm_Reader_takeKnownName.2.1 22 = .ok (.invokevirtual 80, 3) := by decide +kernel
theorem cw_7_80 : cwOk 7 80 0 26 2 2 7 = true := by decide +kernel
theorem mt_Reader_fail : MTB 26 = some mm_Reader_fail := rfl
theorem dd_Reader_takeKnownName_7 : decode mm_Reader_takeKnownName.2.1 7 = .ok (.aload_n 0, 1) := by decide +kernel
theorem dd_Reader_takeKnownName_8 : decode mm_Reader_takeKnownName.2.1 8 = .ok (.iconst 1, 1) := by decide +kernel
theorem dd_Reader_takeKnownName_9 : decode mm_Reader_takeKnownName.2.1 9 = .ok (.invokevirtual 80, 3) := by decide +kernel
theorem dd_Reader_takeKnownName_12 : decode mm_Reader_takeKnownName.2.1 12 = .ok (.goto 20, 3) := by decide +kernel
theorem dd_Reader_takeKnownName_32 : decode mm_Reader_takeKnownName.2.1 32 = .ok (.iload_n 1, 1) := by decide +kernel
theorem dd_Reader_takeKnownName_33 : decode mm_Reader_takeKnownName.2.1 33 = .ok (.ireturn, 1) := by decide +kernel
theorem dd_Reader_takeKnownName_25 : decode mm_Reader_takeKnownName.2.1 25 = .ok (.goto 7, 3) := by decide +kernel
theorem dd_Reader_dayLine_0 : decode mm_Reader_dayLine.2.1 0 = .ok (.aload_n 0, 1) := by decide +kernel
theorem dd_Reader_dayLine_1 : decode mm_Reader_dayLine.2.1 1 = .ok (.getfield 67, 3) := by decide +kernel
theorem fd_7_67 : fld 7 67 = some (7, 7) := by decide +kernel
theorem dd_Reader_dayLine_4 : decode mm_Reader_dayLine.2.1 4 = .ok (.bipush 13, 2) := by decide +kernel
theorem dd_Reader_dayLine_6 : decode mm_Reader_dayLine.2.1 6 = .ok (.if_icmp .ne (7), 3) := by decide +kernel
theorem dd_Reader_dayLine_13 : decode mm_Reader_dayLine.2.1 13 = .ok (.iconst 0, 1) := by decide +kernel
theorem dd_Reader_dayLine_14 : decode mm_Reader_dayLine.2.1 14 = .ok (.istore_n 3, 1) := by decide +kernel
theorem dd_Reader_dayLine_15 : decode mm_Reader_dayLine.2.1 15 = .ok (.iload_n 3, 1) := by decide +kernel
theorem dd_Reader_dayLine_16 : decode mm_Reader_dayLine.2.1 16 = .ok (.ifCond .ne (18), 3) := by decide +kernel
theorem dd_Reader_dayLine_19 : decode mm_Reader_dayLine.2.1 19 = .ok (.aload_n 0, 1) := by decide +kernel
theorem dd_Reader_dayLine_20 : decode mm_Reader_dayLine.2.1 20 = .ok (.getfield 67, 3) := by decide +kernel
theorem dd_Reader_dayLine_23 : decode mm_Reader_dayLine.2.1 23 = .ok (.bipush 12, 2) := by decide +kernel
theorem dd_Reader_dayLine_25 : decode mm_Reader_dayLine.2.1 25 = .ok (.if_icmp .eq (9), 3) := by decide +kernel
theorem dd_Reader_dayLine_34 : decode mm_Reader_dayLine.2.1 34 = .ok (.aload_n 2, 1) := by decide +kernel
theorem dd_Reader_dayLine_35 : decode mm_Reader_dayLine.2.1 35 = .ok (.getfield 83, 3) := by decide +kernel
theorem fd_7_83 : fld 7 83 = some (3, 1) := by decide +kernel
theorem dd_Reader_dayLine_38 : decode mm_Reader_dayLine.2.1 38 = .ok (.bipush 24, 2) := by decide +kernel
theorem dd_Reader_dayLine_40 : decode mm_Reader_dayLine.2.1 40 = .ok (.if_icmp .lt (9), 3) := by decide +kernel
theorem dd_Reader_dayLine_49 : decode mm_Reader_dayLine.2.1 49 = .ok (.aload_n 0, 1) := by decide +kernel
theorem dd_Reader_dayLine_50 : decode mm_Reader_dayLine.2.1 50 = .ok (.invokevirtual 99, 3) := by decide +kernel
theorem dd_Reader_dayLine_43 : decode mm_Reader_dayLine.2.1 43 = .ok (.aload_n 0, 1) := by decide +kernel
theorem dd_Reader_dayLine_44 : decode mm_Reader_dayLine.2.1 44 = .ok (.iconst 5, 1) := by decide +kernel
theorem dd_Reader_dayLine_45 : decode mm_Reader_dayLine.2.1 45 = .ok (.invokevirtual 80, 3) := by decide +kernel
theorem dd_Reader_dayLine_28 : decode mm_Reader_dayLine.2.1 28 = .ok (.aload_n 0, 1) := by decide +kernel
theorem dd_Reader_dayLine_29 : decode mm_Reader_dayLine.2.1 29 = .ok (.iconst 1, 1) := by decide +kernel
theorem dd_Reader_dayLine_30 : decode mm_Reader_dayLine.2.1 30 = .ok (.invokevirtual 80, 3) := by decide +kernel
theorem dd_Reader_dayLine_9 : decode mm_Reader_dayLine.2.1 9 = .ok (.iconst 1, 1) := by decide +kernel
theorem dd_Reader_dayLine_10 : decode mm_Reader_dayLine.2.1 10 = .ok (.goto 4, 3) := by decide +kernel
theorem dd_Reader_dayLine_33 : decode mm_Reader_dayLine.2.1 33 = .ok (.return_, 1) := by decide +kernel
theorem dd_Reader_dayLine_48 : decode mm_Reader_dayLine.2.1 48 = .ok (.return_, 1) := by decide +kernel
theorem dd_Reader_dayLine_53 : decode mm_Reader_dayLine.2.1 53 = .ok (.iconst (-1), 1) := by decide +kernel
theorem dd_Reader_dayLine_54 : decode mm_Reader_dayLine.2.1 54 = .ok (.istore 4, 2) := by decide +kernel
theorem dd_Reader_dayLine_56 : decode mm_Reader_dayLine.2.1 56 = .ok (.iconst (-1), 1) := by decide +kernel
theorem dd_Reader_dayLine_57 : decode mm_Reader_dayLine.2.1 57 = .ok (.istore 5, 2) := by decide +kernel
theorem dd_Reader_dayLine_59 : decode mm_Reader_dayLine.2.1 59 = .ok (.iload_n 3, 1) := by decide +kernel
theorem dd_Reader_dayLine_60 : decode mm_Reader_dayLine.2.1 60 = .ok (.ifCond .ne (31), 3) := by decide +kernel
theorem dd_Reader_dayLine_91 : decode mm_Reader_dayLine.2.1 91 = .ok (.aload_n 0, 1) := by decide +kernel
theorem dd_Reader_dayLine_92 : decode mm_Reader_dayLine.2.1 92 = .ok (.bipush 59, 2) := by decide +kernel
theorem dd_Reader_dayLine_94 : decode mm_Reader_dayLine.2.1 94 = .ok (.invokevirtual 57, 3) := by decide +kernel
theorem cw_7_57 : cwOk 7 57 0 28 2 2 7 = true := by decide +kernel
theorem mt_Reader_takeSign : MTB 28 = some mm_Reader_takeSign := rfl
theorem dd_Reader_dayLine_63 : decode mm_Reader_dayLine.2.1 63 = .ok (.aload_n 0, 1) := by decide +kernel
theorem dd_Reader_dayLine_64 : decode mm_Reader_dayLine.2.1 64 = .ok (.aload_n 1, 1) := by decide +kernel
theorem dd_Reader_dayLine_65 : decode mm_Reader_dayLine.2.1 65 = .ok (.aload_n 0, 1) := by decide +kernel
theorem dd_Reader_dayLine_66 : decode mm_Reader_dayLine.2.1 66 = .ok (.getfield 174, 3) := by decide +kernel
theorem fd_7_174 : fld 7 174 = some (7, 6) := by decide +kernel
theorem dd_Reader_dayLine_69 : decode mm_Reader_dayLine.2.1 69 = .ok (.invokevirtual 177, 3) := by decide +kernel
theorem cw_7_177 : cwOk 7 177 0 34 2 4 6 = true := by decide +kernel
theorem mt_Quarter_personNamed : MTB 34 = some mm_Quarter_personNamed := rfl
theorem dd_Reader_dayLine_72 : decode mm_Reader_dayLine.2.1 72 = .ok (.invokevirtual 181, 3) := by decide +kernel
theorem cw_7_181 : cwOk 7 181 0 57 2 2 7 = true := by decide +kernel
theorem mt_Reader_takeKnownName : MTB 57 = some mm_Reader_takeKnownName := rfl
theorem dd_Reader_dayLine_75 : decode mm_Reader_dayLine.2.1 75 = .ok (.istore 4, 2) := by decide +kernel
theorem dd_Reader_dayLine_77 : decode mm_Reader_dayLine.2.1 77 = .ok (.aload_n 0, 1) := by decide +kernel
theorem dd_Reader_dayLine_78 : decode mm_Reader_dayLine.2.1 78 = .ok (.aload_n 1, 1) := by decide +kernel
theorem dd_Reader_dayLine_79 : decode mm_Reader_dayLine.2.1 79 = .ok (.aload_n 0, 1) := by decide +kernel
theorem dd_Reader_dayLine_80 : decode mm_Reader_dayLine.2.1 80 = .ok (.getfield 174, 3) := by decide +kernel
theorem dd_Reader_dayLine_83 : decode mm_Reader_dayLine.2.1 83 = .ok (.invokevirtual 184, 3) := by decide +kernel
theorem cw_7_184 : cwOk 7 184 0 33 2 4 6 = true := by decide +kernel
theorem mt_Quarter_doorNamed : MTB 33 = some mm_Quarter_doorNamed := rfl
theorem dd_Reader_dayLine_86 : decode mm_Reader_dayLine.2.1 86 = .ok (.invokevirtual 181, 3) := by decide +kernel
theorem dd_Reader_dayLine_89 : decode mm_Reader_dayLine.2.1 89 = .ok (.istore 5, 2) := by decide +kernel
theorem dd_Reader_dayLine_97 : decode mm_Reader_dayLine.2.1 97 = .ok (.aload_n 0, 1) := by decide +kernel
theorem dd_Reader_dayLine_98 : decode mm_Reader_dayLine.2.1 98 = .ok (.getfield 61, 3) := by decide +kernel
theorem fd_7_61 : fld 7 61 = some (7, 8) := by decide +kernel
theorem dd_Reader_dayLine_101 : decode mm_Reader_dayLine.2.1 101 = .ok (.ifCond .ne (11), 3) := by decide +kernel
theorem dd_Reader_dayLine_112 : decode mm_Reader_dayLine.2.1 112 = .ok (.return_, 1) := by decide +kernel
theorem dd_Reader_dayLine_104 : decode mm_Reader_dayLine.2.1 104 = .ok (.aload_n 2, 1) := by decide +kernel
theorem dd_Reader_dayLine_105 : decode mm_Reader_dayLine.2.1 105 = .ok (.iload 4, 2) := by decide +kernel
theorem dd_Reader_dayLine_107 : decode mm_Reader_dayLine.2.1 107 = .ok (.iload 5, 2) := by decide +kernel
theorem dd_Reader_dayLine_109 : decode mm_Reader_dayLine.2.1 109 = .ok (.invokevirtual 187, 3) := by decide +kernel
theorem cw_7_187 : cwOk 7 187 0 58 3 3 3 = true := by decide +kernel
theorem mt_Memory_addLine : MTB 58 = some mm_Memory_addLine := rfl
theorem dd_Reader_takeSign_0 : decode mm_Reader_takeSign.2.1 0 = .ok (.aload_n 0, 1) := by decide +kernel
theorem dd_Reader_takeSign_1 : decode mm_Reader_takeSign.2.1 1 = .ok (.iload_n 1, 1) := by decide +kernel
theorem dd_Reader_takeSign_2 : decode mm_Reader_takeSign.2.1 2 = .ok (.invokevirtual 201, 3) := by decide +kernel
theorem cw_7_201 : cwOk 7 201 0 29 2 2 7 = true := by decide +kernel
theorem mt_Reader_isSign : MTB 29 = some mm_Reader_isSign := rfl
theorem dd_Reader_takeSign_5 : decode mm_Reader_takeSign.2.1 5 = .ok (.ifCond .eq (10), 3) := by decide +kernel
theorem dd_Reader_takeSign_15 : decode mm_Reader_takeSign.2.1 15 = .ok (.aload_n 0, 1) := by decide +kernel
theorem dd_Reader_takeSign_16 : decode mm_Reader_takeSign.2.1 16 = .ok (.iconst 1, 1) := by decide +kernel
theorem dd_Reader_takeSign_17 : decode mm_Reader_takeSign.2.1 17 = .ok (.invokevirtual 80, 3) := by decide +kernel
theorem dd_Reader_takeSign_8 : decode mm_Reader_takeSign.2.1 8 = .ok (.aload_n 0, 1) := by decide +kernel
theorem dd_Reader_takeSign_9 : decode mm_Reader_takeSign.2.1 9 = .ok (.invokevirtual 99, 3) := by decide +kernel
theorem dd_Reader_takeSign_12 : decode mm_Reader_takeSign.2.1 12 = .ok (.goto 8, 3) := by decide +kernel
theorem dd_Reader_takeSign_20 : decode mm_Reader_takeSign.2.1 20 = .ok (.return_, 1) := by decide +kernel
theorem dd_Reader_fail_0 : decode mm_Reader_fail.2.1 0 = .ok (.aload_n 0, 1) := by decide +kernel
theorem dd_Reader_fail_1 : decode mm_Reader_fail.2.1 1 = .ok (.getfield 61, 3) := by decide +kernel
theorem dd_Reader_fail_4 : decode mm_Reader_fail.2.1 4 = .ok (.ifCond .ne (16), 3) := by decide +kernel
theorem dd_Reader_fail_20 : decode mm_Reader_fail.2.1 20 = .ok (.return_, 1) := by decide +kernel
theorem dd_Reader_fail_7 : decode mm_Reader_fail.2.1 7 = .ok (.aload_n 0, 1) := by decide +kernel
theorem dd_Reader_fail_8 : decode mm_Reader_fail.2.1 8 = .ok (.iload_n 1, 1) := by decide +kernel
theorem dd_Reader_fail_9 : decode mm_Reader_fail.2.1 9 = .ok (.bipush 16, 2) := by decide +kernel
theorem dd_Reader_fail_11 : decode mm_Reader_fail.2.1 11 = .ok (.aload_n 0, 1) := by decide +kernel
theorem dd_Reader_fail_12 : decode mm_Reader_fail.2.1 12 = .ok (.getfield 209, 3) := by decide +kernel
theorem fd_7_209 : fld 7 209 = some (7, 4) := by decide +kernel
theorem dd_Reader_fail_15 : decode mm_Reader_fail.2.1 15 = .ok (.imul, 1) := by decide +kernel
theorem dd_Reader_fail_16 : decode mm_Reader_fail.2.1 16 = .ok (.iadd, 1) := by decide +kernel
theorem dd_Reader_fail_17 : decode mm_Reader_fail.2.1 17 = .ok (.putfield 61, 3) := by decide +kernel
theorem fn_7_8 : fin 7 8 = false := by decide +kernel
theorem dd_Reader_step_0 : decode mm_Reader_step.2.1 0 = .ok (.aload_n 0, 1) := by decide +kernel
theorem dd_Reader_step_1 : decode mm_Reader_step.2.1 1 = .ok (.getfield 61, 3) := by decide +kernel
theorem dd_Reader_step_4 : decode mm_Reader_step.2.1 4 = .ok (.ifCond .eq (4), 3) := by decide +kernel
theorem dd_Reader_step_8 : decode mm_Reader_step.2.1 8 = .ok (.aload_n 0, 1) := by decide +kernel
theorem dd_Reader_step_9 : decode mm_Reader_step.2.1 9 = .ok (.getfield 212, 3) := by decide +kernel
theorem fd_7_212 : fld 7 212 = some (7, 5) := by decide +kernel
theorem dd_Reader_step_12 : decode mm_Reader_step.2.1 12 = .ok (.istore_n 1, 1) := by decide +kernel
theorem dd_Reader_step_7 : decode mm_Reader_step.2.1 7 = .ok (.return_, 1) := by decide +kernel
theorem io_102 : isO NC 102 3 = true := by decide +kernel
theorem rf_102_2 {h : LH} (hF : RF h) : rd h 102 2 = 106 := hF 102 2 106 (by decide +kernel) (by decide +kernel)
theorem ia_106 : isA NC 106 1 = true := by decide +kernel
theorem la_106 : (lay (106 : Int).toNat).2.2 = 24 := by decide +kernel
theorem rf_102_3 {h : LH} (hF : RF h) : rd h 102 3 = 107 := hF 102 3 107 (by decide +kernel) (by decide +kernel)
theorem ia_107 : isA NC 107 1 = true := by decide +kernel
theorem la_107 : (lay (107 : Int).toNat).2.2 = 24 := by decide +kernel
theorem dd_Memory_copy_0 : decode mm_Memory_copy.2.1 0 = .ok (.aload_n 0, 1) := by decide +kernel
theorem dd_Memory_copy_1 : decode mm_Memory_copy.2.1 1 = .ok (.getfield 12, 3) := by decide +kernel
theorem fd_3_12 : fld 3 12 = some (3, 0) := by decide +kernel
theorem rf_102_0 {h : LH} (hF : RF h) : rd h 102 0 = 103 := hF 102 0 103 (by decide +kernel) (by decide +kernel)
theorem dd_Memory_copy_4 : decode mm_Memory_copy.2.1 4 = .ok (.aload_n 1, 1) := by decide +kernel
theorem dd_Memory_copy_5 : decode mm_Memory_copy.2.1 5 = .ok (.getfield 12, 3) := by decide +kernel
theorem dd_Memory_copy_8 : decode mm_Memory_copy.2.1 8 = .ok (.invokevirtual 45, 3) := by decide +kernel
theorem cw_3_45 : cwOk 3 45 0 71 2 2 9 = true := by decide +kernel
theorem io_103 : isO NC 103 9 = true := by decide +kernel
theorem mt_Scene_copy : MTB 71 = some mm_Scene_copy := rfl
theorem dd_Memory_copy_11 : decode mm_Memory_copy.2.1 11 = .ok (.aload_n 0, 1) := by decide +kernel
theorem dd_Memory_copy_12 : decode mm_Memory_copy.2.1 12 = .ok (.aload_n 1, 1) := by decide +kernel
theorem dd_Memory_copy_13 : decode mm_Memory_copy.2.1 13 = .ok (.invokevirtual 49, 3) := by decide +kernel
theorem cw_3_49 : cwOk 3 49 0 59 2 2 3 = true := by decide +kernel
theorem mt_Memory_copyDay : MTB 59 = some mm_Memory_copyDay := rfl
theorem dd_Memory_copy_16 : decode mm_Memory_copy.2.1 16 = .ok (.aload_n 0, 1) := by decide +kernel
theorem dd_Memory_copy_17 : decode mm_Memory_copy.2.1 17 = .ok (.aload_n 1, 1) := by decide +kernel
theorem dd_Memory_copy_18 : decode mm_Memory_copy.2.1 18 = .ok (.getfield 39, 3) := by decide +kernel
theorem fd_3_39 : fld 3 39 = some (3, 4) := by decide +kernel
theorem dd_Memory_copy_21 : decode mm_Memory_copy.2.1 21 = .ok (.putfield 39, 3) := by decide +kernel
theorem fn_3_4 : fin 3 4 = false := by decide +kernel
theorem dd_Memory_copy_24 : decode mm_Memory_copy.2.1 24 = .ok (.aload_n 0, 1) := by decide +kernel
theorem dd_Memory_copy_25 : decode mm_Memory_copy.2.1 25 = .ok (.aload_n 1, 1) := by decide +kernel
theorem dd_Memory_copy_26 : decode mm_Memory_copy.2.1 26 = .ok (.getfield 42, 3) := by decide +kernel
theorem fd_3_42 : fld 3 42 = some (3, 7) := by decide +kernel
theorem dd_Memory_copy_29 : decode mm_Memory_copy.2.1 29 = .ok (.putfield 42, 3) := by decide +kernel
theorem fn_3_7 : fin 3 7 = false := by decide +kernel
theorem dd_Memory_copy_32 : decode mm_Memory_copy.2.1 32 = .ok (.aload_n 1, 1) := by decide +kernel
theorem dd_Memory_copy_33 : decode mm_Memory_copy.2.1 33 = .ok (.getfield 25, 3) := by decide +kernel
theorem fd_3_25 : fld 3 25 = some (3, 5) := by decide +kernel
theorem rf_59_5 {h : LH} (hF : RF h) : rd h 59 5 = 65 := hF 59 5 65 (by decide +kernel) (by decide +kernel)
theorem dd_Memory_copy_36 : decode mm_Memory_copy.2.1 36 = .ok (.iconst 0, 1) := by decide +kernel
theorem dd_Memory_copy_37 : decode mm_Memory_copy.2.1 37 = .ok (.aload_n 0, 1) := by decide +kernel
theorem dd_Memory_copy_38 : decode mm_Memory_copy.2.1 38 = .ok (.getfield 25, 3) := by decide +kernel
theorem rf_102_5 {h : LH} (hF : RF h) : rd h 102 5 = 108 := hF 102 5 108 (by decide +kernel) (by decide +kernel)
theorem dd_Memory_copy_41 : decode mm_Memory_copy.2.1 41 = .ok (.iconst 0, 1) := by decide +kernel
theorem dd_Memory_copy_42 : decode mm_Memory_copy.2.1 42 = .ok (.bipush 10, 2) := by decide +kernel
theorem dd_Memory_copy_44 : decode mm_Memory_copy.2.1 44 = .ok (.invokestatic 53, 3) := by decide +kernel
theorem ia_65 : isA NC 65 1 = true := by decide +kernel
theorem la_65 : (lay (65 : Int).toNat).2.2 = 10 := by decide +kernel
theorem ia_108 : isA NC 108 1 = true := by decide +kernel
theorem la_108 : (lay (108 : Int).toNat).2.2 = 10 := by decide +kernel
theorem dd_Memory_copy_47 : decode mm_Memory_copy.2.1 47 = .ok (.aload_n 1, 1) := by decide +kernel
theorem dd_Memory_copy_48 : decode mm_Memory_copy.2.1 48 = .ok (.getfield 28, 3) := by decide +kernel
theorem fd_3_28 : fld 3 28 = some (3, 6) := by decide +kernel
theorem rf_59_6 {h : LH} (hF : RF h) : rd h 59 6 = 66 := hF 59 6 66 (by decide +kernel) (by decide +kernel)
theorem dd_Memory_copy_51 : decode mm_Memory_copy.2.1 51 = .ok (.iconst 0, 1) := by decide +kernel
theorem dd_Memory_copy_52 : decode mm_Memory_copy.2.1 52 = .ok (.aload_n 0, 1) := by decide +kernel
theorem dd_Memory_copy_53 : decode mm_Memory_copy.2.1 53 = .ok (.getfield 28, 3) := by decide +kernel
theorem rf_102_6 {h : LH} (hF : RF h) : rd h 102 6 = 109 := hF 102 6 109 (by decide +kernel) (by decide +kernel)
theorem dd_Memory_copy_56 : decode mm_Memory_copy.2.1 56 = .ok (.iconst 0, 1) := by decide +kernel
theorem dd_Memory_copy_57 : decode mm_Memory_copy.2.1 57 = .ok (.bipush 10, 2) := by decide +kernel
theorem dd_Memory_copy_59 : decode mm_Memory_copy.2.1 59 = .ok (.invokestatic 53, 3) := by decide +kernel
theorem ia_66 : isA NC 66 1 = true := by decide +kernel
theorem la_66 : (lay (66 : Int).toNat).2.2 = 10 := by decide +kernel
theorem ia_109 : isA NC 109 1 = true := by decide +kernel
theorem la_109 : (lay (109 : Int).toNat).2.2 = 10 := by decide +kernel
theorem dd_Memory_copy_62 : decode mm_Memory_copy.2.1 62 = .ok (.return_, 1) := by decide +kernel
theorem io_110 : isO NC 110 3 = true := by decide +kernel
theorem rf_110_2 {h : LH} (hF : RF h) : rd h 110 2 = 114 := hF 110 2 114 (by decide +kernel) (by decide +kernel)
theorem ia_114 : isA NC 114 1 = true := by decide +kernel
theorem la_114 : (lay (114 : Int).toNat).2.2 = 24 := by decide +kernel
theorem rf_110_3 {h : LH} (hF : RF h) : rd h 110 3 = 115 := hF 110 3 115 (by decide +kernel) (by decide +kernel)
theorem ia_115 : isA NC 115 1 = true := by decide +kernel
theorem la_115 : (lay (115 : Int).toNat).2.2 = 24 := by decide +kernel
theorem rf_110_0 {h : LH} (hF : RF h) : rd h 110 0 = 111 := hF 110 0 111 (by decide +kernel) (by decide +kernel)
theorem io_111 : isO NC 111 9 = true := by decide +kernel
theorem rf_110_5 {h : LH} (hF : RF h) : rd h 110 5 = 116 := hF 110 5 116 (by decide +kernel) (by decide +kernel)
theorem ia_116 : isA NC 116 1 = true := by decide +kernel
theorem la_116 : (lay (116 : Int).toNat).2.2 = 10 := by decide +kernel
theorem rf_110_6 {h : LH} (hF : RF h) : rd h 110 6 = 117 := hF 110 6 117 (by decide +kernel) (by decide +kernel)
theorem ia_117 : isA NC 117 1 = true := by decide +kernel
theorem la_117 : (lay (117 : Int).toNat).2.2 = 10 := by decide +kernel
theorem io_118 : isO NC 118 3 = true := by decide +kernel
theorem rf_118_2 {h : LH} (hF : RF h) : rd h 118 2 = 122 := hF 118 2 122 (by decide +kernel) (by decide +kernel)
theorem ia_122 : isA NC 122 1 = true := by decide +kernel
theorem la_122 : (lay (122 : Int).toNat).2.2 = 24 := by decide +kernel
theorem rf_118_3 {h : LH} (hF : RF h) : rd h 118 3 = 123 := hF 118 3 123 (by decide +kernel) (by decide +kernel)
theorem ia_123 : isA NC 123 1 = true := by decide +kernel
theorem la_123 : (lay (123 : Int).toNat).2.2 = 24 := by decide +kernel
theorem rf_118_0 {h : LH} (hF : RF h) : rd h 118 0 = 119 := hF 118 0 119 (by decide +kernel) (by decide +kernel)
theorem io_119 : isO NC 119 9 = true := by decide +kernel
theorem rf_118_5 {h : LH} (hF : RF h) : rd h 118 5 = 124 := hF 118 5 124 (by decide +kernel) (by decide +kernel)
theorem ia_124 : isA NC 124 1 = true := by decide +kernel
theorem la_124 : (lay (124 : Int).toNat).2.2 = 10 := by decide +kernel
theorem rf_118_6 {h : LH} (hF : RF h) : rd h 118 6 = 125 := hF 118 6 125 (by decide +kernel) (by decide +kernel)
theorem ia_125 : isA NC 125 1 = true := by decide +kernel
theorem la_125 : (lay (125 : Int).toNat).2.2 = 10 := by decide +kernel
theorem io_126 : isO NC 126 3 = true := by decide +kernel
theorem rf_126_2 {h : LH} (hF : RF h) : rd h 126 2 = 130 := hF 126 2 130 (by decide +kernel) (by decide +kernel)
theorem ia_130 : isA NC 130 1 = true := by decide +kernel
theorem la_130 : (lay (130 : Int).toNat).2.2 = 24 := by decide +kernel
theorem rf_126_3 {h : LH} (hF : RF h) : rd h 126 3 = 131 := hF 126 3 131 (by decide +kernel) (by decide +kernel)
theorem ia_131 : isA NC 131 1 = true := by decide +kernel
theorem la_131 : (lay (131 : Int).toNat).2.2 = 24 := by decide +kernel
theorem rf_126_0 {h : LH} (hF : RF h) : rd h 126 0 = 127 := hF 126 0 127 (by decide +kernel) (by decide +kernel)
theorem io_127 : isO NC 127 9 = true := by decide +kernel
theorem rf_126_5 {h : LH} (hF : RF h) : rd h 126 5 = 132 := hF 126 5 132 (by decide +kernel) (by decide +kernel)
theorem ia_132 : isA NC 132 1 = true := by decide +kernel
theorem la_132 : (lay (132 : Int).toNat).2.2 = 10 := by decide +kernel
theorem rf_126_6 {h : LH} (hF : RF h) : rd h 126 6 = 133 := hF 126 6 133 (by decide +kernel) (by decide +kernel)
theorem ia_133 : isA NC 133 1 = true := by decide +kernel
theorem la_133 : (lay (133 : Int).toNat).2.2 = 10 := by decide +kernel
theorem B_Memory_playDay_0 {xs : Nat → Int} {xl e : Nat} {h : LH} {Q : Option LV → LH → Prop} {q : Int} (hq : q = 5 ∨ q = 32) (hF : RF h)
    (k : Rn xs xl e mm_Memory_playDay 5 [some (.inr (.inr 59)), some (.inr (.inr q)), some (.inr (.inr 68)), some (.inl (-1)), some (.inl 0)] [] h Q) :
    Rn xs xl e mm_Memory_playDay 0 [some (.inr (.inr 59)), some (.inr (.inr q)), some (.inr (.inr 68)), none, none] [] h Q := by
  refine R_ic dd_Memory_playDay_0 (by decide) rfl ?_
  refine R_st (ls' := [some (.inr (.inr 59)), some (.inr (.inr q)), some (.inr (.inr 68)), some (.inl (-1)), none]) dd_Memory_playDay_1 rfl rfl rfl (Nat.le_of_ble_eq_true rfl) rfl rfl ?_
  refine R_ic dd_Memory_playDay_2 (by decide) rfl ?_
  refine R_st (ls' := [some (.inr (.inr 59)), some (.inr (.inr q)), some (.inr (.inr 68)), some (.inl (-1)), some (.inl 0)]) dd_Memory_playDay_3 rfl rfl rfl (Nat.le_of_ble_eq_true rfl) rfl rfl ?_
  exact k
theorem B_Memory_playDay_5 {xs : Nat → Int} {xl e : Nat} {h : LH} {Q : Option LV → LH → Prop} {v3 v4 : Int} {q : Int} (hq : q = 5 ∨ q = 32) (hF : RF h) (r_v4 : 0 ≤ v4 ∧ v4 ≤ 24)
    (k : ((rd h 59 1) ≤ v4 →
        Q (some (.inl v3)) h) ∧
      (v4 < (rd h 59 1) →
        (0 ≤ v4 ∧ v4 < 24) ∧
        ((rd h 63 v4) ≠ (-1) →
          (0 ≤ v4 ∧ v4 < 24) ∧
          (0 ≤ v4 ∧ v4 < 24) ∧
          (∃ c, c < e ∧ Rn xs xl c mm_Scene_tryDoor 0 [some (.inr (.inr 68)), some (.inr (.inr q)), some (.inl (rd h 63 v4)), some (.inl (rd h 64 v4)), none, none] [] h (fun r h' => Rn xs xl e mm_Memory_playDay 52 [some (.inr (.inr 59)), some (.inr (.inr q)), some (.inr (.inr 68)), some (.inl v3), some (.inl v4)] (r.toList ++ []) h' Q))) ∧
        ((rd h 63 v4) = (-1) →
          (∃ c, c < e ∧ Rn xs xl c mm_Scene_pass 0 [some (.inr (.inr 68)), some (.inl 1)] [] h (fun r h' => Rn xs xl e mm_Memory_playDay 30 [some (.inr (.inr 59)), some (.inr (.inr q)), some (.inr (.inr 68)), some (.inl v3), some (.inl v4)] (r.toList ++ []) h' Q))))) :
    Rn xs xl e mm_Memory_playDay 5 [some (.inr (.inr 59)), some (.inr (.inr q)), some (.inr (.inr 68)), some (.inl v3), some (.inl v4)] [] h Q := by
  refine R_ld (v := .inl v4) dd_Memory_playDay_5 rfl rfl rfl rfl ?_
  refine R_ld (v := .inr (.inr 59)) dd_Memory_playDay_7 rfl rfl rfl rfl ?_
  refine R_gf (v := .inl (rd h 59 1)) dd_Memory_playDay_8 fd_3_35 io_59 (congrArg (fun z : Int => (Sum.inl z : LV)) (rfl)) rfl ?_
  refine R_icmp dd_Memory_playDay_11 rfl rfl (fun (c6 : (rd h 59 1) ≤ v4) => ?_) (fun (c6 : v4 < (rd h 59 1)) => ?_)
  · replace k := k.1 c6
    refine R_ld (v := .inl v3) dd_Memory_playDay_70 rfl rfl rfl rfl ?_
    exact R_iret dd_Memory_playDay_71 rfl k
  · replace k := k.2 c6
    refine R_ld (v := .inr (.inr 59)) dd_Memory_playDay_14 rfl rfl rfl rfl ?_
    refine R_gf (v := .inr (.inr 63)) dd_Memory_playDay_15 fd_3_18 io_59 (congrArg (fun z : Int => (Sum.inr (Sum.inr z) : LV)) (rf_59_2 hF)) rfl ?_
    refine R_ld (v := .inl v4) dd_Memory_playDay_18 rfl rfl rfl rfl ?_
    obtain ⟨s1, k⟩ := k
    refine R_iald (v := (rd h 63 v4)) (n := 24) dd_Memory_playDay_20 ia_63 la_63 s1 (rfl) rfl ?_
    refine R_ic dd_Memory_playDay_21 (by decide) rfl ?_
    refine R_icmp dd_Memory_playDay_22 rfl rfl (fun (c7 : (rd h 63 v4) ≠ (-1)) => ?_) (fun (c7 : (rd h 63 v4) = (-1)) => ?_)
    · replace k := k.1 c7
      refine R_ld (v := .inr (.inr 68)) dd_Memory_playDay_33 rfl rfl rfl rfl ?_
      refine R_ld (v := .inr (.inr q)) dd_Memory_playDay_34 rfl rfl rfl rfl ?_
      refine R_ld (v := .inr (.inr 59)) dd_Memory_playDay_35 rfl rfl rfl rfl ?_
      refine R_gf (v := .inr (.inr 63)) dd_Memory_playDay_36 fd_3_18 io_59 (congrArg (fun z : Int => (Sum.inr (Sum.inr z) : LV)) (rf_59_2 hF)) rfl ?_
      refine R_ld (v := .inl v4) dd_Memory_playDay_39 rfl rfl rfl rfl ?_
      obtain ⟨s2, k⟩ := k
      refine R_iald (v := (rd h 63 v4)) (n := 24) dd_Memory_playDay_41 ia_63 la_63 s2 (rfl) rfl ?_
      refine R_ld (v := .inr (.inr 59)) dd_Memory_playDay_42 rfl rfl rfl rfl ?_
      refine R_gf (v := .inr (.inr 64)) dd_Memory_playDay_43 fd_3_22 io_59 (congrArg (fun z : Int => (Sum.inr (Sum.inr z) : LV)) (rf_59_3 hF)) rfl ?_
      refine R_ld (v := .inl v4) dd_Memory_playDay_46 rfl rfl rfl rfl ?_
      obtain ⟨s3, k⟩ := k
      refine R_iald (v := (rd h 64 v4)) (n := 24) dd_Memory_playDay_48 ia_64 la_64 s3 (rfl) rfl ?_
      obtain ⟨c, hc, k⟩ := k
      exact R_call (as := [.inr (.inr 68), .inr (.inr q), .inl (rd h 63 v4), .inl (rd h 64 v4)]) (rest := []) (M' := mm_Scene_tryDoor) (ls0 := [some (.inr (.inr 68)), some (.inr (.inr q)), some (.inl (rd h 63 v4)), some (.inl (rd h 64 v4)), none, none]) dd_Memory_playDay_49 rfl rfl (cw_v cw_3_63 io_68 rfl rfl (Nat.le_of_ble_eq_true rfl) (Nat.le_of_ble_eq_true rfl)) mt_Scene_tryDoor rfl hc rfl k
    · replace k := k.2 c7
      refine R_ld (v := .inr (.inr 68)) dd_Memory_playDay_25 rfl rfl rfl rfl ?_
      refine R_ic dd_Memory_playDay_26 (by decide) rfl ?_
      obtain ⟨c, hc, k⟩ := k
      exact R_call (as := [.inr (.inr 68), .inl 1]) (rest := []) (M' := mm_Scene_pass) (ls0 := [some (.inr (.inr 68)), some (.inl 1)]) dd_Memory_playDay_27 rfl rfl (cw_v cw_3_59 io_68 rfl rfl (Nat.le_of_ble_eq_true rfl) (Nat.le_of_ble_eq_true rfl)) mt_Scene_pass rfl hc rfl k
theorem B_Memory_playDay_30 {xs : Nat → Int} {xl e : Nat} {h : LH} {Q : Option LV → LH → Prop} {v3 v4 : Int} {q : Int} (hq : q = 5 ∨ q = 32) (hF : RF h) (r_v4 : 0 ≤ v4 ∧ v4 ≤ 23)
    (k : Rn xs xl e mm_Memory_playDay 5 [some (.inr (.inr 59)), some (.inr (.inr q)), some (.inr (.inr 68)), some (.inl v3), some (.inl (v4 + 1))] [] h Q) :
    Rn xs xl e mm_Memory_playDay 30 [some (.inr (.inr 59)), some (.inr (.inr q)), some (.inr (.inr 68)), some (.inl v3), some (.inl v4)] [] h Q := by
  refine R_goto dd_Memory_playDay_30 rfl ?_
  refine R_inc (y := v4 + 1) (ls' := [some (.inr (.inr 59)), some (.inr (.inr q)), some (.inr (.inr 68)), some (.inl v3), some (.inl (v4 + 1))]) dd_Memory_playDay_64 rfl (by decide) (by omega) (by omega) rfl rfl ?_
  refine R_goto dd_Memory_playDay_67 rfl ?_
  exact k
theorem B_Memory_playDay_52 {xs : Nat → Int} {xl e : Nat} {h : LH} {Q : Option LV → LH → Prop} {v3 v4 w0 : Int} {q : Int} (hq : q = 5 ∨ q = 32) (hF : RF h) (r_v4 : 0 ≤ v4 ∧ v4 ≤ 23)
    (k : (w0 ≠ (-1) →
        Rn xs xl e mm_Memory_playDay 5 [some (.inr (.inr 59)), some (.inr (.inr q)), some (.inr (.inr 68)), some (.inl v3), some (.inl (v4 + 1))] [] h Q) ∧
      (w0 = (-1) →
        (v3 ≠ (-1) →
          Rn xs xl e mm_Memory_playDay 5 [some (.inr (.inr 59)), some (.inr (.inr q)), some (.inr (.inr 68)), some (.inl v3), some (.inl (v4 + 1))] [] h Q) ∧
        (v3 = (-1) →
          Rn xs xl e mm_Memory_playDay 5 [some (.inr (.inr 59)), some (.inr (.inr q)), some (.inr (.inr 68)), some (.inl v4), some (.inl (v4 + 1))] [] h Q))) :
    Rn xs xl e mm_Memory_playDay 52 [some (.inr (.inr 59)), some (.inr (.inr q)), some (.inr (.inr 68)), some (.inl v3), some (.inl v4)] [.inl w0] h Q := by
  refine R_ic dd_Memory_playDay_52 (by decide) rfl ?_
  refine R_icmp dd_Memory_playDay_53 rfl rfl (fun (c1 : w0 ≠ (-1)) => ?_) (fun (c1 : w0 = (-1)) => ?_)
  · replace k := k.1 c1
    refine R_inc (y := v4 + 1) (ls' := [some (.inr (.inr 59)), some (.inr (.inr q)), some (.inr (.inr 68)), some (.inl v3), some (.inl (v4 + 1))]) dd_Memory_playDay_64 rfl (by decide) (by omega) (by omega) rfl rfl ?_
    refine R_goto dd_Memory_playDay_67 rfl ?_
    exact k
  · replace k := k.2 c1
    refine R_ld (v := .inl v3) dd_Memory_playDay_56 rfl rfl rfl rfl ?_
    refine R_ic dd_Memory_playDay_57 (by decide) rfl ?_
    refine R_icmp dd_Memory_playDay_58 rfl rfl (fun (c2 : v3 ≠ (-1)) => ?_) (fun (c2 : v3 = (-1)) => ?_)
    · replace k := k.1 c2
      refine R_inc (y := v4 + 1) (ls' := [some (.inr (.inr 59)), some (.inr (.inr q)), some (.inr (.inr 68)), some (.inl v3), some (.inl (v4 + 1))]) dd_Memory_playDay_64 rfl (by decide) (by omega) (by omega) rfl rfl ?_
      refine R_goto dd_Memory_playDay_67 rfl ?_
      exact k
    · replace k := k.2 c2
      refine R_ld (v := .inl v4) dd_Memory_playDay_61 rfl rfl rfl rfl ?_
      refine R_st (ls' := [some (.inr (.inr 59)), some (.inr (.inr q)), some (.inr (.inr 68)), some (.inl v4), some (.inl v4)]) dd_Memory_playDay_63 rfl rfl rfl (Nat.le_of_ble_eq_true rfl) rfl rfl ?_
      refine R_inc (y := v4 + 1) (ls' := [some (.inr (.inr 59)), some (.inr (.inr q)), some (.inr (.inr 68)), some (.inl v4), some (.inl (v4 + 1))]) dd_Memory_playDay_64 rfl (by decide) (by omega) (by omega) rfl rfl ?_
      refine R_goto dd_Memory_playDay_67 rfl ?_
      exact k
theorem B_Memory_addLine_0 {xs : Nat → Int} {xl e : Nat} {h : LH} {Q : Option LV → LH → Prop} {v1 v2 : Int} (hF : RF h)
    (k : (24 ≤ (rd h 67 1) →
        Q none h) ∧
      ((rd h 67 1) < 24 →
        (0 ≤ (rd h 67 1) ∧ (rd h 67 1) < 24) ∧
        (0 ≤ (rd h 67 1) ∧ (rd h 67 1) < 24) ∧
        (-2147483648 ≤ (rd h 67 1) + 1 ∧ (rd h 67 1) + 1 ≤ 2147483647) ∧
        Q none (wr (wr (wr h 71 (rd h 67 1) v1) 72 (rd h 67 1) v2) 67 1 ((rd h 67 1) + 1)))) :
    Rn xs xl e mm_Memory_addLine 0 [some (.inr (.inr 67)), some (.inl v1), some (.inl v2)] [] h Q := by
  refine R_ld (v := .inr (.inr 67)) dd_Memory_addLine_0 rfl rfl rfl rfl ?_
  refine R_gf (v := .inl (rd h 67 1)) dd_Memory_addLine_1 fd_3_35 io_67 (congrArg (fun z : Int => (Sum.inl z : LV)) (rfl)) rfl ?_
  refine R_bi dd_Memory_addLine_4 (by decide) rfl ?_
  refine R_icmp dd_Memory_addLine_6 rfl rfl (fun (c4 : 24 ≤ (rd h 67 1)) => ?_) (fun (c4 : (rd h 67 1) < 24) => ?_)
  · replace k := k.1 c4
    exact R_vret dd_Memory_addLine_39 rfl k
  · replace k := k.2 c4
    refine R_ld (v := .inr (.inr 67)) dd_Memory_addLine_9 rfl rfl rfl rfl ?_
    refine R_gf (v := .inr (.inr 71)) dd_Memory_addLine_10 fd_3_18 io_67 (congrArg (fun z : Int => (Sum.inr (Sum.inr z) : LV)) (rf_67_2 hF)) rfl ?_
    refine R_ld (v := .inr (.inr 67)) dd_Memory_addLine_13 rfl rfl rfl rfl ?_
    refine R_gf (v := .inl (rd h 67 1)) dd_Memory_addLine_14 fd_3_35 io_67 (congrArg (fun z : Int => (Sum.inl z : LV)) (rfl)) rfl ?_
    refine R_ld (v := .inl v1) dd_Memory_addLine_17 rfl rfl rfl rfl ?_
    obtain ⟨s1, k⟩ := k
    refine R_iast (n := 24) dd_Memory_addLine_18 ia_71 la_71 s1 rfl ?_
    refine R_ld (v := .inr (.inr 67)) dd_Memory_addLine_19 rfl rfl rfl rfl ?_
    refine R_gf (v := .inr (.inr 72)) dd_Memory_addLine_20 fd_3_22 io_67 (congrArg (fun z : Int => (Sum.inr (Sum.inr z) : LV)) ((rdw_ne (by decide)).trans (rf_67_3 hF))) rfl ?_
    refine R_ld (v := .inr (.inr 67)) dd_Memory_addLine_23 rfl rfl rfl rfl ?_
    refine R_gf (v := .inl (rd h 67 1)) dd_Memory_addLine_24 fd_3_35 io_67 (congrArg (fun z : Int => (Sum.inl z : LV)) (rdw_ne (by decide))) rfl ?_
    refine R_ld (v := .inl v2) dd_Memory_addLine_27 rfl rfl rfl rfl ?_
    obtain ⟨s2, k⟩ := k
    refine R_iast (n := 24) dd_Memory_addLine_28 ia_72 la_72 s2 rfl ?_
    refine R_ld (v := .inr (.inr 67)) dd_Memory_addLine_29 rfl rfl rfl rfl ?_
    refine R_A dd_Memory_addLine_30 rfl rfl rfl rfl ?_
    refine R_gf (v := .inl (rd h 67 1)) dd_Memory_addLine_31 fd_3_35 io_67 (congrArg (fun z : Int => (Sum.inl z : LV)) ((rdw_ne (by decide)).trans (rdw_ne (by decide)))) rfl ?_
    refine R_ic dd_Memory_addLine_34 (by decide) rfl ?_
    obtain ⟨s3, k⟩ := k
    refine R_iadd (c := (rd h 67 1) + 1) dd_Memory_addLine_35 (by omega) s3 rfl ?_
    refine R_pf (z := ((rd h 67 1) + 1)) dd_Memory_addLine_36 fd_3_35 io_67 fn_3_1 rfl rfl ?_
    exact R_vret dd_Memory_addLine_39 rfl k
theorem B_copyDay_0_59_67 {xs : Nat → Int} {xl e : Nat} {h : LH} {Q : Option LV → LH → Prop} (hF : RF h)
    (k : Rn xs xl e mm_Memory_copyDay 23 [some (.inr (.inr 59)), some (.inr (.inr 67))] [] (cpyL (wr h 59 1 (rd h 67 1)) 71 0 63 0 24 ++ (wr h 59 1 (rd h 67 1))) Q) :
    Rn xs xl e mm_Memory_copyDay 0 [some (.inr (.inr 59)), some (.inr (.inr 67))] [] h Q := by
  refine R_ld (v := .inr (.inr 59)) dd_Memory_copyDay_0 rfl rfl rfl rfl ?_
  refine R_ld (v := .inr (.inr 67)) dd_Memory_copyDay_1 rfl rfl rfl rfl ?_
  refine R_gf (v := .inl (rd h 67 1)) dd_Memory_copyDay_2 fd_3_35 io_67 (congrArg (fun z : Int => (Sum.inl z : LV)) (rfl)) rfl ?_
  refine R_pf (z := (rd h 67 1)) dd_Memory_copyDay_5 fd_3_35 io_59 fn_3_1 rfl rfl ?_
  refine R_ld (v := .inr (.inr 67)) dd_Memory_copyDay_8 rfl rfl rfl rfl ?_
  refine R_gf (v := .inr (.inr 71)) dd_Memory_copyDay_9 fd_3_18 io_67 (congrArg (fun z : Int => (Sum.inr (Sum.inr z) : LV)) ((rdw_ne (by decide)).trans (rf_67_2 hF))) rfl ?_
  refine R_ic dd_Memory_copyDay_12 (by decide) rfl ?_
  refine R_ld (v := .inr (.inr 59)) dd_Memory_copyDay_13 rfl rfl rfl rfl ?_
  refine R_gf (v := .inr (.inr 63)) dd_Memory_copyDay_14 fd_3_18 io_59 (congrArg (fun z : Int => (Sum.inr (Sum.inr z) : LV)) ((rdw_nei (by omega)).trans (rf_59_2 hF))) rfl ?_
  refine R_ic dd_Memory_copyDay_17 (by decide) rfl ?_
  refine R_bi dd_Memory_copyDay_18 (by decide) rfl ?_
  refine R_acopy (n := 24) (m := 24) dd_Memory_copyDay_20 (by decide +kernel) (by decide +kernel) ia_71 ia_63 la_71 la_63 (by decide) (Nat.le_of_ble_eq_true rfl) rfl ?_
  exact k
theorem B_copyDay_23_59_67 {xs : Nat → Int} {xl e : Nat} {h : LH} {Q : Option LV → LH → Prop} (hF : RF h)
    (k : Rn xs xl e mm_Memory_copyDay 38 [some (.inr (.inr 59)), some (.inr (.inr 67))] [] (cpyL h 72 0 64 0 24 ++ h) Q) :
    Rn xs xl e mm_Memory_copyDay 23 [some (.inr (.inr 59)), some (.inr (.inr 67))] [] h Q := by
  refine R_ld (v := .inr (.inr 67)) dd_Memory_copyDay_23 rfl rfl rfl rfl ?_
  refine R_gf (v := .inr (.inr 72)) dd_Memory_copyDay_24 fd_3_22 io_67 (congrArg (fun z : Int => (Sum.inr (Sum.inr z) : LV)) (rf_67_3 hF)) rfl ?_
  refine R_ic dd_Memory_copyDay_27 (by decide) rfl ?_
  refine R_ld (v := .inr (.inr 59)) dd_Memory_copyDay_28 rfl rfl rfl rfl ?_
  refine R_gf (v := .inr (.inr 64)) dd_Memory_copyDay_29 fd_3_22 io_59 (congrArg (fun z : Int => (Sum.inr (Sum.inr z) : LV)) (rf_59_3 hF)) rfl ?_
  refine R_ic dd_Memory_copyDay_32 (by decide) rfl ?_
  refine R_bi dd_Memory_copyDay_33 (by decide) rfl ?_
  refine R_acopy (n := 24) (m := 24) dd_Memory_copyDay_35 (by decide +kernel) (by decide +kernel) ia_72 ia_64 la_72 la_64 (by decide) (Nat.le_of_ble_eq_true rfl) rfl ?_
  exact k
theorem B_copyDay_38_59_67 {xs : Nat → Int} {xl e : Nat} {h : LH} {Q : Option LV → LH → Prop} (hF : RF h)
    (k : Q none h) :
    Rn xs xl e mm_Memory_copyDay 38 [some (.inr (.inr 59)), some (.inr (.inr 67))] [] h Q := by
  exact R_vret dd_Memory_copyDay_38 rfl k
theorem B_Reader_takeKnownName_0 {xs : Nat → Int} {xl e : Nat} {h : LH} {Q : Option LV → LH → Prop} {v1 : Int} (hF : RF h)
    (k : (∃ c, c < e ∧ Rn xs xl c mm_Reader_isName 0 [some (.inr (.inr 2))] [] h (fun r h' => Rn xs xl e mm_Reader_takeKnownName 4 [some (.inr (.inr 2)), some (.inl v1)] (r.toList ++ []) h' Q))) :
    Rn xs xl e mm_Reader_takeKnownName 0 [some (.inr (.inr 2)), some (.inl v1)] [] h Q := by
  refine R_ld (v := .inr (.inr 2)) dd_Reader_takeKnownName_0 rfl rfl rfl rfl ?_
  obtain ⟨c, hc, k⟩ := k
  exact R_call (as := [.inr (.inr 2)]) (rest := []) (M' := mm_Reader_isName) (ls0 := [some (.inr (.inr 2))]) dd_Reader_takeKnownName_1 rfl rfl (cw_v cw_7_205 io_2 rfl rfl (Nat.le_of_ble_eq_true rfl) (Nat.le_of_ble_eq_true rfl)) mt_Reader_isName rfl hc rfl k
theorem B_Reader_takeKnownName_4 {xs : Nat → Int} {xl e : Nat} {h : LH} {Q : Option LV → LH → Prop} {v1 w0 : Int} (hF : RF h)
    (k : (w0 ≠ 0 →
        (v1 ≠ (-1) →
          (∃ c, c < e ∧ Rn xs xl c mm_Reader_step 0 [some (.inr (.inr 2)), none] [] h (fun r h' => Rn xs xl e mm_Reader_takeKnownName 32 [some (.inr (.inr 2)), some (.inl v1)] (r.toList ++ []) h' Q))) ∧
        (v1 = (-1) →
          (∃ c, c < e ∧ Rn xs xl c mm_Reader_fail 0 [some (.inr (.inr 2)), some (.inl 2)] [] h (fun r h' => Rn xs xl e mm_Reader_takeKnownName 25 [some (.inr (.inr 2)), some (.inl v1)] (r.toList ++ []) h' Q)))) ∧
      (w0 = 0 →
        (∃ c, c < e ∧ Rn xs xl c mm_Reader_fail 0 [some (.inr (.inr 2)), some (.inl 1)] [] h (fun r h' => Rn xs xl e mm_Reader_takeKnownName 12 [some (.inr (.inr 2)), some (.inl v1)] (r.toList ++ []) h' Q)))) :
    Rn xs xl e mm_Reader_takeKnownName 4 [some (.inr (.inr 2)), some (.inl v1)] [.inl w0] h Q := by
  refine R_if dd_Reader_takeKnownName_4 rfl rfl (fun (c4 : w0 ≠ 0) => ?_) (fun (c4 : w0 = 0) => ?_)
  · replace k := k.1 c4
    refine R_ld (v := .inl v1) dd_Reader_takeKnownName_15 rfl rfl rfl rfl ?_
    refine R_ic dd_Reader_takeKnownName_16 (by decide) rfl ?_
    refine R_icmp dd_Reader_takeKnownName_17 rfl rfl (fun (c5 : v1 ≠ (-1)) => ?_) (fun (c5 : v1 = (-1)) => ?_)
    · replace k := k.1 c5
      refine R_ld (v := .inr (.inr 2)) dd_Reader_takeKnownName_28 rfl rfl rfl rfl ?_
      obtain ⟨c, hc, k⟩ := k
      exact R_call (as := [.inr (.inr 2)]) (rest := []) (M' := mm_Reader_step) (ls0 := [some (.inr (.inr 2)), none]) dd_Reader_takeKnownName_29 rfl rfl (cw_v cw_7_99 io_2 rfl rfl (Nat.le_of_ble_eq_true rfl) (Nat.le_of_ble_eq_true rfl)) mt_Reader_step rfl hc rfl k
    · replace k := k.2 c5
      refine R_ld (v := .inr (.inr 2)) dd_Reader_takeKnownName_20 rfl rfl rfl rfl ?_
      refine R_ic dd_Reader_takeKnownName_21 (by decide) rfl ?_
      obtain ⟨c, hc, k⟩ := k
      exact R_call (as := [.inr (.inr 2), .inl 2]) (rest := []) (M' := mm_Reader_fail) (ls0 := [some (.inr (.inr 2)), some (.inl 2)]) dd_Reader_takeKnownName_22 rfl rfl (cw_v cw_7_80 io_2 rfl rfl (Nat.le_of_ble_eq_true rfl) (Nat.le_of_ble_eq_true rfl)) mt_Reader_fail rfl hc rfl k
  · replace k := k.2 c4
    refine R_ld (v := .inr (.inr 2)) dd_Reader_takeKnownName_7 rfl rfl rfl rfl ?_
    refine R_ic dd_Reader_takeKnownName_8 (by decide) rfl ?_
    obtain ⟨c, hc, k⟩ := k
    exact R_call (as := [.inr (.inr 2), .inl 1]) (rest := []) (M' := mm_Reader_fail) (ls0 := [some (.inr (.inr 2)), some (.inl 1)]) dd_Reader_takeKnownName_9 rfl rfl (cw_v cw_7_80 io_2 rfl rfl (Nat.le_of_ble_eq_true rfl) (Nat.le_of_ble_eq_true rfl)) mt_Reader_fail rfl hc rfl k
theorem B_Reader_takeKnownName_12 {xs : Nat → Int} {xl e : Nat} {h : LH} {Q : Option LV → LH → Prop} {v1 : Int} (hF : RF h)
    (k : Q (some (.inl v1)) h) :
    Rn xs xl e mm_Reader_takeKnownName 12 [some (.inr (.inr 2)), some (.inl v1)] [] h Q := by
  refine R_goto dd_Reader_takeKnownName_12 rfl ?_
  refine R_ld (v := .inl v1) dd_Reader_takeKnownName_32 rfl rfl rfl rfl ?_
  exact R_iret dd_Reader_takeKnownName_33 rfl k
theorem B_Reader_takeKnownName_25 {xs : Nat → Int} {xl e : Nat} {h : LH} {Q : Option LV → LH → Prop} {v1 : Int} (hF : RF h)
    (k : Q (some (.inl v1)) h) :
    Rn xs xl e mm_Reader_takeKnownName 25 [some (.inr (.inr 2)), some (.inl v1)] [] h Q := by
  refine R_goto dd_Reader_takeKnownName_25 rfl ?_
  refine R_ld (v := .inl v1) dd_Reader_takeKnownName_32 rfl rfl rfl rfl ?_
  exact R_iret dd_Reader_takeKnownName_33 rfl k
theorem B_Reader_takeKnownName_32 {xs : Nat → Int} {xl e : Nat} {h : LH} {Q : Option LV → LH → Prop} {v1 : Int} (hF : RF h)
    (k : Q (some (.inl v1)) h) :
    Rn xs xl e mm_Reader_takeKnownName 32 [some (.inr (.inr 2)), some (.inl v1)] [] h Q := by
  refine R_ld (v := .inl v1) dd_Reader_takeKnownName_32 rfl rfl rfl rfl ?_
  exact R_iret dd_Reader_takeKnownName_33 rfl k
theorem B_Reader_dayLine_0 {xs : Nat → Int} {xl e : Nat} {h : LH} {Q : Option LV → LH → Prop} {q : Int} (hq : q = 5 ∨ q = 32) (hF : RF h)
    (k : ((rd h 2 7) ≠ 13 →
        ((rd h 2 7) = 12 →
          ((rd h 67 1) < 24 →
            (∃ c, c < e ∧ Rn xs xl c mm_Reader_step 0 [some (.inr (.inr 2)), none] [] h (fun r h' => Rn xs xl e mm_Reader_dayLine 53 [some (.inr (.inr 2)), some (.inr (.inr q)), some (.inr (.inr 67)), some (.inl 0), none, none] (r.toList ++ []) h' Q))) ∧
          (24 ≤ (rd h 67 1) →
            (∃ c, c < e ∧ Rn xs xl c mm_Reader_fail 0 [some (.inr (.inr 2)), some (.inl 5)] [] h (fun r h' => Rn xs xl e mm_Reader_dayLine 48 [some (.inr (.inr 2)), some (.inr (.inr q)), some (.inr (.inr 67)), some (.inl 0), none, none] (r.toList ++ []) h' Q)))) ∧
        ((rd h 2 7) ≠ 12 →
          (∃ c, c < e ∧ Rn xs xl c mm_Reader_fail 0 [some (.inr (.inr 2)), some (.inl 1)] [] h (fun r h' => Rn xs xl e mm_Reader_dayLine 33 [some (.inr (.inr 2)), some (.inr (.inr q)), some (.inr (.inr 67)), some (.inl 0), none, none] (r.toList ++ []) h' Q)))) ∧
      ((rd h 2 7) = 13 →
        ((rd h 67 1) < 24 →
          (∃ c, c < e ∧ Rn xs xl c mm_Reader_step 0 [some (.inr (.inr 2)), none] [] h (fun r h' => Rn xs xl e mm_Reader_dayLine 53 [some (.inr (.inr 2)), some (.inr (.inr q)), some (.inr (.inr 67)), some (.inl 1), none, none] (r.toList ++ []) h' Q))) ∧
        (24 ≤ (rd h 67 1) →
          (∃ c, c < e ∧ Rn xs xl c mm_Reader_fail 0 [some (.inr (.inr 2)), some (.inl 5)] [] h (fun r h' => Rn xs xl e mm_Reader_dayLine 48 [some (.inr (.inr 2)), some (.inr (.inr q)), some (.inr (.inr 67)), some (.inl 1), none, none] (r.toList ++ []) h' Q))))) :
    Rn xs xl e mm_Reader_dayLine 0 [some (.inr (.inr 2)), some (.inr (.inr q)), some (.inr (.inr 67)), none, none, none] [] h Q := by
  refine R_ld (v := .inr (.inr 2)) dd_Reader_dayLine_0 rfl rfl rfl rfl ?_
  refine R_gf (v := .inl (rd h 2 7)) dd_Reader_dayLine_1 fd_7_67 io_2 (congrArg (fun z : Int => (Sum.inl z : LV)) (rfl)) rfl ?_
  refine R_bi dd_Reader_dayLine_4 (by decide) rfl ?_
  refine R_icmp dd_Reader_dayLine_6 rfl rfl (fun (c6 : (rd h 2 7) ≠ 13) => ?_) (fun (c6 : (rd h 2 7) = 13) => ?_)
  · replace k := k.1 c6
    refine R_ic dd_Reader_dayLine_13 (by decide) rfl ?_
    refine R_st (ls' := [some (.inr (.inr 2)), some (.inr (.inr q)), some (.inr (.inr 67)), some (.inl 0), none, none]) dd_Reader_dayLine_14 rfl rfl rfl (Nat.le_of_ble_eq_true rfl) rfl rfl ?_
    refine R_ld (v := .inl 0) dd_Reader_dayLine_15 rfl rfl rfl rfl ?_
    refine R_if dd_Reader_dayLine_16 rfl rfl (fun (c7 : 0 ≠ 0) => ?_) (fun (c7 : 0 = 0) => ?_)
    · exact absurd c7 (by omega)
    · skip
      refine R_ld (v := .inr (.inr 2)) dd_Reader_dayLine_19 rfl rfl rfl rfl ?_
      refine R_gf (v := .inl (rd h 2 7)) dd_Reader_dayLine_20 fd_7_67 io_2 (congrArg (fun z : Int => (Sum.inl z : LV)) (rfl)) rfl ?_
      refine R_bi dd_Reader_dayLine_23 (by decide) rfl ?_
      refine R_icmp dd_Reader_dayLine_25 rfl rfl (fun (c8 : (rd h 2 7) = 12) => ?_) (fun (c8 : (rd h 2 7) ≠ 12) => ?_)
      · replace k := k.1 c8
        refine R_ld (v := .inr (.inr 67)) dd_Reader_dayLine_34 rfl rfl rfl rfl ?_
        refine R_gf (v := .inl (rd h 67 1)) dd_Reader_dayLine_35 fd_7_83 io_67 (congrArg (fun z : Int => (Sum.inl z : LV)) (rfl)) rfl ?_
        refine R_bi dd_Reader_dayLine_38 (by decide) rfl ?_
        refine R_icmp dd_Reader_dayLine_40 rfl rfl (fun (c9 : (rd h 67 1) < 24) => ?_) (fun (c9 : 24 ≤ (rd h 67 1)) => ?_)
        · replace k := k.1 c9
          refine R_ld (v := .inr (.inr 2)) dd_Reader_dayLine_49 rfl rfl rfl rfl ?_
          obtain ⟨c, hc, k⟩ := k
          exact R_call (as := [.inr (.inr 2)]) (rest := []) (M' := mm_Reader_step) (ls0 := [some (.inr (.inr 2)), none]) dd_Reader_dayLine_50 rfl rfl (cw_v cw_7_99 io_2 rfl rfl (Nat.le_of_ble_eq_true rfl) (Nat.le_of_ble_eq_true rfl)) mt_Reader_step rfl hc rfl k
        · replace k := k.2 c9
          refine R_ld (v := .inr (.inr 2)) dd_Reader_dayLine_43 rfl rfl rfl rfl ?_
          refine R_ic dd_Reader_dayLine_44 (by decide) rfl ?_
          obtain ⟨c, hc, k⟩ := k
          exact R_call (as := [.inr (.inr 2), .inl 5]) (rest := []) (M' := mm_Reader_fail) (ls0 := [some (.inr (.inr 2)), some (.inl 5)]) dd_Reader_dayLine_45 rfl rfl (cw_v cw_7_80 io_2 rfl rfl (Nat.le_of_ble_eq_true rfl) (Nat.le_of_ble_eq_true rfl)) mt_Reader_fail rfl hc rfl k
      · replace k := k.2 c8
        refine R_ld (v := .inr (.inr 2)) dd_Reader_dayLine_28 rfl rfl rfl rfl ?_
        refine R_ic dd_Reader_dayLine_29 (by decide) rfl ?_
        obtain ⟨c, hc, k⟩ := k
        exact R_call (as := [.inr (.inr 2), .inl 1]) (rest := []) (M' := mm_Reader_fail) (ls0 := [some (.inr (.inr 2)), some (.inl 1)]) dd_Reader_dayLine_30 rfl rfl (cw_v cw_7_80 io_2 rfl rfl (Nat.le_of_ble_eq_true rfl) (Nat.le_of_ble_eq_true rfl)) mt_Reader_fail rfl hc rfl k
  · replace k := k.2 c6
    refine R_ic dd_Reader_dayLine_9 (by decide) rfl ?_
    refine R_goto dd_Reader_dayLine_10 rfl ?_
    refine R_st (ls' := [some (.inr (.inr 2)), some (.inr (.inr q)), some (.inr (.inr 67)), some (.inl 1), none, none]) dd_Reader_dayLine_14 rfl rfl rfl (Nat.le_of_ble_eq_true rfl) rfl rfl ?_
    refine R_ld (v := .inl 1) dd_Reader_dayLine_15 rfl rfl rfl rfl ?_
    refine R_if dd_Reader_dayLine_16 rfl rfl (fun (c10 : 1 ≠ 0) => ?_) (fun (c10 : 1 = 0) => ?_)
    · skip
      refine R_ld (v := .inr (.inr 67)) dd_Reader_dayLine_34 rfl rfl rfl rfl ?_
      refine R_gf (v := .inl (rd h 67 1)) dd_Reader_dayLine_35 fd_7_83 io_67 (congrArg (fun z : Int => (Sum.inl z : LV)) (rfl)) rfl ?_
      refine R_bi dd_Reader_dayLine_38 (by decide) rfl ?_
      refine R_icmp dd_Reader_dayLine_40 rfl rfl (fun (c11 : (rd h 67 1) < 24) => ?_) (fun (c11 : 24 ≤ (rd h 67 1)) => ?_)
      · replace k := k.1 c11
        refine R_ld (v := .inr (.inr 2)) dd_Reader_dayLine_49 rfl rfl rfl rfl ?_
        obtain ⟨c, hc, k⟩ := k
        exact R_call (as := [.inr (.inr 2)]) (rest := []) (M' := mm_Reader_step) (ls0 := [some (.inr (.inr 2)), none]) dd_Reader_dayLine_50 rfl rfl (cw_v cw_7_99 io_2 rfl rfl (Nat.le_of_ble_eq_true rfl) (Nat.le_of_ble_eq_true rfl)) mt_Reader_step rfl hc rfl k
      · replace k := k.2 c11
        refine R_ld (v := .inr (.inr 2)) dd_Reader_dayLine_43 rfl rfl rfl rfl ?_
        refine R_ic dd_Reader_dayLine_44 (by decide) rfl ?_
        obtain ⟨c, hc, k⟩ := k
        exact R_call (as := [.inr (.inr 2), .inl 5]) (rest := []) (M' := mm_Reader_fail) (ls0 := [some (.inr (.inr 2)), some (.inl 5)]) dd_Reader_dayLine_45 rfl rfl (cw_v cw_7_80 io_2 rfl rfl (Nat.le_of_ble_eq_true rfl) (Nat.le_of_ble_eq_true rfl)) mt_Reader_fail rfl hc rfl k
    · exact absurd c10 (by omega)
theorem B_Reader_dayLine_33 {xs : Nat → Int} {xl e : Nat} {h : LH} {Q : Option LV → LH → Prop} {v3 : Int} {q : Int} (hq : q = 5 ∨ q = 32) (hF : RF h)
    (k : Q none h) :
    Rn xs xl e mm_Reader_dayLine 33 [some (.inr (.inr 2)), some (.inr (.inr q)), some (.inr (.inr 67)), some (.inl v3), none, none] [] h Q := by
  exact R_vret dd_Reader_dayLine_33 rfl k
theorem B_Reader_dayLine_48 {xs : Nat → Int} {xl e : Nat} {h : LH} {Q : Option LV → LH → Prop} {v3 : Int} {q : Int} (hq : q = 5 ∨ q = 32) (hF : RF h)
    (k : Q none h) :
    Rn xs xl e mm_Reader_dayLine 48 [some (.inr (.inr 2)), some (.inr (.inr q)), some (.inr (.inr 67)), some (.inl v3), none, none] [] h Q := by
  exact R_vret dd_Reader_dayLine_48 rfl k
theorem B_Reader_dayLine_53 {xs : Nat → Int} {xl e : Nat} {h : LH} {Q : Option LV → LH → Prop} {v3 : Int} {q : Int} (hq : q = 5 ∨ q = 32) (hF : RF h)
    (k : (v3 ≠ 0 →
        (∃ c, c < e ∧ Rn xs xl c mm_Reader_takeSign 0 [some (.inr (.inr 2)), some (.inl 59)] [] h (fun r h' => Rn xs xl e mm_Reader_dayLine 97 [some (.inr (.inr 2)), some (.inr (.inr q)), some (.inr (.inr 67)), some (.inl v3), some (.inl (-1)), some (.inl (-1))] (r.toList ++ []) h' Q))) ∧
      (v3 = 0 →
        (∃ c, c < e ∧ Rn xs xl c mm_Quarter_personNamed 0 [some (.inr (.inr q)), some (.inr (.inl (rd h 2 6))), none, none] [] h (fun r h' => Rn xs xl e mm_Reader_dayLine 72 [some (.inr (.inr 2)), some (.inr (.inr q)), some (.inr (.inr 67)), some (.inl v3), some (.inl (-1)), some (.inl (-1))] (r.toList ++ [.inr (.inr 2)]) h' Q)))) :
    Rn xs xl e mm_Reader_dayLine 53 [some (.inr (.inr 2)), some (.inr (.inr q)), some (.inr (.inr 67)), some (.inl v3), none, none] [] h Q := by
  refine R_ic dd_Reader_dayLine_53 (by decide) rfl ?_
  refine R_st (ls' := [some (.inr (.inr 2)), some (.inr (.inr q)), some (.inr (.inr 67)), some (.inl v3), some (.inl (-1)), none]) dd_Reader_dayLine_54 rfl rfl rfl (Nat.le_of_ble_eq_true rfl) rfl rfl ?_
  refine R_ic dd_Reader_dayLine_56 (by decide) rfl ?_
  refine R_st (ls' := [some (.inr (.inr 2)), some (.inr (.inr q)), some (.inr (.inr 67)), some (.inl v3), some (.inl (-1)), some (.inl (-1))]) dd_Reader_dayLine_57 rfl rfl rfl (Nat.le_of_ble_eq_true rfl) rfl rfl ?_
  refine R_ld (v := .inl v3) dd_Reader_dayLine_59 rfl rfl rfl rfl ?_
  refine R_if dd_Reader_dayLine_60 rfl rfl (fun (c3 : v3 ≠ 0) => ?_) (fun (c3 : v3 = 0) => ?_)
  · replace k := k.1 c3
    refine R_ld (v := .inr (.inr 2)) dd_Reader_dayLine_91 rfl rfl rfl rfl ?_
    refine R_bi dd_Reader_dayLine_92 (by decide) rfl ?_
    obtain ⟨c, hc, k⟩ := k
    exact R_call (as := [.inr (.inr 2), .inl 59]) (rest := []) (M' := mm_Reader_takeSign) (ls0 := [some (.inr (.inr 2)), some (.inl 59)]) dd_Reader_dayLine_94 rfl rfl (cw_v cw_7_57 io_2 rfl rfl (Nat.le_of_ble_eq_true rfl) (Nat.le_of_ble_eq_true rfl)) mt_Reader_takeSign rfl hc rfl k
  · replace k := k.2 c3
    refine R_ld (v := .inr (.inr 2)) dd_Reader_dayLine_63 rfl rfl rfl rfl ?_
    refine R_ld (v := .inr (.inr q)) dd_Reader_dayLine_64 rfl rfl rfl rfl ?_
    refine R_ld (v := .inr (.inr 2)) dd_Reader_dayLine_65 rfl rfl rfl rfl ?_
    refine R_gf (v := .inr (.inl (rd h 2 6))) dd_Reader_dayLine_66 fd_7_174 io_2 (congrArg (fun z : Int => (Sum.inr (Sum.inl z) : LV)) (rfl)) rfl ?_
    obtain ⟨c, hc, k⟩ := k
    exact R_call (as := [.inr (.inr q), .inr (.inl (rd h 2 6))]) (rest := [.inr (.inr 2)]) (M' := mm_Quarter_personNamed) (ls0 := [some (.inr (.inr q)), some (.inr (.inl (rd h 2 6))), none, none]) dd_Reader_dayLine_69 rfl rfl (cw_v cw_7_177 (io_q hq) rfl rfl (Nat.le_of_ble_eq_true rfl) (Nat.le_of_ble_eq_true rfl)) mt_Quarter_personNamed rfl hc rfl k
theorem B_Reader_dayLine_72 {xs : Nat → Int} {xl e : Nat} {h : LH} {Q : Option LV → LH → Prop} {v3 v4 v5 w1 : Int} {q : Int} (hq : q = 5 ∨ q = 32) (hF : RF h)
    (k : (∃ c, c < e ∧ Rn xs xl c mm_Reader_takeKnownName 0 [some (.inr (.inr 2)), some (.inl w1)] [] h (fun r h' => Rn xs xl e mm_Reader_dayLine 75 [some (.inr (.inr 2)), some (.inr (.inr q)), some (.inr (.inr 67)), some (.inl v3), some (.inl v4), some (.inl v5)] (r.toList ++ []) h' Q))) :
    Rn xs xl e mm_Reader_dayLine 72 [some (.inr (.inr 2)), some (.inr (.inr q)), some (.inr (.inr 67)), some (.inl v3), some (.inl v4), some (.inl v5)] [.inl w1, .inr (.inr 2)] h Q := by
  obtain ⟨c, hc, k⟩ := k
  exact R_call (as := [.inr (.inr 2), .inl w1]) (rest := []) (M' := mm_Reader_takeKnownName) (ls0 := [some (.inr (.inr 2)), some (.inl w1)]) dd_Reader_dayLine_72 rfl rfl (cw_v cw_7_181 io_2 rfl rfl (Nat.le_of_ble_eq_true rfl) (Nat.le_of_ble_eq_true rfl)) mt_Reader_takeKnownName rfl hc rfl k
theorem B_Reader_dayLine_75 {xs : Nat → Int} {xl e : Nat} {h : LH} {Q : Option LV → LH → Prop} {v3 v4 v5 w0 : Int} {q : Int} (hq : q = 5 ∨ q = 32) (hF : RF h)
    (k : (∃ c, c < e ∧ Rn xs xl c mm_Quarter_doorNamed 0 [some (.inr (.inr q)), some (.inr (.inl (rd h 2 6))), none, none] [] h (fun r h' => Rn xs xl e mm_Reader_dayLine 86 [some (.inr (.inr 2)), some (.inr (.inr q)), some (.inr (.inr 67)), some (.inl v3), some (.inl w0), some (.inl v5)] (r.toList ++ [.inr (.inr 2)]) h' Q))) :
    Rn xs xl e mm_Reader_dayLine 75 [some (.inr (.inr 2)), some (.inr (.inr q)), some (.inr (.inr 67)), some (.inl v3), some (.inl v4), some (.inl v5)] [.inl w0] h Q := by
  refine R_st (ls' := [some (.inr (.inr 2)), some (.inr (.inr q)), some (.inr (.inr 67)), some (.inl v3), some (.inl w0), some (.inl v5)]) dd_Reader_dayLine_75 rfl rfl rfl (Nat.le_of_ble_eq_true rfl) rfl rfl ?_
  refine R_ld (v := .inr (.inr 2)) dd_Reader_dayLine_77 rfl rfl rfl rfl ?_
  refine R_ld (v := .inr (.inr q)) dd_Reader_dayLine_78 rfl rfl rfl rfl ?_
  refine R_ld (v := .inr (.inr 2)) dd_Reader_dayLine_79 rfl rfl rfl rfl ?_
  refine R_gf (v := .inr (.inl (rd h 2 6))) dd_Reader_dayLine_80 fd_7_174 io_2 (congrArg (fun z : Int => (Sum.inr (Sum.inl z) : LV)) (rfl)) rfl ?_
  obtain ⟨c, hc, k⟩ := k
  exact R_call (as := [.inr (.inr q), .inr (.inl (rd h 2 6))]) (rest := [.inr (.inr 2)]) (M' := mm_Quarter_doorNamed) (ls0 := [some (.inr (.inr q)), some (.inr (.inl (rd h 2 6))), none, none]) dd_Reader_dayLine_83 rfl rfl (cw_v cw_7_184 (io_q hq) rfl rfl (Nat.le_of_ble_eq_true rfl) (Nat.le_of_ble_eq_true rfl)) mt_Quarter_doorNamed rfl hc rfl k
theorem B_Reader_dayLine_86 {xs : Nat → Int} {xl e : Nat} {h : LH} {Q : Option LV → LH → Prop} {v3 v4 v5 w1 : Int} {q : Int} (hq : q = 5 ∨ q = 32) (hF : RF h)
    (k : (∃ c, c < e ∧ Rn xs xl c mm_Reader_takeKnownName 0 [some (.inr (.inr 2)), some (.inl w1)] [] h (fun r h' => Rn xs xl e mm_Reader_dayLine 89 [some (.inr (.inr 2)), some (.inr (.inr q)), some (.inr (.inr 67)), some (.inl v3), some (.inl v4), some (.inl v5)] (r.toList ++ []) h' Q))) :
    Rn xs xl e mm_Reader_dayLine 86 [some (.inr (.inr 2)), some (.inr (.inr q)), some (.inr (.inr 67)), some (.inl v3), some (.inl v4), some (.inl v5)] [.inl w1, .inr (.inr 2)] h Q := by
  obtain ⟨c, hc, k⟩ := k
  exact R_call (as := [.inr (.inr 2), .inl w1]) (rest := []) (M' := mm_Reader_takeKnownName) (ls0 := [some (.inr (.inr 2)), some (.inl w1)]) dd_Reader_dayLine_86 rfl rfl (cw_v cw_7_181 io_2 rfl rfl (Nat.le_of_ble_eq_true rfl) (Nat.le_of_ble_eq_true rfl)) mt_Reader_takeKnownName rfl hc rfl k
theorem B_Reader_dayLine_89 {xs : Nat → Int} {xl e : Nat} {h : LH} {Q : Option LV → LH → Prop} {v3 v4 v5 w0 : Int} {q : Int} (hq : q = 5 ∨ q = 32) (hF : RF h)
    (k : (∃ c, c < e ∧ Rn xs xl c mm_Reader_takeSign 0 [some (.inr (.inr 2)), some (.inl 59)] [] h (fun r h' => Rn xs xl e mm_Reader_dayLine 97 [some (.inr (.inr 2)), some (.inr (.inr q)), some (.inr (.inr 67)), some (.inl v3), some (.inl v4), some (.inl w0)] (r.toList ++ []) h' Q))) :
    Rn xs xl e mm_Reader_dayLine 89 [some (.inr (.inr 2)), some (.inr (.inr q)), some (.inr (.inr 67)), some (.inl v3), some (.inl v4), some (.inl v5)] [.inl w0] h Q := by
  refine R_st (ls' := [some (.inr (.inr 2)), some (.inr (.inr q)), some (.inr (.inr 67)), some (.inl v3), some (.inl v4), some (.inl w0)]) dd_Reader_dayLine_89 rfl rfl rfl (Nat.le_of_ble_eq_true rfl) rfl rfl ?_
  refine R_ld (v := .inr (.inr 2)) dd_Reader_dayLine_91 rfl rfl rfl rfl ?_
  refine R_bi dd_Reader_dayLine_92 (by decide) rfl ?_
  obtain ⟨c, hc, k⟩ := k
  exact R_call (as := [.inr (.inr 2), .inl 59]) (rest := []) (M' := mm_Reader_takeSign) (ls0 := [some (.inr (.inr 2)), some (.inl 59)]) dd_Reader_dayLine_94 rfl rfl (cw_v cw_7_57 io_2 rfl rfl (Nat.le_of_ble_eq_true rfl) (Nat.le_of_ble_eq_true rfl)) mt_Reader_takeSign rfl hc rfl k
theorem B_Reader_dayLine_97 {xs : Nat → Int} {xl e : Nat} {h : LH} {Q : Option LV → LH → Prop} {v3 v4 v5 : Int} {q : Int} (hq : q = 5 ∨ q = 32) (hF : RF h)
    (k : ((rd h 2 8) ≠ 0 →
        Q none h) ∧
      ((rd h 2 8) = 0 →
        (∃ c, c < e ∧ Rn xs xl c mm_Memory_addLine 0 [some (.inr (.inr 67)), some (.inl v4), some (.inl v5)] [] h (fun r h' => Rn xs xl e mm_Reader_dayLine 112 [some (.inr (.inr 2)), some (.inr (.inr q)), some (.inr (.inr 67)), some (.inl v3), some (.inl v4), some (.inl v5)] (r.toList ++ []) h' Q)))) :
    Rn xs xl e mm_Reader_dayLine 97 [some (.inr (.inr 2)), some (.inr (.inr q)), some (.inr (.inr 67)), some (.inl v3), some (.inl v4), some (.inl v5)] [] h Q := by
  refine R_ld (v := .inr (.inr 2)) dd_Reader_dayLine_97 rfl rfl rfl rfl ?_
  refine R_gf (v := .inl (rd h 2 8)) dd_Reader_dayLine_98 fd_7_61 io_2 (congrArg (fun z : Int => (Sum.inl z : LV)) (rfl)) rfl ?_
  refine R_if dd_Reader_dayLine_101 rfl rfl (fun (c2 : (rd h 2 8) ≠ 0) => ?_) (fun (c2 : (rd h 2 8) = 0) => ?_)
  · replace k := k.1 c2
    exact R_vret dd_Reader_dayLine_112 rfl k
  · replace k := k.2 c2
    refine R_ld (v := .inr (.inr 67)) dd_Reader_dayLine_104 rfl rfl rfl rfl ?_
    refine R_ld (v := .inl v4) dd_Reader_dayLine_105 rfl rfl rfl rfl ?_
    refine R_ld (v := .inl v5) dd_Reader_dayLine_107 rfl rfl rfl rfl ?_
    obtain ⟨c, hc, k⟩ := k
    exact R_call (as := [.inr (.inr 67), .inl v4, .inl v5]) (rest := []) (M' := mm_Memory_addLine) (ls0 := [some (.inr (.inr 67)), some (.inl v4), some (.inl v5)]) dd_Reader_dayLine_109 rfl rfl (cw_v cw_7_187 io_67 rfl rfl (Nat.le_of_ble_eq_true rfl) (Nat.le_of_ble_eq_true rfl)) mt_Memory_addLine rfl hc rfl k
theorem B_Reader_dayLine_112 {xs : Nat → Int} {xl e : Nat} {h : LH} {Q : Option LV → LH → Prop} {v3 v4 v5 : Int} {q : Int} (hq : q = 5 ∨ q = 32) (hF : RF h)
    (k : Q none h) :
    Rn xs xl e mm_Reader_dayLine 112 [some (.inr (.inr 2)), some (.inr (.inr q)), some (.inr (.inr 67)), some (.inl v3), some (.inl v4), some (.inl v5)] [] h Q := by
  exact R_vret dd_Reader_dayLine_112 rfl k
theorem B_Reader_takeSign_0 {xs : Nat → Int} {xl e : Nat} {h : LH} {Q : Option LV → LH → Prop} {v1 : Int} (hF : RF h)
    (k : (∃ c, c < e ∧ Rn xs xl c mm_Reader_isSign 0 [some (.inr (.inr 2)), some (.inl v1)] [] h (fun r h' => Rn xs xl e mm_Reader_takeSign 5 [some (.inr (.inr 2)), some (.inl v1)] (r.toList ++ []) h' Q))) :
    Rn xs xl e mm_Reader_takeSign 0 [some (.inr (.inr 2)), some (.inl v1)] [] h Q := by
  refine R_ld (v := .inr (.inr 2)) dd_Reader_takeSign_0 rfl rfl rfl rfl ?_
  refine R_ld (v := .inl v1) dd_Reader_takeSign_1 rfl rfl rfl rfl ?_
  obtain ⟨c, hc, k⟩ := k
  exact R_call (as := [.inr (.inr 2), .inl v1]) (rest := []) (M' := mm_Reader_isSign) (ls0 := [some (.inr (.inr 2)), some (.inl v1)]) dd_Reader_takeSign_2 rfl rfl (cw_v cw_7_201 io_2 rfl rfl (Nat.le_of_ble_eq_true rfl) (Nat.le_of_ble_eq_true rfl)) mt_Reader_isSign rfl hc rfl k
theorem B_Reader_takeSign_5 {xs : Nat → Int} {xl e : Nat} {h : LH} {Q : Option LV → LH → Prop} {v1 w0 : Int} (hF : RF h)
    (k : (w0 = 0 →
        (∃ c, c < e ∧ Rn xs xl c mm_Reader_fail 0 [some (.inr (.inr 2)), some (.inl 1)] [] h (fun r h' => Rn xs xl e mm_Reader_takeSign 20 [some (.inr (.inr 2)), some (.inl v1)] (r.toList ++ []) h' Q))) ∧
      (w0 ≠ 0 →
        (∃ c, c < e ∧ Rn xs xl c mm_Reader_step 0 [some (.inr (.inr 2)), none] [] h (fun r h' => Rn xs xl e mm_Reader_takeSign 12 [some (.inr (.inr 2)), some (.inl v1)] (r.toList ++ []) h' Q)))) :
    Rn xs xl e mm_Reader_takeSign 5 [some (.inr (.inr 2)), some (.inl v1)] [.inl w0] h Q := by
  refine R_if dd_Reader_takeSign_5 rfl rfl (fun (c3 : w0 = 0) => ?_) (fun (c3 : w0 ≠ 0) => ?_)
  · replace k := k.1 c3
    refine R_ld (v := .inr (.inr 2)) dd_Reader_takeSign_15 rfl rfl rfl rfl ?_
    refine R_ic dd_Reader_takeSign_16 (by decide) rfl ?_
    obtain ⟨c, hc, k⟩ := k
    exact R_call (as := [.inr (.inr 2), .inl 1]) (rest := []) (M' := mm_Reader_fail) (ls0 := [some (.inr (.inr 2)), some (.inl 1)]) dd_Reader_takeSign_17 rfl rfl (cw_v cw_7_80 io_2 rfl rfl (Nat.le_of_ble_eq_true rfl) (Nat.le_of_ble_eq_true rfl)) mt_Reader_fail rfl hc rfl k
  · replace k := k.2 c3
    refine R_ld (v := .inr (.inr 2)) dd_Reader_takeSign_8 rfl rfl rfl rfl ?_
    obtain ⟨c, hc, k⟩ := k
    exact R_call (as := [.inr (.inr 2)]) (rest := []) (M' := mm_Reader_step) (ls0 := [some (.inr (.inr 2)), none]) dd_Reader_takeSign_9 rfl rfl (cw_v cw_7_99 io_2 rfl rfl (Nat.le_of_ble_eq_true rfl) (Nat.le_of_ble_eq_true rfl)) mt_Reader_step rfl hc rfl k
theorem B_Reader_takeSign_12 {xs : Nat → Int} {xl e : Nat} {h : LH} {Q : Option LV → LH → Prop} {v1 : Int} (hF : RF h)
    (k : Q none h) :
    Rn xs xl e mm_Reader_takeSign 12 [some (.inr (.inr 2)), some (.inl v1)] [] h Q := by
  refine R_goto dd_Reader_takeSign_12 rfl ?_
  exact R_vret dd_Reader_takeSign_20 rfl k
theorem B_Reader_takeSign_20 {xs : Nat → Int} {xl e : Nat} {h : LH} {Q : Option LV → LH → Prop} {v1 : Int} (hF : RF h)
    (k : Q none h) :
    Rn xs xl e mm_Reader_takeSign 20 [some (.inr (.inr 2)), some (.inl v1)] [] h Q := by
  exact R_vret dd_Reader_takeSign_20 rfl k
theorem B_Reader_fail_0 {xs : Nat → Int} {xl e : Nat} {h : LH} {Q : Option LV → LH → Prop} {v1 : Int} (hF : RF h)
    (k : ((rd h 2 8) ≠ 0 →
        Q none h) ∧
      ((rd h 2 8) = 0 →
        (-2147483648 ≤ 16 * (rd h 2 4) ∧ 16 * (rd h 2 4) ≤ 2147483647) ∧
        (-2147483648 ≤ v1 + 16 * (rd h 2 4) ∧ v1 + 16 * (rd h 2 4) ≤ 2147483647) ∧
        Q none (wr h 2 8 (v1 + 16 * (rd h 2 4))))) :
    Rn xs xl e mm_Reader_fail 0 [some (.inr (.inr 2)), some (.inl v1)] [] h Q := by
  refine R_ld (v := .inr (.inr 2)) dd_Reader_fail_0 rfl rfl rfl rfl ?_
  refine R_gf (v := .inl (rd h 2 8)) dd_Reader_fail_1 fd_7_61 io_2 (congrArg (fun z : Int => (Sum.inl z : LV)) (rfl)) rfl ?_
  refine R_if dd_Reader_fail_4 rfl rfl (fun (c3 : (rd h 2 8) ≠ 0) => ?_) (fun (c3 : (rd h 2 8) = 0) => ?_)
  · replace k := k.1 c3
    exact R_vret dd_Reader_fail_20 rfl k
  · replace k := k.2 c3
    refine R_ld (v := .inr (.inr 2)) dd_Reader_fail_7 rfl rfl rfl rfl ?_
    refine R_ld (v := .inl v1) dd_Reader_fail_8 rfl rfl rfl rfl ?_
    refine R_bi dd_Reader_fail_9 (by decide) rfl ?_
    refine R_ld (v := .inr (.inr 2)) dd_Reader_fail_11 rfl rfl rfl rfl ?_
    refine R_gf (v := .inl (rd h 2 4)) dd_Reader_fail_12 fd_7_209 io_2 (congrArg (fun z : Int => (Sum.inl z : LV)) (rfl)) rfl ?_
    obtain ⟨s1, k⟩ := k
    refine R_imul (c := 16 * (rd h 2 4)) dd_Reader_fail_15 (by omega) s1 rfl ?_
    obtain ⟨s2, k⟩ := k
    refine R_iadd (c := v1 + 16 * (rd h 2 4)) dd_Reader_fail_16 (by omega) s2 rfl ?_
    refine R_pf (z := (v1 + 16 * (rd h 2 4))) dd_Reader_fail_17 fd_7_61 io_2 fn_7_8 rfl rfl ?_
    exact R_vret dd_Reader_fail_20 rfl k
theorem B_Reader_step_0 {xs : Nat → Int} {xl e : Nat} {h : LH} {Q : Option LV → LH → Prop} (hF : RF h)
    (k : ((rd h 2 8) = 0 →
        Rn xs xl e mm_Reader_step 13 [some (.inr (.inr 2)), some (.inl (rd h 2 5))] [] h Q) ∧
      ((rd h 2 8) ≠ 0 →
        Q none h)) :
    Rn xs xl e mm_Reader_step 0 [some (.inr (.inr 2)), none] [] h Q := by
  refine R_ld (v := .inr (.inr 2)) dd_Reader_step_0 rfl rfl rfl rfl ?_
  refine R_gf (v := .inl (rd h 2 8)) dd_Reader_step_1 fd_7_61 io_2 (congrArg (fun z : Int => (Sum.inl z : LV)) (rfl)) rfl ?_
  refine R_if dd_Reader_step_4 rfl rfl (fun (c1 : (rd h 2 8) = 0) => ?_) (fun (c1 : (rd h 2 8) ≠ 0) => ?_)
  · replace k := k.1 c1
    refine R_ld (v := .inr (.inr 2)) dd_Reader_step_8 rfl rfl rfl rfl ?_
    refine R_gf (v := .inl (rd h 2 5)) dd_Reader_step_9 fd_7_212 io_2 (congrArg (fun z : Int => (Sum.inl z : LV)) (rfl)) rfl ?_
    refine R_st (ls' := [some (.inr (.inr 2)), some (.inl (rd h 2 5))]) dd_Reader_step_12 rfl rfl rfl (Nat.le_of_ble_eq_true rfl) rfl rfl ?_
    exact k
  · replace k := k.2 c1
    exact R_vret dd_Reader_step_7 rfl k
theorem B_copyDay_0_102_59 {xs : Nat → Int} {xl e : Nat} {h : LH} {Q : Option LV → LH → Prop} (hF : RF h)
    (k : Rn xs xl e mm_Memory_copyDay 23 [some (.inr (.inr 102)), some (.inr (.inr 59))] [] (cpyL (wr h 102 1 (rd h 59 1)) 63 0 106 0 24 ++ (wr h 102 1 (rd h 59 1))) Q) :
    Rn xs xl e mm_Memory_copyDay 0 [some (.inr (.inr 102)), some (.inr (.inr 59))] [] h Q := by
  refine R_ld (v := .inr (.inr 102)) dd_Memory_copyDay_0 rfl rfl rfl rfl ?_
  refine R_ld (v := .inr (.inr 59)) dd_Memory_copyDay_1 rfl rfl rfl rfl ?_
  refine R_gf (v := .inl (rd h 59 1)) dd_Memory_copyDay_2 fd_3_35 io_59 (congrArg (fun z : Int => (Sum.inl z : LV)) (rfl)) rfl ?_
  refine R_pf (z := (rd h 59 1)) dd_Memory_copyDay_5 fd_3_35 io_102 fn_3_1 rfl rfl ?_
  refine R_ld (v := .inr (.inr 59)) dd_Memory_copyDay_8 rfl rfl rfl rfl ?_
  refine R_gf (v := .inr (.inr 63)) dd_Memory_copyDay_9 fd_3_18 io_59 (congrArg (fun z : Int => (Sum.inr (Sum.inr z) : LV)) ((rdw_ne (by decide)).trans (rf_59_2 hF))) rfl ?_
  refine R_ic dd_Memory_copyDay_12 (by decide) rfl ?_
  refine R_ld (v := .inr (.inr 102)) dd_Memory_copyDay_13 rfl rfl rfl rfl ?_
  refine R_gf (v := .inr (.inr 106)) dd_Memory_copyDay_14 fd_3_18 io_102 (congrArg (fun z : Int => (Sum.inr (Sum.inr z) : LV)) ((rdw_nei (by omega)).trans (rf_102_2 hF))) rfl ?_
  refine R_ic dd_Memory_copyDay_17 (by decide) rfl ?_
  refine R_bi dd_Memory_copyDay_18 (by decide) rfl ?_
  refine R_acopy (n := 24) (m := 24) dd_Memory_copyDay_20 (by decide +kernel) (by decide +kernel) ia_63 ia_106 la_63 la_106 (by decide) (Nat.le_of_ble_eq_true rfl) rfl ?_
  exact k
theorem B_copyDay_23_102_59 {xs : Nat → Int} {xl e : Nat} {h : LH} {Q : Option LV → LH → Prop} (hF : RF h)
    (k : Rn xs xl e mm_Memory_copyDay 38 [some (.inr (.inr 102)), some (.inr (.inr 59))] [] (cpyL h 64 0 107 0 24 ++ h) Q) :
    Rn xs xl e mm_Memory_copyDay 23 [some (.inr (.inr 102)), some (.inr (.inr 59))] [] h Q := by
  refine R_ld (v := .inr (.inr 59)) dd_Memory_copyDay_23 rfl rfl rfl rfl ?_
  refine R_gf (v := .inr (.inr 64)) dd_Memory_copyDay_24 fd_3_22 io_59 (congrArg (fun z : Int => (Sum.inr (Sum.inr z) : LV)) (rf_59_3 hF)) rfl ?_
  refine R_ic dd_Memory_copyDay_27 (by decide) rfl ?_
  refine R_ld (v := .inr (.inr 102)) dd_Memory_copyDay_28 rfl rfl rfl rfl ?_
  refine R_gf (v := .inr (.inr 107)) dd_Memory_copyDay_29 fd_3_22 io_102 (congrArg (fun z : Int => (Sum.inr (Sum.inr z) : LV)) (rf_102_3 hF)) rfl ?_
  refine R_ic dd_Memory_copyDay_32 (by decide) rfl ?_
  refine R_bi dd_Memory_copyDay_33 (by decide) rfl ?_
  refine R_acopy (n := 24) (m := 24) dd_Memory_copyDay_35 (by decide +kernel) (by decide +kernel) ia_64 ia_107 la_64 la_107 (by decide) (Nat.le_of_ble_eq_true rfl) rfl ?_
  exact k
theorem B_copyDay_38_102_59 {xs : Nat → Int} {xl e : Nat} {h : LH} {Q : Option LV → LH → Prop} (hF : RF h)
    (k : Q none h) :
    Rn xs xl e mm_Memory_copyDay 38 [some (.inr (.inr 102)), some (.inr (.inr 59))] [] h Q := by
  exact R_vret dd_Memory_copyDay_38 rfl k
theorem B_copy_0_102_59 {xs : Nat → Int} {xl e : Nat} {h : LH} {Q : Option LV → LH → Prop} (hF : RF h)
    (k : (∃ c, c < e ∧ Rn xs xl c mm_Scene_copy 0 [some (.inr (.inr 103)), some (.inr (.inr 60))] [] h (fun r h' => Rn xs xl e mm_Memory_copy 11 [some (.inr (.inr 102)), some (.inr (.inr 59))] (r.toList ++ []) h' Q))) :
    Rn xs xl e mm_Memory_copy 0 [some (.inr (.inr 102)), some (.inr (.inr 59))] [] h Q := by
  refine R_ld (v := .inr (.inr 102)) dd_Memory_copy_0 rfl rfl rfl rfl ?_
  refine R_gf (v := .inr (.inr 103)) dd_Memory_copy_1 fd_3_12 io_102 (congrArg (fun z : Int => (Sum.inr (Sum.inr z) : LV)) (rf_102_0 hF)) rfl ?_
  refine R_ld (v := .inr (.inr 59)) dd_Memory_copy_4 rfl rfl rfl rfl ?_
  refine R_gf (v := .inr (.inr 60)) dd_Memory_copy_5 fd_3_12 io_59 (congrArg (fun z : Int => (Sum.inr (Sum.inr z) : LV)) (rf_59_0 hF)) rfl ?_
  obtain ⟨c, hc, k⟩ := k
  exact R_call (as := [.inr (.inr 103), .inr (.inr 60)]) (rest := []) (M' := mm_Scene_copy) (ls0 := [some (.inr (.inr 103)), some (.inr (.inr 60))]) dd_Memory_copy_8 rfl rfl (cw_v cw_3_45 io_103 rfl rfl (Nat.le_of_ble_eq_true rfl) (Nat.le_of_ble_eq_true rfl)) mt_Scene_copy rfl hc rfl k
theorem B_copy_11_102_59 {xs : Nat → Int} {xl e : Nat} {h : LH} {Q : Option LV → LH → Prop} (hF : RF h)
    (k : (∃ c, c < e ∧ Rn xs xl c mm_Memory_copyDay 0 [some (.inr (.inr 102)), some (.inr (.inr 59))] [] h (fun r h' => Rn xs xl e mm_Memory_copy 16 [some (.inr (.inr 102)), some (.inr (.inr 59))] (r.toList ++ []) h' Q))) :
    Rn xs xl e mm_Memory_copy 11 [some (.inr (.inr 102)), some (.inr (.inr 59))] [] h Q := by
  refine R_ld (v := .inr (.inr 102)) dd_Memory_copy_11 rfl rfl rfl rfl ?_
  refine R_ld (v := .inr (.inr 59)) dd_Memory_copy_12 rfl rfl rfl rfl ?_
  obtain ⟨c, hc, k⟩ := k
  exact R_call (as := [.inr (.inr 102), .inr (.inr 59)]) (rest := []) (M' := mm_Memory_copyDay) (ls0 := [some (.inr (.inr 102)), some (.inr (.inr 59))]) dd_Memory_copy_13 rfl rfl (cw_v cw_3_49 io_102 rfl rfl (Nat.le_of_ble_eq_true rfl) (Nat.le_of_ble_eq_true rfl)) mt_Memory_copyDay rfl hc rfl k
theorem B_copy_16_102_59 {xs : Nat → Int} {xl e : Nat} {h : LH} {Q : Option LV → LH → Prop} (hF : RF h)
    (k : Rn xs xl e mm_Memory_copy 47 [some (.inr (.inr 102)), some (.inr (.inr 59))] [] (cpyL (wr (wr h 102 4 (rd h 59 4)) 102 7 (rd h 59 7)) 65 0 108 0 10 ++ (wr (wr h 102 4 (rd h 59 4)) 102 7 (rd h 59 7))) Q) :
    Rn xs xl e mm_Memory_copy 16 [some (.inr (.inr 102)), some (.inr (.inr 59))] [] h Q := by
  refine R_ld (v := .inr (.inr 102)) dd_Memory_copy_16 rfl rfl rfl rfl ?_
  refine R_ld (v := .inr (.inr 59)) dd_Memory_copy_17 rfl rfl rfl rfl ?_
  refine R_gf (v := .inl (rd h 59 4)) dd_Memory_copy_18 fd_3_39 io_59 (congrArg (fun z : Int => (Sum.inl z : LV)) (rfl)) rfl ?_
  refine R_pf (z := (rd h 59 4)) dd_Memory_copy_21 fd_3_39 io_102 fn_3_4 rfl rfl ?_
  refine R_ld (v := .inr (.inr 102)) dd_Memory_copy_24 rfl rfl rfl rfl ?_
  refine R_ld (v := .inr (.inr 59)) dd_Memory_copy_25 rfl rfl rfl rfl ?_
  refine R_gf (v := .inl (rd h 59 7)) dd_Memory_copy_26 fd_3_42 io_59 (congrArg (fun z : Int => (Sum.inl z : LV)) (rdw_ne (by decide))) rfl ?_
  refine R_pf (z := (rd h 59 7)) dd_Memory_copy_29 fd_3_42 io_102 fn_3_7 rfl rfl ?_
  refine R_ld (v := .inr (.inr 59)) dd_Memory_copy_32 rfl rfl rfl rfl ?_
  refine R_gf (v := .inr (.inr 65)) dd_Memory_copy_33 fd_3_25 io_59 (congrArg (fun z : Int => (Sum.inr (Sum.inr z) : LV)) ((rdw_ne (by decide)).trans ((rdw_ne (by decide)).trans (rf_59_5 hF)))) rfl ?_
  refine R_ic dd_Memory_copy_36 (by decide) rfl ?_
  refine R_ld (v := .inr (.inr 102)) dd_Memory_copy_37 rfl rfl rfl rfl ?_
  refine R_gf (v := .inr (.inr 108)) dd_Memory_copy_38 fd_3_25 io_102 (congrArg (fun z : Int => (Sum.inr (Sum.inr z) : LV)) ((rdw_nei (by omega)).trans ((rdw_nei (by omega)).trans (rf_102_5 hF)))) rfl ?_
  refine R_ic dd_Memory_copy_41 (by decide) rfl ?_
  refine R_bi dd_Memory_copy_42 (by decide) rfl ?_
  refine R_acopy (n := 10) (m := 10) dd_Memory_copy_44 (by decide +kernel) (by decide +kernel) ia_65 ia_108 la_65 la_108 (by decide) (Nat.le_of_ble_eq_true rfl) rfl ?_
  exact k
theorem B_copy_47_102_59 {xs : Nat → Int} {xl e : Nat} {h : LH} {Q : Option LV → LH → Prop} (hF : RF h)
    (k : Rn xs xl e mm_Memory_copy 62 [some (.inr (.inr 102)), some (.inr (.inr 59))] [] (cpyL h 66 0 109 0 10 ++ h) Q) :
    Rn xs xl e mm_Memory_copy 47 [some (.inr (.inr 102)), some (.inr (.inr 59))] [] h Q := by
  refine R_ld (v := .inr (.inr 59)) dd_Memory_copy_47 rfl rfl rfl rfl ?_
  refine R_gf (v := .inr (.inr 66)) dd_Memory_copy_48 fd_3_28 io_59 (congrArg (fun z : Int => (Sum.inr (Sum.inr z) : LV)) (rf_59_6 hF)) rfl ?_
  refine R_ic dd_Memory_copy_51 (by decide) rfl ?_
  refine R_ld (v := .inr (.inr 102)) dd_Memory_copy_52 rfl rfl rfl rfl ?_
  refine R_gf (v := .inr (.inr 109)) dd_Memory_copy_53 fd_3_28 io_102 (congrArg (fun z : Int => (Sum.inr (Sum.inr z) : LV)) (rf_102_6 hF)) rfl ?_
  refine R_ic dd_Memory_copy_56 (by decide) rfl ?_
  refine R_bi dd_Memory_copy_57 (by decide) rfl ?_
  refine R_acopy (n := 10) (m := 10) dd_Memory_copy_59 (by decide +kernel) (by decide +kernel) ia_66 ia_109 la_66 la_109 (by decide) (Nat.le_of_ble_eq_true rfl) rfl ?_
  exact k
theorem B_copy_62_102_59 {xs : Nat → Int} {xl e : Nat} {h : LH} {Q : Option LV → LH → Prop} (hF : RF h)
    (k : Q none h) :
    Rn xs xl e mm_Memory_copy 62 [some (.inr (.inr 102)), some (.inr (.inr 59))] [] h Q := by
  exact R_vret dd_Memory_copy_62 rfl k
theorem B_copyDay_0_59_102 {xs : Nat → Int} {xl e : Nat} {h : LH} {Q : Option LV → LH → Prop} (hF : RF h)
    (k : Rn xs xl e mm_Memory_copyDay 23 [some (.inr (.inr 59)), some (.inr (.inr 102))] [] (cpyL (wr h 59 1 (rd h 102 1)) 106 0 63 0 24 ++ (wr h 59 1 (rd h 102 1))) Q) :
    Rn xs xl e mm_Memory_copyDay 0 [some (.inr (.inr 59)), some (.inr (.inr 102))] [] h Q := by
  refine R_ld (v := .inr (.inr 59)) dd_Memory_copyDay_0 rfl rfl rfl rfl ?_
  refine R_ld (v := .inr (.inr 102)) dd_Memory_copyDay_1 rfl rfl rfl rfl ?_
  refine R_gf (v := .inl (rd h 102 1)) dd_Memory_copyDay_2 fd_3_35 io_102 (congrArg (fun z : Int => (Sum.inl z : LV)) (rfl)) rfl ?_
  refine R_pf (z := (rd h 102 1)) dd_Memory_copyDay_5 fd_3_35 io_59 fn_3_1 rfl rfl ?_
  refine R_ld (v := .inr (.inr 102)) dd_Memory_copyDay_8 rfl rfl rfl rfl ?_
  refine R_gf (v := .inr (.inr 106)) dd_Memory_copyDay_9 fd_3_18 io_102 (congrArg (fun z : Int => (Sum.inr (Sum.inr z) : LV)) ((rdw_ne (by decide)).trans (rf_102_2 hF))) rfl ?_
  refine R_ic dd_Memory_copyDay_12 (by decide) rfl ?_
  refine R_ld (v := .inr (.inr 59)) dd_Memory_copyDay_13 rfl rfl rfl rfl ?_
  refine R_gf (v := .inr (.inr 63)) dd_Memory_copyDay_14 fd_3_18 io_59 (congrArg (fun z : Int => (Sum.inr (Sum.inr z) : LV)) ((rdw_nei (by omega)).trans (rf_59_2 hF))) rfl ?_
  refine R_ic dd_Memory_copyDay_17 (by decide) rfl ?_
  refine R_bi dd_Memory_copyDay_18 (by decide) rfl ?_
  refine R_acopy (n := 24) (m := 24) dd_Memory_copyDay_20 (by decide +kernel) (by decide +kernel) ia_106 ia_63 la_106 la_63 (by decide) (Nat.le_of_ble_eq_true rfl) rfl ?_
  exact k
theorem B_copyDay_23_59_102 {xs : Nat → Int} {xl e : Nat} {h : LH} {Q : Option LV → LH → Prop} (hF : RF h)
    (k : Rn xs xl e mm_Memory_copyDay 38 [some (.inr (.inr 59)), some (.inr (.inr 102))] [] (cpyL h 107 0 64 0 24 ++ h) Q) :
    Rn xs xl e mm_Memory_copyDay 23 [some (.inr (.inr 59)), some (.inr (.inr 102))] [] h Q := by
  refine R_ld (v := .inr (.inr 102)) dd_Memory_copyDay_23 rfl rfl rfl rfl ?_
  refine R_gf (v := .inr (.inr 107)) dd_Memory_copyDay_24 fd_3_22 io_102 (congrArg (fun z : Int => (Sum.inr (Sum.inr z) : LV)) (rf_102_3 hF)) rfl ?_
  refine R_ic dd_Memory_copyDay_27 (by decide) rfl ?_
  refine R_ld (v := .inr (.inr 59)) dd_Memory_copyDay_28 rfl rfl rfl rfl ?_
  refine R_gf (v := .inr (.inr 64)) dd_Memory_copyDay_29 fd_3_22 io_59 (congrArg (fun z : Int => (Sum.inr (Sum.inr z) : LV)) (rf_59_3 hF)) rfl ?_
  refine R_ic dd_Memory_copyDay_32 (by decide) rfl ?_
  refine R_bi dd_Memory_copyDay_33 (by decide) rfl ?_
  refine R_acopy (n := 24) (m := 24) dd_Memory_copyDay_35 (by decide +kernel) (by decide +kernel) ia_107 ia_64 la_107 la_64 (by decide) (Nat.le_of_ble_eq_true rfl) rfl ?_
  exact k
theorem B_copyDay_38_59_102 {xs : Nat → Int} {xl e : Nat} {h : LH} {Q : Option LV → LH → Prop} (hF : RF h)
    (k : Q none h) :
    Rn xs xl e mm_Memory_copyDay 38 [some (.inr (.inr 59)), some (.inr (.inr 102))] [] h Q := by
  exact R_vret dd_Memory_copyDay_38 rfl k
theorem B_copy_0_59_102 {xs : Nat → Int} {xl e : Nat} {h : LH} {Q : Option LV → LH → Prop} (hF : RF h)
    (k : (∃ c, c < e ∧ Rn xs xl c mm_Scene_copy 0 [some (.inr (.inr 60)), some (.inr (.inr 103))] [] h (fun r h' => Rn xs xl e mm_Memory_copy 11 [some (.inr (.inr 59)), some (.inr (.inr 102))] (r.toList ++ []) h' Q))) :
    Rn xs xl e mm_Memory_copy 0 [some (.inr (.inr 59)), some (.inr (.inr 102))] [] h Q := by
  refine R_ld (v := .inr (.inr 59)) dd_Memory_copy_0 rfl rfl rfl rfl ?_
  refine R_gf (v := .inr (.inr 60)) dd_Memory_copy_1 fd_3_12 io_59 (congrArg (fun z : Int => (Sum.inr (Sum.inr z) : LV)) (rf_59_0 hF)) rfl ?_
  refine R_ld (v := .inr (.inr 102)) dd_Memory_copy_4 rfl rfl rfl rfl ?_
  refine R_gf (v := .inr (.inr 103)) dd_Memory_copy_5 fd_3_12 io_102 (congrArg (fun z : Int => (Sum.inr (Sum.inr z) : LV)) (rf_102_0 hF)) rfl ?_
  obtain ⟨c, hc, k⟩ := k
  exact R_call (as := [.inr (.inr 60), .inr (.inr 103)]) (rest := []) (M' := mm_Scene_copy) (ls0 := [some (.inr (.inr 60)), some (.inr (.inr 103))]) dd_Memory_copy_8 rfl rfl (cw_v cw_3_45 io_60 rfl rfl (Nat.le_of_ble_eq_true rfl) (Nat.le_of_ble_eq_true rfl)) mt_Scene_copy rfl hc rfl k
theorem B_copy_11_59_102 {xs : Nat → Int} {xl e : Nat} {h : LH} {Q : Option LV → LH → Prop} (hF : RF h)
    (k : (∃ c, c < e ∧ Rn xs xl c mm_Memory_copyDay 0 [some (.inr (.inr 59)), some (.inr (.inr 102))] [] h (fun r h' => Rn xs xl e mm_Memory_copy 16 [some (.inr (.inr 59)), some (.inr (.inr 102))] (r.toList ++ []) h' Q))) :
    Rn xs xl e mm_Memory_copy 11 [some (.inr (.inr 59)), some (.inr (.inr 102))] [] h Q := by
  refine R_ld (v := .inr (.inr 59)) dd_Memory_copy_11 rfl rfl rfl rfl ?_
  refine R_ld (v := .inr (.inr 102)) dd_Memory_copy_12 rfl rfl rfl rfl ?_
  obtain ⟨c, hc, k⟩ := k
  exact R_call (as := [.inr (.inr 59), .inr (.inr 102)]) (rest := []) (M' := mm_Memory_copyDay) (ls0 := [some (.inr (.inr 59)), some (.inr (.inr 102))]) dd_Memory_copy_13 rfl rfl (cw_v cw_3_49 io_59 rfl rfl (Nat.le_of_ble_eq_true rfl) (Nat.le_of_ble_eq_true rfl)) mt_Memory_copyDay rfl hc rfl k
theorem B_copy_16_59_102 {xs : Nat → Int} {xl e : Nat} {h : LH} {Q : Option LV → LH → Prop} (hF : RF h)
    (k : Rn xs xl e mm_Memory_copy 47 [some (.inr (.inr 59)), some (.inr (.inr 102))] [] (cpyL (wr (wr h 59 4 (rd h 102 4)) 59 7 (rd h 102 7)) 108 0 65 0 10 ++ (wr (wr h 59 4 (rd h 102 4)) 59 7 (rd h 102 7))) Q) :
    Rn xs xl e mm_Memory_copy 16 [some (.inr (.inr 59)), some (.inr (.inr 102))] [] h Q := by
  refine R_ld (v := .inr (.inr 59)) dd_Memory_copy_16 rfl rfl rfl rfl ?_
  refine R_ld (v := .inr (.inr 102)) dd_Memory_copy_17 rfl rfl rfl rfl ?_
  refine R_gf (v := .inl (rd h 102 4)) dd_Memory_copy_18 fd_3_39 io_102 (congrArg (fun z : Int => (Sum.inl z : LV)) (rfl)) rfl ?_
  refine R_pf (z := (rd h 102 4)) dd_Memory_copy_21 fd_3_39 io_59 fn_3_4 rfl rfl ?_
  refine R_ld (v := .inr (.inr 59)) dd_Memory_copy_24 rfl rfl rfl rfl ?_
  refine R_ld (v := .inr (.inr 102)) dd_Memory_copy_25 rfl rfl rfl rfl ?_
  refine R_gf (v := .inl (rd h 102 7)) dd_Memory_copy_26 fd_3_42 io_102 (congrArg (fun z : Int => (Sum.inl z : LV)) (rdw_ne (by decide))) rfl ?_
  refine R_pf (z := (rd h 102 7)) dd_Memory_copy_29 fd_3_42 io_59 fn_3_7 rfl rfl ?_
  refine R_ld (v := .inr (.inr 102)) dd_Memory_copy_32 rfl rfl rfl rfl ?_
  refine R_gf (v := .inr (.inr 108)) dd_Memory_copy_33 fd_3_25 io_102 (congrArg (fun z : Int => (Sum.inr (Sum.inr z) : LV)) ((rdw_ne (by decide)).trans ((rdw_ne (by decide)).trans (rf_102_5 hF)))) rfl ?_
  refine R_ic dd_Memory_copy_36 (by decide) rfl ?_
  refine R_ld (v := .inr (.inr 59)) dd_Memory_copy_37 rfl rfl rfl rfl ?_
  refine R_gf (v := .inr (.inr 65)) dd_Memory_copy_38 fd_3_25 io_59 (congrArg (fun z : Int => (Sum.inr (Sum.inr z) : LV)) ((rdw_nei (by omega)).trans ((rdw_nei (by omega)).trans (rf_59_5 hF)))) rfl ?_
  refine R_ic dd_Memory_copy_41 (by decide) rfl ?_
  refine R_bi dd_Memory_copy_42 (by decide) rfl ?_
  refine R_acopy (n := 10) (m := 10) dd_Memory_copy_44 (by decide +kernel) (by decide +kernel) ia_108 ia_65 la_108 la_65 (by decide) (Nat.le_of_ble_eq_true rfl) rfl ?_
  exact k
theorem B_copy_47_59_102 {xs : Nat → Int} {xl e : Nat} {h : LH} {Q : Option LV → LH → Prop} (hF : RF h)
    (k : Rn xs xl e mm_Memory_copy 62 [some (.inr (.inr 59)), some (.inr (.inr 102))] [] (cpyL h 109 0 66 0 10 ++ h) Q) :
    Rn xs xl e mm_Memory_copy 47 [some (.inr (.inr 59)), some (.inr (.inr 102))] [] h Q := by
  refine R_ld (v := .inr (.inr 102)) dd_Memory_copy_47 rfl rfl rfl rfl ?_
  refine R_gf (v := .inr (.inr 109)) dd_Memory_copy_48 fd_3_28 io_102 (congrArg (fun z : Int => (Sum.inr (Sum.inr z) : LV)) (rf_102_6 hF)) rfl ?_
  refine R_ic dd_Memory_copy_51 (by decide) rfl ?_
  refine R_ld (v := .inr (.inr 59)) dd_Memory_copy_52 rfl rfl rfl rfl ?_
  refine R_gf (v := .inr (.inr 66)) dd_Memory_copy_53 fd_3_28 io_59 (congrArg (fun z : Int => (Sum.inr (Sum.inr z) : LV)) (rf_59_6 hF)) rfl ?_
  refine R_ic dd_Memory_copy_56 (by decide) rfl ?_
  refine R_bi dd_Memory_copy_57 (by decide) rfl ?_
  refine R_acopy (n := 10) (m := 10) dd_Memory_copy_59 (by decide +kernel) (by decide +kernel) ia_109 ia_66 la_109 la_66 (by decide) (Nat.le_of_ble_eq_true rfl) rfl ?_
  exact k
theorem B_copy_62_59_102 {xs : Nat → Int} {xl e : Nat} {h : LH} {Q : Option LV → LH → Prop} (hF : RF h)
    (k : Q none h) :
    Rn xs xl e mm_Memory_copy 62 [some (.inr (.inr 59)), some (.inr (.inr 102))] [] h Q := by
  exact R_vret dd_Memory_copy_62 rfl k
theorem B_copyDay_0_110_59 {xs : Nat → Int} {xl e : Nat} {h : LH} {Q : Option LV → LH → Prop} (hF : RF h)
    (k : Rn xs xl e mm_Memory_copyDay 23 [some (.inr (.inr 110)), some (.inr (.inr 59))] [] (cpyL (wr h 110 1 (rd h 59 1)) 63 0 114 0 24 ++ (wr h 110 1 (rd h 59 1))) Q) :
    Rn xs xl e mm_Memory_copyDay 0 [some (.inr (.inr 110)), some (.inr (.inr 59))] [] h Q := by
  refine R_ld (v := .inr (.inr 110)) dd_Memory_copyDay_0 rfl rfl rfl rfl ?_
  refine R_ld (v := .inr (.inr 59)) dd_Memory_copyDay_1 rfl rfl rfl rfl ?_
  refine R_gf (v := .inl (rd h 59 1)) dd_Memory_copyDay_2 fd_3_35 io_59 (congrArg (fun z : Int => (Sum.inl z : LV)) (rfl)) rfl ?_
  refine R_pf (z := (rd h 59 1)) dd_Memory_copyDay_5 fd_3_35 io_110 fn_3_1 rfl rfl ?_
  refine R_ld (v := .inr (.inr 59)) dd_Memory_copyDay_8 rfl rfl rfl rfl ?_
  refine R_gf (v := .inr (.inr 63)) dd_Memory_copyDay_9 fd_3_18 io_59 (congrArg (fun z : Int => (Sum.inr (Sum.inr z) : LV)) ((rdw_ne (by decide)).trans (rf_59_2 hF))) rfl ?_
  refine R_ic dd_Memory_copyDay_12 (by decide) rfl ?_
  refine R_ld (v := .inr (.inr 110)) dd_Memory_copyDay_13 rfl rfl rfl rfl ?_
  refine R_gf (v := .inr (.inr 114)) dd_Memory_copyDay_14 fd_3_18 io_110 (congrArg (fun z : Int => (Sum.inr (Sum.inr z) : LV)) ((rdw_nei (by omega)).trans (rf_110_2 hF))) rfl ?_
  refine R_ic dd_Memory_copyDay_17 (by decide) rfl ?_
  refine R_bi dd_Memory_copyDay_18 (by decide) rfl ?_
  refine R_acopy (n := 24) (m := 24) dd_Memory_copyDay_20 (by decide +kernel) (by decide +kernel) ia_63 ia_114 la_63 la_114 (by decide) (Nat.le_of_ble_eq_true rfl) rfl ?_
  exact k
theorem B_copyDay_23_110_59 {xs : Nat → Int} {xl e : Nat} {h : LH} {Q : Option LV → LH → Prop} (hF : RF h)
    (k : Rn xs xl e mm_Memory_copyDay 38 [some (.inr (.inr 110)), some (.inr (.inr 59))] [] (cpyL h 64 0 115 0 24 ++ h) Q) :
    Rn xs xl e mm_Memory_copyDay 23 [some (.inr (.inr 110)), some (.inr (.inr 59))] [] h Q := by
  refine R_ld (v := .inr (.inr 59)) dd_Memory_copyDay_23 rfl rfl rfl rfl ?_
  refine R_gf (v := .inr (.inr 64)) dd_Memory_copyDay_24 fd_3_22 io_59 (congrArg (fun z : Int => (Sum.inr (Sum.inr z) : LV)) (rf_59_3 hF)) rfl ?_
  refine R_ic dd_Memory_copyDay_27 (by decide) rfl ?_
  refine R_ld (v := .inr (.inr 110)) dd_Memory_copyDay_28 rfl rfl rfl rfl ?_
  refine R_gf (v := .inr (.inr 115)) dd_Memory_copyDay_29 fd_3_22 io_110 (congrArg (fun z : Int => (Sum.inr (Sum.inr z) : LV)) (rf_110_3 hF)) rfl ?_
  refine R_ic dd_Memory_copyDay_32 (by decide) rfl ?_
  refine R_bi dd_Memory_copyDay_33 (by decide) rfl ?_
  refine R_acopy (n := 24) (m := 24) dd_Memory_copyDay_35 (by decide +kernel) (by decide +kernel) ia_64 ia_115 la_64 la_115 (by decide) (Nat.le_of_ble_eq_true rfl) rfl ?_
  exact k
theorem B_copyDay_38_110_59 {xs : Nat → Int} {xl e : Nat} {h : LH} {Q : Option LV → LH → Prop} (hF : RF h)
    (k : Q none h) :
    Rn xs xl e mm_Memory_copyDay 38 [some (.inr (.inr 110)), some (.inr (.inr 59))] [] h Q := by
  exact R_vret dd_Memory_copyDay_38 rfl k
theorem B_copy_0_110_59 {xs : Nat → Int} {xl e : Nat} {h : LH} {Q : Option LV → LH → Prop} (hF : RF h)
    (k : (∃ c, c < e ∧ Rn xs xl c mm_Scene_copy 0 [some (.inr (.inr 111)), some (.inr (.inr 60))] [] h (fun r h' => Rn xs xl e mm_Memory_copy 11 [some (.inr (.inr 110)), some (.inr (.inr 59))] (r.toList ++ []) h' Q))) :
    Rn xs xl e mm_Memory_copy 0 [some (.inr (.inr 110)), some (.inr (.inr 59))] [] h Q := by
  refine R_ld (v := .inr (.inr 110)) dd_Memory_copy_0 rfl rfl rfl rfl ?_
  refine R_gf (v := .inr (.inr 111)) dd_Memory_copy_1 fd_3_12 io_110 (congrArg (fun z : Int => (Sum.inr (Sum.inr z) : LV)) (rf_110_0 hF)) rfl ?_
  refine R_ld (v := .inr (.inr 59)) dd_Memory_copy_4 rfl rfl rfl rfl ?_
  refine R_gf (v := .inr (.inr 60)) dd_Memory_copy_5 fd_3_12 io_59 (congrArg (fun z : Int => (Sum.inr (Sum.inr z) : LV)) (rf_59_0 hF)) rfl ?_
  obtain ⟨c, hc, k⟩ := k
  exact R_call (as := [.inr (.inr 111), .inr (.inr 60)]) (rest := []) (M' := mm_Scene_copy) (ls0 := [some (.inr (.inr 111)), some (.inr (.inr 60))]) dd_Memory_copy_8 rfl rfl (cw_v cw_3_45 io_111 rfl rfl (Nat.le_of_ble_eq_true rfl) (Nat.le_of_ble_eq_true rfl)) mt_Scene_copy rfl hc rfl k
theorem B_copy_11_110_59 {xs : Nat → Int} {xl e : Nat} {h : LH} {Q : Option LV → LH → Prop} (hF : RF h)
    (k : (∃ c, c < e ∧ Rn xs xl c mm_Memory_copyDay 0 [some (.inr (.inr 110)), some (.inr (.inr 59))] [] h (fun r h' => Rn xs xl e mm_Memory_copy 16 [some (.inr (.inr 110)), some (.inr (.inr 59))] (r.toList ++ []) h' Q))) :
    Rn xs xl e mm_Memory_copy 11 [some (.inr (.inr 110)), some (.inr (.inr 59))] [] h Q := by
  refine R_ld (v := .inr (.inr 110)) dd_Memory_copy_11 rfl rfl rfl rfl ?_
  refine R_ld (v := .inr (.inr 59)) dd_Memory_copy_12 rfl rfl rfl rfl ?_
  obtain ⟨c, hc, k⟩ := k
  exact R_call (as := [.inr (.inr 110), .inr (.inr 59)]) (rest := []) (M' := mm_Memory_copyDay) (ls0 := [some (.inr (.inr 110)), some (.inr (.inr 59))]) dd_Memory_copy_13 rfl rfl (cw_v cw_3_49 io_110 rfl rfl (Nat.le_of_ble_eq_true rfl) (Nat.le_of_ble_eq_true rfl)) mt_Memory_copyDay rfl hc rfl k
theorem B_copy_16_110_59 {xs : Nat → Int} {xl e : Nat} {h : LH} {Q : Option LV → LH → Prop} (hF : RF h)
    (k : Rn xs xl e mm_Memory_copy 47 [some (.inr (.inr 110)), some (.inr (.inr 59))] [] (cpyL (wr (wr h 110 4 (rd h 59 4)) 110 7 (rd h 59 7)) 65 0 116 0 10 ++ (wr (wr h 110 4 (rd h 59 4)) 110 7 (rd h 59 7))) Q) :
    Rn xs xl e mm_Memory_copy 16 [some (.inr (.inr 110)), some (.inr (.inr 59))] [] h Q := by
  refine R_ld (v := .inr (.inr 110)) dd_Memory_copy_16 rfl rfl rfl rfl ?_
  refine R_ld (v := .inr (.inr 59)) dd_Memory_copy_17 rfl rfl rfl rfl ?_
  refine R_gf (v := .inl (rd h 59 4)) dd_Memory_copy_18 fd_3_39 io_59 (congrArg (fun z : Int => (Sum.inl z : LV)) (rfl)) rfl ?_
  refine R_pf (z := (rd h 59 4)) dd_Memory_copy_21 fd_3_39 io_110 fn_3_4 rfl rfl ?_
  refine R_ld (v := .inr (.inr 110)) dd_Memory_copy_24 rfl rfl rfl rfl ?_
  refine R_ld (v := .inr (.inr 59)) dd_Memory_copy_25 rfl rfl rfl rfl ?_
  refine R_gf (v := .inl (rd h 59 7)) dd_Memory_copy_26 fd_3_42 io_59 (congrArg (fun z : Int => (Sum.inl z : LV)) (rdw_ne (by decide))) rfl ?_
  refine R_pf (z := (rd h 59 7)) dd_Memory_copy_29 fd_3_42 io_110 fn_3_7 rfl rfl ?_
  refine R_ld (v := .inr (.inr 59)) dd_Memory_copy_32 rfl rfl rfl rfl ?_
  refine R_gf (v := .inr (.inr 65)) dd_Memory_copy_33 fd_3_25 io_59 (congrArg (fun z : Int => (Sum.inr (Sum.inr z) : LV)) ((rdw_ne (by decide)).trans ((rdw_ne (by decide)).trans (rf_59_5 hF)))) rfl ?_
  refine R_ic dd_Memory_copy_36 (by decide) rfl ?_
  refine R_ld (v := .inr (.inr 110)) dd_Memory_copy_37 rfl rfl rfl rfl ?_
  refine R_gf (v := .inr (.inr 116)) dd_Memory_copy_38 fd_3_25 io_110 (congrArg (fun z : Int => (Sum.inr (Sum.inr z) : LV)) ((rdw_nei (by omega)).trans ((rdw_nei (by omega)).trans (rf_110_5 hF)))) rfl ?_
  refine R_ic dd_Memory_copy_41 (by decide) rfl ?_
  refine R_bi dd_Memory_copy_42 (by decide) rfl ?_
  refine R_acopy (n := 10) (m := 10) dd_Memory_copy_44 (by decide +kernel) (by decide +kernel) ia_65 ia_116 la_65 la_116 (by decide) (Nat.le_of_ble_eq_true rfl) rfl ?_
  exact k
theorem B_copy_47_110_59 {xs : Nat → Int} {xl e : Nat} {h : LH} {Q : Option LV → LH → Prop} (hF : RF h)
    (k : Rn xs xl e mm_Memory_copy 62 [some (.inr (.inr 110)), some (.inr (.inr 59))] [] (cpyL h 66 0 117 0 10 ++ h) Q) :
    Rn xs xl e mm_Memory_copy 47 [some (.inr (.inr 110)), some (.inr (.inr 59))] [] h Q := by
  refine R_ld (v := .inr (.inr 59)) dd_Memory_copy_47 rfl rfl rfl rfl ?_
  refine R_gf (v := .inr (.inr 66)) dd_Memory_copy_48 fd_3_28 io_59 (congrArg (fun z : Int => (Sum.inr (Sum.inr z) : LV)) (rf_59_6 hF)) rfl ?_
  refine R_ic dd_Memory_copy_51 (by decide) rfl ?_
  refine R_ld (v := .inr (.inr 110)) dd_Memory_copy_52 rfl rfl rfl rfl ?_
  refine R_gf (v := .inr (.inr 117)) dd_Memory_copy_53 fd_3_28 io_110 (congrArg (fun z : Int => (Sum.inr (Sum.inr z) : LV)) (rf_110_6 hF)) rfl ?_
  refine R_ic dd_Memory_copy_56 (by decide) rfl ?_
  refine R_bi dd_Memory_copy_57 (by decide) rfl ?_
  refine R_acopy (n := 10) (m := 10) dd_Memory_copy_59 (by decide +kernel) (by decide +kernel) ia_66 ia_117 la_66 la_117 (by decide) (Nat.le_of_ble_eq_true rfl) rfl ?_
  exact k
theorem B_copy_62_110_59 {xs : Nat → Int} {xl e : Nat} {h : LH} {Q : Option LV → LH → Prop} (hF : RF h)
    (k : Q none h) :
    Rn xs xl e mm_Memory_copy 62 [some (.inr (.inr 110)), some (.inr (.inr 59))] [] h Q := by
  exact R_vret dd_Memory_copy_62 rfl k
theorem B_copyDay_0_59_110 {xs : Nat → Int} {xl e : Nat} {h : LH} {Q : Option LV → LH → Prop} (hF : RF h)
    (k : Rn xs xl e mm_Memory_copyDay 23 [some (.inr (.inr 59)), some (.inr (.inr 110))] [] (cpyL (wr h 59 1 (rd h 110 1)) 114 0 63 0 24 ++ (wr h 59 1 (rd h 110 1))) Q) :
    Rn xs xl e mm_Memory_copyDay 0 [some (.inr (.inr 59)), some (.inr (.inr 110))] [] h Q := by
  refine R_ld (v := .inr (.inr 59)) dd_Memory_copyDay_0 rfl rfl rfl rfl ?_
  refine R_ld (v := .inr (.inr 110)) dd_Memory_copyDay_1 rfl rfl rfl rfl ?_
  refine R_gf (v := .inl (rd h 110 1)) dd_Memory_copyDay_2 fd_3_35 io_110 (congrArg (fun z : Int => (Sum.inl z : LV)) (rfl)) rfl ?_
  refine R_pf (z := (rd h 110 1)) dd_Memory_copyDay_5 fd_3_35 io_59 fn_3_1 rfl rfl ?_
  refine R_ld (v := .inr (.inr 110)) dd_Memory_copyDay_8 rfl rfl rfl rfl ?_
  refine R_gf (v := .inr (.inr 114)) dd_Memory_copyDay_9 fd_3_18 io_110 (congrArg (fun z : Int => (Sum.inr (Sum.inr z) : LV)) ((rdw_ne (by decide)).trans (rf_110_2 hF))) rfl ?_
  refine R_ic dd_Memory_copyDay_12 (by decide) rfl ?_
  refine R_ld (v := .inr (.inr 59)) dd_Memory_copyDay_13 rfl rfl rfl rfl ?_
  refine R_gf (v := .inr (.inr 63)) dd_Memory_copyDay_14 fd_3_18 io_59 (congrArg (fun z : Int => (Sum.inr (Sum.inr z) : LV)) ((rdw_nei (by omega)).trans (rf_59_2 hF))) rfl ?_
  refine R_ic dd_Memory_copyDay_17 (by decide) rfl ?_
  refine R_bi dd_Memory_copyDay_18 (by decide) rfl ?_
  refine R_acopy (n := 24) (m := 24) dd_Memory_copyDay_20 (by decide +kernel) (by decide +kernel) ia_114 ia_63 la_114 la_63 (by decide) (Nat.le_of_ble_eq_true rfl) rfl ?_
  exact k
theorem B_copyDay_23_59_110 {xs : Nat → Int} {xl e : Nat} {h : LH} {Q : Option LV → LH → Prop} (hF : RF h)
    (k : Rn xs xl e mm_Memory_copyDay 38 [some (.inr (.inr 59)), some (.inr (.inr 110))] [] (cpyL h 115 0 64 0 24 ++ h) Q) :
    Rn xs xl e mm_Memory_copyDay 23 [some (.inr (.inr 59)), some (.inr (.inr 110))] [] h Q := by
  refine R_ld (v := .inr (.inr 110)) dd_Memory_copyDay_23 rfl rfl rfl rfl ?_
  refine R_gf (v := .inr (.inr 115)) dd_Memory_copyDay_24 fd_3_22 io_110 (congrArg (fun z : Int => (Sum.inr (Sum.inr z) : LV)) (rf_110_3 hF)) rfl ?_
  refine R_ic dd_Memory_copyDay_27 (by decide) rfl ?_
  refine R_ld (v := .inr (.inr 59)) dd_Memory_copyDay_28 rfl rfl rfl rfl ?_
  refine R_gf (v := .inr (.inr 64)) dd_Memory_copyDay_29 fd_3_22 io_59 (congrArg (fun z : Int => (Sum.inr (Sum.inr z) : LV)) (rf_59_3 hF)) rfl ?_
  refine R_ic dd_Memory_copyDay_32 (by decide) rfl ?_
  refine R_bi dd_Memory_copyDay_33 (by decide) rfl ?_
  refine R_acopy (n := 24) (m := 24) dd_Memory_copyDay_35 (by decide +kernel) (by decide +kernel) ia_115 ia_64 la_115 la_64 (by decide) (Nat.le_of_ble_eq_true rfl) rfl ?_
  exact k
theorem B_copyDay_38_59_110 {xs : Nat → Int} {xl e : Nat} {h : LH} {Q : Option LV → LH → Prop} (hF : RF h)
    (k : Q none h) :
    Rn xs xl e mm_Memory_copyDay 38 [some (.inr (.inr 59)), some (.inr (.inr 110))] [] h Q := by
  exact R_vret dd_Memory_copyDay_38 rfl k
theorem B_copy_0_59_110 {xs : Nat → Int} {xl e : Nat} {h : LH} {Q : Option LV → LH → Prop} (hF : RF h)
    (k : (∃ c, c < e ∧ Rn xs xl c mm_Scene_copy 0 [some (.inr (.inr 60)), some (.inr (.inr 111))] [] h (fun r h' => Rn xs xl e mm_Memory_copy 11 [some (.inr (.inr 59)), some (.inr (.inr 110))] (r.toList ++ []) h' Q))) :
    Rn xs xl e mm_Memory_copy 0 [some (.inr (.inr 59)), some (.inr (.inr 110))] [] h Q := by
  refine R_ld (v := .inr (.inr 59)) dd_Memory_copy_0 rfl rfl rfl rfl ?_
  refine R_gf (v := .inr (.inr 60)) dd_Memory_copy_1 fd_3_12 io_59 (congrArg (fun z : Int => (Sum.inr (Sum.inr z) : LV)) (rf_59_0 hF)) rfl ?_
  refine R_ld (v := .inr (.inr 110)) dd_Memory_copy_4 rfl rfl rfl rfl ?_
  refine R_gf (v := .inr (.inr 111)) dd_Memory_copy_5 fd_3_12 io_110 (congrArg (fun z : Int => (Sum.inr (Sum.inr z) : LV)) (rf_110_0 hF)) rfl ?_
  obtain ⟨c, hc, k⟩ := k
  exact R_call (as := [.inr (.inr 60), .inr (.inr 111)]) (rest := []) (M' := mm_Scene_copy) (ls0 := [some (.inr (.inr 60)), some (.inr (.inr 111))]) dd_Memory_copy_8 rfl rfl (cw_v cw_3_45 io_60 rfl rfl (Nat.le_of_ble_eq_true rfl) (Nat.le_of_ble_eq_true rfl)) mt_Scene_copy rfl hc rfl k
theorem B_copy_11_59_110 {xs : Nat → Int} {xl e : Nat} {h : LH} {Q : Option LV → LH → Prop} (hF : RF h)
    (k : (∃ c, c < e ∧ Rn xs xl c mm_Memory_copyDay 0 [some (.inr (.inr 59)), some (.inr (.inr 110))] [] h (fun r h' => Rn xs xl e mm_Memory_copy 16 [some (.inr (.inr 59)), some (.inr (.inr 110))] (r.toList ++ []) h' Q))) :
    Rn xs xl e mm_Memory_copy 11 [some (.inr (.inr 59)), some (.inr (.inr 110))] [] h Q := by
  refine R_ld (v := .inr (.inr 59)) dd_Memory_copy_11 rfl rfl rfl rfl ?_
  refine R_ld (v := .inr (.inr 110)) dd_Memory_copy_12 rfl rfl rfl rfl ?_
  obtain ⟨c, hc, k⟩ := k
  exact R_call (as := [.inr (.inr 59), .inr (.inr 110)]) (rest := []) (M' := mm_Memory_copyDay) (ls0 := [some (.inr (.inr 59)), some (.inr (.inr 110))]) dd_Memory_copy_13 rfl rfl (cw_v cw_3_49 io_59 rfl rfl (Nat.le_of_ble_eq_true rfl) (Nat.le_of_ble_eq_true rfl)) mt_Memory_copyDay rfl hc rfl k
theorem B_copy_16_59_110 {xs : Nat → Int} {xl e : Nat} {h : LH} {Q : Option LV → LH → Prop} (hF : RF h)
    (k : Rn xs xl e mm_Memory_copy 47 [some (.inr (.inr 59)), some (.inr (.inr 110))] [] (cpyL (wr (wr h 59 4 (rd h 110 4)) 59 7 (rd h 110 7)) 116 0 65 0 10 ++ (wr (wr h 59 4 (rd h 110 4)) 59 7 (rd h 110 7))) Q) :
    Rn xs xl e mm_Memory_copy 16 [some (.inr (.inr 59)), some (.inr (.inr 110))] [] h Q := by
  refine R_ld (v := .inr (.inr 59)) dd_Memory_copy_16 rfl rfl rfl rfl ?_
  refine R_ld (v := .inr (.inr 110)) dd_Memory_copy_17 rfl rfl rfl rfl ?_
  refine R_gf (v := .inl (rd h 110 4)) dd_Memory_copy_18 fd_3_39 io_110 (congrArg (fun z : Int => (Sum.inl z : LV)) (rfl)) rfl ?_
  refine R_pf (z := (rd h 110 4)) dd_Memory_copy_21 fd_3_39 io_59 fn_3_4 rfl rfl ?_
  refine R_ld (v := .inr (.inr 59)) dd_Memory_copy_24 rfl rfl rfl rfl ?_
  refine R_ld (v := .inr (.inr 110)) dd_Memory_copy_25 rfl rfl rfl rfl ?_
  refine R_gf (v := .inl (rd h 110 7)) dd_Memory_copy_26 fd_3_42 io_110 (congrArg (fun z : Int => (Sum.inl z : LV)) (rdw_ne (by decide))) rfl ?_
  refine R_pf (z := (rd h 110 7)) dd_Memory_copy_29 fd_3_42 io_59 fn_3_7 rfl rfl ?_
  refine R_ld (v := .inr (.inr 110)) dd_Memory_copy_32 rfl rfl rfl rfl ?_
  refine R_gf (v := .inr (.inr 116)) dd_Memory_copy_33 fd_3_25 io_110 (congrArg (fun z : Int => (Sum.inr (Sum.inr z) : LV)) ((rdw_ne (by decide)).trans ((rdw_ne (by decide)).trans (rf_110_5 hF)))) rfl ?_
  refine R_ic dd_Memory_copy_36 (by decide) rfl ?_
  refine R_ld (v := .inr (.inr 59)) dd_Memory_copy_37 rfl rfl rfl rfl ?_
  refine R_gf (v := .inr (.inr 65)) dd_Memory_copy_38 fd_3_25 io_59 (congrArg (fun z : Int => (Sum.inr (Sum.inr z) : LV)) ((rdw_nei (by omega)).trans ((rdw_nei (by omega)).trans (rf_59_5 hF)))) rfl ?_
  refine R_ic dd_Memory_copy_41 (by decide) rfl ?_
  refine R_bi dd_Memory_copy_42 (by decide) rfl ?_
  refine R_acopy (n := 10) (m := 10) dd_Memory_copy_44 (by decide +kernel) (by decide +kernel) ia_116 ia_65 la_116 la_65 (by decide) (Nat.le_of_ble_eq_true rfl) rfl ?_
  exact k
theorem B_copy_47_59_110 {xs : Nat → Int} {xl e : Nat} {h : LH} {Q : Option LV → LH → Prop} (hF : RF h)
    (k : Rn xs xl e mm_Memory_copy 62 [some (.inr (.inr 59)), some (.inr (.inr 110))] [] (cpyL h 117 0 66 0 10 ++ h) Q) :
    Rn xs xl e mm_Memory_copy 47 [some (.inr (.inr 59)), some (.inr (.inr 110))] [] h Q := by
  refine R_ld (v := .inr (.inr 110)) dd_Memory_copy_47 rfl rfl rfl rfl ?_
  refine R_gf (v := .inr (.inr 117)) dd_Memory_copy_48 fd_3_28 io_110 (congrArg (fun z : Int => (Sum.inr (Sum.inr z) : LV)) (rf_110_6 hF)) rfl ?_
  refine R_ic dd_Memory_copy_51 (by decide) rfl ?_
  refine R_ld (v := .inr (.inr 59)) dd_Memory_copy_52 rfl rfl rfl rfl ?_
  refine R_gf (v := .inr (.inr 66)) dd_Memory_copy_53 fd_3_28 io_59 (congrArg (fun z : Int => (Sum.inr (Sum.inr z) : LV)) (rf_59_6 hF)) rfl ?_
  refine R_ic dd_Memory_copy_56 (by decide) rfl ?_
  refine R_bi dd_Memory_copy_57 (by decide) rfl ?_
  refine R_acopy (n := 10) (m := 10) dd_Memory_copy_59 (by decide +kernel) (by decide +kernel) ia_117 ia_66 la_117 la_66 (by decide) (Nat.le_of_ble_eq_true rfl) rfl ?_
  exact k
theorem B_copy_62_59_110 {xs : Nat → Int} {xl e : Nat} {h : LH} {Q : Option LV → LH → Prop} (hF : RF h)
    (k : Q none h) :
    Rn xs xl e mm_Memory_copy 62 [some (.inr (.inr 59)), some (.inr (.inr 110))] [] h Q := by
  exact R_vret dd_Memory_copy_62 rfl k
theorem B_copyDay_0_118_59 {xs : Nat → Int} {xl e : Nat} {h : LH} {Q : Option LV → LH → Prop} (hF : RF h)
    (k : Rn xs xl e mm_Memory_copyDay 23 [some (.inr (.inr 118)), some (.inr (.inr 59))] [] (cpyL (wr h 118 1 (rd h 59 1)) 63 0 122 0 24 ++ (wr h 118 1 (rd h 59 1))) Q) :
    Rn xs xl e mm_Memory_copyDay 0 [some (.inr (.inr 118)), some (.inr (.inr 59))] [] h Q := by
  refine R_ld (v := .inr (.inr 118)) dd_Memory_copyDay_0 rfl rfl rfl rfl ?_
  refine R_ld (v := .inr (.inr 59)) dd_Memory_copyDay_1 rfl rfl rfl rfl ?_
  refine R_gf (v := .inl (rd h 59 1)) dd_Memory_copyDay_2 fd_3_35 io_59 (congrArg (fun z : Int => (Sum.inl z : LV)) (rfl)) rfl ?_
  refine R_pf (z := (rd h 59 1)) dd_Memory_copyDay_5 fd_3_35 io_118 fn_3_1 rfl rfl ?_
  refine R_ld (v := .inr (.inr 59)) dd_Memory_copyDay_8 rfl rfl rfl rfl ?_
  refine R_gf (v := .inr (.inr 63)) dd_Memory_copyDay_9 fd_3_18 io_59 (congrArg (fun z : Int => (Sum.inr (Sum.inr z) : LV)) ((rdw_ne (by decide)).trans (rf_59_2 hF))) rfl ?_
  refine R_ic dd_Memory_copyDay_12 (by decide) rfl ?_
  refine R_ld (v := .inr (.inr 118)) dd_Memory_copyDay_13 rfl rfl rfl rfl ?_
  refine R_gf (v := .inr (.inr 122)) dd_Memory_copyDay_14 fd_3_18 io_118 (congrArg (fun z : Int => (Sum.inr (Sum.inr z) : LV)) ((rdw_nei (by omega)).trans (rf_118_2 hF))) rfl ?_
  refine R_ic dd_Memory_copyDay_17 (by decide) rfl ?_
  refine R_bi dd_Memory_copyDay_18 (by decide) rfl ?_
  refine R_acopy (n := 24) (m := 24) dd_Memory_copyDay_20 (by decide +kernel) (by decide +kernel) ia_63 ia_122 la_63 la_122 (by decide) (Nat.le_of_ble_eq_true rfl) rfl ?_
  exact k
theorem B_copyDay_23_118_59 {xs : Nat → Int} {xl e : Nat} {h : LH} {Q : Option LV → LH → Prop} (hF : RF h)
    (k : Rn xs xl e mm_Memory_copyDay 38 [some (.inr (.inr 118)), some (.inr (.inr 59))] [] (cpyL h 64 0 123 0 24 ++ h) Q) :
    Rn xs xl e mm_Memory_copyDay 23 [some (.inr (.inr 118)), some (.inr (.inr 59))] [] h Q := by
  refine R_ld (v := .inr (.inr 59)) dd_Memory_copyDay_23 rfl rfl rfl rfl ?_
  refine R_gf (v := .inr (.inr 64)) dd_Memory_copyDay_24 fd_3_22 io_59 (congrArg (fun z : Int => (Sum.inr (Sum.inr z) : LV)) (rf_59_3 hF)) rfl ?_
  refine R_ic dd_Memory_copyDay_27 (by decide) rfl ?_
  refine R_ld (v := .inr (.inr 118)) dd_Memory_copyDay_28 rfl rfl rfl rfl ?_
  refine R_gf (v := .inr (.inr 123)) dd_Memory_copyDay_29 fd_3_22 io_118 (congrArg (fun z : Int => (Sum.inr (Sum.inr z) : LV)) (rf_118_3 hF)) rfl ?_
  refine R_ic dd_Memory_copyDay_32 (by decide) rfl ?_
  refine R_bi dd_Memory_copyDay_33 (by decide) rfl ?_
  refine R_acopy (n := 24) (m := 24) dd_Memory_copyDay_35 (by decide +kernel) (by decide +kernel) ia_64 ia_123 la_64 la_123 (by decide) (Nat.le_of_ble_eq_true rfl) rfl ?_
  exact k
theorem B_copyDay_38_118_59 {xs : Nat → Int} {xl e : Nat} {h : LH} {Q : Option LV → LH → Prop} (hF : RF h)
    (k : Q none h) :
    Rn xs xl e mm_Memory_copyDay 38 [some (.inr (.inr 118)), some (.inr (.inr 59))] [] h Q := by
  exact R_vret dd_Memory_copyDay_38 rfl k
theorem B_copy_0_118_59 {xs : Nat → Int} {xl e : Nat} {h : LH} {Q : Option LV → LH → Prop} (hF : RF h)
    (k : (∃ c, c < e ∧ Rn xs xl c mm_Scene_copy 0 [some (.inr (.inr 119)), some (.inr (.inr 60))] [] h (fun r h' => Rn xs xl e mm_Memory_copy 11 [some (.inr (.inr 118)), some (.inr (.inr 59))] (r.toList ++ []) h' Q))) :
    Rn xs xl e mm_Memory_copy 0 [some (.inr (.inr 118)), some (.inr (.inr 59))] [] h Q := by
  refine R_ld (v := .inr (.inr 118)) dd_Memory_copy_0 rfl rfl rfl rfl ?_
  refine R_gf (v := .inr (.inr 119)) dd_Memory_copy_1 fd_3_12 io_118 (congrArg (fun z : Int => (Sum.inr (Sum.inr z) : LV)) (rf_118_0 hF)) rfl ?_
  refine R_ld (v := .inr (.inr 59)) dd_Memory_copy_4 rfl rfl rfl rfl ?_
  refine R_gf (v := .inr (.inr 60)) dd_Memory_copy_5 fd_3_12 io_59 (congrArg (fun z : Int => (Sum.inr (Sum.inr z) : LV)) (rf_59_0 hF)) rfl ?_
  obtain ⟨c, hc, k⟩ := k
  exact R_call (as := [.inr (.inr 119), .inr (.inr 60)]) (rest := []) (M' := mm_Scene_copy) (ls0 := [some (.inr (.inr 119)), some (.inr (.inr 60))]) dd_Memory_copy_8 rfl rfl (cw_v cw_3_45 io_119 rfl rfl (Nat.le_of_ble_eq_true rfl) (Nat.le_of_ble_eq_true rfl)) mt_Scene_copy rfl hc rfl k
theorem B_copy_11_118_59 {xs : Nat → Int} {xl e : Nat} {h : LH} {Q : Option LV → LH → Prop} (hF : RF h)
    (k : (∃ c, c < e ∧ Rn xs xl c mm_Memory_copyDay 0 [some (.inr (.inr 118)), some (.inr (.inr 59))] [] h (fun r h' => Rn xs xl e mm_Memory_copy 16 [some (.inr (.inr 118)), some (.inr (.inr 59))] (r.toList ++ []) h' Q))) :
    Rn xs xl e mm_Memory_copy 11 [some (.inr (.inr 118)), some (.inr (.inr 59))] [] h Q := by
  refine R_ld (v := .inr (.inr 118)) dd_Memory_copy_11 rfl rfl rfl rfl ?_
  refine R_ld (v := .inr (.inr 59)) dd_Memory_copy_12 rfl rfl rfl rfl ?_
  obtain ⟨c, hc, k⟩ := k
  exact R_call (as := [.inr (.inr 118), .inr (.inr 59)]) (rest := []) (M' := mm_Memory_copyDay) (ls0 := [some (.inr (.inr 118)), some (.inr (.inr 59))]) dd_Memory_copy_13 rfl rfl (cw_v cw_3_49 io_118 rfl rfl (Nat.le_of_ble_eq_true rfl) (Nat.le_of_ble_eq_true rfl)) mt_Memory_copyDay rfl hc rfl k
theorem B_copy_16_118_59 {xs : Nat → Int} {xl e : Nat} {h : LH} {Q : Option LV → LH → Prop} (hF : RF h)
    (k : Rn xs xl e mm_Memory_copy 47 [some (.inr (.inr 118)), some (.inr (.inr 59))] [] (cpyL (wr (wr h 118 4 (rd h 59 4)) 118 7 (rd h 59 7)) 65 0 124 0 10 ++ (wr (wr h 118 4 (rd h 59 4)) 118 7 (rd h 59 7))) Q) :
    Rn xs xl e mm_Memory_copy 16 [some (.inr (.inr 118)), some (.inr (.inr 59))] [] h Q := by
  refine R_ld (v := .inr (.inr 118)) dd_Memory_copy_16 rfl rfl rfl rfl ?_
  refine R_ld (v := .inr (.inr 59)) dd_Memory_copy_17 rfl rfl rfl rfl ?_
  refine R_gf (v := .inl (rd h 59 4)) dd_Memory_copy_18 fd_3_39 io_59 (congrArg (fun z : Int => (Sum.inl z : LV)) (rfl)) rfl ?_
  refine R_pf (z := (rd h 59 4)) dd_Memory_copy_21 fd_3_39 io_118 fn_3_4 rfl rfl ?_
  refine R_ld (v := .inr (.inr 118)) dd_Memory_copy_24 rfl rfl rfl rfl ?_
  refine R_ld (v := .inr (.inr 59)) dd_Memory_copy_25 rfl rfl rfl rfl ?_
  refine R_gf (v := .inl (rd h 59 7)) dd_Memory_copy_26 fd_3_42 io_59 (congrArg (fun z : Int => (Sum.inl z : LV)) (rdw_ne (by decide))) rfl ?_
  refine R_pf (z := (rd h 59 7)) dd_Memory_copy_29 fd_3_42 io_118 fn_3_7 rfl rfl ?_
  refine R_ld (v := .inr (.inr 59)) dd_Memory_copy_32 rfl rfl rfl rfl ?_
  refine R_gf (v := .inr (.inr 65)) dd_Memory_copy_33 fd_3_25 io_59 (congrArg (fun z : Int => (Sum.inr (Sum.inr z) : LV)) ((rdw_ne (by decide)).trans ((rdw_ne (by decide)).trans (rf_59_5 hF)))) rfl ?_
  refine R_ic dd_Memory_copy_36 (by decide) rfl ?_
  refine R_ld (v := .inr (.inr 118)) dd_Memory_copy_37 rfl rfl rfl rfl ?_
  refine R_gf (v := .inr (.inr 124)) dd_Memory_copy_38 fd_3_25 io_118 (congrArg (fun z : Int => (Sum.inr (Sum.inr z) : LV)) ((rdw_nei (by omega)).trans ((rdw_nei (by omega)).trans (rf_118_5 hF)))) rfl ?_
  refine R_ic dd_Memory_copy_41 (by decide) rfl ?_
  refine R_bi dd_Memory_copy_42 (by decide) rfl ?_
  refine R_acopy (n := 10) (m := 10) dd_Memory_copy_44 (by decide +kernel) (by decide +kernel) ia_65 ia_124 la_65 la_124 (by decide) (Nat.le_of_ble_eq_true rfl) rfl ?_
  exact k
theorem B_copy_47_118_59 {xs : Nat → Int} {xl e : Nat} {h : LH} {Q : Option LV → LH → Prop} (hF : RF h)
    (k : Rn xs xl e mm_Memory_copy 62 [some (.inr (.inr 118)), some (.inr (.inr 59))] [] (cpyL h 66 0 125 0 10 ++ h) Q) :
    Rn xs xl e mm_Memory_copy 47 [some (.inr (.inr 118)), some (.inr (.inr 59))] [] h Q := by
  refine R_ld (v := .inr (.inr 59)) dd_Memory_copy_47 rfl rfl rfl rfl ?_
  refine R_gf (v := .inr (.inr 66)) dd_Memory_copy_48 fd_3_28 io_59 (congrArg (fun z : Int => (Sum.inr (Sum.inr z) : LV)) (rf_59_6 hF)) rfl ?_
  refine R_ic dd_Memory_copy_51 (by decide) rfl ?_
  refine R_ld (v := .inr (.inr 118)) dd_Memory_copy_52 rfl rfl rfl rfl ?_
  refine R_gf (v := .inr (.inr 125)) dd_Memory_copy_53 fd_3_28 io_118 (congrArg (fun z : Int => (Sum.inr (Sum.inr z) : LV)) (rf_118_6 hF)) rfl ?_
  refine R_ic dd_Memory_copy_56 (by decide) rfl ?_
  refine R_bi dd_Memory_copy_57 (by decide) rfl ?_
  refine R_acopy (n := 10) (m := 10) dd_Memory_copy_59 (by decide +kernel) (by decide +kernel) ia_66 ia_125 la_66 la_125 (by decide) (Nat.le_of_ble_eq_true rfl) rfl ?_
  exact k
theorem B_copy_62_118_59 {xs : Nat → Int} {xl e : Nat} {h : LH} {Q : Option LV → LH → Prop} (hF : RF h)
    (k : Q none h) :
    Rn xs xl e mm_Memory_copy 62 [some (.inr (.inr 118)), some (.inr (.inr 59))] [] h Q := by
  exact R_vret dd_Memory_copy_62 rfl k
theorem B_copyDay_0_59_118 {xs : Nat → Int} {xl e : Nat} {h : LH} {Q : Option LV → LH → Prop} (hF : RF h)
    (k : Rn xs xl e mm_Memory_copyDay 23 [some (.inr (.inr 59)), some (.inr (.inr 118))] [] (cpyL (wr h 59 1 (rd h 118 1)) 122 0 63 0 24 ++ (wr h 59 1 (rd h 118 1))) Q) :
    Rn xs xl e mm_Memory_copyDay 0 [some (.inr (.inr 59)), some (.inr (.inr 118))] [] h Q := by
  refine R_ld (v := .inr (.inr 59)) dd_Memory_copyDay_0 rfl rfl rfl rfl ?_
  refine R_ld (v := .inr (.inr 118)) dd_Memory_copyDay_1 rfl rfl rfl rfl ?_
  refine R_gf (v := .inl (rd h 118 1)) dd_Memory_copyDay_2 fd_3_35 io_118 (congrArg (fun z : Int => (Sum.inl z : LV)) (rfl)) rfl ?_
  refine R_pf (z := (rd h 118 1)) dd_Memory_copyDay_5 fd_3_35 io_59 fn_3_1 rfl rfl ?_
  refine R_ld (v := .inr (.inr 118)) dd_Memory_copyDay_8 rfl rfl rfl rfl ?_
  refine R_gf (v := .inr (.inr 122)) dd_Memory_copyDay_9 fd_3_18 io_118 (congrArg (fun z : Int => (Sum.inr (Sum.inr z) : LV)) ((rdw_ne (by decide)).trans (rf_118_2 hF))) rfl ?_
  refine R_ic dd_Memory_copyDay_12 (by decide) rfl ?_
  refine R_ld (v := .inr (.inr 59)) dd_Memory_copyDay_13 rfl rfl rfl rfl ?_
  refine R_gf (v := .inr (.inr 63)) dd_Memory_copyDay_14 fd_3_18 io_59 (congrArg (fun z : Int => (Sum.inr (Sum.inr z) : LV)) ((rdw_nei (by omega)).trans (rf_59_2 hF))) rfl ?_
  refine R_ic dd_Memory_copyDay_17 (by decide) rfl ?_
  refine R_bi dd_Memory_copyDay_18 (by decide) rfl ?_
  refine R_acopy (n := 24) (m := 24) dd_Memory_copyDay_20 (by decide +kernel) (by decide +kernel) ia_122 ia_63 la_122 la_63 (by decide) (Nat.le_of_ble_eq_true rfl) rfl ?_
  exact k
theorem B_copyDay_23_59_118 {xs : Nat → Int} {xl e : Nat} {h : LH} {Q : Option LV → LH → Prop} (hF : RF h)
    (k : Rn xs xl e mm_Memory_copyDay 38 [some (.inr (.inr 59)), some (.inr (.inr 118))] [] (cpyL h 123 0 64 0 24 ++ h) Q) :
    Rn xs xl e mm_Memory_copyDay 23 [some (.inr (.inr 59)), some (.inr (.inr 118))] [] h Q := by
  refine R_ld (v := .inr (.inr 118)) dd_Memory_copyDay_23 rfl rfl rfl rfl ?_
  refine R_gf (v := .inr (.inr 123)) dd_Memory_copyDay_24 fd_3_22 io_118 (congrArg (fun z : Int => (Sum.inr (Sum.inr z) : LV)) (rf_118_3 hF)) rfl ?_
  refine R_ic dd_Memory_copyDay_27 (by decide) rfl ?_
  refine R_ld (v := .inr (.inr 59)) dd_Memory_copyDay_28 rfl rfl rfl rfl ?_
  refine R_gf (v := .inr (.inr 64)) dd_Memory_copyDay_29 fd_3_22 io_59 (congrArg (fun z : Int => (Sum.inr (Sum.inr z) : LV)) (rf_59_3 hF)) rfl ?_
  refine R_ic dd_Memory_copyDay_32 (by decide) rfl ?_
  refine R_bi dd_Memory_copyDay_33 (by decide) rfl ?_
  refine R_acopy (n := 24) (m := 24) dd_Memory_copyDay_35 (by decide +kernel) (by decide +kernel) ia_123 ia_64 la_123 la_64 (by decide) (Nat.le_of_ble_eq_true rfl) rfl ?_
  exact k
theorem B_copyDay_38_59_118 {xs : Nat → Int} {xl e : Nat} {h : LH} {Q : Option LV → LH → Prop} (hF : RF h)
    (k : Q none h) :
    Rn xs xl e mm_Memory_copyDay 38 [some (.inr (.inr 59)), some (.inr (.inr 118))] [] h Q := by
  exact R_vret dd_Memory_copyDay_38 rfl k
theorem B_copy_0_59_118 {xs : Nat → Int} {xl e : Nat} {h : LH} {Q : Option LV → LH → Prop} (hF : RF h)
    (k : (∃ c, c < e ∧ Rn xs xl c mm_Scene_copy 0 [some (.inr (.inr 60)), some (.inr (.inr 119))] [] h (fun r h' => Rn xs xl e mm_Memory_copy 11 [some (.inr (.inr 59)), some (.inr (.inr 118))] (r.toList ++ []) h' Q))) :
    Rn xs xl e mm_Memory_copy 0 [some (.inr (.inr 59)), some (.inr (.inr 118))] [] h Q := by
  refine R_ld (v := .inr (.inr 59)) dd_Memory_copy_0 rfl rfl rfl rfl ?_
  refine R_gf (v := .inr (.inr 60)) dd_Memory_copy_1 fd_3_12 io_59 (congrArg (fun z : Int => (Sum.inr (Sum.inr z) : LV)) (rf_59_0 hF)) rfl ?_
  refine R_ld (v := .inr (.inr 118)) dd_Memory_copy_4 rfl rfl rfl rfl ?_
  refine R_gf (v := .inr (.inr 119)) dd_Memory_copy_5 fd_3_12 io_118 (congrArg (fun z : Int => (Sum.inr (Sum.inr z) : LV)) (rf_118_0 hF)) rfl ?_
  obtain ⟨c, hc, k⟩ := k
  exact R_call (as := [.inr (.inr 60), .inr (.inr 119)]) (rest := []) (M' := mm_Scene_copy) (ls0 := [some (.inr (.inr 60)), some (.inr (.inr 119))]) dd_Memory_copy_8 rfl rfl (cw_v cw_3_45 io_60 rfl rfl (Nat.le_of_ble_eq_true rfl) (Nat.le_of_ble_eq_true rfl)) mt_Scene_copy rfl hc rfl k
theorem B_copy_11_59_118 {xs : Nat → Int} {xl e : Nat} {h : LH} {Q : Option LV → LH → Prop} (hF : RF h)
    (k : (∃ c, c < e ∧ Rn xs xl c mm_Memory_copyDay 0 [some (.inr (.inr 59)), some (.inr (.inr 118))] [] h (fun r h' => Rn xs xl e mm_Memory_copy 16 [some (.inr (.inr 59)), some (.inr (.inr 118))] (r.toList ++ []) h' Q))) :
    Rn xs xl e mm_Memory_copy 11 [some (.inr (.inr 59)), some (.inr (.inr 118))] [] h Q := by
  refine R_ld (v := .inr (.inr 59)) dd_Memory_copy_11 rfl rfl rfl rfl ?_
  refine R_ld (v := .inr (.inr 118)) dd_Memory_copy_12 rfl rfl rfl rfl ?_
  obtain ⟨c, hc, k⟩ := k
  exact R_call (as := [.inr (.inr 59), .inr (.inr 118)]) (rest := []) (M' := mm_Memory_copyDay) (ls0 := [some (.inr (.inr 59)), some (.inr (.inr 118))]) dd_Memory_copy_13 rfl rfl (cw_v cw_3_49 io_59 rfl rfl (Nat.le_of_ble_eq_true rfl) (Nat.le_of_ble_eq_true rfl)) mt_Memory_copyDay rfl hc rfl k
theorem B_copy_16_59_118 {xs : Nat → Int} {xl e : Nat} {h : LH} {Q : Option LV → LH → Prop} (hF : RF h)
    (k : Rn xs xl e mm_Memory_copy 47 [some (.inr (.inr 59)), some (.inr (.inr 118))] [] (cpyL (wr (wr h 59 4 (rd h 118 4)) 59 7 (rd h 118 7)) 124 0 65 0 10 ++ (wr (wr h 59 4 (rd h 118 4)) 59 7 (rd h 118 7))) Q) :
    Rn xs xl e mm_Memory_copy 16 [some (.inr (.inr 59)), some (.inr (.inr 118))] [] h Q := by
  refine R_ld (v := .inr (.inr 59)) dd_Memory_copy_16 rfl rfl rfl rfl ?_
  refine R_ld (v := .inr (.inr 118)) dd_Memory_copy_17 rfl rfl rfl rfl ?_
  refine R_gf (v := .inl (rd h 118 4)) dd_Memory_copy_18 fd_3_39 io_118 (congrArg (fun z : Int => (Sum.inl z : LV)) (rfl)) rfl ?_
  refine R_pf (z := (rd h 118 4)) dd_Memory_copy_21 fd_3_39 io_59 fn_3_4 rfl rfl ?_
  refine R_ld (v := .inr (.inr 59)) dd_Memory_copy_24 rfl rfl rfl rfl ?_
  refine R_ld (v := .inr (.inr 118)) dd_Memory_copy_25 rfl rfl rfl rfl ?_
  refine R_gf (v := .inl (rd h 118 7)) dd_Memory_copy_26 fd_3_42 io_118 (congrArg (fun z : Int => (Sum.inl z : LV)) (rdw_ne (by decide))) rfl ?_
  refine R_pf (z := (rd h 118 7)) dd_Memory_copy_29 fd_3_42 io_59 fn_3_7 rfl rfl ?_
  refine R_ld (v := .inr (.inr 118)) dd_Memory_copy_32 rfl rfl rfl rfl ?_
  refine R_gf (v := .inr (.inr 124)) dd_Memory_copy_33 fd_3_25 io_118 (congrArg (fun z : Int => (Sum.inr (Sum.inr z) : LV)) ((rdw_ne (by decide)).trans ((rdw_ne (by decide)).trans (rf_118_5 hF)))) rfl ?_
  refine R_ic dd_Memory_copy_36 (by decide) rfl ?_
  refine R_ld (v := .inr (.inr 59)) dd_Memory_copy_37 rfl rfl rfl rfl ?_
  refine R_gf (v := .inr (.inr 65)) dd_Memory_copy_38 fd_3_25 io_59 (congrArg (fun z : Int => (Sum.inr (Sum.inr z) : LV)) ((rdw_nei (by omega)).trans ((rdw_nei (by omega)).trans (rf_59_5 hF)))) rfl ?_
  refine R_ic dd_Memory_copy_41 (by decide) rfl ?_
  refine R_bi dd_Memory_copy_42 (by decide) rfl ?_
  refine R_acopy (n := 10) (m := 10) dd_Memory_copy_44 (by decide +kernel) (by decide +kernel) ia_124 ia_65 la_124 la_65 (by decide) (Nat.le_of_ble_eq_true rfl) rfl ?_
  exact k
theorem B_copy_47_59_118 {xs : Nat → Int} {xl e : Nat} {h : LH} {Q : Option LV → LH → Prop} (hF : RF h)
    (k : Rn xs xl e mm_Memory_copy 62 [some (.inr (.inr 59)), some (.inr (.inr 118))] [] (cpyL h 125 0 66 0 10 ++ h) Q) :
    Rn xs xl e mm_Memory_copy 47 [some (.inr (.inr 59)), some (.inr (.inr 118))] [] h Q := by
  refine R_ld (v := .inr (.inr 118)) dd_Memory_copy_47 rfl rfl rfl rfl ?_
  refine R_gf (v := .inr (.inr 125)) dd_Memory_copy_48 fd_3_28 io_118 (congrArg (fun z : Int => (Sum.inr (Sum.inr z) : LV)) (rf_118_6 hF)) rfl ?_
  refine R_ic dd_Memory_copy_51 (by decide) rfl ?_
  refine R_ld (v := .inr (.inr 59)) dd_Memory_copy_52 rfl rfl rfl rfl ?_
  refine R_gf (v := .inr (.inr 66)) dd_Memory_copy_53 fd_3_28 io_59 (congrArg (fun z : Int => (Sum.inr (Sum.inr z) : LV)) (rf_59_6 hF)) rfl ?_
  refine R_ic dd_Memory_copy_56 (by decide) rfl ?_
  refine R_bi dd_Memory_copy_57 (by decide) rfl ?_
  refine R_acopy (n := 10) (m := 10) dd_Memory_copy_59 (by decide +kernel) (by decide +kernel) ia_125 ia_66 la_125 la_66 (by decide) (Nat.le_of_ble_eq_true rfl) rfl ?_
  exact k
theorem B_copy_62_59_118 {xs : Nat → Int} {xl e : Nat} {h : LH} {Q : Option LV → LH → Prop} (hF : RF h)
    (k : Q none h) :
    Rn xs xl e mm_Memory_copy 62 [some (.inr (.inr 59)), some (.inr (.inr 118))] [] h Q := by
  exact R_vret dd_Memory_copy_62 rfl k
theorem B_copyDay_0_126_59 {xs : Nat → Int} {xl e : Nat} {h : LH} {Q : Option LV → LH → Prop} (hF : RF h)
    (k : Rn xs xl e mm_Memory_copyDay 23 [some (.inr (.inr 126)), some (.inr (.inr 59))] [] (cpyL (wr h 126 1 (rd h 59 1)) 63 0 130 0 24 ++ (wr h 126 1 (rd h 59 1))) Q) :
    Rn xs xl e mm_Memory_copyDay 0 [some (.inr (.inr 126)), some (.inr (.inr 59))] [] h Q := by
  refine R_ld (v := .inr (.inr 126)) dd_Memory_copyDay_0 rfl rfl rfl rfl ?_
  refine R_ld (v := .inr (.inr 59)) dd_Memory_copyDay_1 rfl rfl rfl rfl ?_
  refine R_gf (v := .inl (rd h 59 1)) dd_Memory_copyDay_2 fd_3_35 io_59 (congrArg (fun z : Int => (Sum.inl z : LV)) (rfl)) rfl ?_
  refine R_pf (z := (rd h 59 1)) dd_Memory_copyDay_5 fd_3_35 io_126 fn_3_1 rfl rfl ?_
  refine R_ld (v := .inr (.inr 59)) dd_Memory_copyDay_8 rfl rfl rfl rfl ?_
  refine R_gf (v := .inr (.inr 63)) dd_Memory_copyDay_9 fd_3_18 io_59 (congrArg (fun z : Int => (Sum.inr (Sum.inr z) : LV)) ((rdw_ne (by decide)).trans (rf_59_2 hF))) rfl ?_
  refine R_ic dd_Memory_copyDay_12 (by decide) rfl ?_
  refine R_ld (v := .inr (.inr 126)) dd_Memory_copyDay_13 rfl rfl rfl rfl ?_
  refine R_gf (v := .inr (.inr 130)) dd_Memory_copyDay_14 fd_3_18 io_126 (congrArg (fun z : Int => (Sum.inr (Sum.inr z) : LV)) ((rdw_nei (by omega)).trans (rf_126_2 hF))) rfl ?_
  refine R_ic dd_Memory_copyDay_17 (by decide) rfl ?_
  refine R_bi dd_Memory_copyDay_18 (by decide) rfl ?_
  refine R_acopy (n := 24) (m := 24) dd_Memory_copyDay_20 (by decide +kernel) (by decide +kernel) ia_63 ia_130 la_63 la_130 (by decide) (Nat.le_of_ble_eq_true rfl) rfl ?_
  exact k
theorem B_copyDay_23_126_59 {xs : Nat → Int} {xl e : Nat} {h : LH} {Q : Option LV → LH → Prop} (hF : RF h)
    (k : Rn xs xl e mm_Memory_copyDay 38 [some (.inr (.inr 126)), some (.inr (.inr 59))] [] (cpyL h 64 0 131 0 24 ++ h) Q) :
    Rn xs xl e mm_Memory_copyDay 23 [some (.inr (.inr 126)), some (.inr (.inr 59))] [] h Q := by
  refine R_ld (v := .inr (.inr 59)) dd_Memory_copyDay_23 rfl rfl rfl rfl ?_
  refine R_gf (v := .inr (.inr 64)) dd_Memory_copyDay_24 fd_3_22 io_59 (congrArg (fun z : Int => (Sum.inr (Sum.inr z) : LV)) (rf_59_3 hF)) rfl ?_
  refine R_ic dd_Memory_copyDay_27 (by decide) rfl ?_
  refine R_ld (v := .inr (.inr 126)) dd_Memory_copyDay_28 rfl rfl rfl rfl ?_
  refine R_gf (v := .inr (.inr 131)) dd_Memory_copyDay_29 fd_3_22 io_126 (congrArg (fun z : Int => (Sum.inr (Sum.inr z) : LV)) (rf_126_3 hF)) rfl ?_
  refine R_ic dd_Memory_copyDay_32 (by decide) rfl ?_
  refine R_bi dd_Memory_copyDay_33 (by decide) rfl ?_
  refine R_acopy (n := 24) (m := 24) dd_Memory_copyDay_35 (by decide +kernel) (by decide +kernel) ia_64 ia_131 la_64 la_131 (by decide) (Nat.le_of_ble_eq_true rfl) rfl ?_
  exact k
theorem B_copyDay_38_126_59 {xs : Nat → Int} {xl e : Nat} {h : LH} {Q : Option LV → LH → Prop} (hF : RF h)
    (k : Q none h) :
    Rn xs xl e mm_Memory_copyDay 38 [some (.inr (.inr 126)), some (.inr (.inr 59))] [] h Q := by
  exact R_vret dd_Memory_copyDay_38 rfl k
theorem B_copy_0_126_59 {xs : Nat → Int} {xl e : Nat} {h : LH} {Q : Option LV → LH → Prop} (hF : RF h)
    (k : (∃ c, c < e ∧ Rn xs xl c mm_Scene_copy 0 [some (.inr (.inr 127)), some (.inr (.inr 60))] [] h (fun r h' => Rn xs xl e mm_Memory_copy 11 [some (.inr (.inr 126)), some (.inr (.inr 59))] (r.toList ++ []) h' Q))) :
    Rn xs xl e mm_Memory_copy 0 [some (.inr (.inr 126)), some (.inr (.inr 59))] [] h Q := by
  refine R_ld (v := .inr (.inr 126)) dd_Memory_copy_0 rfl rfl rfl rfl ?_
  refine R_gf (v := .inr (.inr 127)) dd_Memory_copy_1 fd_3_12 io_126 (congrArg (fun z : Int => (Sum.inr (Sum.inr z) : LV)) (rf_126_0 hF)) rfl ?_
  refine R_ld (v := .inr (.inr 59)) dd_Memory_copy_4 rfl rfl rfl rfl ?_
  refine R_gf (v := .inr (.inr 60)) dd_Memory_copy_5 fd_3_12 io_59 (congrArg (fun z : Int => (Sum.inr (Sum.inr z) : LV)) (rf_59_0 hF)) rfl ?_
  obtain ⟨c, hc, k⟩ := k
  exact R_call (as := [.inr (.inr 127), .inr (.inr 60)]) (rest := []) (M' := mm_Scene_copy) (ls0 := [some (.inr (.inr 127)), some (.inr (.inr 60))]) dd_Memory_copy_8 rfl rfl (cw_v cw_3_45 io_127 rfl rfl (Nat.le_of_ble_eq_true rfl) (Nat.le_of_ble_eq_true rfl)) mt_Scene_copy rfl hc rfl k
theorem B_copy_11_126_59 {xs : Nat → Int} {xl e : Nat} {h : LH} {Q : Option LV → LH → Prop} (hF : RF h)
    (k : (∃ c, c < e ∧ Rn xs xl c mm_Memory_copyDay 0 [some (.inr (.inr 126)), some (.inr (.inr 59))] [] h (fun r h' => Rn xs xl e mm_Memory_copy 16 [some (.inr (.inr 126)), some (.inr (.inr 59))] (r.toList ++ []) h' Q))) :
    Rn xs xl e mm_Memory_copy 11 [some (.inr (.inr 126)), some (.inr (.inr 59))] [] h Q := by
  refine R_ld (v := .inr (.inr 126)) dd_Memory_copy_11 rfl rfl rfl rfl ?_
  refine R_ld (v := .inr (.inr 59)) dd_Memory_copy_12 rfl rfl rfl rfl ?_
  obtain ⟨c, hc, k⟩ := k
  exact R_call (as := [.inr (.inr 126), .inr (.inr 59)]) (rest := []) (M' := mm_Memory_copyDay) (ls0 := [some (.inr (.inr 126)), some (.inr (.inr 59))]) dd_Memory_copy_13 rfl rfl (cw_v cw_3_49 io_126 rfl rfl (Nat.le_of_ble_eq_true rfl) (Nat.le_of_ble_eq_true rfl)) mt_Memory_copyDay rfl hc rfl k
theorem B_copy_16_126_59 {xs : Nat → Int} {xl e : Nat} {h : LH} {Q : Option LV → LH → Prop} (hF : RF h)
    (k : Rn xs xl e mm_Memory_copy 47 [some (.inr (.inr 126)), some (.inr (.inr 59))] [] (cpyL (wr (wr h 126 4 (rd h 59 4)) 126 7 (rd h 59 7)) 65 0 132 0 10 ++ (wr (wr h 126 4 (rd h 59 4)) 126 7 (rd h 59 7))) Q) :
    Rn xs xl e mm_Memory_copy 16 [some (.inr (.inr 126)), some (.inr (.inr 59))] [] h Q := by
  refine R_ld (v := .inr (.inr 126)) dd_Memory_copy_16 rfl rfl rfl rfl ?_
  refine R_ld (v := .inr (.inr 59)) dd_Memory_copy_17 rfl rfl rfl rfl ?_
  refine R_gf (v := .inl (rd h 59 4)) dd_Memory_copy_18 fd_3_39 io_59 (congrArg (fun z : Int => (Sum.inl z : LV)) (rfl)) rfl ?_
  refine R_pf (z := (rd h 59 4)) dd_Memory_copy_21 fd_3_39 io_126 fn_3_4 rfl rfl ?_
  refine R_ld (v := .inr (.inr 126)) dd_Memory_copy_24 rfl rfl rfl rfl ?_
  refine R_ld (v := .inr (.inr 59)) dd_Memory_copy_25 rfl rfl rfl rfl ?_
  refine R_gf (v := .inl (rd h 59 7)) dd_Memory_copy_26 fd_3_42 io_59 (congrArg (fun z : Int => (Sum.inl z : LV)) (rdw_ne (by decide))) rfl ?_
  refine R_pf (z := (rd h 59 7)) dd_Memory_copy_29 fd_3_42 io_126 fn_3_7 rfl rfl ?_
  refine R_ld (v := .inr (.inr 59)) dd_Memory_copy_32 rfl rfl rfl rfl ?_
  refine R_gf (v := .inr (.inr 65)) dd_Memory_copy_33 fd_3_25 io_59 (congrArg (fun z : Int => (Sum.inr (Sum.inr z) : LV)) ((rdw_ne (by decide)).trans ((rdw_ne (by decide)).trans (rf_59_5 hF)))) rfl ?_
  refine R_ic dd_Memory_copy_36 (by decide) rfl ?_
  refine R_ld (v := .inr (.inr 126)) dd_Memory_copy_37 rfl rfl rfl rfl ?_
  refine R_gf (v := .inr (.inr 132)) dd_Memory_copy_38 fd_3_25 io_126 (congrArg (fun z : Int => (Sum.inr (Sum.inr z) : LV)) ((rdw_nei (by omega)).trans ((rdw_nei (by omega)).trans (rf_126_5 hF)))) rfl ?_
  refine R_ic dd_Memory_copy_41 (by decide) rfl ?_
  refine R_bi dd_Memory_copy_42 (by decide) rfl ?_
  refine R_acopy (n := 10) (m := 10) dd_Memory_copy_44 (by decide +kernel) (by decide +kernel) ia_65 ia_132 la_65 la_132 (by decide) (Nat.le_of_ble_eq_true rfl) rfl ?_
  exact k
theorem B_copy_47_126_59 {xs : Nat → Int} {xl e : Nat} {h : LH} {Q : Option LV → LH → Prop} (hF : RF h)
    (k : Rn xs xl e mm_Memory_copy 62 [some (.inr (.inr 126)), some (.inr (.inr 59))] [] (cpyL h 66 0 133 0 10 ++ h) Q) :
    Rn xs xl e mm_Memory_copy 47 [some (.inr (.inr 126)), some (.inr (.inr 59))] [] h Q := by
  refine R_ld (v := .inr (.inr 59)) dd_Memory_copy_47 rfl rfl rfl rfl ?_
  refine R_gf (v := .inr (.inr 66)) dd_Memory_copy_48 fd_3_28 io_59 (congrArg (fun z : Int => (Sum.inr (Sum.inr z) : LV)) (rf_59_6 hF)) rfl ?_
  refine R_ic dd_Memory_copy_51 (by decide) rfl ?_
  refine R_ld (v := .inr (.inr 126)) dd_Memory_copy_52 rfl rfl rfl rfl ?_
  refine R_gf (v := .inr (.inr 133)) dd_Memory_copy_53 fd_3_28 io_126 (congrArg (fun z : Int => (Sum.inr (Sum.inr z) : LV)) (rf_126_6 hF)) rfl ?_
  refine R_ic dd_Memory_copy_56 (by decide) rfl ?_
  refine R_bi dd_Memory_copy_57 (by decide) rfl ?_
  refine R_acopy (n := 10) (m := 10) dd_Memory_copy_59 (by decide +kernel) (by decide +kernel) ia_66 ia_133 la_66 la_133 (by decide) (Nat.le_of_ble_eq_true rfl) rfl ?_
  exact k
theorem B_copy_62_126_59 {xs : Nat → Int} {xl e : Nat} {h : LH} {Q : Option LV → LH → Prop} (hF : RF h)
    (k : Q none h) :
    Rn xs xl e mm_Memory_copy 62 [some (.inr (.inr 126)), some (.inr (.inr 59))] [] h Q := by
  exact R_vret dd_Memory_copy_62 rfl k
theorem B_copyDay_0_59_126 {xs : Nat → Int} {xl e : Nat} {h : LH} {Q : Option LV → LH → Prop} (hF : RF h)
    (k : Rn xs xl e mm_Memory_copyDay 23 [some (.inr (.inr 59)), some (.inr (.inr 126))] [] (cpyL (wr h 59 1 (rd h 126 1)) 130 0 63 0 24 ++ (wr h 59 1 (rd h 126 1))) Q) :
    Rn xs xl e mm_Memory_copyDay 0 [some (.inr (.inr 59)), some (.inr (.inr 126))] [] h Q := by
  refine R_ld (v := .inr (.inr 59)) dd_Memory_copyDay_0 rfl rfl rfl rfl ?_
  refine R_ld (v := .inr (.inr 126)) dd_Memory_copyDay_1 rfl rfl rfl rfl ?_
  refine R_gf (v := .inl (rd h 126 1)) dd_Memory_copyDay_2 fd_3_35 io_126 (congrArg (fun z : Int => (Sum.inl z : LV)) (rfl)) rfl ?_
  refine R_pf (z := (rd h 126 1)) dd_Memory_copyDay_5 fd_3_35 io_59 fn_3_1 rfl rfl ?_
  refine R_ld (v := .inr (.inr 126)) dd_Memory_copyDay_8 rfl rfl rfl rfl ?_
  refine R_gf (v := .inr (.inr 130)) dd_Memory_copyDay_9 fd_3_18 io_126 (congrArg (fun z : Int => (Sum.inr (Sum.inr z) : LV)) ((rdw_ne (by decide)).trans (rf_126_2 hF))) rfl ?_
  refine R_ic dd_Memory_copyDay_12 (by decide) rfl ?_
  refine R_ld (v := .inr (.inr 59)) dd_Memory_copyDay_13 rfl rfl rfl rfl ?_
  refine R_gf (v := .inr (.inr 63)) dd_Memory_copyDay_14 fd_3_18 io_59 (congrArg (fun z : Int => (Sum.inr (Sum.inr z) : LV)) ((rdw_nei (by omega)).trans (rf_59_2 hF))) rfl ?_
  refine R_ic dd_Memory_copyDay_17 (by decide) rfl ?_
  refine R_bi dd_Memory_copyDay_18 (by decide) rfl ?_
  refine R_acopy (n := 24) (m := 24) dd_Memory_copyDay_20 (by decide +kernel) (by decide +kernel) ia_130 ia_63 la_130 la_63 (by decide) (Nat.le_of_ble_eq_true rfl) rfl ?_
  exact k
theorem B_copyDay_23_59_126 {xs : Nat → Int} {xl e : Nat} {h : LH} {Q : Option LV → LH → Prop} (hF : RF h)
    (k : Rn xs xl e mm_Memory_copyDay 38 [some (.inr (.inr 59)), some (.inr (.inr 126))] [] (cpyL h 131 0 64 0 24 ++ h) Q) :
    Rn xs xl e mm_Memory_copyDay 23 [some (.inr (.inr 59)), some (.inr (.inr 126))] [] h Q := by
  refine R_ld (v := .inr (.inr 126)) dd_Memory_copyDay_23 rfl rfl rfl rfl ?_
  refine R_gf (v := .inr (.inr 131)) dd_Memory_copyDay_24 fd_3_22 io_126 (congrArg (fun z : Int => (Sum.inr (Sum.inr z) : LV)) (rf_126_3 hF)) rfl ?_
  refine R_ic dd_Memory_copyDay_27 (by decide) rfl ?_
  refine R_ld (v := .inr (.inr 59)) dd_Memory_copyDay_28 rfl rfl rfl rfl ?_
  refine R_gf (v := .inr (.inr 64)) dd_Memory_copyDay_29 fd_3_22 io_59 (congrArg (fun z : Int => (Sum.inr (Sum.inr z) : LV)) (rf_59_3 hF)) rfl ?_
  refine R_ic dd_Memory_copyDay_32 (by decide) rfl ?_
  refine R_bi dd_Memory_copyDay_33 (by decide) rfl ?_
  refine R_acopy (n := 24) (m := 24) dd_Memory_copyDay_35 (by decide +kernel) (by decide +kernel) ia_131 ia_64 la_131 la_64 (by decide) (Nat.le_of_ble_eq_true rfl) rfl ?_
  exact k
theorem B_copyDay_38_59_126 {xs : Nat → Int} {xl e : Nat} {h : LH} {Q : Option LV → LH → Prop} (hF : RF h)
    (k : Q none h) :
    Rn xs xl e mm_Memory_copyDay 38 [some (.inr (.inr 59)), some (.inr (.inr 126))] [] h Q := by
  exact R_vret dd_Memory_copyDay_38 rfl k
theorem B_copy_0_59_126 {xs : Nat → Int} {xl e : Nat} {h : LH} {Q : Option LV → LH → Prop} (hF : RF h)
    (k : (∃ c, c < e ∧ Rn xs xl c mm_Scene_copy 0 [some (.inr (.inr 60)), some (.inr (.inr 127))] [] h (fun r h' => Rn xs xl e mm_Memory_copy 11 [some (.inr (.inr 59)), some (.inr (.inr 126))] (r.toList ++ []) h' Q))) :
    Rn xs xl e mm_Memory_copy 0 [some (.inr (.inr 59)), some (.inr (.inr 126))] [] h Q := by
  refine R_ld (v := .inr (.inr 59)) dd_Memory_copy_0 rfl rfl rfl rfl ?_
  refine R_gf (v := .inr (.inr 60)) dd_Memory_copy_1 fd_3_12 io_59 (congrArg (fun z : Int => (Sum.inr (Sum.inr z) : LV)) (rf_59_0 hF)) rfl ?_
  refine R_ld (v := .inr (.inr 126)) dd_Memory_copy_4 rfl rfl rfl rfl ?_
  refine R_gf (v := .inr (.inr 127)) dd_Memory_copy_5 fd_3_12 io_126 (congrArg (fun z : Int => (Sum.inr (Sum.inr z) : LV)) (rf_126_0 hF)) rfl ?_
  obtain ⟨c, hc, k⟩ := k
  exact R_call (as := [.inr (.inr 60), .inr (.inr 127)]) (rest := []) (M' := mm_Scene_copy) (ls0 := [some (.inr (.inr 60)), some (.inr (.inr 127))]) dd_Memory_copy_8 rfl rfl (cw_v cw_3_45 io_60 rfl rfl (Nat.le_of_ble_eq_true rfl) (Nat.le_of_ble_eq_true rfl)) mt_Scene_copy rfl hc rfl k
theorem B_copy_11_59_126 {xs : Nat → Int} {xl e : Nat} {h : LH} {Q : Option LV → LH → Prop} (hF : RF h)
    (k : (∃ c, c < e ∧ Rn xs xl c mm_Memory_copyDay 0 [some (.inr (.inr 59)), some (.inr (.inr 126))] [] h (fun r h' => Rn xs xl e mm_Memory_copy 16 [some (.inr (.inr 59)), some (.inr (.inr 126))] (r.toList ++ []) h' Q))) :
    Rn xs xl e mm_Memory_copy 11 [some (.inr (.inr 59)), some (.inr (.inr 126))] [] h Q := by
  refine R_ld (v := .inr (.inr 59)) dd_Memory_copy_11 rfl rfl rfl rfl ?_
  refine R_ld (v := .inr (.inr 126)) dd_Memory_copy_12 rfl rfl rfl rfl ?_
  obtain ⟨c, hc, k⟩ := k
  exact R_call (as := [.inr (.inr 59), .inr (.inr 126)]) (rest := []) (M' := mm_Memory_copyDay) (ls0 := [some (.inr (.inr 59)), some (.inr (.inr 126))]) dd_Memory_copy_13 rfl rfl (cw_v cw_3_49 io_59 rfl rfl (Nat.le_of_ble_eq_true rfl) (Nat.le_of_ble_eq_true rfl)) mt_Memory_copyDay rfl hc rfl k
theorem B_copy_16_59_126 {xs : Nat → Int} {xl e : Nat} {h : LH} {Q : Option LV → LH → Prop} (hF : RF h)
    (k : Rn xs xl e mm_Memory_copy 47 [some (.inr (.inr 59)), some (.inr (.inr 126))] [] (cpyL (wr (wr h 59 4 (rd h 126 4)) 59 7 (rd h 126 7)) 132 0 65 0 10 ++ (wr (wr h 59 4 (rd h 126 4)) 59 7 (rd h 126 7))) Q) :
    Rn xs xl e mm_Memory_copy 16 [some (.inr (.inr 59)), some (.inr (.inr 126))] [] h Q := by
  refine R_ld (v := .inr (.inr 59)) dd_Memory_copy_16 rfl rfl rfl rfl ?_
  refine R_ld (v := .inr (.inr 126)) dd_Memory_copy_17 rfl rfl rfl rfl ?_
  refine R_gf (v := .inl (rd h 126 4)) dd_Memory_copy_18 fd_3_39 io_126 (congrArg (fun z : Int => (Sum.inl z : LV)) (rfl)) rfl ?_
  refine R_pf (z := (rd h 126 4)) dd_Memory_copy_21 fd_3_39 io_59 fn_3_4 rfl rfl ?_
  refine R_ld (v := .inr (.inr 59)) dd_Memory_copy_24 rfl rfl rfl rfl ?_
  refine R_ld (v := .inr (.inr 126)) dd_Memory_copy_25 rfl rfl rfl rfl ?_
  refine R_gf (v := .inl (rd h 126 7)) dd_Memory_copy_26 fd_3_42 io_126 (congrArg (fun z : Int => (Sum.inl z : LV)) (rdw_ne (by decide))) rfl ?_
  refine R_pf (z := (rd h 126 7)) dd_Memory_copy_29 fd_3_42 io_59 fn_3_7 rfl rfl ?_
  refine R_ld (v := .inr (.inr 126)) dd_Memory_copy_32 rfl rfl rfl rfl ?_
  refine R_gf (v := .inr (.inr 132)) dd_Memory_copy_33 fd_3_25 io_126 (congrArg (fun z : Int => (Sum.inr (Sum.inr z) : LV)) ((rdw_ne (by decide)).trans ((rdw_ne (by decide)).trans (rf_126_5 hF)))) rfl ?_
  refine R_ic dd_Memory_copy_36 (by decide) rfl ?_
  refine R_ld (v := .inr (.inr 59)) dd_Memory_copy_37 rfl rfl rfl rfl ?_
  refine R_gf (v := .inr (.inr 65)) dd_Memory_copy_38 fd_3_25 io_59 (congrArg (fun z : Int => (Sum.inr (Sum.inr z) : LV)) ((rdw_nei (by omega)).trans ((rdw_nei (by omega)).trans (rf_59_5 hF)))) rfl ?_
  refine R_ic dd_Memory_copy_41 (by decide) rfl ?_
  refine R_bi dd_Memory_copy_42 (by decide) rfl ?_
  refine R_acopy (n := 10) (m := 10) dd_Memory_copy_44 (by decide +kernel) (by decide +kernel) ia_132 ia_65 la_132 la_65 (by decide) (Nat.le_of_ble_eq_true rfl) rfl ?_
  exact k
theorem B_copy_47_59_126 {xs : Nat → Int} {xl e : Nat} {h : LH} {Q : Option LV → LH → Prop} (hF : RF h)
    (k : Rn xs xl e mm_Memory_copy 62 [some (.inr (.inr 59)), some (.inr (.inr 126))] [] (cpyL h 133 0 66 0 10 ++ h) Q) :
    Rn xs xl e mm_Memory_copy 47 [some (.inr (.inr 59)), some (.inr (.inr 126))] [] h Q := by
  refine R_ld (v := .inr (.inr 126)) dd_Memory_copy_47 rfl rfl rfl rfl ?_
  refine R_gf (v := .inr (.inr 133)) dd_Memory_copy_48 fd_3_28 io_126 (congrArg (fun z : Int => (Sum.inr (Sum.inr z) : LV)) (rf_126_6 hF)) rfl ?_
  refine R_ic dd_Memory_copy_51 (by decide) rfl ?_
  refine R_ld (v := .inr (.inr 59)) dd_Memory_copy_52 rfl rfl rfl rfl ?_
  refine R_gf (v := .inr (.inr 66)) dd_Memory_copy_53 fd_3_28 io_59 (congrArg (fun z : Int => (Sum.inr (Sum.inr z) : LV)) (rf_59_6 hF)) rfl ?_
  refine R_ic dd_Memory_copy_56 (by decide) rfl ?_
  refine R_bi dd_Memory_copy_57 (by decide) rfl ?_
  refine R_acopy (n := 10) (m := 10) dd_Memory_copy_59 (by decide +kernel) (by decide +kernel) ia_133 ia_66 la_133 la_66 (by decide) (Nat.le_of_ble_eq_true rfl) rfl ?_
  exact k
theorem B_copy_62_59_126 {xs : Nat → Int} {xl e : Nat} {h : LH} {Q : Option LV → LH → Prop} (hF : RF h)
    (k : Q none h) :
    Rn xs xl e mm_Memory_copy 62 [some (.inr (.inr 59)), some (.inr (.inr 126))] [] h Q := by
  exact R_vret dd_Memory_copy_62 rfl k
