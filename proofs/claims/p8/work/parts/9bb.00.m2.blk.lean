/-! LM, by program (wip/p2/hand.py): rows of mark, told, begin -/
def mm_Scene_begin : LM_M := (⟨"OneSided$Scene", "begin", "(LOneSided$Quarter;)V"⟩, prog_11_method_2_code, 4, none, 9, 2, 0, 730, 728, 729)
def mm_Memory_noteWalk : LM_M := (⟨"OneSided$Memory", "noteWalk", "(IIZ)Z"⟩, prog_5_method_7_code, 5, (some .boolean), 3, 4, 0, 1026, 1024, 1025)
theorem dd_Memory_begin_0 : decode mm_Memory_begin.2.1 0 = .ok (.aload_n 0, 1) := by decide +kernel
theorem dd_Memory_begin_1 : decode mm_Memory_begin.2.1 1 = .ok (.getfield 12, 3) := by decide +kernel
theorem dd_Memory_begin_4 : decode mm_Memory_begin.2.1 4 = .ok (.aload_n 1, 1) := by decide +kernel
theorem dd_Memory_begin_5 : decode mm_Memory_begin.2.1 5 = .ok (.invokevirtual 31, 3) := by decide +kernel
theorem cw_3_31 : cwOk 3 31 0 52 2 4 9 = true := by decide +kernel
theorem mt_Scene_begin : MTB 52 = some mm_Scene_begin := rfl
theorem dd_Memory_begin_8 : decode mm_Memory_begin.2.1 8 = .ok (.aload_n 0, 1) := by decide +kernel
theorem dd_Memory_begin_9 : decode mm_Memory_begin.2.1 9 = .ok (.iconst 0, 1) := by decide +kernel
theorem dd_Memory_begin_10 : decode mm_Memory_begin.2.1 10 = .ok (.putfield 35, 3) := by decide +kernel
theorem dd_Memory_begin_13 : decode mm_Memory_begin.2.1 13 = .ok (.aload_n 0, 1) := by decide +kernel
theorem dd_Memory_begin_14 : decode mm_Memory_begin.2.1 14 = .ok (.iconst 0, 1) := by decide +kernel
theorem dd_Memory_begin_15 : decode mm_Memory_begin.2.1 15 = .ok (.putfield 39, 3) := by decide +kernel
theorem dd_Memory_begin_18 : decode mm_Memory_begin.2.1 18 = .ok (.aload_n 0, 1) := by decide +kernel
theorem dd_Memory_begin_19 : decode mm_Memory_begin.2.1 19 = .ok (.iconst 0, 1) := by decide +kernel
theorem dd_Memory_begin_20 : decode mm_Memory_begin.2.1 20 = .ok (.putfield 42, 3) := by decide +kernel
theorem dd_Memory_begin_23 : decode mm_Memory_begin.2.1 23 = .ok (.return_, 1) := by decide +kernel
theorem dd_OneSided_mark_0 : decode mm_OneSided_mark.2.1 0 = .ok (.iload_n 1, 1) := by decide +kernel
theorem dd_OneSided_mark_1 : decode mm_OneSided_mark.2.1 1 = .ok (.ifCond .lt (8), 3) := by decide +kernel
theorem dd_OneSided_mark_9 : decode mm_OneSided_mark.2.1 9 = .ok (.iconst 0, 1) := by decide +kernel
theorem dd_OneSided_mark_10 : decode mm_OneSided_mark.2.1 10 = .ok (.ireturn, 1) := by decide +kernel
theorem dd_OneSided_mark_4 : decode mm_OneSided_mark.2.1 4 = .ok (.iload_n 1, 1) := by decide +kernel
theorem dd_OneSided_mark_5 : decode mm_OneSided_mark.2.1 5 = .ok (.iconst 4, 1) := by decide +kernel
theorem dd_OneSided_mark_6 : decode mm_OneSided_mark.2.1 6 = .ok (.if_icmp .lt (5), 3) := by decide +kernel
theorem dd_OneSided_mark_11 : decode mm_OneSided_mark.2.1 11 = .ok (.iload_n 2, 1) := by decide +kernel
theorem dd_OneSided_mark_12 : decode mm_OneSided_mark.2.1 12 = .ok (.ifCond .ne (30), 3) := by decide +kernel
theorem dd_OneSided_mark_15 : decode mm_OneSided_mark.2.1 15 = .ok (.aload_n 0, 1) := by decide +kernel
theorem dd_OneSided_mark_16 : decode mm_OneSided_mark.2.1 16 = .ok (.getfield 36, 3) := by decide +kernel
theorem fd_11_36 : fld 11 36 = some (11, 5) := by decide +kernel
theorem rf_1_5 {h : LH} (hF : RF h) : rd h 1 5 = 75 := hF 1 5 75 (by decide +kernel) (by decide +kernel)
theorem dd_OneSided_mark_19 : decode mm_OneSided_mark.2.1 19 = .ok (.iload_n 1, 1) := by decide +kernel
theorem dd_OneSided_mark_20 : decode mm_OneSided_mark.2.1 20 = .ok (.aaload, 1) := by decide +kernel
theorem ia_75 : isA NC 75 5 = true := by decide +kernel
theorem la_75 : (lay (75 : Int).toNat).2.2 = 4 := by decide +kernel
theorem dd_OneSided_mark_21 : decode mm_OneSided_mark.2.1 21 = .ok (.aload_n 0, 1) := by decide +kernel
theorem dd_OneSided_mark_22 : decode mm_OneSided_mark.2.1 22 = .ok (.getfield 29, 3) := by decide +kernel
theorem dd_OneSided_mark_25 : decode mm_OneSided_mark.2.1 25 = .ok (.invokevirtual 352, 3) := by decide +kernel
theorem cw_11_352 : cwOk 11 352 0 153 2 2 3 = true := by decide +kernel
theorem mt_Memory_copy : MTB 153 = some mm_Memory_copy := rfl
theorem dd_OneSided_mark_28 : decode mm_OneSided_mark.2.1 28 = .ok (.aload_n 0, 1) := by decide +kernel
theorem dd_OneSided_mark_29 : decode mm_OneSided_mark.2.1 29 = .ok (.dup, 1) := by decide +kernel
theorem dd_OneSided_mark_30 : decode mm_OneSided_mark.2.1 30 = .ok (.getfield 101, 3) := by decide +kernel
theorem dd_OneSided_mark_33 : decode mm_OneSided_mark.2.1 33 = .ok (.iconst 1, 1) := by decide +kernel
theorem dd_OneSided_mark_34 : decode mm_OneSided_mark.2.1 34 = .ok (.iload_n 1, 1) := by decide +kernel
theorem dd_OneSided_mark_35 : decode mm_OneSided_mark.2.1 35 = .ok (.ishl, 1) := by decide +kernel
theorem dd_OneSided_mark_36 : decode mm_OneSided_mark.2.1 36 = .ok (.ior, 1) := by decide +kernel
theorem dd_OneSided_mark_37 : decode mm_OneSided_mark.2.1 37 = .ok (.putfield 101, 3) := by decide +kernel
theorem dd_OneSided_mark_40 : decode mm_OneSided_mark.2.1 40 = .ok (.iconst 1, 1) := by decide +kernel
theorem dd_OneSided_mark_41 : decode mm_OneSided_mark.2.1 41 = .ok (.ireturn, 1) := by decide +kernel
theorem dd_OneSided_mark_42 : decode mm_OneSided_mark.2.1 42 = .ok (.aload_n 0, 1) := by decide +kernel
theorem dd_OneSided_mark_43 : decode mm_OneSided_mark.2.1 43 = .ok (.getfield 101, 3) := by decide +kernel
theorem dd_OneSided_mark_46 : decode mm_OneSided_mark.2.1 46 = .ok (.iload_n 1, 1) := by decide +kernel
theorem dd_OneSided_mark_47 : decode mm_OneSided_mark.2.1 47 = .ok (.ishr, 1) := by decide +kernel
theorem dd_OneSided_mark_48 : decode mm_OneSided_mark.2.1 48 = .ok (.iconst 1, 1) := by decide +kernel
theorem dd_OneSided_mark_49 : decode mm_OneSided_mark.2.1 49 = .ok (.iand, 1) := by decide +kernel
theorem dd_OneSided_mark_50 : decode mm_OneSided_mark.2.1 50 = .ok (.ifCond .ne (5), 3) := by decide +kernel
theorem dd_OneSided_mark_55 : decode mm_OneSided_mark.2.1 55 = .ok (.aload_n 0, 1) := by decide +kernel
theorem dd_OneSided_mark_56 : decode mm_OneSided_mark.2.1 56 = .ok (.getfield 29, 3) := by decide +kernel
theorem dd_OneSided_mark_59 : decode mm_OneSided_mark.2.1 59 = .ok (.aload_n 0, 1) := by decide +kernel
theorem dd_OneSided_mark_60 : decode mm_OneSided_mark.2.1 60 = .ok (.getfield 36, 3) := by decide +kernel
theorem dd_OneSided_mark_63 : decode mm_OneSided_mark.2.1 63 = .ok (.iload_n 1, 1) := by decide +kernel
theorem dd_OneSided_mark_64 : decode mm_OneSided_mark.2.1 64 = .ok (.aaload, 1) := by decide +kernel
theorem dd_OneSided_mark_65 : decode mm_OneSided_mark.2.1 65 = .ok (.invokevirtual 352, 3) := by decide +kernel
theorem dd_OneSided_mark_53 : decode mm_OneSided_mark.2.1 53 = .ok (.iconst 0, 1) := by decide +kernel
theorem dd_OneSided_mark_54 : decode mm_OneSided_mark.2.1 54 = .ok (.ireturn, 1) := by decide +kernel
theorem dd_OneSided_mark_68 : decode mm_OneSided_mark.2.1 68 = .ok (.aload_n 0, 1) := by decide +kernel
theorem dd_OneSided_mark_69 : decode mm_OneSided_mark.2.1 69 = .ok (.iconst 0, 1) := by decide +kernel
theorem dd_OneSided_mark_70 : decode mm_OneSided_mark.2.1 70 = .ok (.putfield 104, 3) := by decide +kernel
theorem dd_OneSided_mark_73 : decode mm_OneSided_mark.2.1 73 = .ok (.iconst 1, 1) := by decide +kernel
theorem dd_OneSided_mark_74 : decode mm_OneSided_mark.2.1 74 = .ok (.ireturn, 1) := by decide +kernel
theorem dd_OneSided_told_0 : decode mm_OneSided_told.2.1 0 = .ok (.aload_n 0, 1) := by decide +kernel
theorem dd_OneSided_told_1 : decode mm_OneSided_told.2.1 1 = .ok (.iload_n 1, 1) := by decide +kernel
theorem dd_OneSided_told_2 : decode mm_OneSided_told.2.1 2 = .ok (.invokevirtual 190, 3) := by decide +kernel
theorem dd_OneSided_told_5 : decode mm_OneSided_told.2.1 5 = .ok (.ifCond .eq (16), 3) := by decide +kernel
theorem dd_OneSided_told_21 : decode mm_OneSided_told.2.1 21 = .ok (.iconst 0, 1) := by decide +kernel
theorem dd_OneSided_told_22 : decode mm_OneSided_told.2.1 22 = .ok (.ireturn, 1) := by decide +kernel
theorem dd_OneSided_told_8 : decode mm_OneSided_told.2.1 8 = .ok (.aload_n 0, 1) := by decide +kernel
theorem dd_OneSided_told_9 : decode mm_OneSided_told.2.1 9 = .ok (.iload_n 2, 1) := by decide +kernel
theorem dd_OneSided_told_10 : decode mm_OneSided_told.2.1 10 = .ok (.invokevirtual 190, 3) := by decide +kernel
theorem dd_OneSided_told_13 : decode mm_OneSided_told.2.1 13 = .ok (.ifCond .eq (8), 3) := by decide +kernel
theorem dd_OneSided_told_16 : decode mm_OneSided_told.2.1 16 = .ok (.iload_n 1, 1) := by decide +kernel
theorem dd_OneSided_told_17 : decode mm_OneSided_told.2.1 17 = .ok (.iload_n 2, 1) := by decide +kernel
theorem dd_OneSided_told_18 : decode mm_OneSided_told.2.1 18 = .ok (.if_icmp .ne (5), 3) := by decide +kernel
theorem dd_OneSided_told_23 : decode mm_OneSided_told.2.1 23 = .ok (.aload_n 0, 1) := by decide +kernel
theorem dd_OneSided_told_24 : decode mm_OneSided_told.2.1 24 = .ok (.getfield 29, 3) := by decide +kernel
theorem dd_OneSided_told_27 : decode mm_OneSided_told.2.1 27 = .ok (.iload_n 1, 1) := by decide +kernel
theorem dd_OneSided_told_28 : decode mm_OneSided_told.2.1 28 = .ok (.iload_n 2, 1) := by decide +kernel
theorem dd_OneSided_told_29 : decode mm_OneSided_told.2.1 29 = .ok (.iload_n 3, 1) := by decide +kernel
theorem dd_OneSided_told_30 : decode mm_OneSided_told.2.1 30 = .ok (.invokevirtual 288, 3) := by decide +kernel
theorem cw_11_288 : cwOk 11 288 0 119 4 5 3 = true := by decide +kernel
theorem mt_Memory_noteWalk : MTB 119 = some mm_Memory_noteWalk := rfl
theorem dd_OneSided_told_33 : decode mm_OneSided_told.2.1 33 = .ok (.ireturn, 1) := by decide +kernel
theorem dd_Memory_noteWalk_0 : decode mm_Memory_noteWalk.2.1 0 = .ok (.aload_n 0, 1) := by decide +kernel
theorem dd_Memory_noteWalk_1 : decode mm_Memory_noteWalk.2.1 1 = .ok (.getfield 39, 3) := by decide +kernel
theorem dd_Memory_noteWalk_4 : decode mm_Memory_noteWalk.2.1 4 = .ok (.bipush 10, 2) := by decide +kernel
theorem dd_Memory_noteWalk_6 : decode mm_Memory_noteWalk.2.1 6 = .ok (.if_icmp .lt (5), 3) := by decide +kernel
theorem dd_Memory_noteWalk_11 : decode mm_Memory_noteWalk.2.1 11 = .ok (.aload_n 0, 1) := by decide +kernel
theorem dd_Memory_noteWalk_12 : decode mm_Memory_noteWalk.2.1 12 = .ok (.getfield 25, 3) := by decide +kernel
theorem dd_Memory_noteWalk_15 : decode mm_Memory_noteWalk.2.1 15 = .ok (.aload_n 0, 1) := by decide +kernel
theorem dd_Memory_noteWalk_16 : decode mm_Memory_noteWalk.2.1 16 = .ok (.getfield 39, 3) := by decide +kernel
theorem dd_Memory_noteWalk_19 : decode mm_Memory_noteWalk.2.1 19 = .ok (.iload_n 1, 1) := by decide +kernel
theorem dd_Memory_noteWalk_20 : decode mm_Memory_noteWalk.2.1 20 = .ok (.iastore, 1) := by decide +kernel
theorem dd_Memory_noteWalk_21 : decode mm_Memory_noteWalk.2.1 21 = .ok (.aload_n 0, 1) := by decide +kernel
theorem dd_Memory_noteWalk_22 : decode mm_Memory_noteWalk.2.1 22 = .ok (.getfield 28, 3) := by decide +kernel
theorem dd_Memory_noteWalk_25 : decode mm_Memory_noteWalk.2.1 25 = .ok (.aload_n 0, 1) := by decide +kernel
theorem dd_Memory_noteWalk_26 : decode mm_Memory_noteWalk.2.1 26 = .ok (.getfield 39, 3) := by decide +kernel
theorem dd_Memory_noteWalk_29 : decode mm_Memory_noteWalk.2.1 29 = .ok (.iload_n 2, 1) := by decide +kernel
theorem dd_Memory_noteWalk_30 : decode mm_Memory_noteWalk.2.1 30 = .ok (.iastore, 1) := by decide +kernel
theorem dd_Memory_noteWalk_31 : decode mm_Memory_noteWalk.2.1 31 = .ok (.iconst 1, 1) := by decide +kernel
theorem dd_Memory_noteWalk_32 : decode mm_Memory_noteWalk.2.1 32 = .ok (.aload_n 0, 1) := by decide +kernel
theorem dd_Memory_noteWalk_33 : decode mm_Memory_noteWalk.2.1 33 = .ok (.getfield 39, 3) := by decide +kernel
theorem dd_Memory_noteWalk_36 : decode mm_Memory_noteWalk.2.1 36 = .ok (.ishl, 1) := by decide +kernel
theorem dd_Memory_noteWalk_37 : decode mm_Memory_noteWalk.2.1 37 = .ok (.istore 4, 2) := by decide +kernel
theorem dd_Memory_noteWalk_39 : decode mm_Memory_noteWalk.2.1 39 = .ok (.aload_n 0, 1) := by decide +kernel
theorem dd_Memory_noteWalk_40 : decode mm_Memory_noteWalk.2.1 40 = .ok (.iload_n 3, 1) := by decide +kernel
theorem dd_Memory_noteWalk_41 : decode mm_Memory_noteWalk.2.1 41 = .ok (.ifCond .eq (13), 3) := by decide +kernel
theorem dd_Memory_noteWalk_54 : decode mm_Memory_noteWalk.2.1 54 = .ok (.aload_n 0, 1) := by decide +kernel
theorem dd_Memory_noteWalk_55 : decode mm_Memory_noteWalk.2.1 55 = .ok (.getfield 42, 3) := by decide +kernel
theorem dd_Memory_noteWalk_58 : decode mm_Memory_noteWalk.2.1 58 = .ok (.iload 4, 2) := by decide +kernel
theorem dd_Memory_noteWalk_60 : decode mm_Memory_noteWalk.2.1 60 = .ok (.iconst (-1), 1) := by decide +kernel
theorem dd_Memory_noteWalk_61 : decode mm_Memory_noteWalk.2.1 61 = .ok (.ixor, 1) := by decide +kernel
theorem dd_Memory_noteWalk_62 : decode mm_Memory_noteWalk.2.1 62 = .ok (.iand, 1) := by decide +kernel
theorem dd_Memory_noteWalk_63 : decode mm_Memory_noteWalk.2.1 63 = .ok (.putfield 42, 3) := by decide +kernel
theorem dd_Memory_noteWalk_66 : decode mm_Memory_noteWalk.2.1 66 = .ok (.aload_n 0, 1) := by decide +kernel
theorem dd_Memory_noteWalk_67 : decode mm_Memory_noteWalk.2.1 67 = .ok (.dup, 1) := by decide +kernel
theorem dd_Memory_noteWalk_68 : decode mm_Memory_noteWalk.2.1 68 = .ok (.getfield 39, 3) := by decide +kernel
theorem dd_Memory_noteWalk_71 : decode mm_Memory_noteWalk.2.1 71 = .ok (.iconst 1, 1) := by decide +kernel
theorem dd_Memory_noteWalk_72 : decode mm_Memory_noteWalk.2.1 72 = .ok (.iadd, 1) := by decide +kernel
theorem dd_Memory_noteWalk_73 : decode mm_Memory_noteWalk.2.1 73 = .ok (.putfield 39, 3) := by decide +kernel
theorem dd_Memory_noteWalk_76 : decode mm_Memory_noteWalk.2.1 76 = .ok (.iconst 1, 1) := by decide +kernel
theorem dd_Memory_noteWalk_77 : decode mm_Memory_noteWalk.2.1 77 = .ok (.ireturn, 1) := by decide +kernel
theorem dd_Memory_noteWalk_44 : decode mm_Memory_noteWalk.2.1 44 = .ok (.aload_n 0, 1) := by decide +kernel
theorem dd_Memory_noteWalk_45 : decode mm_Memory_noteWalk.2.1 45 = .ok (.getfield 42, 3) := by decide +kernel
theorem dd_Memory_noteWalk_48 : decode mm_Memory_noteWalk.2.1 48 = .ok (.iload 4, 2) := by decide +kernel
theorem dd_Memory_noteWalk_50 : decode mm_Memory_noteWalk.2.1 50 = .ok (.ior, 1) := by decide +kernel
theorem dd_Memory_noteWalk_51 : decode mm_Memory_noteWalk.2.1 51 = .ok (.goto 12, 3) := by decide +kernel
theorem dd_Memory_noteWalk_9 : decode mm_Memory_noteWalk.2.1 9 = .ok (.iconst 0, 1) := by decide +kernel
theorem dd_Memory_noteWalk_10 : decode mm_Memory_noteWalk.2.1 10 = .ok (.ireturn, 1) := by decide +kernel
theorem dd_told_0 : decode mm_told.2.1 0 = .ok (.aload_n 0, 1) := by decide +kernel
theorem dd_told_1 : decode mm_told.2.1 1 = .ok (.iconst 0, 1) := by decide +kernel
theorem dd_told_2 : decode mm_told.2.1 2 = .ok (.putfield 1, 3) := by decide +kernel
theorem dd_told_5 : decode mm_told.2.1 5 = .ok (.aload_n 0, 1) := by decide +kernel
theorem dd_told_6 : decode mm_told.2.1 6 = .ok (.iload_n 1, 1) := by decide +kernel
theorem dd_told_7 : decode mm_told.2.1 7 = .ok (.invokevirtual 370, 3) := by decide +kernel
theorem dd_told_10 : decode mm_told.2.1 10 = .ok (.ifCond .eq (28), 3) := by decide +kernel
theorem dd_told_38 : decode mm_told.2.1 38 = .ok (.iconst 0, 1) := by decide +kernel
theorem dd_told_39 : decode mm_told.2.1 39 = .ok (.ireturn, 1) := by decide +kernel
theorem dd_told_13 : decode mm_told.2.1 13 = .ok (.aload_n 0, 1) := by decide +kernel
theorem dd_told_14 : decode mm_told.2.1 14 = .ok (.iload_n 2, 1) := by decide +kernel
theorem dd_told_15 : decode mm_told.2.1 15 = .ok (.invokevirtual 370, 3) := by decide +kernel
theorem dd_told_18 : decode mm_told.2.1 18 = .ok (.ifCond .eq (20), 3) := by decide +kernel
theorem dd_told_21 : decode mm_told.2.1 21 = .ok (.iload_n 1, 1) := by decide +kernel
theorem dd_told_22 : decode mm_told.2.1 22 = .ok (.iload_n 2, 1) := by decide +kernel
theorem dd_told_23 : decode mm_told.2.1 23 = .ok (.if_icmp .eq (15), 3) := by decide +kernel
theorem dd_told_26 : decode mm_told.2.1 26 = .ok (.aload_n 0, 1) := by decide +kernel
theorem dd_told_27 : decode mm_told.2.1 27 = .ok (.getfield 125, 3) := by decide +kernel
theorem dd_told_30 : decode mm_told.2.1 30 = .ok (.bipush 34, 2) := by decide +kernel
theorem dd_told_32 : decode mm_told.2.1 32 = .ok (.iaload, 1) := by decide +kernel
theorem dd_told_33 : decode mm_told.2.1 33 = .ok (.bipush 10, 2) := by decide +kernel
theorem dd_told_35 : decode mm_told.2.1 35 = .ok (.if_icmp .ne (5), 3) := by decide +kernel
theorem dd_told_40 : decode mm_told.2.1 40 = .ok (.bipush 35, 2) := by decide +kernel
theorem dd_told_42 : decode mm_told.2.1 42 = .ok (.iconst 3, 1) := by decide +kernel
theorem dd_told_43 : decode mm_told.2.1 43 = .ok (.aload_n 0, 1) := by decide +kernel
theorem dd_told_44 : decode mm_told.2.1 44 = .ok (.getfield 125, 3) := by decide +kernel
theorem dd_told_47 : decode mm_told.2.1 47 = .ok (.bipush 34, 2) := by decide +kernel
theorem dd_told_49 : decode mm_told.2.1 49 = .ok (.iaload, 1) := by decide +kernel
theorem dd_told_50 : decode mm_told.2.1 50 = .ok (.imul, 1) := by decide +kernel
theorem dd_told_51 : decode mm_told.2.1 51 = .ok (.iadd, 1) := by decide +kernel
theorem dd_told_52 : decode mm_told.2.1 52 = .ok (.istore 4, 2) := by decide +kernel
theorem dd_told_54 : decode mm_told.2.1 54 = .ok (.aload_n 0, 1) := by decide +kernel
theorem dd_told_55 : decode mm_told.2.1 55 = .ok (.getfield 125, 3) := by decide +kernel
theorem dd_told_58 : decode mm_told.2.1 58 = .ok (.iload 4, 2) := by decide +kernel
theorem dd_told_60 : decode mm_told.2.1 60 = .ok (.iload_n 1, 1) := by decide +kernel
theorem dd_told_61 : decode mm_told.2.1 61 = .ok (.iastore, 1) := by decide +kernel
theorem dd_told_62 : decode mm_told.2.1 62 = .ok (.aload_n 0, 1) := by decide +kernel
theorem dd_told_63 : decode mm_told.2.1 63 = .ok (.getfield 125, 3) := by decide +kernel
theorem dd_told_66 : decode mm_told.2.1 66 = .ok (.iload 4, 2) := by decide +kernel
theorem dd_told_68 : decode mm_told.2.1 68 = .ok (.iconst 1, 1) := by decide +kernel
theorem dd_told_69 : decode mm_told.2.1 69 = .ok (.iadd, 1) := by decide +kernel
theorem dd_told_70 : decode mm_told.2.1 70 = .ok (.iload_n 2, 1) := by decide +kernel
theorem dd_told_71 : decode mm_told.2.1 71 = .ok (.iastore, 1) := by decide +kernel
theorem dd_told_72 : decode mm_told.2.1 72 = .ok (.aload_n 0, 1) := by decide +kernel
theorem dd_told_73 : decode mm_told.2.1 73 = .ok (.getfield 125, 3) := by decide +kernel
theorem dd_told_76 : decode mm_told.2.1 76 = .ok (.iload 4, 2) := by decide +kernel
theorem dd_told_78 : decode mm_told.2.1 78 = .ok (.iconst 2, 1) := by decide +kernel
theorem dd_told_79 : decode mm_told.2.1 79 = .ok (.iadd, 1) := by decide +kernel
theorem dd_told_80 : decode mm_told.2.1 80 = .ok (.iload_n 3, 1) := by decide +kernel
theorem dd_told_81 : decode mm_told.2.1 81 = .ok (.ifCond .eq (7), 3) := by decide +kernel
theorem dd_told_88 : decode mm_told.2.1 88 = .ok (.iconst 0, 1) := by decide +kernel
theorem dd_told_89 : decode mm_told.2.1 89 = .ok (.iastore, 1) := by decide +kernel
theorem dd_told_90 : decode mm_told.2.1 90 = .ok (.aload_n 0, 1) := by decide +kernel
theorem dd_told_91 : decode mm_told.2.1 91 = .ok (.getfield 125, 3) := by decide +kernel
theorem dd_told_94 : decode mm_told.2.1 94 = .ok (.bipush 34, 2) := by decide +kernel
theorem dd_told_96 : decode mm_told.2.1 96 = .ok (.dup2, 1) := by decide +kernel
theorem dd_told_97 : decode mm_told.2.1 97 = .ok (.iaload, 1) := by decide +kernel
theorem dd_told_98 : decode mm_told.2.1 98 = .ok (.iconst 1, 1) := by decide +kernel
theorem dd_told_99 : decode mm_told.2.1 99 = .ok (.iadd, 1) := by decide +kernel
theorem dd_told_100 : decode mm_told.2.1 100 = .ok (.iastore, 1) := by decide +kernel
theorem dd_told_101 : decode mm_told.2.1 101 = .ok (.iconst 1, 1) := by decide +kernel
theorem dd_told_102 : decode mm_told.2.1 102 = .ok (.ireturn, 1) := by decide +kernel
theorem dd_told_84 : decode mm_told.2.1 84 = .ok (.iconst 1, 1) := by decide +kernel
theorem dd_told_85 : decode mm_told.2.1 85 = .ok (.goto 4, 3) := by decide +kernel
theorem io_m {x : Int} (hx : x = 102 ∨ x = 110 ∨ x = 118 ∨ x = 126) : isO NC x 3 = true := by
  rcases hx with rfl | rfl | rfl | rfl <;> decide +kernel
theorem B_Memory_begin_0 {xs : Nat → Int} {xl e : Nat} {h : LH} {Q : Option LV → LH → Prop} {q : Int} (hq : q = 5 ∨ q = 32) (hF : RF h)
    (k : (∃ c, c < e ∧ Rn xs xl c mm_Scene_begin 0 [some (.inr (.inr 60)), some (.inr (.inr q)), none, none] [] h (fun r h' => Rn xs xl e mm_Memory_begin 8 [some (.inr (.inr 59)), some (.inr (.inr q))] (r.toList ++ []) h' Q))) :
    Rn xs xl e mm_Memory_begin 0 [some (.inr (.inr 59)), some (.inr (.inr q))] [] h Q := by
  refine R_ld (v := .inr (.inr 59)) dd_Memory_begin_0 rfl rfl rfl rfl ?_
  refine R_gf (v := .inr (.inr 60)) dd_Memory_begin_1 fd_3_12 io_59 (congrArg (fun z : Int => (Sum.inr (Sum.inr z) : LV)) (rf_59_0 hF)) rfl ?_
  refine R_ld (v := .inr (.inr q)) dd_Memory_begin_4 rfl rfl rfl rfl ?_
  obtain ⟨c, hc, k⟩ := k
  exact R_call (as := [.inr (.inr 60), .inr (.inr q)]) (rest := []) (M' := mm_Scene_begin) (ls0 := [some (.inr (.inr 60)), some (.inr (.inr q)), none, none]) dd_Memory_begin_5 rfl rfl (cw_v cw_3_31 io_60 rfl rfl (Nat.le_of_ble_eq_true rfl) (Nat.le_of_ble_eq_true rfl)) mt_Scene_begin rfl hc rfl k
theorem B_Memory_begin_8 {xs : Nat → Int} {xl e : Nat} {h : LH} {Q : Option LV → LH → Prop} {q : Int} (hq : q = 5 ∨ q = 32) (hF : RF h)
    (k : Q none (wr (wr (wr h 59 1 0) 59 4 0) 59 7 0)) :
    Rn xs xl e mm_Memory_begin 8 [some (.inr (.inr 59)), some (.inr (.inr q))] [] h Q := by
  refine R_ld (v := .inr (.inr 59)) dd_Memory_begin_8 rfl rfl rfl rfl ?_
  refine R_ic dd_Memory_begin_9 (by decide) rfl ?_
  refine R_pf (z := 0) dd_Memory_begin_10 fd_3_35 io_59 fn_3_1 rfl rfl ?_
  refine R_ld (v := .inr (.inr 59)) dd_Memory_begin_13 rfl rfl rfl rfl ?_
  refine R_ic dd_Memory_begin_14 (by decide) rfl ?_
  refine R_pf (z := 0) dd_Memory_begin_15 fd_3_39 io_59 fn_3_4 rfl rfl ?_
  refine R_ld (v := .inr (.inr 59)) dd_Memory_begin_18 rfl rfl rfl rfl ?_
  refine R_ic dd_Memory_begin_19 (by decide) rfl ?_
  refine R_pf (z := 0) dd_Memory_begin_20 fd_3_42 io_59 fn_3_7 rfl rfl ?_
  exact R_vret dd_Memory_begin_23 rfl k
theorem B_OneSided_mark_0 {xs : Nat → Int} {xl e : Nat} {h : LH} {Q : Option LV → LH → Prop} {v1 v2 : Int} (hF : RF h)
    (k : (v1 < 0 →
        Q (some (.inl 0)) h) ∧
      (0 ≤ v1 →
        (v1 < 4 →
          (v2 ≠ 0 →
            Rn xs xl e mm_OneSided_mark 42 [some (.inr (.inr 1)), some (.inl v1), some (.inl v2)] [] h Q) ∧
          (v2 = 0 →
            Rn xs xl e mm_OneSided_mark 15 [some (.inr (.inr 1)), some (.inl v1), some (.inl v2)] [] h Q)) ∧
        (4 ≤ v1 →
          Q (some (.inl 0)) h))) :
    Rn xs xl e mm_OneSided_mark 0 [some (.inr (.inr 1)), some (.inl v1), some (.inl v2)] [] h Q := by
  refine R_ld (v := .inl v1) dd_OneSided_mark_0 rfl rfl rfl rfl ?_
  refine R_if dd_OneSided_mark_1 rfl rfl (fun (c1 : v1 < 0) => ?_) (fun (c1 : 0 ≤ v1) => ?_)
  · replace k := k.1 c1
    refine R_ic dd_OneSided_mark_9 (by decide) rfl ?_
    exact R_zret dd_OneSided_mark_10 rfl (by decide) k
  · replace k := k.2 c1
    refine R_ld (v := .inl v1) dd_OneSided_mark_4 rfl rfl rfl rfl ?_
    refine R_ic dd_OneSided_mark_5 (by decide) rfl ?_
    refine R_icmp dd_OneSided_mark_6 rfl rfl (fun (c2 : v1 < 4) => ?_) (fun (c2 : 4 ≤ v1) => ?_)
    · replace k := k.1 c2
      refine R_ld (v := .inl v2) dd_OneSided_mark_11 rfl rfl rfl rfl ?_
      refine R_if dd_OneSided_mark_12 rfl rfl (fun (c3 : v2 ≠ 0) => ?_) (fun (c3 : v2 = 0) => ?_)
      · replace k := k.1 c3
        exact k
      · replace k := k.2 c3
        exact k
    · replace k := k.2 c2
      refine R_ic dd_OneSided_mark_9 (by decide) rfl ?_
      exact R_zret dd_OneSided_mark_10 rfl (by decide) k
theorem B_OneSided_mark_15 {xs : Nat → Int} {xl e : Nat} {h : LH} {Q : Option LV → LH → Prop} {v1 v2 : Int} {x : Int} (hx : x = 102 ∨ x = 110 ∨ x = 118 ∨ x = 126) (hM : rd h 75 v1 = x) (hF : RF h)
    (k : (0 ≤ v1 ∧ v1 < 4) ∧
      (∃ c, c < e ∧ Rn xs xl c mm_Memory_copy 0 [some (.inr (.inr x)), some (.inr (.inr 59))] [] h (fun r h' => Rn xs xl e mm_OneSided_mark 28 [some (.inr (.inr 1)), some (.inl v1), some (.inl v2)] (r.toList ++ []) h' Q))) :
    Rn xs xl e mm_OneSided_mark 15 [some (.inr (.inr 1)), some (.inl v1), some (.inl v2)] [] h Q := by
  refine R_ld (v := .inr (.inr 1)) dd_OneSided_mark_15 rfl rfl rfl rfl ?_
  refine R_gf (v := .inr (.inr 75)) dd_OneSided_mark_16 fd_11_36 io_1 (congrArg (fun z : Int => (Sum.inr (Sum.inr z) : LV)) (rf_1_5 hF)) rfl ?_
  refine R_ld (v := .inl v1) dd_OneSided_mark_19 rfl rfl rfl rfl ?_
  obtain ⟨s1, k⟩ := k
  refine R_aald (v := x) (n := 4) dd_OneSided_mark_20 ia_75 la_75 s1 hM rfl ?_
  refine R_ld (v := .inr (.inr 1)) dd_OneSided_mark_21 rfl rfl rfl rfl ?_
  refine R_gf (v := .inr (.inr 59)) dd_OneSided_mark_22 fd_11_29 io_1 (congrArg (fun z : Int => (Sum.inr (Sum.inr z) : LV)) (rf_1_3 hF)) rfl ?_
  obtain ⟨c, hc, k⟩ := k
  exact R_call (as := [.inr (.inr x), .inr (.inr 59)]) (rest := []) (M' := mm_Memory_copy) (ls0 := [some (.inr (.inr x)), some (.inr (.inr 59))]) dd_OneSided_mark_25 rfl rfl (cw_v cw_11_352 (io_m hx) rfl rfl (Nat.le_of_ble_eq_true rfl) (Nat.le_of_ble_eq_true rfl)) mt_Memory_copy rfl hc rfl k
theorem B_OneSided_mark_28 {xs : Nat → Int} {xl e : Nat} {h : LH} {Q : Option LV → LH → Prop} {v1 v2 : Int} (hF : RF h)
    (k : Q (some (.inl 1)) (wr h 1 6 (zor (rd h 1 6) (zshl 1 v1)))) :
    Rn xs xl e mm_OneSided_mark 28 [some (.inr (.inr 1)), some (.inl v1), some (.inl v2)] [] h Q := by
  refine R_ld (v := .inr (.inr 1)) dd_OneSided_mark_28 rfl rfl rfl rfl ?_
  refine R_A dd_OneSided_mark_29 rfl rfl rfl rfl ?_
  refine R_gf (v := .inl (rd h 1 6)) dd_OneSided_mark_30 fd_11_101 io_1 (congrArg (fun z : Int => (Sum.inl z : LV)) (rfl)) rfl ?_
  refine R_ic dd_OneSided_mark_33 (by decide) rfl ?_
  refine R_ld (v := .inl v1) dd_OneSided_mark_34 rfl rfl rfl rfl ?_
  refine R_A dd_OneSided_mark_35 rfl rfl rfl rfl ?_
  refine R_A dd_OneSided_mark_36 rfl rfl rfl rfl ?_
  refine R_pf (z := (zor (rd h 1 6) (zshl 1 v1))) dd_OneSided_mark_37 fd_11_101 io_1 fn_11_6 rfl rfl ?_
  refine R_ic dd_OneSided_mark_40 (by decide) rfl ?_
  exact R_zret dd_OneSided_mark_41 rfl (by decide) k
theorem B_OneSided_mark_42 {xs : Nat → Int} {xl e : Nat} {h : LH} {Q : Option LV → LH → Prop} {v1 v2 : Int} {x : Int} (hx : x = 102 ∨ x = 110 ∨ x = 118 ∨ x = 126) (hM : rd h 75 v1 = x) (hF : RF h)
    (k : ((zand (zshr (rd h 1 6) v1) 1) ≠ 0 →
        (0 ≤ v1 ∧ v1 < 4) ∧
        (∃ c, c < e ∧ Rn xs xl c mm_Memory_copy 0 [some (.inr (.inr 59)), some (.inr (.inr x))] [] h (fun r h' => Rn xs xl e mm_OneSided_mark 68 [some (.inr (.inr 1)), some (.inl v1), some (.inl v2)] (r.toList ++ []) h' Q))) ∧
      ((zand (zshr (rd h 1 6) v1) 1) = 0 →
        Q (some (.inl 0)) h)) :
    Rn xs xl e mm_OneSided_mark 42 [some (.inr (.inr 1)), some (.inl v1), some (.inl v2)] [] h Q := by
  refine R_ld (v := .inr (.inr 1)) dd_OneSided_mark_42 rfl rfl rfl rfl ?_
  refine R_gf (v := .inl (rd h 1 6)) dd_OneSided_mark_43 fd_11_101 io_1 (congrArg (fun z : Int => (Sum.inl z : LV)) (rfl)) rfl ?_
  refine R_ld (v := .inl v1) dd_OneSided_mark_46 rfl rfl rfl rfl ?_
  refine R_A dd_OneSided_mark_47 rfl rfl rfl rfl ?_
  refine R_ic dd_OneSided_mark_48 (by decide) rfl ?_
  refine R_A dd_OneSided_mark_49 rfl rfl rfl rfl ?_
  refine R_if dd_OneSided_mark_50 rfl rfl (fun (c3 : (zand (zshr (rd h 1 6) v1) 1) ≠ 0) => ?_) (fun (c3 : (zand (zshr (rd h 1 6) v1) 1) = 0) => ?_)
  · replace k := k.1 c3
    refine R_ld (v := .inr (.inr 1)) dd_OneSided_mark_55 rfl rfl rfl rfl ?_
    refine R_gf (v := .inr (.inr 59)) dd_OneSided_mark_56 fd_11_29 io_1 (congrArg (fun z : Int => (Sum.inr (Sum.inr z) : LV)) (rf_1_3 hF)) rfl ?_
    refine R_ld (v := .inr (.inr 1)) dd_OneSided_mark_59 rfl rfl rfl rfl ?_
    refine R_gf (v := .inr (.inr 75)) dd_OneSided_mark_60 fd_11_36 io_1 (congrArg (fun z : Int => (Sum.inr (Sum.inr z) : LV)) (rf_1_5 hF)) rfl ?_
    refine R_ld (v := .inl v1) dd_OneSided_mark_63 rfl rfl rfl rfl ?_
    obtain ⟨s1, k⟩ := k
    refine R_aald (v := x) (n := 4) dd_OneSided_mark_64 ia_75 la_75 s1 hM rfl ?_
    obtain ⟨c, hc, k⟩ := k
    exact R_call (as := [.inr (.inr 59), .inr (.inr x)]) (rest := []) (M' := mm_Memory_copy) (ls0 := [some (.inr (.inr 59)), some (.inr (.inr x))]) dd_OneSided_mark_65 rfl rfl (cw_v cw_11_352 io_59 rfl rfl (Nat.le_of_ble_eq_true rfl) (Nat.le_of_ble_eq_true rfl)) mt_Memory_copy rfl hc rfl k
  · replace k := k.2 c3
    refine R_ic dd_OneSided_mark_53 (by decide) rfl ?_
    exact R_zret dd_OneSided_mark_54 rfl (by decide) k
theorem B_OneSided_mark_68 {xs : Nat → Int} {xl e : Nat} {h : LH} {Q : Option LV → LH → Prop} {v1 v2 : Int} (hF : RF h)
    (k : Q (some (.inl 1)) (wr h 1 9 0)) :
    Rn xs xl e mm_OneSided_mark 68 [some (.inr (.inr 1)), some (.inl v1), some (.inl v2)] [] h Q := by
  refine R_ld (v := .inr (.inr 1)) dd_OneSided_mark_68 rfl rfl rfl rfl ?_
  refine R_ic dd_OneSided_mark_69 (by decide) rfl ?_
  refine R_pf (z := 0) dd_OneSided_mark_70 fd_11_104 io_1 fn_11_9 rfl rfl ?_
  refine R_ic dd_OneSided_mark_73 (by decide) rfl ?_
  exact R_zret dd_OneSided_mark_74 rfl (by decide) k
theorem B_OneSided_told_0 {xs : Nat → Int} {xl e : Nat} {h : LH} {Q : Option LV → LH → Prop} {v1 v2 v3 : Int} {q t : Int} (hq : q = 5 ∨ q = 32) (ht : t = 5 ∨ t = 32) (hS : rd h 1 ((2 : Nat) : Int) = q) (hQ : rd h 1 ((1 : Nat) : Int) = t) (hF : RF h) (he : 1 ≤ e)
    (k : (v1 < 0 →
        Q (some (.inl 0)) h) ∧
      (0 ≤ v1 →
        ((rd h t 0) ≤ v1 →
          Q (some (.inl 0)) h) ∧
        (v1 < (rd h t 0) →
          (v2 < 0 →
            Q (some (.inl 0)) h) ∧
          (0 ≤ v2 →
            ((rd h t 0) ≤ v2 →
              Q (some (.inl 0)) h) ∧
            (v2 < (rd h t 0) →
              (v1 ≠ v2 →
                (∃ c, c < e ∧ Rn xs xl c mm_Memory_noteWalk 0 [some (.inr (.inr 59)), some (.inl v1), some (.inl v2), some (.inl v3), none] [] h (fun r h' => Rn xs xl e mm_OneSided_told 33 [some (.inr (.inr 1)), some (.inl v1), some (.inl v2), some (.inl v3)] (r.toList ++ []) h' Q))) ∧
              (v1 = v2 →
                Q (some (.inl 0)) h)))))) :
    Rn xs xl e mm_OneSided_told 0 [some (.inr (.inr 1)), some (.inl v1), some (.inl v2), some (.inl v3)] [] h Q := by
  refine R_ld (v := .inr (.inr 1)) dd_OneSided_told_0 rfl rfl rfl rfl ?_
  refine R_ld (v := .inl v1) dd_OneSided_told_1 rfl rfl rfl rfl ?_
  refine R_call (as := [.inr (.inr 1), .inl v1]) (rest := []) (M' := mm_OneSided_isRoom) (ls0 := [some (.inr (.inr 1)), some (.inl v1)]) dd_OneSided_told_2 rfl rfl (cw_v cw_11_190 io_1 rfl rfl (Nat.le_of_ble_eq_true rfl) (Nat.le_of_ble_eq_true rfl)) mt_OneSided_isRoom rfl (c := e - 1) (by omega) rfl ?_
  refine R_ld (v := .inl v1) dd_OneSided_isRoom_0 rfl rfl rfl rfl ?_
  refine R_if dd_OneSided_isRoom_1 rfl rfl (fun (c2 : v1 < 0) => ?_) (fun (c2 : 0 ≤ v1) => ?_)
  · replace k := k.1 c2
    refine R_ic dd_OneSided_isRoom_19 (by decide) rfl ?_
    refine R_zret dd_OneSided_isRoom_20 rfl (by decide) ?_
    change Rn xs xl e mm_OneSided_told 5 [some (.inr (.inr 1)), some (.inl v1), some (.inl v2), some (.inl v3)] [.inl 0] h _
    refine R_if dd_OneSided_told_5 rfl rfl (fun (c3 : 0 = 0) => ?_) (fun (c3 : 0 ≠ 0) => ?_)
    · skip
      refine R_ic dd_OneSided_told_21 (by decide) rfl ?_
      exact R_zret dd_OneSided_told_22 rfl (by decide) k
    · exact absurd c3 (by omega)
  · replace k := k.2 c2
    refine R_ld (v := .inl v1) dd_OneSided_isRoom_4 rfl rfl rfl rfl ?_
    refine R_ld (v := .inr (.inr 1)) dd_OneSided_isRoom_5 rfl rfl rfl rfl ?_
    refine R_gf (v := .inr (.inr t)) dd_OneSided_isRoom_6 fd_11_19 io_1 (congrArg (fun z : Int => (Sum.inr (Sum.inr z) : LV)) (hQ)) rfl ?_
    refine R_gf (v := .inl (rd h t 0)) dd_OneSided_isRoom_9 fd_11_267 (io_q ht) (congrArg (fun z : Int => (Sum.inl z : LV)) (rfl)) rfl ?_
    refine R_icmp dd_OneSided_isRoom_12 rfl rfl (fun (c4 : (rd h t 0) ≤ v1) => ?_) (fun (c4 : v1 < (rd h t 0)) => ?_)
    · replace k := k.1 c4
      refine R_ic dd_OneSided_isRoom_19 (by decide) rfl ?_
      refine R_zret dd_OneSided_isRoom_20 rfl (by decide) ?_
      change Rn xs xl e mm_OneSided_told 5 [some (.inr (.inr 1)), some (.inl v1), some (.inl v2), some (.inl v3)] [.inl 0] h _
      refine R_if dd_OneSided_told_5 rfl rfl (fun (c5 : 0 = 0) => ?_) (fun (c5 : 0 ≠ 0) => ?_)
      · skip
        refine R_ic dd_OneSided_told_21 (by decide) rfl ?_
        exact R_zret dd_OneSided_told_22 rfl (by decide) k
      · exact absurd c5 (by omega)
    · replace k := k.2 c4
      refine R_ic dd_OneSided_isRoom_15 (by decide) rfl ?_
      refine R_goto dd_OneSided_isRoom_16 rfl ?_
      refine R_zret dd_OneSided_isRoom_20 rfl (by decide) ?_
      change Rn xs xl e mm_OneSided_told 5 [some (.inr (.inr 1)), some (.inl v1), some (.inl v2), some (.inl v3)] [.inl 1] h _
      refine R_if dd_OneSided_told_5 rfl rfl (fun (c6 : 1 = 0) => ?_) (fun (c6 : 1 ≠ 0) => ?_)
      · exact absurd c6 (by omega)
      · skip
        refine R_ld (v := .inr (.inr 1)) dd_OneSided_told_8 rfl rfl rfl rfl ?_
        refine R_ld (v := .inl v2) dd_OneSided_told_9 rfl rfl rfl rfl ?_
        refine R_call (as := [.inr (.inr 1), .inl v2]) (rest := []) (M' := mm_OneSided_isRoom) (ls0 := [some (.inr (.inr 1)), some (.inl v2)]) dd_OneSided_told_10 rfl rfl (cw_v cw_11_190 io_1 rfl rfl (Nat.le_of_ble_eq_true rfl) (Nat.le_of_ble_eq_true rfl)) mt_OneSided_isRoom rfl (c := e - 1) (by omega) rfl ?_
        refine R_ld (v := .inl v2) dd_OneSided_isRoom_0 rfl rfl rfl rfl ?_
        refine R_if dd_OneSided_isRoom_1 rfl rfl (fun (c7 : v2 < 0) => ?_) (fun (c7 : 0 ≤ v2) => ?_)
        · replace k := k.1 c7
          refine R_ic dd_OneSided_isRoom_19 (by decide) rfl ?_
          refine R_zret dd_OneSided_isRoom_20 rfl (by decide) ?_
          change Rn xs xl e mm_OneSided_told 13 [some (.inr (.inr 1)), some (.inl v1), some (.inl v2), some (.inl v3)] [.inl 0] h _
          refine R_if dd_OneSided_told_13 rfl rfl (fun (c8 : 0 = 0) => ?_) (fun (c8 : 0 ≠ 0) => ?_)
          · skip
            refine R_ic dd_OneSided_told_21 (by decide) rfl ?_
            exact R_zret dd_OneSided_told_22 rfl (by decide) k
          · exact absurd c8 (by omega)
        · replace k := k.2 c7
          refine R_ld (v := .inl v2) dd_OneSided_isRoom_4 rfl rfl rfl rfl ?_
          refine R_ld (v := .inr (.inr 1)) dd_OneSided_isRoom_5 rfl rfl rfl rfl ?_
          refine R_gf (v := .inr (.inr t)) dd_OneSided_isRoom_6 fd_11_19 io_1 (congrArg (fun z : Int => (Sum.inr (Sum.inr z) : LV)) (hQ)) rfl ?_
          refine R_gf (v := .inl (rd h t 0)) dd_OneSided_isRoom_9 fd_11_267 (io_q ht) (congrArg (fun z : Int => (Sum.inl z : LV)) (rfl)) rfl ?_
          refine R_icmp dd_OneSided_isRoom_12 rfl rfl (fun (c9 : (rd h t 0) ≤ v2) => ?_) (fun (c9 : v2 < (rd h t 0)) => ?_)
          · replace k := k.1 c9
            refine R_ic dd_OneSided_isRoom_19 (by decide) rfl ?_
            refine R_zret dd_OneSided_isRoom_20 rfl (by decide) ?_
            change Rn xs xl e mm_OneSided_told 13 [some (.inr (.inr 1)), some (.inl v1), some (.inl v2), some (.inl v3)] [.inl 0] h _
            refine R_if dd_OneSided_told_13 rfl rfl (fun (c10 : 0 = 0) => ?_) (fun (c10 : 0 ≠ 0) => ?_)
            · skip
              refine R_ic dd_OneSided_told_21 (by decide) rfl ?_
              exact R_zret dd_OneSided_told_22 rfl (by decide) k
            · exact absurd c10 (by omega)
          · replace k := k.2 c9
            refine R_ic dd_OneSided_isRoom_15 (by decide) rfl ?_
            refine R_goto dd_OneSided_isRoom_16 rfl ?_
            refine R_zret dd_OneSided_isRoom_20 rfl (by decide) ?_
            change Rn xs xl e mm_OneSided_told 13 [some (.inr (.inr 1)), some (.inl v1), some (.inl v2), some (.inl v3)] [.inl 1] h _
            refine R_if dd_OneSided_told_13 rfl rfl (fun (c11 : 1 = 0) => ?_) (fun (c11 : 1 ≠ 0) => ?_)
            · exact absurd c11 (by omega)
            · skip
              refine R_ld (v := .inl v1) dd_OneSided_told_16 rfl rfl rfl rfl ?_
              refine R_ld (v := .inl v2) dd_OneSided_told_17 rfl rfl rfl rfl ?_
              refine R_icmp dd_OneSided_told_18 rfl rfl (fun (c12 : v1 ≠ v2) => ?_) (fun (c12 : v1 = v2) => ?_)
              · replace k := k.1 c12
                refine R_ld (v := .inr (.inr 1)) dd_OneSided_told_23 rfl rfl rfl rfl ?_
                refine R_gf (v := .inr (.inr 59)) dd_OneSided_told_24 fd_11_29 io_1 (congrArg (fun z : Int => (Sum.inr (Sum.inr z) : LV)) (rf_1_3 hF)) rfl ?_
                refine R_ld (v := .inl v1) dd_OneSided_told_27 rfl rfl rfl rfl ?_
                refine R_ld (v := .inl v2) dd_OneSided_told_28 rfl rfl rfl rfl ?_
                refine R_ld (v := .inl v3) dd_OneSided_told_29 rfl rfl rfl rfl ?_
                obtain ⟨c, hc, k⟩ := k
                exact R_call (as := [.inr (.inr 59), .inl v1, .inl v2, .inl v3]) (rest := []) (M' := mm_Memory_noteWalk) (ls0 := [some (.inr (.inr 59)), some (.inl v1), some (.inl v2), some (.inl v3), none]) dd_OneSided_told_30 rfl rfl (cw_v cw_11_288 io_59 rfl rfl (Nat.le_of_ble_eq_true rfl) (Nat.le_of_ble_eq_true rfl)) mt_Memory_noteWalk rfl hc rfl k
              · replace k := k.2 c12
                refine R_ic dd_OneSided_told_21 (by decide) rfl ?_
                exact R_zret dd_OneSided_told_22 rfl (by decide) k
theorem B_OneSided_told_33 {xs : Nat → Int} {xl e : Nat} {h : LH} {Q : Option LV → LH → Prop} {v1 v2 v3 w0 : Int} {q t : Int} (hq : q = 5 ∨ q = 32) (ht : t = 5 ∨ t = 32) (hS : rd h 1 ((2 : Nat) : Int) = q) (hQ : rd h 1 ((1 : Nat) : Int) = t) (hF : RF h)
    (k : (w0 = 0 ∨ w0 = 1) ∧
      Q (some (.inl w0)) h) :
    Rn xs xl e mm_OneSided_told 33 [some (.inr (.inr 1)), some (.inl v1), some (.inl v2), some (.inl v3)] [.inl w0] h Q := by
  obtain ⟨s1, k⟩ := k
  exact R_zret dd_OneSided_told_33 rfl s1 k
theorem B_Memory_noteWalk_0 {xs : Nat → Int} {xl e : Nat} {h : LH} {Q : Option LV → LH → Prop} {v1 v2 v3 : Int} (hF : RF h)
    (k : ((rd h 59 4) < 10 →
        (0 ≤ (rd h 59 4) ∧ (rd h 59 4) < 10) ∧
        (0 ≤ (rd h 59 4) ∧ (rd h 59 4) < 10) ∧
        (v3 = 0 →
          (-2147483648 ≤ (rd h 59 4) + 1 ∧ (rd h 59 4) + 1 ≤ 2147483647) ∧
          Q (some (.inl 1)) (wr (wr (wr (wr h 65 (rd h 59 4) v1) 66 (rd h 59 4) v2) 59 7 (zand (rd h 59 7) (zxor (zshl 1 (rd h 59 4)) (-1)))) 59 4 ((rd h 59 4) + 1))) ∧
        (v3 ≠ 0 →
          (-2147483648 ≤ (rd h 59 4) + 1 ∧ (rd h 59 4) + 1 ≤ 2147483647) ∧
          Q (some (.inl 1)) (wr (wr (wr (wr h 65 (rd h 59 4) v1) 66 (rd h 59 4) v2) 59 7 (zor (rd h 59 7) (zshl 1 (rd h 59 4)))) 59 4 ((rd h 59 4) + 1)))) ∧
      (10 ≤ (rd h 59 4) →
        Q (some (.inl 0)) h)) :
    Rn xs xl e mm_Memory_noteWalk 0 [some (.inr (.inr 59)), some (.inl v1), some (.inl v2), some (.inl v3), none] [] h Q := by
  refine R_ld (v := .inr (.inr 59)) dd_Memory_noteWalk_0 rfl rfl rfl rfl ?_
  refine R_gf (v := .inl (rd h 59 4)) dd_Memory_noteWalk_1 fd_3_39 io_59 (congrArg (fun z : Int => (Sum.inl z : LV)) (rfl)) rfl ?_
  refine R_bi dd_Memory_noteWalk_4 (by decide) rfl ?_
  refine R_icmp dd_Memory_noteWalk_6 rfl rfl (fun (c5 : (rd h 59 4) < 10) => ?_) (fun (c5 : 10 ≤ (rd h 59 4)) => ?_)
  · replace k := k.1 c5
    refine R_ld (v := .inr (.inr 59)) dd_Memory_noteWalk_11 rfl rfl rfl rfl ?_
    refine R_gf (v := .inr (.inr 65)) dd_Memory_noteWalk_12 fd_3_25 io_59 (congrArg (fun z : Int => (Sum.inr (Sum.inr z) : LV)) (rf_59_5 hF)) rfl ?_
    refine R_ld (v := .inr (.inr 59)) dd_Memory_noteWalk_15 rfl rfl rfl rfl ?_
    refine R_gf (v := .inl (rd h 59 4)) dd_Memory_noteWalk_16 fd_3_39 io_59 (congrArg (fun z : Int => (Sum.inl z : LV)) (rfl)) rfl ?_
    refine R_ld (v := .inl v1) dd_Memory_noteWalk_19 rfl rfl rfl rfl ?_
    obtain ⟨s1, k⟩ := k
    refine R_iast (n := 10) dd_Memory_noteWalk_20 ia_65 la_65 s1 rfl ?_
    refine R_ld (v := .inr (.inr 59)) dd_Memory_noteWalk_21 rfl rfl rfl rfl ?_
    refine R_gf (v := .inr (.inr 66)) dd_Memory_noteWalk_22 fd_3_28 io_59 (congrArg (fun z : Int => (Sum.inr (Sum.inr z) : LV)) ((rdw_ne (by decide)).trans (rf_59_6 hF))) rfl ?_
    refine R_ld (v := .inr (.inr 59)) dd_Memory_noteWalk_25 rfl rfl rfl rfl ?_
    refine R_gf (v := .inl (rd h 59 4)) dd_Memory_noteWalk_26 fd_3_39 io_59 (congrArg (fun z : Int => (Sum.inl z : LV)) (rdw_ne (by decide))) rfl ?_
    refine R_ld (v := .inl v2) dd_Memory_noteWalk_29 rfl rfl rfl rfl ?_
    obtain ⟨s2, k⟩ := k
    refine R_iast (n := 10) dd_Memory_noteWalk_30 ia_66 la_66 s2 rfl ?_
    refine R_ic dd_Memory_noteWalk_31 (by decide) rfl ?_
    refine R_ld (v := .inr (.inr 59)) dd_Memory_noteWalk_32 rfl rfl rfl rfl ?_
    refine R_gf (v := .inl (rd h 59 4)) dd_Memory_noteWalk_33 fd_3_39 io_59 (congrArg (fun z : Int => (Sum.inl z : LV)) ((rdw_ne (by decide)).trans (rdw_ne (by decide)))) rfl ?_
    refine R_A dd_Memory_noteWalk_36 rfl rfl rfl rfl ?_
    refine R_st (ls' := [some (.inr (.inr 59)), some (.inl v1), some (.inl v2), some (.inl v3), some (.inl (zshl 1 (rd h 59 4)))]) dd_Memory_noteWalk_37 rfl rfl rfl (Nat.le_of_ble_eq_true rfl) rfl rfl ?_
    refine R_ld (v := .inr (.inr 59)) dd_Memory_noteWalk_39 rfl rfl rfl rfl ?_
    refine R_ld (v := .inl v3) dd_Memory_noteWalk_40 rfl rfl rfl rfl ?_
    refine R_if dd_Memory_noteWalk_41 rfl rfl (fun (c6 : v3 = 0) => ?_) (fun (c6 : v3 ≠ 0) => ?_)
    · replace k := k.1 c6
      refine R_ld (v := .inr (.inr 59)) dd_Memory_noteWalk_54 rfl rfl rfl rfl ?_
      refine R_gf (v := .inl (rd h 59 7)) dd_Memory_noteWalk_55 fd_3_42 io_59 (congrArg (fun z : Int => (Sum.inl z : LV)) ((rdw_ne (by decide)).trans (rdw_ne (by decide)))) rfl ?_
      refine R_ld (v := .inl (zshl 1 (rd h 59 4))) dd_Memory_noteWalk_58 rfl rfl rfl rfl ?_
      refine R_ic dd_Memory_noteWalk_60 (by decide) rfl ?_
      refine R_A dd_Memory_noteWalk_61 rfl rfl rfl rfl ?_
      refine R_A dd_Memory_noteWalk_62 rfl rfl rfl rfl ?_
      refine R_pf (z := (zand (rd h 59 7) (zxor (zshl 1 (rd h 59 4)) (-1)))) dd_Memory_noteWalk_63 fd_3_42 io_59 fn_3_7 rfl rfl ?_
      refine R_ld (v := .inr (.inr 59)) dd_Memory_noteWalk_66 rfl rfl rfl rfl ?_
      refine R_A dd_Memory_noteWalk_67 rfl rfl rfl rfl ?_
      refine R_gf (v := .inl (rd h 59 4)) dd_Memory_noteWalk_68 fd_3_39 io_59 (congrArg (fun z : Int => (Sum.inl z : LV)) ((rdw_nei (by omega)).trans ((rdw_ne (by decide)).trans (rdw_ne (by decide))))) rfl ?_
      refine R_ic dd_Memory_noteWalk_71 (by decide) rfl ?_
      obtain ⟨s3, k⟩ := k
      refine R_iadd (c := (rd h 59 4) + 1) dd_Memory_noteWalk_72 (by omega) s3 rfl ?_
      refine R_pf (z := ((rd h 59 4) + 1)) dd_Memory_noteWalk_73 fd_3_39 io_59 fn_3_4 rfl rfl ?_
      refine R_ic dd_Memory_noteWalk_76 (by decide) rfl ?_
      exact R_zret dd_Memory_noteWalk_77 rfl (by decide) k
    · replace k := k.2 c6
      refine R_ld (v := .inr (.inr 59)) dd_Memory_noteWalk_44 rfl rfl rfl rfl ?_
      refine R_gf (v := .inl (rd h 59 7)) dd_Memory_noteWalk_45 fd_3_42 io_59 (congrArg (fun z : Int => (Sum.inl z : LV)) ((rdw_ne (by decide)).trans (rdw_ne (by decide)))) rfl ?_
      refine R_ld (v := .inl (zshl 1 (rd h 59 4))) dd_Memory_noteWalk_48 rfl rfl rfl rfl ?_
      refine R_A dd_Memory_noteWalk_50 rfl rfl rfl rfl ?_
      refine R_goto dd_Memory_noteWalk_51 rfl ?_
      refine R_pf (z := (zor (rd h 59 7) (zshl 1 (rd h 59 4)))) dd_Memory_noteWalk_63 fd_3_42 io_59 fn_3_7 rfl rfl ?_
      refine R_ld (v := .inr (.inr 59)) dd_Memory_noteWalk_66 rfl rfl rfl rfl ?_
      refine R_A dd_Memory_noteWalk_67 rfl rfl rfl rfl ?_
      refine R_gf (v := .inl (rd h 59 4)) dd_Memory_noteWalk_68 fd_3_39 io_59 (congrArg (fun z : Int => (Sum.inl z : LV)) ((rdw_nei (by omega)).trans ((rdw_ne (by decide)).trans (rdw_ne (by decide))))) rfl ?_
      refine R_ic dd_Memory_noteWalk_71 (by decide) rfl ?_
      obtain ⟨s4, k⟩ := k
      refine R_iadd (c := (rd h 59 4) + 1) dd_Memory_noteWalk_72 (by omega) s4 rfl ?_
      refine R_pf (z := ((rd h 59 4) + 1)) dd_Memory_noteWalk_73 fd_3_39 io_59 fn_3_4 rfl rfl ?_
      refine R_ic dd_Memory_noteWalk_76 (by decide) rfl ?_
      exact R_zret dd_Memory_noteWalk_77 rfl (by decide) k
  · replace k := k.2 c5
    refine R_ic dd_Memory_noteWalk_9 (by decide) rfl ?_
    exact R_zret dd_Memory_noteWalk_10 rfl (by decide) k
theorem B_told_0 {xs : Nat → Int} {xl e : Nat} {h : LH} {Q : Option LV → LH → Prop} {v1 v2 v3 : Int} (hF : RF h) (he : 2 ≤ e)
    (k : (v1 < 0 →
        Q (some (.inl 0)) (wr h 182 0 0)) ∧
      (0 ≤ v1 →
        ((rd h 188 0) ≤ v1 →
          Q (some (.inl 0)) (wr h 182 0 0)) ∧
        (v1 < (rd h 188 0) →
          (v2 < 0 →
            Q (some (.inl 0)) (wr h 182 0 0)) ∧
          (0 ≤ v2 →
            ((rd h 188 0) ≤ v2 →
              Q (some (.inl 0)) (wr h 182 0 0)) ∧
            (v2 < (rd h 188 0) →
              (v1 = v2 →
                Q (some (.inl 0)) (wr h 182 0 0)) ∧
              (v1 ≠ v2 →
                ((rd h 198 34) ≠ 10 →
                  (-2147483648 ≤ 3 * (rd h 198 34) ∧ 3 * (rd h 198 34) ≤ 2147483647) ∧
                  (-2147483648 ≤ 3 * (rd h 198 34) + 35 ∧ 3 * (rd h 198 34) + 35 ≤ 2147483647) ∧
                  (0 ≤ 3 * (rd h 198 34) + 35 ∧ 3 * (rd h 198 34) + 35 < 1610) ∧
                  (-2147483648 ≤ 3 * (rd h 198 34) + 36 ∧ 3 * (rd h 198 34) + 36 ≤ 2147483647) ∧
                  (0 ≤ 3 * (rd h 198 34) + 36 ∧ 3 * (rd h 198 34) + 36 < 1610) ∧
                  (-2147483648 ≤ 3 * (rd h 198 34) + 37 ∧ 3 * (rd h 198 34) + 37 ≤ 2147483647) ∧
                  (v3 = 0 →
                    (0 ≤ 3 * (rd h 198 34) + 37 ∧ 3 * (rd h 198 34) + 37 < 1610) ∧
                    (-2147483648 ≤ (rd (wr (wr (wr (wr h 182 0 0) 198 (3 * (rd h 198 34) + 35) v1) 198 (3 * (rd h 198 34) + 36) v2) 198 (3 * (rd h 198 34) + 37) 0) 198 34) + 1 ∧ (rd (wr (wr (wr (wr h 182 0 0) 198 (3 * (rd h 198 34) + 35) v1) 198 (3 * (rd h 198 34) + 36) v2) 198 (3 * (rd h 198 34) + 37) 0) 198 34) + 1 ≤ 2147483647) ∧
                    Q (some (.inl 1)) (wr (wr (wr (wr (wr h 182 0 0) 198 (3 * (rd h 198 34) + 35) v1) 198 (3 * (rd h 198 34) + 36) v2) 198 (3 * (rd h 198 34) + 37) 0) 198 34 ((rd (wr (wr (wr (wr h 182 0 0) 198 (3 * (rd h 198 34) + 35) v1) 198 (3 * (rd h 198 34) + 36) v2) 198 (3 * (rd h 198 34) + 37) 0) 198 34) + 1))) ∧
                  (v3 ≠ 0 →
                    (0 ≤ 3 * (rd h 198 34) + 37 ∧ 3 * (rd h 198 34) + 37 < 1610) ∧
                    (-2147483648 ≤ (rd (wr (wr (wr (wr h 182 0 0) 198 (3 * (rd h 198 34) + 35) v1) 198 (3 * (rd h 198 34) + 36) v2) 198 (3 * (rd h 198 34) + 37) 1) 198 34) + 1 ∧ (rd (wr (wr (wr (wr h 182 0 0) 198 (3 * (rd h 198 34) + 35) v1) 198 (3 * (rd h 198 34) + 36) v2) 198 (3 * (rd h 198 34) + 37) 1) 198 34) + 1 ≤ 2147483647) ∧
                    Q (some (.inl 1)) (wr (wr (wr (wr (wr h 182 0 0) 198 (3 * (rd h 198 34) + 35) v1) 198 (3 * (rd h 198 34) + 36) v2) 198 (3 * (rd h 198 34) + 37) 1) 198 34 ((rd (wr (wr (wr (wr h 182 0 0) 198 (3 * (rd h 198 34) + 35) v1) 198 (3 * (rd h 198 34) + 36) v2) 198 (3 * (rd h 198 34) + 37) 1) 198 34) + 1)))) ∧
                ((rd h 198 34) = 10 →
                  Q (some (.inl 0)) (wr h 182 0 0)))))))) :
    Rn xs xl e mm_told 0 [some (.inr (.inr 182)), some (.inl v1), some (.inl v2), some (.inl v3), none] [] h Q := by
  refine R_ld (v := .inr (.inr 182)) dd_told_0 rfl rfl rfl rfl ?_
  refine R_ic dd_told_1 (by decide) rfl ?_
  refine R_pf (z := 0) dd_told_2 fd_12_1 io_182 fn_12_0 rfl rfl ?_
  refine R_ld (v := .inr (.inr 182)) dd_told_5 rfl rfl rfl rfl ?_
  refine R_ld (v := .inl v1) dd_told_6 rfl rfl rfl rfl ?_
  refine R_call (as := [.inr (.inr 182), .inl v1]) (rest := []) (M' := mm_isRoom) (ls0 := [some (.inr (.inr 182)), some (.inl v1)]) dd_told_7 rfl rfl (cw_v cw_12_370 io_182 rfl rfl (Nat.le_of_ble_eq_true rfl) (Nat.le_of_ble_eq_true rfl)) mt_isRoom rfl (c := e - 1) (by omega) rfl ?_
  refine R_ld (v := .inl v1) dd_isRoom_0 rfl rfl rfl rfl ?_
  refine R_if dd_isRoom_1 rfl rfl (fun (c11 : v1 < 0) => ?_) (fun (c11 : 0 ≤ v1) => ?_)
  · replace k := k.1 c11
    refine R_ic dd_isRoom_16 (by decide) rfl ?_
    refine R_zret dd_isRoom_17 rfl (by decide) ?_
    change Rn xs xl e mm_told 10 [some (.inr (.inr 182)), some (.inl v1), some (.inl v2), some (.inl v3), none] [.inl 0] (wr h 182 0 0) _
    refine R_if dd_told_10 rfl rfl (fun (c12 : 0 = 0) => ?_) (fun (c12 : 0 ≠ 0) => ?_)
    · skip
      refine R_ic dd_told_38 (by decide) rfl ?_
      exact R_zret dd_told_39 rfl (by decide) k
    · exact absurd c12 (by omega)
  · replace k := k.2 c11
    refine R_ld (v := .inl v1) dd_isRoom_4 rfl rfl rfl rfl ?_
    refine R_ld (v := .inr (.inr 182)) dd_isRoom_5 rfl rfl rfl rfl ?_
    refine R_call (as := [.inr (.inr 182)]) (rest := [.inl v1]) (M' := mm_rooms) (ls0 := [some (.inr (.inr 182))]) dd_isRoom_6 rfl rfl (cw_v cw_12_332 io_182 rfl rfl (Nat.le_of_ble_eq_true rfl) (Nat.le_of_ble_eq_true rfl)) mt_rooms rfl (c := e - 2) (by omega) rfl ?_
    refine R_ld (v := .inr (.inr 182)) dd_rooms_0 rfl rfl rfl rfl ?_
    refine R_gf (v := .inr (.inr 188)) dd_rooms_1 fd_12_95 io_182 (congrArg (fun z : Int => (Sum.inr (Sum.inr z) : LV)) ((rdw_nei (by omega)).trans (rf_182_10 hF))) rfl ?_
    refine R_ic dd_rooms_4 (by decide) rfl ?_
    refine R_iald (v := (rd h 188 0)) (n := 300) dd_rooms_5 ia_188 la_188 (by decide) (rdw_ne (by decide)) rfl ?_
    refine R_iret dd_rooms_6 rfl ?_
    change Rn xs xl (e - 1) mm_isRoom 9 [some (.inr (.inr 182)), some (.inl v1)] [.inl (rd h 188 0), .inl v1] (wr h 182 0 0) _
    refine R_icmp dd_isRoom_9 rfl rfl (fun (c13 : (rd h 188 0) ≤ v1) => ?_) (fun (c13 : v1 < (rd h 188 0)) => ?_)
    · replace k := k.1 c13
      refine R_ic dd_isRoom_16 (by decide) rfl ?_
      refine R_zret dd_isRoom_17 rfl (by decide) ?_
      change Rn xs xl e mm_told 10 [some (.inr (.inr 182)), some (.inl v1), some (.inl v2), some (.inl v3), none] [.inl 0] (wr h 182 0 0) _
      refine R_if dd_told_10 rfl rfl (fun (c14 : 0 = 0) => ?_) (fun (c14 : 0 ≠ 0) => ?_)
      · skip
        refine R_ic dd_told_38 (by decide) rfl ?_
        exact R_zret dd_told_39 rfl (by decide) k
      · exact absurd c14 (by omega)
    · replace k := k.2 c13
      refine R_ic dd_isRoom_12 (by decide) rfl ?_
      refine R_goto dd_isRoom_13 rfl ?_
      refine R_zret dd_isRoom_17 rfl (by decide) ?_
      change Rn xs xl e mm_told 10 [some (.inr (.inr 182)), some (.inl v1), some (.inl v2), some (.inl v3), none] [.inl 1] (wr h 182 0 0) _
      refine R_if dd_told_10 rfl rfl (fun (c15 : 1 = 0) => ?_) (fun (c15 : 1 ≠ 0) => ?_)
      · exact absurd c15 (by omega)
      · skip
        refine R_ld (v := .inr (.inr 182)) dd_told_13 rfl rfl rfl rfl ?_
        refine R_ld (v := .inl v2) dd_told_14 rfl rfl rfl rfl ?_
        refine R_call (as := [.inr (.inr 182), .inl v2]) (rest := []) (M' := mm_isRoom) (ls0 := [some (.inr (.inr 182)), some (.inl v2)]) dd_told_15 rfl rfl (cw_v cw_12_370 io_182 rfl rfl (Nat.le_of_ble_eq_true rfl) (Nat.le_of_ble_eq_true rfl)) mt_isRoom rfl (c := e - 1) (by omega) rfl ?_
        refine R_ld (v := .inl v2) dd_isRoom_0 rfl rfl rfl rfl ?_
        refine R_if dd_isRoom_1 rfl rfl (fun (c16 : v2 < 0) => ?_) (fun (c16 : 0 ≤ v2) => ?_)
        · replace k := k.1 c16
          refine R_ic dd_isRoom_16 (by decide) rfl ?_
          refine R_zret dd_isRoom_17 rfl (by decide) ?_
          change Rn xs xl e mm_told 18 [some (.inr (.inr 182)), some (.inl v1), some (.inl v2), some (.inl v3), none] [.inl 0] (wr h 182 0 0) _
          refine R_if dd_told_18 rfl rfl (fun (c17 : 0 = 0) => ?_) (fun (c17 : 0 ≠ 0) => ?_)
          · skip
            refine R_ic dd_told_38 (by decide) rfl ?_
            exact R_zret dd_told_39 rfl (by decide) k
          · exact absurd c17 (by omega)
        · replace k := k.2 c16
          refine R_ld (v := .inl v2) dd_isRoom_4 rfl rfl rfl rfl ?_
          refine R_ld (v := .inr (.inr 182)) dd_isRoom_5 rfl rfl rfl rfl ?_
          refine R_call (as := [.inr (.inr 182)]) (rest := [.inl v2]) (M' := mm_rooms) (ls0 := [some (.inr (.inr 182))]) dd_isRoom_6 rfl rfl (cw_v cw_12_332 io_182 rfl rfl (Nat.le_of_ble_eq_true rfl) (Nat.le_of_ble_eq_true rfl)) mt_rooms rfl (c := e - 2) (by omega) rfl ?_
          refine R_ld (v := .inr (.inr 182)) dd_rooms_0 rfl rfl rfl rfl ?_
          refine R_gf (v := .inr (.inr 188)) dd_rooms_1 fd_12_95 io_182 (congrArg (fun z : Int => (Sum.inr (Sum.inr z) : LV)) ((rdw_nei (by omega)).trans (rf_182_10 hF))) rfl ?_
          refine R_ic dd_rooms_4 (by decide) rfl ?_
          refine R_iald (v := (rd h 188 0)) (n := 300) dd_rooms_5 ia_188 la_188 (by decide) (rdw_ne (by decide)) rfl ?_
          refine R_iret dd_rooms_6 rfl ?_
          change Rn xs xl (e - 1) mm_isRoom 9 [some (.inr (.inr 182)), some (.inl v2)] [.inl (rd h 188 0), .inl v2] (wr h 182 0 0) _
          refine R_icmp dd_isRoom_9 rfl rfl (fun (c18 : (rd h 188 0) ≤ v2) => ?_) (fun (c18 : v2 < (rd h 188 0)) => ?_)
          · replace k := k.1 c18
            refine R_ic dd_isRoom_16 (by decide) rfl ?_
            refine R_zret dd_isRoom_17 rfl (by decide) ?_
            change Rn xs xl e mm_told 18 [some (.inr (.inr 182)), some (.inl v1), some (.inl v2), some (.inl v3), none] [.inl 0] (wr h 182 0 0) _
            refine R_if dd_told_18 rfl rfl (fun (c19 : 0 = 0) => ?_) (fun (c19 : 0 ≠ 0) => ?_)
            · skip
              refine R_ic dd_told_38 (by decide) rfl ?_
              exact R_zret dd_told_39 rfl (by decide) k
            · exact absurd c19 (by omega)
          · replace k := k.2 c18
            refine R_ic dd_isRoom_12 (by decide) rfl ?_
            refine R_goto dd_isRoom_13 rfl ?_
            refine R_zret dd_isRoom_17 rfl (by decide) ?_
            change Rn xs xl e mm_told 18 [some (.inr (.inr 182)), some (.inl v1), some (.inl v2), some (.inl v3), none] [.inl 1] (wr h 182 0 0) _
            refine R_if dd_told_18 rfl rfl (fun (c20 : 1 = 0) => ?_) (fun (c20 : 1 ≠ 0) => ?_)
            · exact absurd c20 (by omega)
            · skip
              refine R_ld (v := .inl v1) dd_told_21 rfl rfl rfl rfl ?_
              refine R_ld (v := .inl v2) dd_told_22 rfl rfl rfl rfl ?_
              refine R_icmp dd_told_23 rfl rfl (fun (c21 : v1 = v2) => ?_) (fun (c21 : v1 ≠ v2) => ?_)
              · replace k := k.1 c21
                refine R_ic dd_told_38 (by decide) rfl ?_
                exact R_zret dd_told_39 rfl (by decide) k
              · replace k := k.2 c21
                refine R_ld (v := .inr (.inr 182)) dd_told_26 rfl rfl rfl rfl ?_
                refine R_gf (v := .inr (.inr 198)) dd_told_27 fd_12_125 io_182 (congrArg (fun z : Int => (Sum.inr (Sum.inr z) : LV)) ((rdw_nei (by omega)).trans (rf_182_24 hF))) rfl ?_
                refine R_bi dd_told_30 (by decide) rfl ?_
                refine R_iald (v := (rd h 198 34)) (n := 1610) dd_told_32 ia_198 la_198 (by decide) (rdw_ne (by decide)) rfl ?_
                refine R_bi dd_told_33 (by decide) rfl ?_
                refine R_icmp dd_told_35 rfl rfl (fun (c22 : (rd h 198 34) ≠ 10) => ?_) (fun (c22 : (rd h 198 34) = 10) => ?_)
                · replace k := k.1 c22
                  refine R_bi dd_told_40 (by decide) rfl ?_
                  refine R_ic dd_told_42 (by decide) rfl ?_
                  refine R_ld (v := .inr (.inr 182)) dd_told_43 rfl rfl rfl rfl ?_
                  refine R_gf (v := .inr (.inr 198)) dd_told_44 fd_12_125 io_182 (congrArg (fun z : Int => (Sum.inr (Sum.inr z) : LV)) ((rdw_nei (by omega)).trans (rf_182_24 hF))) rfl ?_
                  refine R_bi dd_told_47 (by decide) rfl ?_
                  refine R_iald (v := (rd h 198 34)) (n := 1610) dd_told_49 ia_198 la_198 (by decide) (rdw_ne (by decide)) rfl ?_
                  obtain ⟨s1, k⟩ := k
                  refine R_imul (c := 3 * (rd h 198 34)) dd_told_50 (by omega) s1 rfl ?_
                  obtain ⟨s2, k⟩ := k
                  refine R_iadd (c := 3 * (rd h 198 34) + 35) dd_told_51 (by omega) s2 rfl ?_
                  refine R_st (ls' := [some (.inr (.inr 182)), some (.inl v1), some (.inl v2), some (.inl v3), some (.inl (3 * (rd h 198 34) + 35))]) dd_told_52 rfl rfl rfl (Nat.le_of_ble_eq_true rfl) rfl rfl ?_
                  refine R_ld (v := .inr (.inr 182)) dd_told_54 rfl rfl rfl rfl ?_
                  refine R_gf (v := .inr (.inr 198)) dd_told_55 fd_12_125 io_182 (congrArg (fun z : Int => (Sum.inr (Sum.inr z) : LV)) ((rdw_nei (by omega)).trans (rf_182_24 hF))) rfl ?_
                  refine R_ld (v := .inl (3 * (rd h 198 34) + 35)) dd_told_58 rfl rfl rfl rfl ?_
                  refine R_ld (v := .inl v1) dd_told_60 rfl rfl rfl rfl ?_
                  obtain ⟨s3, k⟩ := k
                  refine R_iast (n := 1610) dd_told_61 ia_198 la_198 s3 rfl ?_
                  refine R_ld (v := .inr (.inr 182)) dd_told_62 rfl rfl rfl rfl ?_
                  refine R_gf (v := .inr (.inr 198)) dd_told_63 fd_12_125 io_182 (congrArg (fun z : Int => (Sum.inr (Sum.inr z) : LV)) ((rdw_ne (by decide)).trans ((rdw_nei (by omega)).trans (rf_182_24 hF)))) rfl ?_
                  refine R_ld (v := .inl (3 * (rd h 198 34) + 35)) dd_told_66 rfl rfl rfl rfl ?_
                  refine R_ic dd_told_68 (by decide) rfl ?_
                  obtain ⟨s4, k⟩ := k
                  refine R_iadd (c := 3 * (rd h 198 34) + 36) dd_told_69 (by omega) s4 rfl ?_
                  refine R_ld (v := .inl v2) dd_told_70 rfl rfl rfl rfl ?_
                  obtain ⟨s5, k⟩ := k
                  refine R_iast (n := 1610) dd_told_71 ia_198 la_198 s5 rfl ?_
                  refine R_ld (v := .inr (.inr 182)) dd_told_72 rfl rfl rfl rfl ?_
                  refine R_gf (v := .inr (.inr 198)) dd_told_73 fd_12_125 io_182 (congrArg (fun z : Int => (Sum.inr (Sum.inr z) : LV)) ((rdw_ne (by decide)).trans ((rdw_ne (by decide)).trans ((rdw_nei (by omega)).trans (rf_182_24 hF))))) rfl ?_
                  refine R_ld (v := .inl (3 * (rd h 198 34) + 35)) dd_told_76 rfl rfl rfl rfl ?_
                  refine R_ic dd_told_78 (by decide) rfl ?_
                  obtain ⟨s6, k⟩ := k
                  refine R_iadd (c := 3 * (rd h 198 34) + 37) dd_told_79 (by omega) s6 rfl ?_
                  refine R_ld (v := .inl v3) dd_told_80 rfl rfl rfl rfl ?_
                  refine R_if dd_told_81 rfl rfl (fun (c23 : v3 = 0) => ?_) (fun (c23 : v3 ≠ 0) => ?_)
                  · replace k := k.1 c23
                    refine R_ic dd_told_88 (by decide) rfl ?_
                    obtain ⟨s7, k⟩ := k
                    refine R_iast (n := 1610) dd_told_89 ia_198 la_198 s7 rfl ?_
                    refine R_ld (v := .inr (.inr 182)) dd_told_90 rfl rfl rfl rfl ?_
                    refine R_gf (v := .inr (.inr 198)) dd_told_91 fd_12_125 io_182 (congrArg (fun z : Int => (Sum.inr (Sum.inr z) : LV)) ((rdw_ne (by decide)).trans ((rdw_ne (by decide)).trans ((rdw_ne (by decide)).trans ((rdw_nei (by omega)).trans (rf_182_24 hF)))))) rfl ?_
                    refine R_bi dd_told_94 (by decide) rfl ?_
                    refine R_A dd_told_96 rfl rfl rfl rfl ?_
                    refine R_iald (v := (rd (wr (wr (wr (wr h 182 0 0) 198 (3 * (rd h 198 34) + 35) v1) 198 (3 * (rd h 198 34) + 36) v2) 198 (3 * (rd h 198 34) + 37) 0) 198 34)) (n := 1610) dd_told_97 ia_198 la_198 (by decide) (rfl) rfl ?_
                    refine R_ic dd_told_98 (by decide) rfl ?_
                    obtain ⟨s8, k⟩ := k
                    refine R_iadd (c := (rd (wr (wr (wr (wr h 182 0 0) 198 (3 * (rd h 198 34) + 35) v1) 198 (3 * (rd h 198 34) + 36) v2) 198 (3 * (rd h 198 34) + 37) 0) 198 34) + 1) dd_told_99 (by omega) s8 rfl ?_
                    refine R_iast (n := 1610) dd_told_100 ia_198 la_198 (by decide) rfl ?_
                    refine R_ic dd_told_101 (by decide) rfl ?_
                    exact R_zret dd_told_102 rfl (by decide) k
                  · replace k := k.2 c23
                    refine R_ic dd_told_84 (by decide) rfl ?_
                    refine R_goto dd_told_85 rfl ?_
                    obtain ⟨s9, k⟩ := k
                    refine R_iast (n := 1610) dd_told_89 ia_198 la_198 s9 rfl ?_
                    refine R_ld (v := .inr (.inr 182)) dd_told_90 rfl rfl rfl rfl ?_
                    refine R_gf (v := .inr (.inr 198)) dd_told_91 fd_12_125 io_182 (congrArg (fun z : Int => (Sum.inr (Sum.inr z) : LV)) ((rdw_ne (by decide)).trans ((rdw_ne (by decide)).trans ((rdw_ne (by decide)).trans ((rdw_nei (by omega)).trans (rf_182_24 hF)))))) rfl ?_
                    refine R_bi dd_told_94 (by decide) rfl ?_
                    refine R_A dd_told_96 rfl rfl rfl rfl ?_
                    refine R_iald (v := (rd (wr (wr (wr (wr h 182 0 0) 198 (3 * (rd h 198 34) + 35) v1) 198 (3 * (rd h 198 34) + 36) v2) 198 (3 * (rd h 198 34) + 37) 1) 198 34)) (n := 1610) dd_told_97 ia_198 la_198 (by decide) (rfl) rfl ?_
                    refine R_ic dd_told_98 (by decide) rfl ?_
                    obtain ⟨s10, k⟩ := k
                    refine R_iadd (c := (rd (wr (wr (wr (wr h 182 0 0) 198 (3 * (rd h 198 34) + 35) v1) 198 (3 * (rd h 198 34) + 36) v2) 198 (3 * (rd h 198 34) + 37) 1) 198 34) + 1) dd_told_99 (by omega) s10 rfl ?_
                    refine R_iast (n := 1610) dd_told_100 ia_198 la_198 (by decide) rfl ?_
                    refine R_ic dd_told_101 (by decide) rfl ?_
                    exact R_zret dd_told_102 rfl (by decide) k
                · replace k := k.2 c22
                  refine R_ic dd_told_38 (by decide) rfl ?_
                  exact R_zret dd_told_39 rfl (by decide) k
