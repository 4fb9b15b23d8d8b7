section
/-! LM, by program (wip/p2/hand.py): rows of mark, told, begin -/
def mm_Scene_begin : LM_M := (⟨"OneSided$Scene", "begin", "(LOneSided$Quarter;)V"⟩, prog_11_method_2_code, 4, none, 9, 2, 0, 730, 728, 729)
def mm_Memory_noteWalk : LM_M := (⟨"OneSided$Memory", "noteWalk", "(IIZ)Z"⟩, prog_5_method_7_code, 5, (some .boolean), 3, 4, 0, 1026, 1024, 1025)
theorem dd_Memory_begin_0 : decode mm_Memory_begin.2.1 0 = .ok (.aload_n 0, 1) := by decide +kernel
theorem dd_Memory_begin_1 : decode mm_Memory_begin.2.1 1 = .ok (.getfield 12, 3) := by decide +kernel
theorem dd_Memory_begin_4 : decode mm_Memory_begin.2.1 4 = .ok (.aload_n 1, 1) := by decide +kernel
theorem dd_Memory_begin_5 : decode mm_Memory_begin.2.1 5 = .ok (.invokevirtual 31, 3) := by decide +kernel
theorem cw_3_31 : cwOk 3 31 0 52 2 4 9 = true := by decide +kernel
theorem mt_Scene_begin : MTB 52 = some mm_Scene_begin := rfl
theorem dd_Memory_begin_8 : decode mm_Memory_begin.2.1 8 = .ok (.aload_n 0, 1) := by decide +kernel
theorem dd_Memory_begin_9 : decode mm_Memory_begin.2.1 9 = .ok (.iconst 0, 1) := by decide +kernel
theorem dd_Memory_begin_10 : decode mm_Memory_begin.2.1 10 = .ok (.putfield 35, 3) := by decide +kernel
theorem dd_Memory_begin_13 : decode mm_Memory_begin.2.1 13 = .ok (.aload_n 0, 1) := by decide +kernel
theorem dd_Memory_begin_14 : decode mm_Memory_begin.2.1 14 = .ok (.iconst 0, 1) := by decide +kernel
theorem dd_Memory_begin_15 : decode mm_Memory_begin.2.1 15 = .ok (.putfield 39, 3) := by decide +kernel
theorem dd_Memory_begin_18 : decode mm_Memory_begin.2.1 18 = .ok (.aload_n 0, 1) := by decide +kernel
theorem dd_Memory_begin_19 : decode mm_Memory_begin.2.1 19 = .ok (.iconst 0, 1) := by decide +kernel
theorem dd_Memory_begin_20 : decode mm_Memory_begin.2.1 20 = .ok (.putfield 42, 3) := by decide +kernel
theorem dd_Memory_begin_23 : decode mm_Memory_begin.2.1 23 = .ok (.return_, 1) := by decide +kernel
theorem dd_OneSided_mark_0 : decode mm_OneSided_mark.2.1 0 = .ok (.iload_n 1, 1) := by decide +kernel
theorem dd_OneSided_mark_1 : decode mm_OneSided_mark.2.1 1 = .ok (.ifCond .lt (8), 3) := by decide +kernel
theorem dd_OneSided_mark_9 : decode mm_OneSided_mark.2.1 9 = .ok (.iconst 0, 1) := by decide +kernel
theorem dd_OneSided_mark_10 : decode mm_OneSided_mark.2.1 10 = .ok (.ireturn, 1) := by decide +kernel
theorem dd_OneSided_mark_4 : decode mm_OneSided_mark.2.1 4 = .ok (.iload_n 1, 1) := by decide +kernel
theorem dd_OneSided_mark_5 : decode mm_OneSided_mark.2.1 5 = .ok (.iconst 4, 1) := by decide +kernel
theorem dd_OneSided_mark_6 : decode mm_OneSided_mark.2.1 6 = .ok (.if_icmp .lt (5), 3) := by decide +kernel
theorem dd_OneSided_mark_11 : decode mm_OneSided_mark.2.1 11 = .ok (.iload_n 2, 1) := by decide +kernel
theorem dd_OneSided_mark_12 : decode mm_OneSided_mark.2.1 12 = .ok (.ifCond .ne (30), 3) := by decide +kernel
theorem dd_OneSided_mark_15 : decode mm_OneSided_mark.2.1 15 = .ok (.aload_n 0, 1) := by decide +kernel
theorem dd_OneSided_mark_16 : decode mm_OneSided_mark.2.1 16 = .ok (.getfield 36, 3) := by decide +kernel
theorem fd_11_36 : fld 11 36 = some (11, 5) := by decide +kernel
theorem rf_1_5 {h : LH} (hF : RF h) : rd h 1 5 = 75 := hF 1 5 75 (by decide +kernel) (by decide +kernel)
theorem dd_OneSided_mark_19 : decode mm_OneSided_mark.2.1 19 = .ok (.iload_n 1, 1) := by decide +kernel
theorem dd_OneSided_mark_20 : decode mm_OneSided_mark.2.1 20 = .ok (.aaload, 1) := by decide +kernel
theorem ia_75 : isA NC 75 5 = true := by decide +kernel
theorem la_75 : (lay (75 : Int).toNat).2.2 = 4 := by decide +kernel
theorem dd_OneSided_mark_21 : decode mm_OneSided_mark.2.1 21 = .ok (.aload_n 0, 1) := by decide +kernel
theorem dd_OneSided_mark_22 : decode mm_OneSided_mark.2.1 22 = .ok (.getfield 29, 3) := by decide +kernel
theorem dd_OneSided_mark_25 : decode mm_OneSided_mark.2.1 25 = .ok (.invokevirtual 352, 3) := by decide +kernel
theorem cw_11_352 : cwOk 11 352 0 153 2 2 3 = true := by decide +kernel
theorem mt_Memory_copy : MTB 153 = some mm_Memory_copy := rfl
theorem dd_OneSided_mark_28 : decode mm_OneSided_mark.2.1 28 = .ok (.aload_n 0, 1) := by decide +kernel
theorem dd_OneSided_mark_29 : decode mm_OneSided_mark.2.1 29 = .ok (.dup, 1) := by decide +kernel
theorem dd_OneSided_mark_30 : decode mm_OneSided_mark.2.1 30 = .ok (.getfield 101, 3) := by decide +kernel
theorem dd_OneSided_mark_33 : decode mm_OneSided_mark.2.1 33 = .ok (.iconst 1, 1) := by decide +kernel
theorem dd_OneSided_mark_34 : decode mm_OneSided_mark.2.1 34 = .ok (.iload_n 1, 1) := by decide +kernel
theorem dd_OneSided_mark_35 : decode mm_OneSided_mark.2.1 35 = .ok (.ishl, 1) := by decide +kernel
theorem dd_OneSided_mark_36 : decode mm_OneSided_mark.2.1 36 = .ok (.ior, 1) := by decide +kernel
theorem dd_OneSided_mark_37 : decode mm_OneSided_mark.2.1 37 = .ok (.putfield 101, 3) := by decide +kernel
theorem dd_OneSided_mark_40 : decode mm_OneSided_mark.2.1 40 = .ok (.iconst 1, 1) := by decide +kernel
theorem dd_OneSided_mark_41 : decode mm_OneSided_mark.2.1 41 = .ok (.ireturn, 1) := by decide +kernel
theorem dd_OneSided_mark_42 : decode mm_OneSided_mark.2.1 42 = .ok (.aload_n 0, 1) := by decide +kernel
theorem dd_OneSided_mark_43 : decode mm_OneSided_mark.2.1 43 = .ok (.getfield 101, 3) := by decide +kernel
theorem dd_OneSided_mark_46 : decode mm_OneSided_mark.2.1 46 = .ok (.iload_n 1, 1) := by decide +kernel
theorem dd_OneSided_mark_47 : decode mm_OneSided_mark.2.1 47 = .ok (.ishr, 1) := by decide +kernel
theorem dd_OneSided_mark_48 : decode mm_OneSided_mark.2.1 48 = .ok (.iconst 1, 1) := by decide +kernel
theorem dd_OneSided_mark_49 : decode mm_OneSided_mark.2.1 49 = .ok (.iand, 1) := by decide +kernel
theorem dd_OneSided_mark_50 : decode mm_OneSided_mark.2.1 50 = .ok (.ifCond .ne (5), 3) := by decide +kernel
theorem dd_OneSided_mark_55 : decode mm_OneSided_mark.2.1 55 = .ok (.aload_n 0, 1) := by decide +kernel
theorem dd_OneSided_mark_56 : decode mm_OneSided_mark.2.1 56 = .ok (.getfield 29, 3) := by decide +kernel
theorem dd_OneSided_mark_59 : decode mm_OneSided_mark.2.1 59 = .ok (.aload_n 0, 1) := by decide +kernel
theorem dd_OneSided_mark_60 : decode mm_OneSided_mark.2.1 60 = .ok (.getfield 36, 3) := by decide +kernel
theorem dd_OneSided_mark_63 : decode mm_OneSided_mark.2.1 63 = .ok (.iload_n 1, 1) := by decide +kernel
theorem dd_OneSided_mark_64 : decode mm_OneSided_mark.2.1 64 = .ok (.aaload, 1) := by decide +kernel
theorem dd_OneSided_mark_65 : decode mm_OneSided_mark.2.1 65 = .ok (.invokevirtual 352, 3) := by decide +kernel
theorem dd_OneSided_mark_53 : decode mm_OneSided_mark.2.1 53 = .ok (.iconst 0, 1) := by decide +kernel
theorem dd_OneSided_mark_54 : decode mm_OneSided_mark.2.1 54 = .ok (.ireturn, 1) := by decide +kernel
theorem dd_OneSided_mark_68 : decode mm_OneSided_mark.2.1 68 = .ok (.aload_n 0, 1) := by decide +kernel
theorem dd_OneSided_mark_69 : decode mm_OneSided_mark.2.1 69 = .ok (.iconst 0, 1) := by decide +kernel
theorem dd_OneSided_mark_70 : decode mm_OneSided_mark.2.1 70 = .ok (.putfield 104, 3) := by decide +kernel
theorem dd_OneSided_mark_73 : decode mm_OneSided_mark.2.1 73 = .ok (.iconst 1, 1) := by decide +kernel
theorem dd_OneSided_mark_74 : decode mm_OneSided_mark.2.1 74 = .ok (.ireturn, 1) := by decide +kernel
theorem dd_OneSided_told_0 : decode mm_OneSided_told.2.1 0 = .ok (.aload_n 0, 1) := by decide +kernel
theorem dd_OneSided_told_1 : decode mm_OneSided_told.2.1 1 = .ok (.iload_n 1, 1) := by decide +kernel
theorem dd_OneSided_told_2 : decode mm_OneSided_told.2.1 2 = .ok (.invokevirtual 190, 3) := by decide +kernel
theorem dd_OneSided_told_5 : decode mm_OneSided_told.2.1 5 = .ok (.ifCond .eq (16), 3) := by decide +kernel
theorem dd_OneSided_told_21 : decode mm_OneSided_told.2.1 21 = .ok (.iconst 0, 1) := by decide +kernel
theorem dd_OneSided_told_22 : decode mm_OneSided_told.2.1 22 = .ok (.ireturn, 1) := by decide +kernel
theorem dd_OneSided_told_8 : decode mm_OneSided_told.2.1 8 = .ok (.aload_n 0, 1) := by decide +kernel
theorem dd_OneSided_told_9 : decode mm_OneSided_told.2.1 9 = .ok (.iload_n 2, 1) := by decide +kernel
theorem dd_OneSided_told_10 : decode mm_OneSided_told.2.1 10 = .ok (.invokevirtual 190, 3) := by decide +kernel
theorem dd_OneSided_told_13 : decode mm_OneSided_told.2.1 13 = .ok (.ifCond .eq (8), 3) := by decide +kernel
theorem dd_OneSided_told_16 : decode mm_OneSided_told.2.1 16 = .ok (.iload_n 1, 1) := by decide +kernel
theorem dd_OneSided_told_17 : decode mm_OneSided_told.2.1 17 = .ok (.iload_n 2, 1) := by decide +kernel
theorem dd_OneSided_told_18 : decode mm_OneSided_told.2.1 18 = .ok (.if_icmp .ne (5), 3) := by decide +kernel
theorem dd_OneSided_told_23 : decode mm_OneSided_told.2.1 23 = .ok (.aload_n 0, 1) := by decide +kernel
theorem dd_OneSided_told_24 : decode mm_OneSided_told.2.1 24 = .ok (.getfield 29, 3) := by decide +kernel
theorem dd_OneSided_told_27 : decode mm_OneSided_told.2.1 27 = .ok (.iload_n 1, 1) := by decide +kernel
theorem dd_OneSided_told_28 : decode mm_OneSided_told.2.1 28 = .ok (.iload_n 2, 1) := by decide +kernel
theorem dd_OneSided_told_29 : decode mm_OneSided_told.2.1 29 = .ok (.iload_n 3, 1) := by decide +kernel
theorem dd_OneSided_told_30 : decode mm_OneSided_told.2.1 30 = .ok (.invokevirtual 288, 3) := by decide +kernel
theorem cw_11_288 : cwOk 11 288 0 119 4 5 3 = true := by decide +kernel
theorem mt_Memory_noteWalk : MTB 119 = some mm_Memory_noteWalk := rfl
theorem dd_OneSided_told_33 : decode mm_OneSided_told.2.1 33 = .ok (.ireturn, 1) := by decide +kernel
theorem dd_Memory_noteWalk_0 : decode mm_Memory_noteWalk.2.1 0 = .ok (.aload_n 0, 1) := by decide +kernel
theorem dd_Memory_noteWalk_1 : decode mm_Memory_noteWalk.2.1 1 = .ok (.getfield 39, 3) := by decide +kernel
theorem dd_Memory_noteWalk_4 : decode mm_Memory_noteWalk.2.1 4 = .ok (.bipush 10, 2) := by decide +kernel
theorem dd_Memory_noteWalk_6 : decode mm_Memory_noteWalk.2.1 6 = .ok (.if_icmp .lt (5), 3) := by decide +kernel
theorem dd_Memory_noteWalk_11 : decode mm_Memory_noteWalk.2.1 11 = .ok (.aload_n 0, 1) := by decide +kernel
theorem dd_Memory_noteWalk_12 : decode mm_Memory_noteWalk.2.1 12 = .ok (.getfield 25, 3) := by decide +kernel
theorem dd_Memory_noteWalk_15 : decode mm_Memory_noteWalk.2.1 15 = .ok (.aload_n 0, 1) := by decide +kernel
theorem dd_Memory_noteWalk_16 : decode mm_Memory_noteWalk.2.1 16 = .ok (.getfield 39, 3) := by decide +kernel
theorem dd_Memory_noteWalk_19 : decode mm_Memory_noteWalk.2.1 19 = .ok (.iload_n 1, 1) := by decide +kernel
theorem dd_Memory_noteWalk_20 : decode mm_Memory_noteWalk.2.1 20 = .ok (.iastore, 1) := by decide +kernel
theorem dd_Memory_noteWalk_21 : decode mm_Memory_noteWalk.2.1 21 = .ok (.aload_n 0, 1) := by decide +kernel
theorem dd_Memory_noteWalk_22 : decode mm_Memory_noteWalk.2.1 22 = .ok (.getfield 28, 3) := by decide +kernel
theorem dd_Memory_noteWalk_25 : decode mm_Memory_noteWalk.2.1 25 = .ok (.aload_n 0, 1) := by decide +kernel
theorem dd_Memory_noteWalk_26 : decode mm_Memory_noteWalk.2.1 26 = .ok (.getfield 39, 3) := by decide +kernel
theorem dd_Memory_noteWalk_29 : decode mm_Memory_noteWalk.2.1 29 = .ok (.iload_n 2, 1) := by decide +kernel
theorem dd_Memory_noteWalk_30 : decode mm_Memory_noteWalk.2.1 30 = .ok (.iastore, 1) := by decide +kernel
theorem dd_Memory_noteWalk_31 : decode mm_Memory_noteWalk.2.1 31 = .ok (.iconst 1, 1) := by decide +kernel
theorem dd_Memory_noteWalk_32 : decode mm_Memory_noteWalk.2.1 32 = .ok (.aload_n 0, 1) := by decide +kernel
theorem dd_Memory_noteWalk_33 : decode mm_Memory_noteWalk.2.1 33 = .ok (.getfield 39, 3) := by decide +kernel
theorem dd_Memory_noteWalk_36 : decode mm_Memory_noteWalk.2.1 36 = .ok (.ishl, 1) := by decide +kernel
theorem dd_Memory_noteWalk_37 : decode mm_Memory_noteWalk.2.1 37 = .ok (.istore 4, 2) := by decide +kernel
theorem dd_Memory_noteWalk_39 : decode mm_Memory_noteWalk.2.1 39 = .ok (.aload_n 0, 1) := by decide +kernel
theorem dd_Memory_noteWalk_40 : decode mm_Memory_noteWalk.2.1 40 = .ok (.iload_n 3, 1) := by decide +kernel
theorem dd_Memory_noteWalk_41 : decode mm_Memory_noteWalk.2.1 41 = .ok (.ifCond .eq (13), 3) := by decide +kernel
theorem dd_Memory_noteWalk_54 : decode mm_Memory_noteWalk.2.1 54 = .ok (.aload_n 0, 1) := by decide +kernel
theorem dd_Memory_noteWalk_55 : decode mm_Memory_noteWalk.2.1 55 = .ok (.getfield 42, 3) := by decide +kernel
theorem dd_Memory_noteWalk_58 : decode mm_Memory_noteWalk.2.1 58 = .ok (.iload 4, 2) := by decide +kernel
theorem dd_Memory_noteWalk_60 : decode mm_Memory_noteWalk.2.1 60 = .ok (.iconst (-1), 1) := by decide +kernel
theorem dd_Memory_noteWalk_61 : decode mm_Memory_noteWalk.2.1 61 = .ok (.ixor, 1) := by decide +kernel
theorem dd_Memory_noteWalk_62 : decode mm_Memory_noteWalk.2.1 62 = .ok (.iand, 1) := by decide +kernel
theorem dd_Memory_noteWalk_63 : decode mm_Memory_noteWalk.2.1 63 = .ok (.putfield 42, 3) := by decide +kernel
theorem dd_Memory_noteWalk_66 : decode mm_Memory_noteWalk.2.1 66 = .ok (.aload_n 0, 1) := by decide +kernel
theorem dd_Memory_noteWalk_67 : decode mm_Memory_noteWalk.2.1 67 = .ok (.dup, 1) := by decide +kernel
theorem dd_Memory_noteWalk_68 : decode mm_Memory_noteWalk.2.1 68 = .ok (.getfield 39, 3) := by decide +kernel
theorem dd_Memory_noteWalk_71 : decode mm_Memory_noteWalk.2.1 71 = .ok (.iconst 1, 1) := by decide +kernel
theorem dd_Memory_noteWalk_72 : decode mm_Memory_noteWalk.2.1 72 = .ok (.iadd, 1) := by decide +kernel
theorem dd_Memory_noteWalk_73 : decode mm_Memory_noteWalk.2.1 73 = .ok (.putfield 39, 3) := by decide +kernel
theorem dd_Memory_noteWalk_76 : decode mm_Memory_noteWalk.2.1 76 = .ok (.iconst 1, 1) := by decide +kernel
theorem dd_Memory_noteWalk_77 : decode mm_Memory_noteWalk.2.1 77 = .ok (.ireturn, 1) := by decide +kernel
theorem dd_Memory_noteWalk_44 : decode mm_Memory_noteWalk.2.1 44 = .ok (.aload_n 0, 1) := by decide +kernel
theorem dd_Memory_noteWalk_45 : decode mm_Memory_noteWalk.2.1 45 = .ok (.getfield 42, 3) := by decide +kernel
theorem dd_Memory_noteWalk_48 : decode mm_Memory_noteWalk.2.1 48 = .ok (.iload 4, 2) := by decide +kernel
theorem dd_Memory_noteWalk_50 : decode mm_Memory_noteWalk.2.1 50 = .ok (.ior, 1) := by decide +kernel
theorem dd_Memory_noteWalk_51 : decode mm_Memory_noteWalk.2.1 51 = .ok (.goto 12, 3) := by decide +kernel
theorem dd_Memory_noteWalk_9 : decode mm_Memory_noteWalk.2.1 9 = .ok (.iconst 0, 1) := by decide +kernel
theorem dd_Memory_noteWalk_10 : decode mm_Memory_noteWalk.2.1 10 = .ok (.ireturn, 1) := by decide +kernel
theorem dd_told_0 : decode mm_told.2.1 0 = .ok (.aload_n 0, 1) := by decide +kernel
theorem dd_told_1 : decode mm_told.2.1 1 = .ok (.iconst 0, 1) := by decide +kernel
theorem dd_told_2 : decode mm_told.2.1 2 = .ok (.putfield 1, 3) := by decide +kernel
theorem dd_told_5 : decode mm_told.2.1 5 = .ok (.aload_n 0, 1) := by decide +kernel
theorem dd_told_6 : decode mm_told.2.1 6 = .ok (.iload_n 1, 1) := by decide +kernel
theorem dd_told_7 : decode mm_told.2.1 7 = .ok (.invokevirtual 370, 3) := by decide +kernel
theorem dd_told_10 : decode mm_told.2.1 10 = .ok (.ifCond .eq (28), 3) := by decide +kernel
theorem dd_told_38 : decode mm_told.2.1 38 = .ok (.iconst 0, 1) := by decide +kernel
theorem dd_told_39 : decode mm_told.2.1 39 = .ok (.ireturn, 1) := by decide +kernel
theorem dd_told_13 : decode mm_told.2.1 13 = .ok (.aload_n 0, 1) := by decide +kernel
theorem dd_told_14 : decode mm_told.2.1 14 = .ok (.iload_n 2, 1) := by decide +kernel
theorem dd_told_15 : decode mm_told.2.1 15 = .ok (.invokevirtual 370, 3) := by decide +kernel
theorem dd_told_18 : decode mm_told.2.1 18 = .ok (.ifCond .eq (20), 3) := by decide +kernel
theorem dd_told_21 : decode mm_told.2.1 21 = .ok (.iload_n 1, 1) := by decide +kernel
theorem dd_told_22 : decode mm_told.2.1 22 = .ok (.iload_n 2, 1) := by decide +kernel
theorem dd_told_23 : decode mm_told.2.1 23 = .ok (.if_icmp .eq (15), 3) := by decide +kernel
theorem dd_told_26 : decode mm_told.2.1 26 = .ok (.aload_n 0, 1) := by decide +kernel
theorem dd_told_27 : decode mm_told.2.1 27 = .ok (.getfield 125, 3) := by decide +kernel
theorem dd_told_30 : decode mm_told.2.1 30 = .ok (.bipush 34, 2) := by decide +kernel
theorem dd_told_32 : decode mm_told.2.1 32 = .ok (.iaload, 1) := by decide +kernel
theorem dd_told_33 : decode mm_told.2.1 33 = .ok (.bipush 10, 2) := by decide +kernel
theorem dd_told_35 : decode mm_told.2.1 35 = .ok (.if_icmp .ne (5), 3) := by decide +kernel
theorem dd_told_40 : decode mm_told.2.1 40 = .ok (.bipush 35, 2) := by decide +kernel
theorem dd_told_42 : decode mm_told.2.1 42 = .ok (.iconst 3, 1) := by decide +kernel
theorem dd_told_43 : decode mm_told.2.1 43 = .ok (.aload_n 0, 1) := by decide +kernel
theorem dd_told_44 : decode mm_told.2.1 44 = .ok (.getfield 125, 3) := by decide +kernel
theorem dd_told_47 : decode mm_told.2.1 47 = .ok (.bipush 34, 2) := by decide +kernel
theorem dd_told_49 : decode mm_told.2.1 49 = .ok (.iaload, 1) := by decide +kernel
theorem dd_told_50 : decode mm_told.2.1 50 = .ok (.imul, 1) := by decide +kernel
theorem dd_told_51 : decode mm_told.2.1 51 = .ok (.iadd, 1) := by decide +kernel
theorem dd_told_52 : decode mm_told.2.1 52 = .ok (.istore 4, 2) := by decide +kernel
theorem dd_told_54 : decode mm_told.2.1 54 = .ok (.aload_n 0, 1) := by decide +kernel
theorem dd_told_55 : decode mm_told.2.1 55 = .ok (.getfield 125, 3) := by decide +kernel
theorem dd_told_58 : decode mm_told.2.1 58 = .ok (.iload 4, 2) := by decide +kernel
theorem dd_told_60 : decode mm_told.2.1 60 = .ok (.iload_n 1, 1) := by decide +kernel
theorem dd_told_61 : decode mm_told.2.1 61 = .ok (.iastore, 1) := by decide +kernel
theorem dd_told_62 : decode mm_told.2.1 62 = .ok (.aload_n 0, 1) := by decide +kernel
theorem dd_told_63 : decode mm_told.2.1 63 = .ok (.getfield 125, 3) := by decide +kernel
theorem dd_told_66 : decode mm_told.2.1 66 = .ok (.iload 4, 2) := by decide +kernel
theorem dd_told_68 : decode mm_told.2.1 68 = .ok (.iconst 1, 1) := by decide +kernel
theorem dd_told_69 : decode mm_told.2.1 69 = .ok (.iadd, 1) := by decide +kernel
theorem dd_told_70 : decode mm_told.2.1 70 = .ok (.iload_n 2, 1) := by decide +kernel
theorem dd_told_71 : decode mm_told.2.1 71 = .ok (.iastore, 1) := by decide +kernel
theorem dd_told_72 : decode mm_told.2.1 72 = .ok (.aload_n 0, 1) := by decide +kernel
theorem dd_told_73 : decode mm_told.2.1 73 = .ok (.getfield 125, 3) := by decide +kernel
theorem dd_told_76 : decode mm_told.2.1 76 = .ok (.iload 4, 2) := by decide +kernel
theorem dd_told_78 : decode mm_told.2.1 78 = .ok (.iconst 2, 1) := by decide +kernel
theorem dd_told_79 : decode mm_told.2.1 79 = .ok (.iadd, 1) := by decide +kernel
theorem dd_told_80 : decode mm_told.2.1 80 = .ok (.iload_n 3, 1) := by decide +kernel
theorem dd_told_81 : decode mm_told.2.1 81 = .ok (.ifCond .eq (7), 3) := by decide +kernel
theorem dd_told_88 : decode mm_told.2.1 88 = .ok (.iconst 0, 1) := by decide +kernel
theorem dd_told_89 : decode mm_told.2.1 89 = .ok (.iastore, 1) := by decide +kernel
theorem dd_told_90 : decode mm_told.2.1 90 = .ok (.aload_n 0, 1) := by decide +kernel
theorem dd_told_91 : decode mm_told.2.1 91 = .ok (.getfield 125, 3) := by decide +kernel
theorem dd_told_94 : decode mm_told.2.1 94 = .ok (.bipush 34, 2) := by decide +kernel
theorem dd_told_96 : decode mm_told.2.1 96 = .ok (.dup2, 1) := by decide +kernel
theorem dd_told_97 : decode mm_told.2.1 97 = .ok (.iaload, 1) := by decide +kernel
theorem dd_told_98 : decode mm_told.2.1 98 = .ok (.iconst 1, 1) := by decide +kernel
theorem dd_told_99 : decode mm_told.2.1 99 = .ok (.iadd, 1) := by decide +kernel
theorem dd_told_100 : decode mm_told.2.1 100 = .ok (.iastore, 1) := by decide +kernel
theorem dd_told_101 : decode mm_told.2.1 101 = .ok (.iconst 1, 1) := by decide +kernel
theorem dd_told_102 : decode mm_told.2.1 102 = .ok (.ireturn, 1) := by decide +kernel
theorem dd_told_84 : decode mm_told.2.1 84 = .ok (.iconst 1, 1) := by decide +kernel
theorem dd_told_85 : decode mm_told.2.1 85 = .ok (.goto 4, 3) := by decide +kernel
theorem io_m {x : Int} (hx : x = 102 ∨ x = 110 ∨ x = 118 ∨ x = 126) : isO NC x 3 = true := by
  rcases hx with rfl | rfl | rfl | rfl <;> decide +kernel
theorem B_Memory_begin_0 {xs : Nat → Int} {xl e : Nat} {h : LH} {Q : Option LV → LH → Prop} {q : Int} (hq : q = 5 ∨ q = 32) (hF : RF h)
    (k : (∃ c, c < e ∧ Rn xs xl c mm_Scene_begin 0 [some (.inr (.inr 60)), some (.inr (.inr q)), none, none] [] h (fun r h' => Rn xs xl e mm_Memory_begin 8 [some (.inr (.inr 59)), some (.inr (.inr q))] (r.toList ++ []) h' Q))) :
    Rn xs xl e mm_Memory_begin 0 [some (.inr (.inr 59)), some (.inr (.inr q))] [] h Q := by
  refine R_ld (v := .inr (.inr 59)) dd_Memory_begin_0 rfl rfl rfl rfl ?_
  refine R_gf (v := .inr (.inr 60)) dd_Memory_begin_1 fd_3_12 io_59 (congrArg (fun z : Int => (Sum.inr (Sum.inr z) : LV)) (rf_59_0 hF)) rfl ?_
  refine R_ld (v := .inr (.inr q)) dd_Memory_begin_4 rfl rfl rfl rfl ?_
  obtain ⟨c, hc, k⟩ := k
  exact R_call (as := [.inr (.inr 60), .inr (.inr q)]) (rest := []) (M' := mm_Scene_begin) (ls0 := [some (.inr (.inr 60)), some (.inr (.inr q)), none, none]) dd_Memory_begin_5 rfl rfl (cw_v cw_3_31 io_60 rfl rfl (Nat.le_of_ble_eq_true rfl) (Nat.le_of_ble_eq_true rfl)) mt_Scene_begin rfl hc rfl k
theorem B_Memory_begin_8 {xs : Nat → Int} {xl e : Nat} {h : LH} {Q : Option LV → LH → Prop} {q : Int} (hq : q = 5 ∨ q = 32) (hF : RF h)
    (k : Q none (wr (wr (wr h 59 1 0) 59 4 0) 59 7 0)) :
    Rn xs xl e mm_Memory_begin 8 [some (.inr (.inr 59)), some (.inr (.inr q))] [] h Q := by
  refine R_ld (v := .inr (.inr 59)) dd_Memory_begin_8 rfl rfl rfl rfl ?_
  refine R_ic dd_Memory_begin_9 (by decide) rfl ?_
  refine R_pf (z := 0) dd_Memory_begin_10 fd_3_35 io_59 fn_3_1 rfl rfl ?_
  refine R_ld (v := .inr (.inr 59)) dd_Memory_begin_13 rfl rfl rfl rfl ?_
  refine R_ic dd_Memory_begin_14 (by decide) rfl ?_
  refine R_pf (z := 0) dd_Memory_begin_15 fd_3_39 io_59 fn_3_4 rfl rfl ?_
  refine R_ld (v := .inr (.inr 59)) dd_Memory_begin_18 rfl rfl rfl rfl ?_
  refine R_ic dd_Memory_begin_19 (by decide) rfl ?_
  refine R_pf (z := 0) dd_Memory_begin_20 fd_3_42 io_59 fn_3_7 rfl rfl ?_
  exact R_vret dd_Memory_begin_23 rfl k
theorem B_OneSided_mark_0 {xs : Nat → Int} {xl e : Nat} {h : LH} {Q : Option LV → LH → Prop} {v1 v2 : Int} (hF : RF h)
    (k : (v1 < 0 →
        Q (some (.inl 0)) h) ∧
      (0 ≤ v1 →
        (v1 < 4 →
          (v2 ≠ 0 →
            Rn xs xl e mm_OneSided_mark 42 [some (.inr (.inr 1)), some (.inl v1), some (.inl v2)] [] h Q) ∧
          (v2 = 0 →
            Rn xs xl e mm_OneSided_mark 15 [some (.inr (.inr 1)), some (.inl v1), some (.inl v2)] [] h Q)) ∧
        (4 ≤ v1 →
          Q (some (.inl 0)) h))) :
    Rn xs xl e mm_OneSided_mark 0 [some (.inr (.inr 1)), some (.inl v1), some (.inl v2)] [] h Q := by
  refine R_ld (v := .inl v1) dd_OneSided_mark_0 rfl rfl rfl rfl ?_
  refine R_if dd_OneSided_mark_1 rfl rfl (fun (c1 : v1 < 0) => ?_) (fun (c1 : 0 ≤ v1) => ?_)
  · replace k := k.1 c1
    refine R_ic dd_OneSided_mark_9 (by decide) rfl ?_
    exact R_zret dd_OneSided_mark_10 rfl (by decide) k
  · replace k := k.2 c1
    refine R_ld (v := .inl v1) dd_OneSided_mark_4 rfl rfl rfl rfl ?_
    refine R_ic dd_OneSided_mark_5 (by decide) rfl ?_
    refine R_icmp dd_OneSided_mark_6 rfl rfl (fun (c2 : v1 < 4) => ?_) (fun (c2 : 4 ≤ v1) => ?_)
    · replace k := k.1 c2
      refine R_ld (v := .inl v2) dd_OneSided_mark_11 rfl rfl rfl rfl ?_
      refine R_if dd_OneSided_mark_12 rfl rfl (fun (c3 : v2 ≠ 0) => ?_) (fun (c3 : v2 = 0) => ?_)
      · replace k := k.1 c3
        exact k
      · replace k := k.2 c3
        exact k
    · replace k := k.2 c2
      refine R_ic dd_OneSided_mark_9 (by decide) rfl ?_
      exact R_zret dd_OneSided_mark_10 rfl (by decide) k
theorem B_OneSided_mark_15 {xs : Nat → Int} {xl e : Nat} {h : LH} {Q : Option LV → LH → Prop} {v1 v2 : Int} {x : Int} (hx : x = 102 ∨ x = 110 ∨ x = 118 ∨ x = 126) (hM : rd h 75 v1 = x) (hF : RF h)
    (k : (0 ≤ v1 ∧ v1 < 4) ∧
      (∃ c, c < e ∧ Rn xs xl c mm_Memory_copy 0 [some (.inr (.inr x)), some (.inr (.inr 59))] [] h (fun r h' => Rn xs xl e mm_OneSided_mark 28 [some (.inr (.inr 1)), some (.inl v1), some (.inl v2)] (r.toList ++ []) h' Q))) :
    Rn xs xl e mm_OneSided_mark 15 [some (.inr (.inr 1)), some (.inl v1), some (.inl v2)] [] h Q := by
  refine R_ld (v := .inr (.inr 1)) dd_OneSided_mark_15 rfl rfl rfl rfl ?_
  refine R_gf (v := .inr (.inr 75)) dd_OneSided_mark_16 fd_11_36 io_1 (congrArg (fun z : Int => (Sum.inr (Sum.inr z) : LV)) (rf_1_5 hF)) rfl ?_
  refine R_ld (v := .inl v1) dd_OneSided_mark_19 rfl rfl rfl rfl ?_
  obtain ⟨s1, k⟩ := k
  refine R_aald (v := x) (n := 4) dd_OneSided_mark_20 ia_75 la_75 s1 hM rfl ?_
  refine R_ld (v := .inr (.inr 1)) dd_OneSided_mark_21 rfl rfl rfl rfl ?_
  refine R_gf (v := .inr (.inr 59)) dd_OneSided_mark_22 fd_11_29 io_1 (congrArg (fun z : Int => (Sum.inr (Sum.inr z) : LV)) (rf_1_3 hF)) rfl ?_
  obtain ⟨c, hc, k⟩ := k
  exact R_call (as := [.inr (.inr x), .inr (.inr 59)]) (rest := []) (M' := mm_Memory_copy) (ls0 := [some (.inr (.inr x)), some (.inr (.inr 59))]) dd_OneSided_mark_25 rfl rfl (cw_v cw_11_352 (io_m hx) rfl rfl (Nat.le_of_ble_eq_true rfl) (Nat.le_of_ble_eq_true rfl)) mt_Memory_copy rfl hc rfl k
theorem B_OneSided_mark_28 {xs : Nat → Int} {xl e : Nat} {h : LH} {Q : Option LV → LH → Prop} {v1 v2 : Int} (hF : RF h)
    (k : Q (some (.inl 1)) (wr h 1 6 (zor (rd h 1 6) (zshl 1 v1)))) :
    Rn xs xl e mm_OneSided_mark 28 [some (.inr (.inr 1)), some (.inl v1), some (.inl v2)] [] h Q := by
  refine R_ld (v := .inr (.inr 1)) dd_OneSided_mark_28 rfl rfl rfl rfl ?_
  refine R_A dd_OneSided_mark_29 rfl rfl rfl rfl ?_
  refine R_gf (v := .inl (rd h 1 6)) dd_OneSided_mark_30 fd_11_101 io_1 (congrArg (fun z : Int => (Sum.inl z : LV)) (rfl)) rfl ?_
  refine R_ic dd_OneSided_mark_33 (by decide) rfl ?_
  refine R_ld (v := .inl v1) dd_OneSided_mark_34 rfl rfl rfl rfl ?_
  refine R_A dd_OneSided_mark_35 rfl rfl rfl rfl ?_
  refine R_A dd_OneSided_mark_36 rfl rfl rfl rfl ?_
  refine R_pf (z := (zor (rd h 1 6) (zshl 1 v1))) dd_OneSided_mark_37 fd_11_101 io_1 fn_11_6 rfl rfl ?_
  refine R_ic dd_OneSided_mark_40 (by decide) rfl ?_
  exact R_zret dd_OneSided_mark_41 rfl (by decide) k
theorem B_OneSided_mark_42 {xs : Nat → Int} {xl e : Nat} {h : LH} {Q : Option LV → LH → Prop} {v1 v2 : Int} {x : Int} (hx : x = 102 ∨ x = 110 ∨ x = 118 ∨ x = 126) (hM : rd h 75 v1 = x) (hF : RF h)
    (k : ((zand (zshr (rd h 1 6) v1) 1) ≠ 0 →
        (0 ≤ v1 ∧ v1 < 4) ∧
        (∃ c, c < e ∧ Rn xs xl c mm_Memory_copy 0 [some (.inr (.inr 59)), some (.inr (.inr x))] [] h (fun r h' => Rn xs xl e mm_OneSided_mark 68 [some (.inr (.inr 1)), some (.inl v1), some (.inl v2)] (r.toList ++ []) h' Q))) ∧
      ((zand (zshr (rd h 1 6) v1) 1) = 0 →
        Q (some (.inl 0)) h)) :
    Rn xs xl e mm_OneSided_mark 42 [some (.inr (.inr 1)), some (.inl v1), some (.inl v2)] [] h Q := by
  refine R_ld (v := .inr (.inr 1)) dd_OneSided_mark_42 rfl rfl rfl rfl ?_
  refine R_gf (v := .inl (rd h 1 6)) dd_OneSided_mark_43 fd_11_101 io_1 (congrArg (fun z : Int => (Sum.inl z : LV)) (rfl)) rfl ?_
  refine R_ld (v := .inl v1) dd_OneSided_mark_46 rfl rfl rfl rfl ?_
  refine R_A dd_OneSided_mark_47 rfl rfl rfl rfl ?_
  refine R_ic dd_OneSided_mark_48 (by decide) rfl ?_
  refine R_A dd_OneSided_mark_49 rfl rfl rfl rfl ?_
  refine R_if dd_OneSided_mark_50 rfl rfl (fun (c3 : (zand (zshr (rd h 1 6) v1) 1) ≠ 0) => ?_) (fun (c3 : (zand (zshr (rd h 1 6) v1) 1) = 0) => ?_)
  · replace k := k.1 c3
    refine R_ld (v := .inr (.inr 1)) dd_OneSided_mark_55 rfl rfl rfl rfl ?_
    refine R_gf (v := .inr (.inr 59)) dd_OneSided_mark_56 fd_11_29 io_1 (congrArg (fun z : Int => (Sum.inr (Sum.inr z) : LV)) (rf_1_3 hF)) rfl ?_
    refine R_ld (v := .inr (.inr 1)) dd_OneSided_mark_59 rfl rfl rfl rfl ?_
    refine R_gf (v := .inr (.inr 75)) dd_OneSided_mark_60 fd_11_36 io_1 (congrArg (fun z : Int => (Sum.inr (Sum.inr z) : LV)) (rf_1_5 hF)) rfl ?_
    refine R_ld (v := .inl v1) dd_OneSided_mark_63 rfl rfl rfl rfl ?_
    obtain ⟨s1, k⟩ := k
    refine R_aald (v := x) (n := 4) dd_OneSided_mark_64 ia_75 la_75 s1 hM rfl ?_
    obtain ⟨c, hc, k⟩ := k
    exact R_call (as := [.inr (.inr 59), .inr (.inr x)]) (rest := []) (M' := mm_Memory_copy) (ls0 := [some (.inr (.inr 59)), some (.inr (.inr x))]) dd_OneSided_mark_65 rfl rfl (cw_v cw_11_352 io_59 rfl rfl (Nat.le_of_ble_eq_true rfl) (Nat.le_of_ble_eq_true rfl)) mt_Memory_copy rfl hc rfl k
  · replace k := k.2 c3
    refine R_ic dd_OneSided_mark_53 (by decide) rfl ?_
    exact R_zret dd_OneSided_mark_54 rfl (by decide) k
theorem B_OneSided_mark_68 {xs : Nat → Int} {xl e : Nat} {h : LH} {Q : Option LV → LH → Prop} {v1 v2 : Int} (hF : RF h)
    (k : Q (some (.inl 1)) (wr h 1 9 0)) :
    Rn xs xl e mm_OneSided_mark 68 [some (.inr (.inr 1)), some (.inl v1), some (.inl v2)] [] h Q := by
  refine R_ld (v := .inr (.inr 1)) dd_OneSided_mark_68 rfl rfl rfl rfl ?_
  refine R_ic dd_OneSided_mark_69 (by decide) rfl ?_
  refine R_pf (z := 0) dd_OneSided_mark_70 fd_11_104 io_1 fn_11_9 rfl rfl ?_
  refine R_ic dd_OneSided_mark_73 (by decide) rfl ?_
  exact R_zret dd_OneSided_mark_74 rfl (by decide) k
theorem B_OneSided_told_0 {xs : Nat → Int} {xl e : Nat} {h : LH} {Q : Option LV → LH → Prop} {v1 v2 v3 : Int} {q t : Int} (hq : q = 5 ∨ q = 32) (ht : t = 5 ∨ t = 32) (hS : rd h 1 ((2 : Nat) : Int) = q) (hQ : rd h 1 ((1 : Nat) : Int) = t) (hF : RF h) (he : 1 ≤ e)
    (k : (v1 < 0 →
        Q (some (.inl 0)) h) ∧
      (0 ≤ v1 →
        ((rd h t 0) ≤ v1 →
          Q (some (.inl 0)) h) ∧
        (v1 < (rd h t 0) →
          (v2 < 0 →
            Q (some (.inl 0)) h) ∧
          (0 ≤ v2 →
            ((rd h t 0) ≤ v2 →
              Q (some (.inl 0)) h) ∧
            (v2 < (rd h t 0) →
              (v1 ≠ v2 →
                (∃ c, c < e ∧ Rn xs xl c mm_Memory_noteWalk 0 [some (.inr (.inr 59)), some (.inl v1), some (.inl v2), some (.inl v3), none] [] h (fun r h' => Rn xs xl e mm_OneSided_told 33 [some (.inr (.inr 1)), some (.inl v1), some (.inl v2), some (.inl v3)] (r.toList ++ []) h' Q))) ∧
              (v1 = v2 →
                Q (some (.inl 0)) h)))))) :
    Rn xs xl e mm_OneSided_told 0 [some (.inr (.inr 1)), some (.inl v1), some (.inl v2), some (.inl v3)] [] h Q := by
  refine R_ld (v := .inr (.inr 1)) dd_OneSided_told_0 rfl rfl rfl rfl ?_
  refine R_ld (v := .inl v1) dd_OneSided_told_1 rfl rfl rfl rfl ?_
  refine R_call (as := [.inr (.inr 1), .inl v1]) (rest := []) (M' := mm_OneSided_isRoom) (ls0 := [some (.inr (.inr 1)), some (.inl v1)]) dd_OneSided_told_2 rfl rfl (cw_v cw_11_190 io_1 rfl rfl (Nat.le_of_ble_eq_true rfl) (Nat.le_of_ble_eq_true rfl)) mt_OneSided_isRoom rfl (c := e - 1) (by omega) rfl ?_
  refine R_ld (v := .inl v1) dd_OneSided_isRoom_0 rfl rfl rfl rfl ?_
  refine R_if dd_OneSided_isRoom_1 rfl rfl (fun (c2 : v1 < 0) => ?_) (fun (c2 : 0 ≤ v1) => ?_)
  · replace k := k.1 c2
    refine R_ic dd_OneSided_isRoom_19 (by decide) rfl ?_
    refine R_zret dd_OneSided_isRoom_20 rfl (by decide) ?_
    change Rn xs xl e mm_OneSided_told 5 [some (.inr (.inr 1)), some (.inl v1), some (.inl v2), some (.inl v3)] [.inl 0] h _
    refine R_if dd_OneSided_told_5 rfl rfl (fun (c3 : 0 = 0) => ?_) (fun (c3 : 0 ≠ 0) => ?_)
    · skip
      refine R_ic dd_OneSided_told_21 (by decide) rfl ?_
      exact R_zret dd_OneSided_told_22 rfl (by decide) k
    · exact absurd c3 (by omega)
  · replace k := k.2 c2
    refine R_ld (v := .inl v1) dd_OneSided_isRoom_4 rfl rfl rfl rfl ?_
    refine R_ld (v := .inr (.inr 1)) dd_OneSided_isRoom_5 rfl rfl rfl rfl ?_
    refine R_gf (v := .inr (.inr t)) dd_OneSided_isRoom_6 fd_11_19 io_1 (congrArg (fun z : Int => (Sum.inr (Sum.inr z) : LV)) (hQ)) rfl ?_
    refine R_gf (v := .inl (rd h t 0)) dd_OneSided_isRoom_9 fd_11_267 (io_q ht) (congrArg (fun z : Int => (Sum.inl z : LV)) (rfl)) rfl ?_
    refine R_icmp dd_OneSided_isRoom_12 rfl rfl (fun (c4 : (rd h t 0) ≤ v1) => ?_) (fun (c4 : v1 < (rd h t 0)) => ?_)
    · replace k := k.1 c4
      refine R_ic dd_OneSided_isRoom_19 (by decide) rfl ?_
      refine R_zret dd_OneSided_isRoom_20 rfl (by decide) ?_
      change Rn xs xl e mm_OneSided_told 5 [some (.inr (.inr 1)), some (.inl v1), some (.inl v2), some (.inl v3)] [.inl 0] h _
      refine R_if dd_OneSided_told_5 rfl rfl (fun (c5 : 0 = 0) => ?_) (fun (c5 : 0 ≠ 0) => ?_)
      · skip
        refine R_ic dd_OneSided_told_21 (by decide) rfl ?_
        exact R_zret dd_OneSided_told_22 rfl (by decide) k
      · exact absurd c5 (by omega)
    · replace k := k.2 c4
      refine R_ic dd_OneSided_isRoom_15 (by decide) rfl ?_
      refine R_goto dd_OneSided_isRoom_16 rfl ?_
      refine R_zret dd_OneSided_isRoom_20 rfl (by decide) ?_
      change Rn xs xl e mm_OneSided_told 5 [some (.inr (.inr 1)), some (.inl v1), some (.inl v2), some (.inl v3)] [.inl 1] h _
      refine R_if dd_OneSided_told_5 rfl rfl (fun (c6 : 1 = 0) => ?_) (fun (c6 : 1 ≠ 0) => ?_)
      · exact absurd c6 (by omega)
      · skip
        refine R_ld (v := .inr (.inr 1)) dd_OneSided_told_8 rfl rfl rfl rfl ?_
        refine R_ld (v := .inl v2) dd_OneSided_told_9 rfl rfl rfl rfl ?_
        refine R_call (as := [.inr (.inr 1), .inl v2]) (rest := []) (M' := mm_OneSided_isRoom) (ls0 := [some (.inr (.inr 1)), some (.inl v2)]) dd_OneSided_told_10 rfl rfl (cw_v cw_11_190 io_1 rfl rfl (Nat.le_of_ble_eq_true rfl) (Nat.le_of_ble_eq_true rfl)) mt_OneSided_isRoom rfl (c := e - 1) (by omega) rfl ?_
        refine R_ld (v := .inl v2) dd_OneSided_isRoom_0 rfl rfl rfl rfl ?_
        refine R_if dd_OneSided_isRoom_1 rfl rfl (fun (c7 : v2 < 0) => ?_) (fun (c7 : 0 ≤ v2) => ?_)
        · replace k := k.1 c7
          refine R_ic dd_OneSided_isRoom_19 (by decide) rfl ?_
          refine R_zret dd_OneSided_isRoom_20 rfl (by decide) ?_
          change Rn xs xl e mm_OneSided_told 13 [some (.inr (.inr 1)), some (.inl v1), some (.inl v2), some (.inl v3)] [.inl 0] h _
          refine R_if dd_OneSided_told_13 rfl rfl (fun (c8 : 0 = 0) => ?_) (fun (c8 : 0 ≠ 0) => ?_)
          · skip
            refine R_ic dd_OneSided_told_21 (by decide) rfl ?_
            exact R_zret dd_OneSided_told_22 rfl (by decide) k
          · exact absurd c8 (by omega)
        · replace k := k.2 c7
          refine R_ld (v := .inl v2) dd_OneSided_isRoom_4 rfl rfl rfl rfl ?_
          refine R_ld (v := .inr (.inr 1)) dd_OneSided_isRoom_5 rfl rfl rfl rfl ?_
          refine R_gf (v := .inr (.inr t)) dd_OneSided_isRoom_6 fd_11_19 io_1 (congrArg (fun z : Int => (Sum.inr (Sum.inr z) : LV)) (hQ)) rfl ?_
          refine R_gf (v := .inl (rd h t 0)) dd_OneSided_isRoom_9 fd_11_267 (io_q ht) (congrArg (fun z : Int => (Sum.inl z : LV)) (rfl)) rfl ?_
          refine R_icmp dd_OneSided_isRoom_12 rfl rfl (fun (c9 : (rd h t 0) ≤ v2) => ?_) (fun (c9 : v2 < (rd h t 0)) => ?_)
          · replace k := k.1 c9
            refine R_ic dd_OneSided_isRoom_19 (by decide) rfl ?_
            refine R_zret dd_OneSided_isRoom_20 rfl (by decide) ?_
            change Rn xs xl e mm_OneSided_told 13 [some (.inr (.inr 1)), some (.inl v1), some (.inl v2), some (.inl v3)] [.inl 0] h _
            refine R_if dd_OneSided_told_13 rfl rfl (fun (c10 : 0 = 0) => ?_) (fun (c10 : 0 ≠ 0) => ?_)
            · skip
              refine R_ic dd_OneSided_told_21 (by decide) rfl ?_
              exact R_zret dd_OneSided_told_22 rfl (by decide) k
            · exact absurd c10 (by omega)
          · replace k := k.2 c9
            refine R_ic dd_OneSided_isRoom_15 (by decide) rfl ?_
            refine R_goto dd_OneSided_isRoom_16 rfl ?_
            refine R_zret dd_OneSided_isRoom_20 rfl (by decide) ?_
            change Rn xs xl e mm_OneSided_told 13 [some (.inr (.inr 1)), some (.inl v1), some (.inl v2), some (.inl v3)] [.inl 1] h _
            refine R_if dd_OneSided_told_13 rfl rfl (fun (c11 : 1 = 0) => ?_) (fun (c11 : 1 ≠ 0) => ?_)
            · exact absurd c11 (by omega)
            · skip
              refine R_ld (v := .inl v1) dd_OneSided_told_16 rfl rfl rfl rfl ?_
              refine R_ld (v := .inl v2) dd_OneSided_told_17 rfl rfl rfl rfl ?_
              refine R_icmp dd_OneSided_told_18 rfl rfl (fun (c12 : v1 ≠ v2) => ?_) (fun (c12 : v1 = v2) => ?_)
              · replace k := k.1 c12
                refine R_ld (v := .inr (.inr 1)) dd_OneSided_told_23 rfl rfl rfl rfl ?_
                refine R_gf (v := .inr (.inr 59)) dd_OneSided_told_24 fd_11_29 io_1 (congrArg (fun z : Int => (Sum.inr (Sum.inr z) : LV)) (rf_1_3 hF)) rfl ?_
                refine R_ld (v := .inl v1) dd_OneSided_told_27 rfl rfl rfl rfl ?_
                refine R_ld (v := .inl v2) dd_OneSided_told_28 rfl rfl rfl rfl ?_
                refine R_ld (v := .inl v3) dd_OneSided_told_29 rfl rfl rfl rfl ?_
                obtain ⟨c, hc, k⟩ := k
                exact R_call (as := [.inr (.inr 59), .inl v1, .inl v2, .inl v3]) (rest := []) (M' := mm_Memory_noteWalk) (ls0 := [some (.inr (.inr 59)), some (.inl v1), some (.inl v2), some (.inl v3), none]) dd_OneSided_told_30 rfl rfl (cw_v cw_11_288 io_59 rfl rfl (Nat.le_of_ble_eq_true rfl) (Nat.le_of_ble_eq_true rfl)) mt_Memory_noteWalk rfl hc rfl k
              · replace k := k.2 c12
                refine R_ic dd_OneSided_told_21 (by decide) rfl ?_
                exact R_zret dd_OneSided_told_22 rfl (by decide) k
theorem B_OneSided_told_33 {xs : Nat → Int} {xl e : Nat} {h : LH} {Q : Option LV → LH → Prop} {v1 v2 v3 w0 : Int} {q t : Int} (hq : q = 5 ∨ q = 32) (ht : t = 5 ∨ t = 32) (hS : rd h 1 ((2 : Nat) : Int) = q) (hQ : rd h 1 ((1 : Nat) : Int) = t) (hF : RF h)
    (k : (w0 = 0 ∨ w0 = 1) ∧
      Q (some (.inl w0)) h) :
    Rn xs xl e mm_OneSided_told 33 [some (.inr (.inr 1)), some (.inl v1), some (.inl v2), some (.inl v3)] [.inl w0] h Q := by
  obtain ⟨s1, k⟩ := k
  exact R_zret dd_OneSided_told_33 rfl s1 k
theorem B_Memory_noteWalk_0 {xs : Nat → Int} {xl e : Nat} {h : LH} {Q : Option LV → LH → Prop} {v1 v2 v3 : Int} (hF : RF h)
    (k : ((rd h 59 4) < 10 →
        (0 ≤ (rd h 59 4) ∧ (rd h 59 4) < 10) ∧
        (0 ≤ (rd h 59 4) ∧ (rd h 59 4) < 10) ∧
        (v3 = 0 →
          (-2147483648 ≤ (rd h 59 4) + 1 ∧ (rd h 59 4) + 1 ≤ 2147483647) ∧
          Q (some (.inl 1)) (wr (wr (wr (wr h 65 (rd h 59 4) v1) 66 (rd h 59 4) v2) 59 7 (zand (rd h 59 7) (zxor (zshl 1 (rd h 59 4)) (-1)))) 59 4 ((rd h 59 4) + 1))) ∧
        (v3 ≠ 0 →
          (-2147483648 ≤ (rd h 59 4) + 1 ∧ (rd h 59 4) + 1 ≤ 2147483647) ∧
          Q (some (.inl 1)) (wr (wr (wr (wr h 65 (rd h 59 4) v1) 66 (rd h 59 4) v2) 59 7 (zor (rd h 59 7) (zshl 1 (rd h 59 4)))) 59 4 ((rd h 59 4) + 1)))) ∧
      (10 ≤ (rd h 59 4) →
        Q (some (.inl 0)) h)) :
    Rn xs xl e mm_Memory_noteWalk 0 [some (.inr (.inr 59)), some (.inl v1), some (.inl v2), some (.inl v3), none] [] h Q := by
  refine R_ld (v := .inr (.inr 59)) dd_Memory_noteWalk_0 rfl rfl rfl rfl ?_
  refine R_gf (v := .inl (rd h 59 4)) dd_Memory_noteWalk_1 fd_3_39 io_59 (congrArg (fun z : Int => (Sum.inl z : LV)) (rfl)) rfl ?_
  refine R_bi dd_Memory_noteWalk_4 (by decide) rfl ?_
  refine R_icmp dd_Memory_noteWalk_6 rfl rfl (fun (c5 : (rd h 59 4) < 10) => ?_) (fun (c5 : 10 ≤ (rd h 59 4)) => ?_)
  · replace k := k.1 c5
    refine R_ld (v := .inr (.inr 59)) dd_Memory_noteWalk_11 rfl rfl rfl rfl ?_
    refine R_gf (v := .inr (.inr 65)) dd_Memory_noteWalk_12 fd_3_25 io_59 (congrArg (fun z : Int => (Sum.inr (Sum.inr z) : LV)) (rf_59_5 hF)) rfl ?_
    refine R_ld (v := .inr (.inr 59)) dd_Memory_noteWalk_15 rfl rfl rfl rfl ?_
    refine R_gf (v := .inl (rd h 59 4)) dd_Memory_noteWalk_16 fd_3_39 io_59 (congrArg (fun z : Int => (Sum.inl z : LV)) (rfl)) rfl ?_
    refine R_ld (v := .inl v1) dd_Memory_noteWalk_19 rfl rfl rfl rfl ?_
    obtain ⟨s1, k⟩ := k
    refine R_iast (n := 10) dd_Memory_noteWalk_20 ia_65 la_65 s1 rfl ?_
    refine R_ld (v := .inr (.inr 59)) dd_Memory_noteWalk_21 rfl rfl rfl rfl ?_
    refine R_gf (v := .inr (.inr 66)) dd_Memory_noteWalk_22 fd_3_28 io_59 (congrArg (fun z : Int => (Sum.inr (Sum.inr z) : LV)) ((rdw_ne (by decide)).trans (rf_59_6 hF))) rfl ?_
    refine R_ld (v := .inr (.inr 59)) dd_Memory_noteWalk_25 rfl rfl rfl rfl ?_
    refine R_gf (v := .inl (rd h 59 4)) dd_Memory_noteWalk_26 fd_3_39 io_59 (congrArg (fun z : Int => (Sum.inl z : LV)) (rdw_ne (by decide))) rfl ?_
    refine R_ld (v := .inl v2) dd_Memory_noteWalk_29 rfl rfl rfl rfl ?_
    obtain ⟨s2, k⟩ := k
    refine R_iast (n := 10) dd_Memory_noteWalk_30 ia_66 la_66 s2 rfl ?_
    refine R_ic dd_Memory_noteWalk_31 (by decide) rfl ?_
    refine R_ld (v := .inr (.inr 59)) dd_Memory_noteWalk_32 rfl rfl rfl rfl ?_
    refine R_gf (v := .inl (rd h 59 4)) dd_Memory_noteWalk_33 fd_3_39 io_59 (congrArg (fun z : Int => (Sum.inl z : LV)) ((rdw_ne (by decide)).trans (rdw_ne (by decide)))) rfl ?_
    refine R_A dd_Memory_noteWalk_36 rfl rfl rfl rfl ?_
    refine R_st (ls' := [some (.inr (.inr 59)), some (.inl v1), some (.inl v2), some (.inl v3), some (.inl (zshl 1 (rd h 59 4)))]) dd_Memory_noteWalk_37 rfl rfl rfl (Nat.le_of_ble_eq_true rfl) rfl rfl ?_
    refine R_ld (v := .inr (.inr 59)) dd_Memory_noteWalk_39 rfl rfl rfl rfl ?_
    refine R_ld (v := .inl v3) dd_Memory_noteWalk_40 rfl rfl rfl rfl ?_
    refine R_if dd_Memory_noteWalk_41 rfl rfl (fun (c6 : v3 = 0) => ?_) (fun (c6 : v3 ≠ 0) => ?_)
    · replace k := k.1 c6
      refine R_ld (v := .inr (.inr 59)) dd_Memory_noteWalk_54 rfl rfl rfl rfl ?_
      refine R_gf (v := .inl (rd h 59 7)) dd_Memory_noteWalk_55 fd_3_42 io_59 (congrArg (fun z : Int => (Sum.inl z : LV)) ((rdw_ne (by decide)).trans (rdw_ne (by decide)))) rfl ?_
      refine R_ld (v := .inl (zshl 1 (rd h 59 4))) dd_Memory_noteWalk_58 rfl rfl rfl rfl ?_
      refine R_ic dd_Memory_noteWalk_60 (by decide) rfl ?_
      refine R_A dd_Memory_noteWalk_61 rfl rfl rfl rfl ?_
      refine R_A dd_Memory_noteWalk_62 rfl rfl rfl rfl ?_
      refine R_pf (z := (zand (rd h 59 7) (zxor (zshl 1 (rd h 59 4)) (-1)))) dd_Memory_noteWalk_63 fd_3_42 io_59 fn_3_7 rfl rfl ?_
      refine R_ld (v := .inr (.inr 59)) dd_Memory_noteWalk_66 rfl rfl rfl rfl ?_
      refine R_A dd_Memory_noteWalk_67 rfl rfl rfl rfl ?_
      refine R_gf (v := .inl (rd h 59 4)) dd_Memory_noteWalk_68 fd_3_39 io_59 (congrArg (fun z : Int => (Sum.inl z : LV)) ((rdw_nei (by omega)).trans ((rdw_ne (by decide)).trans (rdw_ne (by decide))))) rfl ?_
      refine R_ic dd_Memory_noteWalk_71 (by decide) rfl ?_
      obtain ⟨s3, k⟩ := k
      refine R_iadd (c := (rd h 59 4) + 1) dd_Memory_noteWalk_72 (by omega) s3 rfl ?_
      refine R_pf (z := ((rd h 59 4) + 1)) dd_Memory_noteWalk_73 fd_3_39 io_59 fn_3_4 rfl rfl ?_
      refine R_ic dd_Memory_noteWalk_76 (by decide) rfl ?_
      exact R_zret dd_Memory_noteWalk_77 rfl (by decide) k
    · replace k := k.2 c6
      refine R_ld (v := .inr (.inr 59)) dd_Memory_noteWalk_44 rfl rfl rfl rfl ?_
      refine R_gf (v := .inl (rd h 59 7)) dd_Memory_noteWalk_45 fd_3_42 io_59 (congrArg (fun z : Int => (Sum.inl z : LV)) ((rdw_ne (by decide)).trans (rdw_ne (by decide)))) rfl ?_
      refine R_ld (v := .inl (zshl 1 (rd h 59 4))) dd_Memory_noteWalk_48 rfl rfl rfl rfl ?_
      refine R_A dd_Memory_noteWalk_50 rfl rfl rfl rfl ?_
      refine R_goto dd_Memory_noteWalk_51 rfl ?_
      refine R_pf (z := (zor (rd h 59 7) (zshl 1 (rd h 59 4)))) dd_Memory_noteWalk_63 fd_3_42 io_59 fn_3_7 rfl rfl ?_
      refine R_ld (v := .inr (.inr 59)) dd_Memory_noteWalk_66 rfl rfl rfl rfl ?_
      refine R_A dd_Memory_noteWalk_67 rfl rfl rfl rfl ?_
      refine R_gf (v := .inl (rd h 59 4)) dd_Memory_noteWalk_68 fd_3_39 io_59 (congrArg (fun z : Int => (Sum.inl z : LV)) ((rdw_nei (by omega)).trans ((rdw_ne (by decide)).trans (rdw_ne (by decide))))) rfl ?_
      refine R_ic dd_Memory_noteWalk_71 (by decide) rfl ?_
      obtain ⟨s4, k⟩ := k
      refine R_iadd (c := (rd h 59 4) + 1) dd_Memory_noteWalk_72 (by omega) s4 rfl ?_
      refine R_pf (z := ((rd h 59 4) + 1)) dd_Memory_noteWalk_73 fd_3_39 io_59 fn_3_4 rfl rfl ?_
      refine R_ic dd_Memory_noteWalk_76 (by decide) rfl ?_
      exact R_zret dd_Memory_noteWalk_77 rfl (by decide) k
  · replace k := k.2 c5
    refine R_ic dd_Memory_noteWalk_9 (by decide) rfl ?_
    exact R_zret dd_Memory_noteWalk_10 rfl (by decide) k
theorem B_told_0 {xs : Nat → Int} {xl e : Nat} {h : LH} {Q : Option LV → LH → Prop} {v1 v2 v3 : Int} (hF : RF h) (he : 2 ≤ e)
    (k : (v1 < 0 →
        Q (some (.inl 0)) (wr h 182 0 0)) ∧
      (0 ≤ v1 →
        ((rd h 188 0) ≤ v1 →
          Q (some (.inl 0)) (wr h 182 0 0)) ∧
        (v1 < (rd h 188 0) →
          (v2 < 0 →
            Q (some (.inl 0)) (wr h 182 0 0)) ∧
          (0 ≤ v2 →
            ((rd h 188 0) ≤ v2 →
              Q (some (.inl 0)) (wr h 182 0 0)) ∧
            (v2 < (rd h 188 0) →
              (v1 = v2 →
                Q (some (.inl 0)) (wr h 182 0 0)) ∧
              (v1 ≠ v2 →
                ((rd h 198 34) ≠ 10 →
                  (-2147483648 ≤ 3 * (rd h 198 34) ∧ 3 * (rd h 198 34) ≤ 2147483647) ∧
                  (-2147483648 ≤ 3 * (rd h 198 34) + 35 ∧ 3 * (rd h 198 34) + 35 ≤ 2147483647) ∧
                  (0 ≤ 3 * (rd h 198 34) + 35 ∧ 3 * (rd h 198 34) + 35 < 1610) ∧
                  (-2147483648 ≤ 3 * (rd h 198 34) + 36 ∧ 3 * (rd h 198 34) + 36 ≤ 2147483647) ∧
                  (0 ≤ 3 * (rd h 198 34) + 36 ∧ 3 * (rd h 198 34) + 36 < 1610) ∧
                  (-2147483648 ≤ 3 * (rd h 198 34) + 37 ∧ 3 * (rd h 198 34) + 37 ≤ 2147483647) ∧
                  (v3 = 0 →
                    (0 ≤ 3 * (rd h 198 34) + 37 ∧ 3 * (rd h 198 34) + 37 < 1610) ∧
                    (-2147483648 ≤ (rd (wr (wr (wr (wr h 182 0 0) 198 (3 * (rd h 198 34) + 35) v1) 198 (3 * (rd h 198 34) + 36) v2) 198 (3 * (rd h 198 34) + 37) 0) 198 34) + 1 ∧ (rd (wr (wr (wr (wr h 182 0 0) 198 (3 * (rd h 198 34) + 35) v1) 198 (3 * (rd h 198 34) + 36) v2) 198 (3 * (rd h 198 34) + 37) 0) 198 34) + 1 ≤ 2147483647) ∧
                    Q (some (.inl 1)) (wr (wr (wr (wr (wr h 182 0 0) 198 (3 * (rd h 198 34) + 35) v1) 198 (3 * (rd h 198 34) + 36) v2) 198 (3 * (rd h 198 34) + 37) 0) 198 34 ((rd (wr (wr (wr (wr h 182 0 0) 198 (3 * (rd h 198 34) + 35) v1) 198 (3 * (rd h 198 34) + 36) v2) 198 (3 * (rd h 198 34) + 37) 0) 198 34) + 1))) ∧
                  (v3 ≠ 0 →
                    (0 ≤ 3 * (rd h 198 34) + 37 ∧ 3 * (rd h 198 34) + 37 < 1610) ∧
                    (-2147483648 ≤ (rd (wr (wr (wr (wr h 182 0 0) 198 (3 * (rd h 198 34) + 35) v1) 198 (3 * (rd h 198 34) + 36) v2) 198 (3 * (rd h 198 34) + 37) 1) 198 34) + 1 ∧ (rd (wr (wr (wr (wr h 182 0 0) 198 (3 * (rd h 198 34) + 35) v1) 198 (3 * (rd h 198 34) + 36) v2) 198 (3 * (rd h 198 34) + 37) 1) 198 34) + 1 ≤ 2147483647) ∧
                    Q (some (.inl 1)) (wr (wr (wr (wr (wr h 182 0 0) 198 (3 * (rd h 198 34) + 35) v1) 198 (3 * (rd h 198 34) + 36) v2) 198 (3 * (rd h 198 34) + 37) 1) 198 34 ((rd (wr (wr (wr (wr h 182 0 0) 198 (3 * (rd h 198 34) + 35) v1) 198 (3 * (rd h 198 34) + 36) v2) 198 (3 * (rd h 198 34) + 37) 1) 198 34) + 1)))) ∧
                ((rd h 198 34) = 10 →
                  Q (some (.inl 0)) (wr h 182 0 0)))))))) :
    Rn xs xl e mm_told 0 [some (.inr (.inr 182)), some (.inl v1), some (.inl v2), some (.inl v3), none] [] h Q := by
  refine R_ld (v := .inr (.inr 182)) dd_told_0 rfl rfl rfl rfl ?_
  refine R_ic dd_told_1 (by decide) rfl ?_
  refine R_pf (z := 0) dd_told_2 fd_12_1 io_182 fn_12_0 rfl rfl ?_
  refine R_ld (v := .inr (.inr 182)) dd_told_5 rfl rfl rfl rfl ?_
  refine R_ld (v := .inl v1) dd_told_6 rfl rfl rfl rfl ?_
  refine R_call (as := [.inr (.inr 182), .inl v1]) (rest := []) (M' := mm_isRoom) (ls0 := [some (.inr (.inr 182)), some (.inl v1)]) dd_told_7 rfl rfl (cw_v cw_12_370 io_182 rfl rfl (Nat.le_of_ble_eq_true rfl) (Nat.le_of_ble_eq_true rfl)) mt_isRoom rfl (c := e - 1) (by omega) rfl ?_
  refine R_ld (v := .inl v1) dd_isRoom_0 rfl rfl rfl rfl ?_
  refine R_if dd_isRoom_1 rfl rfl (fun (c11 : v1 < 0) => ?_) (fun (c11 : 0 ≤ v1) => ?_)
  · replace k := k.1 c11
    refine R_ic dd_isRoom_16 (by decide) rfl ?_
    refine R_zret dd_isRoom_17 rfl (by decide) ?_
    change Rn xs xl e mm_told 10 [some (.inr (.inr 182)), some (.inl v1), some (.inl v2), some (.inl v3), none] [.inl 0] (wr h 182 0 0) _
    refine R_if dd_told_10 rfl rfl (fun (c12 : 0 = 0) => ?_) (fun (c12 : 0 ≠ 0) => ?_)
    · skip
      refine R_ic dd_told_38 (by decide) rfl ?_
      exact R_zret dd_told_39 rfl (by decide) k
    · exact absurd c12 (by omega)
  · replace k := k.2 c11
    refine R_ld (v := .inl v1) dd_isRoom_4 rfl rfl rfl rfl ?_
    refine R_ld (v := .inr (.inr 182)) dd_isRoom_5 rfl rfl rfl rfl ?_
    refine R_call (as := [.inr (.inr 182)]) (rest := [.inl v1]) (M' := mm_rooms) (ls0 := [some (.inr (.inr 182))]) dd_isRoom_6 rfl rfl (cw_v cw_12_332 io_182 rfl rfl (Nat.le_of_ble_eq_true rfl) (Nat.le_of_ble_eq_true rfl)) mt_rooms rfl (c := e - 2) (by omega) rfl ?_
    refine R_ld (v := .inr (.inr 182)) dd_rooms_0 rfl rfl rfl rfl ?_
    refine R_gf (v := .inr (.inr 188)) dd_rooms_1 fd_12_95 io_182 (congrArg (fun z : Int => (Sum.inr (Sum.inr z) : LV)) ((rdw_nei (by omega)).trans (rf_182_10 hF))) rfl ?_
    refine R_ic dd_rooms_4 (by decide) rfl ?_
    refine R_iald (v := (rd h 188 0)) (n := 300) dd_rooms_5 ia_188 la_188 (by decide) (rdw_ne (by decide)) rfl ?_
    refine R_iret dd_rooms_6 rfl ?_
    change Rn xs xl (e - 1) mm_isRoom 9 [some (.inr (.inr 182)), some (.inl v1)] [.inl (rd h 188 0), .inl v1] (wr h 182 0 0) _
    refine R_icmp dd_isRoom_9 rfl rfl (fun (c13 : (rd h 188 0) ≤ v1) => ?_) (fun (c13 : v1 < (rd h 188 0)) => ?_)
    · replace k := k.1 c13
      refine R_ic dd_isRoom_16 (by decide) rfl ?_
      refine R_zret dd_isRoom_17 rfl (by decide) ?_
      change Rn xs xl e mm_told 10 [some (.inr (.inr 182)), some (.inl v1), some (.inl v2), some (.inl v3), none] [.inl 0] (wr h 182 0 0) _
      refine R_if dd_told_10 rfl rfl (fun (c14 : 0 = 0) => ?_) (fun (c14 : 0 ≠ 0) => ?_)
      · skip
        refine R_ic dd_told_38 (by decide) rfl ?_
        exact R_zret dd_told_39 rfl (by decide) k
      · exact absurd c14 (by omega)
    · replace k := k.2 c13
      refine R_ic dd_isRoom_12 (by decide) rfl ?_
      refine R_goto dd_isRoom_13 rfl ?_
      refine R_zret dd_isRoom_17 rfl (by decide) ?_
      change Rn xs xl e mm_told 10 [some (.inr (.inr 182)), some (.inl v1), some (.inl v2), some (.inl v3), none] [.inl 1] (wr h 182 0 0) _
      refine R_if dd_told_10 rfl rfl (fun (c15 : 1 = 0) => ?_) (fun (c15 : 1 ≠ 0) => ?_)
      · exact absurd c15 (by omega)
      · skip
        refine R_ld (v := .inr (.inr 182)) dd_told_13 rfl rfl rfl rfl ?_
        refine R_ld (v := .inl v2) dd_told_14 rfl rfl rfl rfl ?_
        refine R_call (as := [.inr (.inr 182), .inl v2]) (rest := []) (M' := mm_isRoom) (ls0 := [some (.inr (.inr 182)), some (.inl v2)]) dd_told_15 rfl rfl (cw_v cw_12_370 io_182 rfl rfl (Nat.le_of_ble_eq_true rfl) (Nat.le_of_ble_eq_true rfl)) mt_isRoom rfl (c := e - 1) (by omega) rfl ?_
        refine R_ld (v := .inl v2) dd_isRoom_0 rfl rfl rfl rfl ?_
        refine R_if dd_isRoom_1 rfl rfl (fun (c16 : v2 < 0) => ?_) (fun (c16 : 0 ≤ v2) => ?_)
        · replace k := k.1 c16
          refine R_ic dd_isRoom_16 (by decide) rfl ?_
          refine R_zret dd_isRoom_17 rfl (by decide) ?_
          change Rn xs xl e mm_told 18 [some (.inr (.inr 182)), some (.inl v1), some (.inl v2), some (.inl v3), none] [.inl 0] (wr h 182 0 0) _
          refine R_if dd_told_18 rfl rfl (fun (c17 : 0 = 0) => ?_) (fun (c17 : 0 ≠ 0) => ?_)
          · skip
            refine R_ic dd_told_38 (by decide) rfl ?_
            exact R_zret dd_told_39 rfl (by decide) k
          · exact absurd c17 (by omega)
        · replace k := k.2 c16
          refine R_ld (v := .inl v2) dd_isRoom_4 rfl rfl rfl rfl ?_
          refine R_ld (v := .inr (.inr 182)) dd_isRoom_5 rfl rfl rfl rfl ?_
          refine R_call (as := [.inr (.inr 182)]) (rest := [.inl v2]) (M' := mm_rooms) (ls0 := [some (.inr (.inr 182))]) dd_isRoom_6 rfl rfl (cw_v cw_12_332 io_182 rfl rfl (Nat.le_of_ble_eq_true rfl) (Nat.le_of_ble_eq_true rfl)) mt_rooms rfl (c := e - 2) (by omega) rfl ?_
          refine R_ld (v := .inr (.inr 182)) dd_rooms_0 rfl rfl rfl rfl ?_
          refine R_gf (v := .inr (.inr 188)) dd_rooms_1 fd_12_95 io_182 (congrArg (fun z : Int => (Sum.inr (Sum.inr z) : LV)) ((rdw_nei (by omega)).trans (rf_182_10 hF))) rfl ?_
          refine R_ic dd_rooms_4 (by decide) rfl ?_
          refine R_iald (v := (rd h 188 0)) (n := 300) dd_rooms_5 ia_188 la_188 (by decide) (rdw_ne (by decide)) rfl ?_
          refine R_iret dd_rooms_6 rfl ?_
          change Rn xs xl (e - 1) mm_isRoom 9 [some (.inr (.inr 182)), some (.inl v2)] [.inl (rd h 188 0), .inl v2] (wr h 182 0 0) _
          refine R_icmp dd_isRoom_9 rfl rfl (fun (c18 : (rd h 188 0) ≤ v2) => ?_) (fun (c18 : v2 < (rd h 188 0)) => ?_)
          · replace k := k.1 c18
            refine R_ic dd_isRoom_16 (by decide) rfl ?_
            refine R_zret dd_isRoom_17 rfl (by decide) ?_
            change Rn xs xl e mm_told 18 [some (.inr (.inr 182)), some (.inl v1), some (.inl v2), some (.inl v3), none] [.inl 0] (wr h 182 0 0) _
            refine R_if dd_told_18 rfl rfl (fun (c19 : 0 = 0) => ?_) (fun (c19 : 0 ≠ 0) => ?_)
            · skip
              refine R_ic dd_told_38 (by decide) rfl ?_
              exact R_zret dd_told_39 rfl (by decide) k
            · exact absurd c19 (by omega)
          · replace k := k.2 c18
            refine R_ic dd_isRoom_12 (by decide) rfl ?_
            refine R_goto dd_isRoom_13 rfl ?_
            refine R_zret dd_isRoom_17 rfl (by decide) ?_
            change Rn xs xl e mm_told 18 [some (.inr (.inr 182)), some (.inl v1), some (.inl v2), some (.inl v3), none] [.inl 1] (wr h 182 0 0) _
            refine R_if dd_told_18 rfl rfl (fun (c20 : 1 = 0) => ?_) (fun (c20 : 1 ≠ 0) => ?_)
            · exact absurd c20 (by omega)
            · skip
              refine R_ld (v := .inl v1) dd_told_21 rfl rfl rfl rfl ?_
              refine R_ld (v := .inl v2) dd_told_22 rfl rfl rfl rfl ?_
              refine R_icmp dd_told_23 rfl rfl (fun (c21 : v1 = v2) => ?_) (fun (c21 : v1 ≠ v2) => ?_)
              · replace k := k.1 c21
                refine R_ic dd_told_38 (by decide) rfl ?_
                exact R_zret dd_told_39 rfl (by decide) k
              · replace k := k.2 c21
                refine R_ld (v := .inr (.inr 182)) dd_told_26 rfl rfl rfl rfl ?_
                refine R_gf (v := .inr (.inr 198)) dd_told_27 fd_12_125 io_182 (congrArg (fun z : Int => (Sum.inr (Sum.inr z) : LV)) ((rdw_nei (by omega)).trans (rf_182_24 hF))) rfl ?_
                refine R_bi dd_told_30 (by decide) rfl ?_
                refine R_iald (v := (rd h 198 34)) (n := 1610) dd_told_32 ia_198 la_198 (by decide) (rdw_ne (by decide)) rfl ?_
                refine R_bi dd_told_33 (by decide) rfl ?_
                refine R_icmp dd_told_35 rfl rfl (fun (c22 : (rd h 198 34) ≠ 10) => ?_) (fun (c22 : (rd h 198 34) = 10) => ?_)
                · replace k := k.1 c22
                  refine R_bi dd_told_40 (by decide) rfl ?_
                  refine R_ic dd_told_42 (by decide) rfl ?_
                  refine R_ld (v := .inr (.inr 182)) dd_told_43 rfl rfl rfl rfl ?_
                  refine R_gf (v := .inr (.inr 198)) dd_told_44 fd_12_125 io_182 (congrArg (fun z : Int => (Sum.inr (Sum.inr z) : LV)) ((rdw_nei (by omega)).trans (rf_182_24 hF))) rfl ?_
                  refine R_bi dd_told_47 (by decide) rfl ?_
                  refine R_iald (v := (rd h 198 34)) (n := 1610) dd_told_49 ia_198 la_198 (by decide) (rdw_ne (by decide)) rfl ?_
                  obtain ⟨s1, k⟩ := k
                  refine R_imul (c := 3 * (rd h 198 34)) dd_told_50 (by omega) s1 rfl ?_
                  obtain ⟨s2, k⟩ := k
                  refine R_iadd (c := 3 * (rd h 198 34) + 35) dd_told_51 (by omega) s2 rfl ?_
                  refine R_st (ls' := [some (.inr (.inr 182)), some (.inl v1), some (.inl v2), some (.inl v3), some (.inl (3 * (rd h 198 34) + 35))]) dd_told_52 rfl rfl rfl (Nat.le_of_ble_eq_true rfl) rfl rfl ?_
                  refine R_ld (v := .inr (.inr 182)) dd_told_54 rfl rfl rfl rfl ?_
                  refine R_gf (v := .inr (.inr 198)) dd_told_55 fd_12_125 io_182 (congrArg (fun z : Int => (Sum.inr (Sum.inr z) : LV)) ((rdw_nei (by omega)).trans (rf_182_24 hF))) rfl ?_
                  refine R_ld (v := .inl (3 * (rd h 198 34) + 35)) dd_told_58 rfl rfl rfl rfl ?_
                  refine R_ld (v := .inl v1) dd_told_60 rfl rfl rfl rfl ?_
                  obtain ⟨s3, k⟩ := k
                  refine R_iast (n := 1610) dd_told_61 ia_198 la_198 s3 rfl ?_
                  refine R_ld (v := .inr (.inr 182)) dd_told_62 rfl rfl rfl rfl ?_
                  refine R_gf (v := .inr (.inr 198)) dd_told_63 fd_12_125 io_182 (congrArg (fun z : Int => (Sum.inr (Sum.inr z) : LV)) ((rdw_ne (by decide)).trans ((rdw_nei (by omega)).trans (rf_182_24 hF)))) rfl ?_
                  refine R_ld (v := .inl (3 * (rd h 198 34) + 35)) dd_told_66 rfl rfl rfl rfl ?_
                  refine R_ic dd_told_68 (by decide) rfl ?_
                  obtain ⟨s4, k⟩ := k
                  refine R_iadd (c := 3 * (rd h 198 34) + 36) dd_told_69 (by omega) s4 rfl ?_
                  refine R_ld (v := .inl v2) dd_told_70 rfl rfl rfl rfl ?_
                  obtain ⟨s5, k⟩ := k
                  refine R_iast (n := 1610) dd_told_71 ia_198 la_198 s5 rfl ?_
                  refine R_ld (v := .inr (.inr 182)) dd_told_72 rfl rfl rfl rfl ?_
                  refine R_gf (v := .inr (.inr 198)) dd_told_73 fd_12_125 io_182 (congrArg (fun z : Int => (Sum.inr (Sum.inr z) : LV)) ((rdw_ne (by decide)).trans ((rdw_ne (by decide)).trans ((rdw_nei (by omega)).trans (rf_182_24 hF))))) rfl ?_
                  refine R_ld (v := .inl (3 * (rd h 198 34) + 35)) dd_told_76 rfl rfl rfl rfl ?_
                  refine R_ic dd_told_78 (by decide) rfl ?_
                  obtain ⟨s6, k⟩ := k
                  refine R_iadd (c := 3 * (rd h 198 34) + 37) dd_told_79 (by omega) s6 rfl ?_
                  refine R_ld (v := .inl v3) dd_told_80 rfl rfl rfl rfl ?_
                  refine R_if dd_told_81 rfl rfl (fun (c23 : v3 = 0) => ?_) (fun (c23 : v3 ≠ 0) => ?_)
                  · replace k := k.1 c23
                    refine R_ic dd_told_88 (by decide) rfl ?_
                    obtain ⟨s7, k⟩ := k
                    refine R_iast (n := 1610) dd_told_89 ia_198 la_198 s7 rfl ?_
                    refine R_ld (v := .inr (.inr 182)) dd_told_90 rfl rfl rfl rfl ?_
                    refine R_gf (v := .inr (.inr 198)) dd_told_91 fd_12_125 io_182 (congrArg (fun z : Int => (Sum.inr (Sum.inr z) : LV)) ((rdw_ne (by decide)).trans ((rdw_ne (by decide)).trans ((rdw_ne (by decide)).trans ((rdw_nei (by omega)).trans (rf_182_24 hF)))))) rfl ?_
                    refine R_bi dd_told_94 (by decide) rfl ?_
                    refine R_A dd_told_96 rfl rfl rfl rfl ?_
                    refine R_iald (v := (rd (wr (wr (wr (wr h 182 0 0) 198 (3 * (rd h 198 34) + 35) v1) 198 (3 * (rd h 198 34) + 36) v2) 198 (3 * (rd h 198 34) + 37) 0) 198 34)) (n := 1610) dd_told_97 ia_198 la_198 (by decide) (rfl) rfl ?_
                    refine R_ic dd_told_98 (by decide) rfl ?_
                    obtain ⟨s8, k⟩ := k
                    refine R_iadd (c := (rd (wr (wr (wr (wr h 182 0 0) 198 (3 * (rd h 198 34) + 35) v1) 198 (3 * (rd h 198 34) + 36) v2) 198 (3 * (rd h 198 34) + 37) 0) 198 34) + 1) dd_told_99 (by omega) s8 rfl ?_
                    refine R_iast (n := 1610) dd_told_100 ia_198 la_198 (by decide) rfl ?_
                    refine R_ic dd_told_101 (by decide) rfl ?_
                    exact R_zret dd_told_102 rfl (by decide) k
                  · replace k := k.2 c23
                    refine R_ic dd_told_84 (by decide) rfl ?_
                    refine R_goto dd_told_85 rfl ?_
                    obtain ⟨s9, k⟩ := k
                    refine R_iast (n := 1610) dd_told_89 ia_198 la_198 s9 rfl ?_
                    refine R_ld (v := .inr (.inr 182)) dd_told_90 rfl rfl rfl rfl ?_
                    refine R_gf (v := .inr (.inr 198)) dd_told_91 fd_12_125 io_182 (congrArg (fun z : Int => (Sum.inr (Sum.inr z) : LV)) ((rdw_ne (by decide)).trans ((rdw_ne (by decide)).trans ((rdw_ne (by decide)).trans ((rdw_nei (by omega)).trans (rf_182_24 hF)))))) rfl ?_
                    refine R_bi dd_told_94 (by decide) rfl ?_
                    refine R_A dd_told_96 rfl rfl rfl rfl ?_
                    refine R_iald (v := (rd (wr (wr (wr (wr h 182 0 0) 198 (3 * (rd h 198 34) + 35) v1) 198 (3 * (rd h 198 34) + 36) v2) 198 (3 * (rd h 198 34) + 37) 1) 198 34)) (n := 1610) dd_told_97 ia_198 la_198 (by decide) (rfl) rfl ?_
                    refine R_ic dd_told_98 (by decide) rfl ?_
                    obtain ⟨s10, k⟩ := k
                    refine R_iadd (c := (rd (wr (wr (wr (wr h 182 0 0) 198 (3 * (rd h 198 34) + 35) v1) 198 (3 * (rd h 198 34) + 36) v2) 198 (3 * (rd h 198 34) + 37) 1) 198 34) + 1) dd_told_99 (by omega) s10 rfl ?_
                    refine R_iast (n := 1610) dd_told_100 ia_198 la_198 (by decide) rfl ?_
                    refine R_ic dd_told_101 (by decide) rfl ?_
                    exact R_zret dd_told_102 rfl (by decide) k
                · replace k := k.2 c22
                  refine R_ic dd_told_38 (by decide) rfl ?_
                  exact R_zret dd_told_39 rfl (by decide) k
end
section
/-! marks and walks, part m0: the reference's quarter, with what it leaves behind -/
/-- places that a quarter with a fault leaves alone -/
def pq (a i : Int) : Prop := a < 182 ∨ a = 183 ∨ a = 187 ∨ a = 191 ∨ a = 193 ∨ a = 195 ∨ 196 ≤ a ∨ (a = 182 ∧ (i = 18 ∨ i = 25 ∨ i = 28 ∨ i = 29)) ∨ (a = 188 ∧ i < 150) ∨ (a = 189 ∧ i < 1100) ∨ (a = 190 ∧ i < 1100)
section MA
variable {xs : Nat → Int} {xl e : Nat} {h : LH} {Q : Option LV → LH → Prop} {T : Int → Int} {n : Int} {V : Int → Int} {m : Nat}
theorem D_beginsM (he : 2 ≤ e) (hr : RNG h) (hs : SP4 h) (k : ∀ g, INV g → (∀ a i, ¬ muG a i → rd g a i = rd h a i) → (∀ m, 0 ≤ m → m < 4 → rd g 199 m = 0) → rd g 198 34 = 0 → Q none g) : Rn xs xl e mm_begins 0 [some (.inr (.inr 182)), none] [] h Q := by
  refine B_begins_0 (RF_of hr) ⟨1, by omega, D_startsDay (by omega) hr (by omega) (by omega) (by omega) (fun g gr gw gf => ?_)⟩
  have r1 := ws gr (i := 1) (v := 0) 1 1 (-2147483648) 2147483647 (by omega) (by omega) (by omega) (by decide +kernel) (by omega) (by omega) (by unfold i32; omega)
  have r2 := ws r1 (i := 34) (v := 0) 34 34 0 10 (by omega) (by omega) (by omega) (by decide +kernel) (by omega) (by omega) (by unfold i32; omega)
  have r3 := wY_lines r2 (i := 0) (v := 0) (ix := (0, 0, 0, 0)) (lo := 0) (hi := 24) (by decide +kernel) (pt 0) (by omega) (by omega) (by unfold i32; omega)
  have r4 := wu r3 (v := 0) (by omega) (by omega)
  generalize hg4 : wr (wr (wr (wr g 198 1 0) 198 34 0) 195 0 0) 182 25 0 = g4 at *
  have f4 : ∀ a i, ¬ muG a i → rd g4 a i = rd h a i := by
    intro a i hn
    rw [← hg4, rd_wr, if_neg, rd_wr, if_neg, rd_wr, if_neg, rd_wr, if_neg]
    · exact gf a i (fun q => hn (by unfold muG; omega))
    all_goals (rintro ⟨rfl, rfl⟩; exact hn (by unfold muG; omega))
  have w4 : ∀ p, 0 ≤ p → p ≤ 5 → rd g4 198 (0 + 2 + p) = rd h 188 (117 + 4 * p) := by
    intro p p0 p1
    rw [← hg4, rdw_ne (by decide), rdw_ne (by decide), rdw_nei (by omega), rdw_nei (by omega)]
    exact gw p p0 p1
  have u4 : rd g4 182 25 = 0 := by
    rw [← hg4]
    exact rdw_eq
  have u34 : rd g4 198 34 = 0 := by
    rw [← hg4, rdw_ne (by decide), rdw_ne (by decide)]
    exact rdw_eq
  refine B_begins_5 (RF_of gr) ?_
  rw [hg4]
  have loop : ∀ (n : Nat) (q : LH) (v : Int), 4 - v ≤ n → 0 ≤ v → v ≤ 4 → RNG q → (∀ m, 0 ≤ m → m < v → rd q 199 m = 0) → (∀ a i, a ≠ 199 → rd q a i = rd g4 a i) → Rn xs xl e mm_begins 34 [some (.inr (.inr 182)), some (.inl v)] [] q Q := by
    have stop : ∀ (q : LH), RNG q → (∀ m, 0 ≤ m → m < 4 → rd q 199 m = 0) → (∀ a i, a ≠ 199 → rd q a i = rd g4 a i) → Q none q := by
      intro q qr qm qf
      have qh : ∀ a i, ¬ muG a i → rd q a i = rd h a i := fun a i hn => (qf a i (fun z => hn (by unfold muG; omega))).trans (f4 a i hn)
      have s4 : SP4 q := SP4_of (fun b j hb n1 n2 n3 => qh b j (by unfold muG; unfold sens at hb; omega)) hs
      refine k q ⟨qr, s4.1, s4.2.1, s4.2.2.1, s4.2.2.2, ?_, fun m m0 m1 z => ?_, fun j j0 j1 z => ?_⟩ qh qm ((qf 198 34 (by decide)).trans u34)
      · intro p p0 p1 p2
        rw [qf 198 _ (by decide), w4 p p0 p1, qh 188 0 (by unfold muG; omega)]
        rw [qh 188 2 (by unfold muG; omega)] at p2
        exact hs.2.2.2.2 p p0 p1 p2
      · rw [qm m m0 m1] at z
        cases z
      · rw [qf 182 25 (by decide), u4] at z
        omega
    intro n
    induction n with
    | zero =>
      intro q v hn v0 v1 qr qm qf
      exact B_begins_34 (RF_of qr) ⟨fun _ => stop q qr (fun m m0 m1 => qm m m0 (by omega)) qf, fun c => by omega⟩
    | succ n ih =>
      intro q v hn v0 v1 qr qm qf
      refine B_begins_34 (RF_of qr) ⟨fun _ => stop q qr (fun m m0 m1 => qm m m0 (by omega)) qf, fun c => ⟨by omega, by omega, ih _ (v + 1) (by omega) (by omega) (by omega) (wR_isMarked qr (by omega) (by omega)) (fun m m0 m1 => ?_) (fun a i hn => ?_)⟩⟩
      · rw [rd_wr]
        split
        · rfl
        · exact qm m m0 (by omega)
      · rw [rdw_ne (fun q => hn q.symm)]
        exact qf a i hn
  exact loop 4 g4 0 (by omega) (by omega) (by omega) r4 (fun m _ _ => by omega) (fun _ _ _ => rfl)
/-- behind a text without a fault: copies, a new day, answer 0 -/
theorem DQ_tail2 (he : 41 ≤ e) {G : LH} (gI : INV G) (gq : NQ G) (f0 : rd G 182 8 = 0) (k : ∀ g, INV g → (∀ i, rd g 187 i = rd G 187 i) → (∀ i, 0 ≤ i → i < 150 → rd g 188 i = rd G 188 (i + 150)) → (∀ m, 0 ≤ m → m < 4 → rd g 199 m = 0) → rd g 198 34 = 0 → Q (some (.inl 0)) g) : Rn xs xl e mm_quarter 129 [some (.inr (.inr 182)), some (.inl 0)] [] G Q := by
  obtain ⟨q1, q2, q3, q4, q5⟩ := gq f0
  have c0 := rF_codes gI.1
  have n0 := rw_doors gI.1
  have n1 := rw_people gI.1
  refine q_copy1 (G := G) (fun g1 r1 c1 f1 => ?_) 150 G 0 (by omega) (by omega) (by omega) gI.1 (fun i i0 i1 => by omega) (fun _ _ _ => rfl)
  have e13 : rd g1 182 13 = rd G 182 13 := f1 _ _ (by omega)
  refine q_copy2 (G := g1) (by omega) (fun g2 r2 c2 f2 => ?_) (rd g1 182 13).toNat g1 0 (by omega) (by omega) (by omega) r1 (fun i i0 i1 => by omega) (fun _ _ _ => rfl)
  refine q_copy3 (G := g2) (fun g3 r3 f3 => ?_) 20 g2 0 (by omega) (by omega) (by omega) r2 (fun _ _ _ => rfl)
  have x188 : ∀ i, 0 ≤ i → i < 150 → rd g3 188 i = rd G 188 (i + 150) := fun i i0 i1 => ((f3 188 i (by omega)).trans (f2 188 i (by omega))).trans (c1 i i0 i1)
  have x0 := x188 0 (by omega) (by omega)
  have x1 := x188 1 (by omega) (by omega)
  have x2 := x188 2 (by omega) (by omega)
  have x3 := x188 3 (by omega) (by omega)
  have s4 : SP4 g3 := by
    have old : ∀ b j, b ≠ 188 → b ≠ 189 → b ≠ 190 → b ≠ 191 → b ≠ 193 → b ≠ 182 → rd g3 b j = rd G b j := fun b j n1 n2 n3 n4 n5 n6 => ((f3 b j (by omega)).trans (f2 b j (by omega))).trans (f1 b j (by omega))
    obtain ⟨⟨h1, h2, h3, h4, h5, h6, h7, h8⟩, hl, ht, hq, hw⟩ := gI.2
    refine ⟨⟨lines_same (fun j => old _ j (by decide) (by decide) (by decide) (by decide) (by decide) (by decide)) (fun j => old _ j (by decide) (by decide) (by decide) (by decide) (by decide) (by decide)) h1, lines_same (fun j => old _ j (by decide) (by decide) (by decide) (by decide) (by decide) (by decide)) (fun j => old _ j (by decide) (by decide) (by decide) (by decide) (by decide) (by decide)) h2, lines_same (fun j => old _ j (by decide) (by decide) (by decide) (by decide) (by decide) (by decide)) (fun j => old _ j (by decide) (by decide) (by decide) (by decide) (by decide) (by decide)) h3, lines_same (fun j => old _ j (by decide) (by decide) (by decide) (by decide) (by decide) (by decide)) (fun j => old _ j (by decide) (by decide) (by decide) (by decide) (by decide) (by decide)) h4, lines_same (fun j => old _ j (by decide) (by decide) (by decide) (by decide) (by decide) (by decide)) (fun j => old _ j (by decide) (by decide) (by decide) (by decide) (by decide) (by decide)) h5, lines_same (fun j => old _ j (by decide) (by decide) (by decide) (by decide) (by decide) (by decide)) (fun j => old _ j (by decide) (by decide) (by decide) (by decide) (by decide) (by decide)) h6, ?_, ?_⟩, ?_, ?_, ?_⟩
    · intro m m0 m1 q
      rw [old 195 _ (by decide) (by decide) (by decide) (by decide) (by decide) (by decide)] at q ⊢
      exact h7 m m0 m1 q
    · intro m m0 m1 j j0 j1 q
      rw [old 200 _ (by decide) (by decide) (by decide) (by decide) (by decide) (by decide)] at q ⊢
      exact h8 m m0 m1 j j0 j1 q
    · intro q
      rw [x3] at q
      rcases q5 with z | ⟨z1, n, z2, z3, z4⟩
      · have := z.1
        rw [show (3 + 150 : Int) = 153 by omega, this] at q
        cases q
      · have cp : ∀ j, 0 ≤ j → j < rd G 182 13 → rd g3 189 j = opR G j ∧ rd g3 190 j = arR G j := by
          intro j j0 j1
          have y := c2 j j0 (by omega)
          unfold opR arR
          rw [f3 189 j (by omega), f3 190 j (by omega), y.1, y.2, f1 189 _ (by omega), f1 190 _ (by omega), show (j + 1100 : Int) = 1100 + j by omega]
          exact ⟨rfl, rfl⟩
        have lt := seg_lt z3
        exact ⟨n, by omega, seg_same z3 (fun j j0 j1 => cp j j0 (by omega)), (cp n (by omega) (by omega)).1.trans z4⟩
    · unfold SPtok
      rw [old 184 _ (by decide) (by decide) (by decide) (by decide) (by decide) (by decide)]
      exact ht
    · refine ⟨fun d d0 d1 d2 => ?_, fun p p0 p1 p2 => ?_⟩
      · rw [x1] at d2
        rw [x188 _ (by omega) (by omega), x188 (6 + 8 * d) (by omega) (by omega), x0, show (5 + 8 * d + 150 : Int) = 155 + 8 * d by omega, show (6 + 8 * d + 150 : Int) = 156 + 8 * d by omega]
        exact q3 d d0 d2
      · rw [x2] at p2
        rw [x188 _ (by omega) (by omega), x0, show (117 + 4 * p + 150 : Int) = 267 + 4 * p by omega]
        exact q4 p p0 p2
  exact ⟨2, by omega, D_beginsM (by omega) r3 s4 (fun g4 i4 f4 m4 w4 v => B_quarter_258 (RF_of i4.1) (k g4 i4 (fun i => by rw [f4 187 i (by unfold muG; omega), f3 187 i (by omega), f2 187 i (by omega), f1 187 i (by omega)]) (fun i i0 i1 => (f4 188 i (by unfold muG; omega)).trans (x188 i i0 i1)) m4 w4))⟩
theorem G_quarter2 (he : 41 ≤ e) (hI : INV h) (h2 : rd h 182 2 = n) (n0 : 0 ≤ n) (n1 : n ≤ 1000) (hT : ∀ i, 0 ≤ i → i < n → rd h 183 i = T i) (hV : rd h 187 = V) (hi : Vinj V)
    (k : ∀ h', rd h' 187 = V → ((qF (tO T n) (tV T n 37) (tW T n 37 V) (tP T n)).1.1 ≠ 0 → ∀ a i, pq a i → rd h' a i = rd h a i) → ((qF (tO T n) (tV T n 37) (tW T n 37 V) (tP T n)).1.1 = 0 → rd h' 188 0 = qR (tV T n 37) (tW T n 37 V) (tP T n) ∧ (∀ m, 0 ≤ m → m < 4 → rd h' 199 m = 0) ∧ rd h' 198 34 = 0) → Q (some (.inl (qF (tO T n) (tV T n 37) (tW T n 37 V) (tP T n)).1.1)) h') : Rn xs xl e mm_quarter 0 [some (.inr (.inr 182)), none] [] h Q := by
  generalize eF : qF (tO T n) (tV T n 37) (tW T n 37 V) (tP T n) = Y at k
  obtain ⟨R, hRq⟩ : ∃ R, R = qR (tV T n 37) (tW T n 37 V) (tP T n) := ⟨_, rfl⟩
  rw [← hRq] at k
  have loop : ∀ (m : Nat) (c : Nat) (g : LH) (y : QY), qL (tO T n) (tV T n 37) (tW T n 37 V) (tP T n) R c y = Y → RSK T n V m g y.1 → INV g → NQ g → (∀ a i, pq a i → rd g a i = rd h a i) → (y.1.1 = 0 → DRK T n g R y ∧ 1000 ≤ y.1.2 + c) → Rn xs xl e mm_quarter 52 [some (.inr (.inr 182)), none] [] g Q := by
    intro m c
    induction c with
    | zero =>
      intro g y eY hs gI gq gf hd
      have gF := RF_of gI.1
      have e8 := hs.2.1
      have a7 := hs.2.2.2.1
      have p0 := hs.2.2.1
      have m1 := hs.1.2.2.2.2.1
      have eY' : y = Y := eY
      have stop : Rn xs xl e mm_quarter 115 [some (.inr (.inr 182)), none] [] g Q := by
        refine B_quarter_115 gF ⟨fun q => ?_, fun q => ?_⟩
        · have z : y.1.1 = 0 := by omega
          refine DQ_tail2 he gI gq (e8.trans z) (fun g4 _ f187 f188 f199 f34 => ?_)
          have := k g4 ((funext f187).trans hs.1.2.2.2.2.2.2.2.1)
          rw [← eY', z] at this
          exact this (fun q3 => absurd rfl q3) (fun _ => ⟨(f188 0 (by decide) (by decide)).trans (hd z).1.2.1, f199, f34⟩)
        · have := k g hs.1.2.2.2.2.2.2.2.1
          rw [← eY', ← e8] at this
          exact this (fun _ => gf) (fun q3 => absurd q3 (by omega))
      refine B_quarter_52 gF ⟨fun _ => stop, fun q => ⟨by omega, fun _ => stop, fun q2 => ?_⟩⟩
      have z : y.1.1 = 0 := e8.symm.trans q
      have eo := RS_o hs z
      have lt := RS_lt hs z (fun q3 => q2 (eo.trans q3))
      have := (hd z).2
      omega
    | succ c ih =>
      intro g y eY hs gI gq gf hd
      have gF := RF_of gI.1
      have e8 := hs.2.1
      have a7 := hs.2.2.2.1
      have p0 := hs.2.2.1
      have m1 := hs.1.2.2.2.2.1
      have stop : ¬ (y.1.1 = 0 ∧ tO T n y.1.2 ≠ 0) → Rn xs xl e mm_quarter 115 [some (.inr (.inr 182)), none] [] g Q := by
        intro ns
        have eY' : y = Y := by rw [qL_stop ns] at eY; exact eY
        refine B_quarter_115 gF ⟨fun q => ?_, fun q => ?_⟩
        · have z : y.1.1 = 0 := by omega
          refine DQ_tail2 he gI gq (e8.trans z) (fun g4 _ f187 f188 f199 f34 => ?_)
          have := k g4 ((funext f187).trans hs.1.2.2.2.2.2.2.2.1)
          rw [← eY', z] at this
          exact this (fun q3 => absurd rfl q3) (fun _ => ⟨(f188 0 (by decide) (by decide)).trans (hd z).1.2.1, f199, f34⟩)
        · have := k g hs.1.2.2.2.2.2.2.2.1
          rw [← eY', ← e8] at this
          exact this (fun _ => gf) (fun q3 => absurd q3 (by omega))
      refine B_quarter_52 gF ⟨fun q => stop (fun q3 => q (e8.trans q3.1)), fun q => ⟨by omega, fun q2 => stop (fun q3 => q3.2 ((RS_o hs q3.1).symm.trans q2)), fun q2 => ?_⟩⟩
      have z : y.1.1 = 0 := e8.symm.trans q
      have eo := RS_o hs z
      have no : tO T n y.1.2 ≠ 0 := fun q3 => q2 (eo.trans q3)
      have lt := RS_lt hs z no
      have l7 := (hs.2.2.2.2 z).1
      obtain ⟨D, hc⟩ := hd z
      rw [qL_go ⟨z, no⟩] at eY
      have gp : PB g := ⟨gI, trivial⟩
      have l9 : rd g 182 7 ≤ 999 := by omega
      have t106 : ∀ (g1 : LH) (s1 : Int × Nat), RSK T n V m g1 s1 → PL g g1 → (qS (tO T n) (tV T n 37) (tW T n 37 V) (tP T n) R y).1 = tkS (tO T n) (tV T n 37) (tP T n) 59 s1 → (s1.1 = 0 → DRK T n g1 R (qS (tO T n) (tV T n 37) (tW T n 37 V) (tP T n) R y)) → Rn xs xl e mm_quarter 106 [some (.inr (.inr 182)), none] [] g1 Q := by
        generalize qS (tO T n) (tV T n 37) (tW T n 37 V) (tP T n) R y = y' at eY
        intro g1 s1 r1 p1 e1 d1
        have A : Rn xs xl 1 mm_takeSign 0 [some (.inr (.inr 182)), some (.inl 59)] [] g1 (fun r g2 => r = none ∧ RSK T n V m g2 (tkS (tO T n) (tV T n 37) (tP T n) 59 s1) ∧ frT g1 g2) := G_takeSign (by omega) r1 (fun h' a b => ⟨rfl, a, b⟩)
        have B : Rn xs xl 1 mm_takeSign 0 [some (.inr (.inr 182)), some (.inl 59)] [] g1 (fun r g2 => r = none ∧ PG muT g1 g2) := D_takeSign (by omega) p1.1 (fun g2 p2 _ => ⟨rfl, p2⟩)
        refine B_quarter_106 (RF_of p1.1.1.1) ⟨1, by omega, (A.and B).mono (fun r g2 q => ?_)⟩
        obtain ⟨⟨rfl, a1, a2⟩, -, p2⟩ := q
        rw [← e1] at a1
        refine B_quarter_112 p2.rf (ih g2 y' eY a1 p2.inv (NQ_T p2 p1.2.2.1) (fun a i ha => ?_) (fun z' => ?_))
        · unfold pq at ha
          rw [p2.2.2.2 a i (by unfold muT; omega), p1.2.2.2 a i (by unfold muA; omega)]
          exact gf a i ha
        have z8 : rd g2 182 8 = 0 := a1.2.1.trans z'
        have z1 := p2.2.2.1 z8
        have ge := p2.2.1
        have g1' := (p1.2.1 z1).2
        have l2 := (a1.2.2.2.2 z').1
        exact ⟨DRK_T (d1 (r1.2.1.symm.trans z1)) a2 rfl, by omega⟩
      obtain ⟨d1, d2, d3, d4, d5, d6, d7, d8, d9, d10⟩ := D
      refine ⟨0, by omega, G_isWord hs (by omega) (fun _ ew => ?_) (fun nw => ?_)⟩
      · -- a door
        have B : Rn xs xl 5 mm_readDoor 0 [some (.inr (.inr 182)), none, none, none, none] [] g (fun r g1 => r = none ∧ PL g g1) := D_readDoor (by omega) gp gq l9 (e8.trans z) (fun g1 p1 => ⟨rfl, p1⟩)
        by_cases c14 : 14 ≤ y.2.2.1.length
        · have A : Rn xs xl 5 mm_readDoor 0 [some (.inr (.inr 182)), none, none, none, none] [] g (fun r g1 => r = none ∧ RSK T n V m g1 (tkE (tP T n) 5 y.1)) := G_readDoorX hs (by omega) (by omega) (fun h' a b => ⟨rfl, a⟩)
          refine B_quarter_76_1 gF ⟨5, by omega, (A.and B).mono (fun r g1 q => ?_)⟩
          obtain ⟨⟨rfl, a1⟩, -, p1⟩ := q
          have ne := tkE_ne' hs (v1 := 5) (by decide)
          refine B_quarter_83 (RF_of p1.1.1.1) (t106 g1 _ a1 p1 ?_ (fun q3 => absurd q3 ne))
          rw [tkS_f ne]
          unfold qS
          rw [if_pos ew, if_pos c14]
        · have A : Rn xs xl 5 mm_readDoor 0 [some (.inr (.inr 182)), none, none, none, none] [] g (fun r g1 => r = none ∧ RSK T n V m g1 (drL (tO T n) (tV T n 37) (tW T n 37 V) (tP T n) R y.2.1 y.1) ∧ ((drL (tO T n) (tV T n 37) (tW T n 37 V) (tP T n) R y.2.1 y.1).1 = 0 → NRK T n g1 (y.2.1 ++ [y.1.2 + 1]) ∧ rd g1 188 151 = (y.2.2.1.length : Int) + 1) ∧ (∀ a i, ¬ muDR (y.2.2.1.length : Int) a i → rd g1 a i = rd g a i)) := G_readDoor (by omega) hs z no d1 (by omega) d2 d3 d4 (by omega) (fun h' a b f => ⟨rfl, a, fun q3 => ⟨(b q3).1, (b q3).2.1⟩, f⟩)
          refine B_quarter_76_1 gF ⟨5, by omega, (A.and B).mono (fun r g1 q => ?_)⟩
          obtain ⟨⟨rfl, a1, a2, a3⟩, -, p1⟩ := q
          refine B_quarter_83 (RF_of p1.1.1.1) (t106 g1 _ a1 p1 ?_ (fun q3 => ?_))
          · unfold qS
            rw [if_pos ew, if_neg c14]
          · obtain ⟨b1, b2⟩ := a2 q3
            unfold DRK qS
            rw [if_pos ew, if_neg c14]
            rw [a3 188 150 (by unfold muDR muNK; omega), a3 188 152 (by unfold muDR muNK; omega), a3 188 153 (by unfold muDR muNK; omega), a3 182 13 (by unfold muDR muNK; omega), b2]
            simp only [List.length_append, List.length_singleton]
            exact ⟨b1, d2, d3, by omega, d5, by omega, by omega, d8, d9, d10⟩
      · refine B_quarter_76_0 gF ⟨0, by omega, G_isWord hs (by omega) (fun _ ew => ?_) (fun nw7 => ?_)⟩
        · have n1' := nw z
          have B : Rn xs xl 5 mm_readPerson 0 [some (.inr (.inr 182)), none, none] [] g (fun r g1 => r = none ∧ PL g g1) := D_readPerson (by omega) gp gq l9 (e8.trans z) (fun g1 p1 => ⟨rfl, p1⟩)
          by_cases c6 : 6 ≤ y.2.2.2.1.length
          · have A : Rn xs xl 5 mm_readPerson 0 [some (.inr (.inr 182)), none, none] [] g (fun r g1 => r = none ∧ RSK T n V m g1 (tkE (tP T n) 5 y.1)) := B_readPerson_0 gF ⟨fun q3 => by omega, fun _ => ⟨0, by omega, G_wrong hs (by omega) (fun h1 s1 f1 => B_readPerson_20 s1.1.1 ⟨rfl, s1⟩)⟩⟩
            refine B_quarter_92_1 gF ⟨5, by omega, (A.and B).mono (fun r g1 q => ?_)⟩
            obtain ⟨⟨rfl, a1⟩, -, p1⟩ := q
            have ne := tkE_ne' hs (v1 := 5) (by decide)
            refine B_quarter_99 (RF_of p1.1.1.1) (t106 g1 _ a1 p1 ?_ (fun q3 => absurd q3 ne))
            rw [tkS_f ne]
            unfold qS
            rw [if_neg n1', if_pos ew, if_pos c6]
          · have A : Rn xs xl 5 mm_readPerson 0 [some (.inr (.inr 182)), none, none] [] g (fun r g1 => r = none ∧ RSK T n V m g1 (psL (tO T n) (tV T n 37) (tW T n 37 V) (tP T n) R y.2.1 y.1) ∧ ((psL (tO T n) (tV T n 37) (tW T n 37 V) (tP T n) R y.2.1 y.1).1 = 0 → NRK T n g1 (y.2.1 ++ [y.1.2 + 1]) ∧ rd g1 188 152 = (y.2.2.2.1.length : Int) + 1) ∧ (∀ a i, ¬ muP (y.2.2.2.1.length : Int) a i → rd g1 a i = rd g a i)) := G_readPerson (by omega) hs z no d1 (by omega) d2 d3 d5 (by omega) (fun h' a b f => ⟨rfl, a, fun q3 => ⟨(b q3).1, (b q3).2.1⟩, f⟩)
            refine B_quarter_92_1 gF ⟨5, by omega, (A.and B).mono (fun r g1 q => ?_)⟩
            obtain ⟨⟨rfl, a1, a2, a3⟩, -, p1⟩ := q
            refine B_quarter_99 (RF_of p1.1.1.1) (t106 g1 _ a1 p1 ?_ (fun q3 => ?_))
            · unfold qS
              rw [if_neg n1', if_pos ew, if_neg c6]
            · obtain ⟨b1, b2⟩ := a2 q3
              unfold DRK qS
              rw [if_neg n1', if_pos ew, if_neg c6]
              rw [a3 188 150 (by unfold muP muNK; omega), a3 188 151 (by unfold muP muNK; omega), a3 188 153 (by unfold muP muNK; omega), a3 182 13 (by unfold muP muNK; omega), b2]
              simp only [List.length_append, List.length_singleton]
              exact ⟨b1, d2, d3, d4, by omega, by omega, d7, by omega, d9, d10⟩
        · have n1' := nw z
          have n7' := nw7 z
          have B : Rn xs xl 39 mm_readLet 0 [some (.inr (.inr 182))] [] g (fun r g1 => r = none ∧ PL g g1) := D_readLet (by omega) gp gq (e8.trans z) (fun g1 p1 => ⟨rfl, p1⟩)
          have h13 : rd g 188 153 < 0 → rd g 182 13 = 0 := by
            intro q3
            rcases Nat.eq_zero_or_pos y.2.2.2.2.length with u | u
            · exact (d9 u).2
            · have := d10 u
              omega
          by_cases w11 : tW T n 37 V y.1.2 = 11
          · by_cases cl : 0 < y.2.2.2.2.length
            · have A : Rn xs xl 39 mm_readLet 0 [some (.inr (.inr 182))] [] g (fun r g1 => r = none ∧ RSK T n V m g1 (tkE (tP T n) 3 y.1)) := G_readLet (by omega) hs z (fun q3 => absurd w11 q3) (fun _ _ h' a b => ⟨rfl, a⟩) h13 (fun _ q3 => absurd (d10 cl) (by omega))
              refine B_quarter_92_0 gF ⟨39, by omega, (A.and B).mono (fun r g1 q => ?_)⟩
              obtain ⟨⟨rfl, a1⟩, -, p1⟩ := q
              have ne := tkE_ne' hs (v1 := 3) (by decide)
              refine t106 g1 _ a1 p1 ?_ (fun q3 => absurd q3 ne)
              rw [tkS_f ne]
              unfold qS
              rw [if_neg n1', if_neg n7', if_pos w11, if_pos cl]
            · have d9' := d9 (by omega)
              have A : Rn xs xl 39 mm_readLet 0 [some (.inr (.inr 182))] [] g (fun r g1 => r = none ∧ RSK T n V m g1 (qX (tO T n) (tV T n 37) (tW T n 37 V) (tP T n) y.1).1 ∧ rd g1 188 153 = 0 ∧ (∀ a i, ¬ muLL a i → rd g1 a i = rd g a i)) := G_readLet (by omega) hs z (fun q3 => absurd w11 q3) (fun _ q3 => absurd q3 (by omega)) h13 (fun _ _ h' a b _ f => ⟨rfl, a, b, f⟩)
              refine B_quarter_92_0 gF ⟨39, by omega, (A.and B).mono (fun r g1 q => ?_)⟩
              obtain ⟨⟨rfl, a1, a2, a3⟩, -, p1⟩ := q
              refine t106 g1 _ a1 p1 ?_ (fun q3 => ?_)
              · unfold qS
                rw [if_neg n1', if_neg n7', if_pos w11, if_neg cl]
              · have ln := qX_len (fun j => tP_0 hs.1.2.2.2.2.2.2.1 hs.1.2.2.2.2.2.1 j) q3
                unfold DRK qS
                rw [if_neg n1', if_neg n7', if_pos w11, if_neg cl]
                rw [a3 188 150 (by unfold muLL muLK; omega), a3 188 151 (by unfold muLL muLK; omega), a3 188 152 (by unfold muLL muLK; omega), a2]
                have dn : NRK T n g1 y.2.1 := by
                  refine ⟨(a3 182 19 (by unfold muLL muLK; omega)).trans d1.1, fun i hi => ?_⟩
                  rw [a3 192 _ (by unfold muLL muLK; omega), a3 194 _ (by unfold muLL muLK; omega)]
                  exact d1.2 i hi
                exact ⟨dn, d2, d3, d4, d5, d6, d7, d8, fun q4 => absurd q4 (Nat.ne_of_gt ln), fun _ => Int.le_refl 0⟩
          · have A : Rn xs xl 39 mm_readLet 0 [some (.inr (.inr 182))] [] g (fun r g1 => r = none ∧ RSK T n V m g1 (tkE (tP T n) 1 y.1)) := G_readLet (by omega) hs z (fun _ h' a b => ⟨rfl, a⟩) (fun q3 => absurd q3 w11) h13 (fun q3 => absurd q3 w11)
            refine B_quarter_92_0 gF ⟨39, by omega, (A.and B).mono (fun r g1 q => ?_)⟩
            obtain ⟨⟨rfl, a1⟩, -, p1⟩ := q
            have ne := tkE_ne' hs (v1 := 1) (by decide)
            refine t106 g1 _ a1 p1 ?_ (fun q3 => absurd q3 ne)
            rw [tkS_f ne]
            unfold qS
            rw [if_neg n1', if_neg n7', if_neg w11]
  have i0 : INV (wr h 182 0 0) := wF_thrown hI (by omega) (by omega)
  have A0 : Rn xs xl 2 mm_cutAll 0 [some (.inr (.inr 182)), none, none, none, none, none, none] [] (wr h 182 0 0) (fun r h1 => r = none ∧ ∃ m : Nat, (∀ j : Nat, j ≤ m → RTK T n h1 j) ∧ tO T n m = 0 ∧ (∀ j : Nat, j < m → tO T n j ≠ 0) ∧ m ≤ 1000) := F_cutAll (by omega) (RF_of i0.1) ((rdw_nei (by decide)).trans h2) n0 n1 (fun i i0 i1 => (rdw_ne (by decide)).trans (hT i i0 i1)) (fun h' m c1 c2 c3 c4 _ _ _ _ => ⟨rfl, m, c1, c2, c3, c4⟩)
  have B0 : Rn xs xl 2 mm_cutAll 0 [some (.inr (.inr 182)), none, none, none, none, none, none] [] (wr h 182 0 0) (fun r h1 => r = none ∧ INV h1 ∧ rd h1 182 7 = 0 ∧ rd h1 182 8 = 0 ∧ rd h1 182 2 = 0 ∧ (∀ a i, ¬ muC a i → rd h1 a i = rd (wr h 182 0 0) a i)) := D_cutAll (by omega) i0 (fun h1 i1 a1 f1 t1 fr1 => ⟨rfl, i1, a1, f1, t1, fr1⟩)
  refine B_quarter_0 (RF_of hI.1) ⟨2, by omega, (A0.and B0).mono (fun r h1 q => ?_)⟩
  obtain ⟨⟨rfl, m, c1, c2, c3, c4⟩, -, i1, a1, f1, t1, fr1⟩ := q
  have i2 : INV (wr (wr h1 182 13 0) 182 19 0) := wF_readMany (wF_codes i1 (by omega) (by omega)) (by omega) (by omega)
  refine B_quarter_9 (RF_of i1.1) ⟨0, by omega, D_stands i2 (fun h3 i3 m3 z3 fr3 => ?_)⟩
  have e3 : ∀ a i, ¬ (a = 188 ∧ 150 ≤ i) → ¬ (a = 182 ∧ (i = 13 ∨ i = 19)) → rd h3 a i = rd h1 a i := by
    intro a i n1 n2
    rw [fr3 a i n1, rd_wr, if_neg, rd_wr, if_neg] <;> (rintro ⟨rfl, rfl⟩; exact n2 (by omega))
  have x3 : rd h3 182 13 = 0 := (fr3 _ _ (by omega)).trans ((rdw_nei (by decide)).trans rdw_eq)
  have m3' : rd h3 182 19 = 0 := (fr3 _ _ (by omega)).trans rdw_eq
  have s3 : RSK T n V m h3 (0, 0) := by
    refine ⟨⟨RF_of i3.1, fun j hj => ?_, c2, c3, c4, n0, n1, ?_, hi⟩, ?_, Int.le_refl 0, ?_, fun _ => ⟨?_, Nat.zero_le _⟩⟩
    · obtain ⟨r1, r2, r3⟩ := c1 j hj
      exact ⟨(e3 _ _ (by omega) (by omega)).trans r1, (e3 _ _ (by omega) (by omega)).trans r2, fun q1 q2 => (e3 _ _ (by omega) (by omega)).trans (r3 q1 q2)⟩
    · rw [← hV]
      funext i
      rw [e3 _ _ (by omega) (by omega), fr1 _ _ (by unfold muC; omega), rdw_ne (by decide)]
    · rw [e3 _ _ (by omega) (by omega), f1]
    · rw [e3 _ _ (by omega) (by omega), a1]; decide
    · rw [e3 _ _ (by omega) (by omega), a1]; rfl
  have A4 : Rn xs xl 2 mm_takeWord 0 [some (.inr (.inr 182)), some (.inl 0)] [] h3 (fun r h4 => r = none ∧ RSK T n V m h4 (tkW (tW T n 37 V) (tP T n) 0 (0, 0))) := G_takeWord (by omega) s3 (by omega) (fun h' a b => ⟨rfl, a⟩)
  have B4 : Rn xs xl 2 mm_takeWord 0 [some (.inr (.inr 182)), some (.inl 0)] [] h3 (fun r h4 => r = none ∧ PG muT h3 h4) := D_takeWord (by omega) ⟨i3, trivial⟩ (by omega) (fun h4 p4 => ⟨rfl, p4⟩)
  refine B_quarter_26 (RF_of i3.1) ⟨2, by omega, (A4.and B4).mono (fun r h4 q => ?_)⟩
  obtain ⟨⟨rfl, s4⟩, -, p4⟩ := q
  have A5 : Rn xs xl 1 mm_takeNumber 0 [some (.inr (.inr 182)), some (.inl 2), some (.inl 10)] [] h4 (fun r h5 => ∃ x, r = some (.inl x) ∧ RSK T n V m h5 (tkN (tO T n) (tV T n 37) (tP T n) 2 10 (tkW (tW T n 37 V) (tP T n) 0 (0, 0))) ∧ ((tkN (tO T n) (tV T n 37) (tP T n) 2 10 (tkW (tW T n 37 V) (tP T n) 0 (0, 0))).1 = 0 → x = qR (tV T n 37) (tW T n 37 V) (tP T n))) := G_takeNumber (by omega) s4 ⟨by unfold i32; omega, by unfold i32; omega⟩ (fun h' r a _ b _ => ⟨r, rfl, a, fun q3 => (b q3).1⟩)
  have B5 : Rn xs xl 1 mm_takeNumber 0 [some (.inr (.inr 182)), some (.inl 2), some (.inl 10)] [] h4 (fun r h5 => ∃ x, r = some (.inl x) ∧ PG muT h4 h5 ∧ (rd h5 182 8 = 0 → 2 ≤ x ∧ x ≤ 10) ∧ (rd h5 182 8 ≠ 0 → x = 0)) := D_takeNumber (by omega) p4.1 (by unfold i32; omega) (by unfold i32; omega) (fun r h5 p5 a5 b5 => ⟨r, rfl, p5, fun q3 => ⟨(a5 q3).1, (a5 q3).2.1⟩, b5⟩)
  refine B_quarter_31 p4.rf ⟨1, by omega, (A5.and B5).mono (fun r h5 q => ?_)⟩
  obtain ⟨⟨x, rfl, s5, q5⟩, x', ex, p5, a5, b5⟩ := q
  cases ex
  have rb : 0 ≤ x ∧ x ≤ 10 := by
    by_cases z : rd h5 182 8 = 0
    · have := a5 z; omega
    · have := b5 z; omega
  have i6 : INV (wr h5 188 150 x) := wq_rooms p5.inv rb.1 rb.2
  have A7 : Rn xs xl 1 mm_takeSign 0 [some (.inr (.inr 182)), some (.inl 59)] [] (wr h5 188 150 x) (fun r h7 => r = none ∧ RSK T n V m h7 (qA (tO T n) (tV T n 37) (tW T n 37 V) (tP T n))) := G_takeSign (by omega) (RSK_w s5) (fun h' a b => ⟨rfl, a⟩)
  have B7 : Rn xs xl 1 mm_takeSign 0 [some (.inr (.inr 182)), some (.inl 59)] [] (wr h5 188 150 x) (fun r h7 => r = none ∧ PG muT (wr h5 188 150 x) h7) := D_takeSign (by omega) ⟨i6, trivial⟩ (fun h7 p7 _ => ⟨rfl, p7⟩)
  refine B_quarter_45 p5.rf ⟨1, by omega, (A7.and B7).mono (fun r h7 q => ?_)⟩
  obtain ⟨⟨rfl, s7⟩, -, p7⟩ := q
  have p45 := p4.trans p5
  have e7 : ∀ a i, ¬ muT a i → ¬ (a = 188 ∧ i = 150) → rd h7 a i = rd h3 a i := by
    intro a i n1 n2
    rw [p7.2.2.2 a i n1, rd_wr, if_neg (by rintro ⟨rfl, rfl⟩; exact n2 ⟨rfl, rfl⟩)]
    exact p45.2.2.2 a i n1
  have y : ∀ i, i ≠ 150 → rd h7 188 i = rd h3 188 i := fun i hi => e7 188 i (by unfold muT; omega) (by omega)
  have y0 : rd h7 188 150 = x := (p7.2.2.2 _ _ (by unfold muT; omega)).trans rdw_eq
  have y1 : rd h7 188 151 = 0 := (y 151 (by decide)).trans (z3 151 (by decide) (by decide) (by decide))
  have y2 : rd h7 188 152 = 0 := (y 152 (by decide)).trans (z3 152 (by decide) (by decide) (by decide))
  have y3 : rd h7 188 153 = -1 := (y 153 (by decide)).trans m3
  have yc : rd h7 182 13 = 0 := (e7 182 13 (by unfold muT; omega) (by omega)).trans x3
  have yn : rd h7 182 19 = 0 := (e7 182 19 (by unfold muT; omega) (by omega)).trans m3'
  refine loop m 1000 h7 (qB (tO T n) (tV T n 37) (tW T n 37 V) (tP T n)) (by rw [hRq]; exact eF) s7 p7.inv (fun z => ?_) (fun a i ha => ?_) (fun z => ⟨?_, ?_⟩)
  · have z6 := p7.2.2.1 z
    rw [rdw_ne (by decide)] at z6
    have r2 := a5 z6
    refine ⟨by omega, by omega, fun d d0 d1 => by omega, fun p p0 p1 => by omega, Or.inl ⟨y3, yc⟩⟩
  · unfold pq at ha
    rw [e7 a i (by unfold muT; omega) (by omega), e3 a i (by omega) (by omega), fr1 a i (by unfold muC; omega), rd_wr, if_neg (by omega)]
  · have z5 : (tkN (tO T n) (tV T n 37) (tP T n) 2 10 (tkW (tW T n 37 V) (tP T n) 0 (0, 0))).1 = 0 := tkS_z z
    have ex := q5 z5
    refine ⟨⟨yn, fun i hi => absurd hi (Nat.not_lt_zero i)⟩, y0.trans (ex.trans hRq.symm), by rw [hRq, ← ex]; exact rb, y1, y2, rfl, Nat.zero_le 14, Nat.zero_le 6, fun _ => ⟨by omega, yc⟩, fun q3 => absurd q3 (Nat.lt_irrefl 0)⟩
  · omega
end MA
end
section
/-! days, part n0: the reference's names with what they name -/
def CDK (h : LH) (C : List Int) : Prop := rd h 182 19 = (C.length : Int) ∧ ∀ i : Nat, i < C.length → rd h 194 i = C.getD i 0
theorem CDK_fr {h h' : LH} {C : List Int} (hC : CDK h C) (e1 : rd h' 182 19 = rd h 182 19) (e2 : ∀ i, rd h' 194 i = rd h 194 i) : CDK h' C := ⟨e1.trans hC.1, fun i hi => (e2 i).trans (hC.2 i hi)⟩
theorem CDK_T {h h' : LH} {C : List Int} (hC : CDK h C) (hf : frT h h') : CDK h' C := CDK_fr hC (hf _ _ (by unfold muTK; omega)) (fun i => hf _ _ (by unfold muTK; omega))
theorem getI_l {L : List Int} {x : Int} {i : Nat} (hi : i < L.length) : (L ++ [x]).getD i 0 = L.getD i 0 := by
  rw [List.getD_eq_getElem?_getD, List.getD_eq_getElem?_getD, List.getElem?_append_left hi]
theorem getI_e {L : List Int} {x : Int} : (L ++ [x]).getD L.length 0 = x := by
  rw [List.getD_eq_getElem?_getD, List.getElem?_append_right (Nat.le_refl _), Nat.sub_self]
  rfl
section NA
variable {xs : Nat → Int} {xl e : Nat} {h : LH} {Q : Option LV → LH → Prop} {v1 v2 v3 v4 w2 D R : Int} {T : Int → Int} {n : Int} {V : Int → Int} {m : Nat} {s : Int × Nat} {N : List Nat} {C : List Int}
theorem G_readNameC (he : 3 ≤ e) (hs : RSK T n V m h s) (hz : s.1 = 0) (ho : tO T n s.2 ≠ 0) (hN : NRK T n h N) (hC : CDK h C) (hl : N.length < 20) (hw : 0 ≤ v1)
    (k : ∀ h', RSK T n V m h' (tkM (tO T n) (tV T n 37) (tW T n 37 V) (tP T n) N (tkA s)) → ((tkM (tO T n) (tV T n 37) (tW T n 37 V) (tP T n) N (tkA s)).1 = 0 → NRK T n h' (N ++ [s.2 + 1]) ∧ CDK h' (C ++ [v1])) → frNK h h' → Q none h') :
    Rn xs xl e mm_readName 0 [some (.inr (.inr 182)), some (.inl v1)] [] h Q := by
  have a7 := hs.2.2.2.1
  have h1s := RS_adv hs hz ho
  have hN1 : NRK T n (wr h 182 7 (rd h 182 7 + 1)) N := NRK_T hN fr7
  have hC1 : CDK (wr h 182 7 (rd h 182 7 + 1)) C := CDK_T hC fr7
  have f1 : frNK h (wr h 182 7 (rd h 182 7 + 1)) := fr7.N
  have z1 : (tkA s).1 = 0 := by rw [tkA_0 hz]
  have k2 : (tkA s).2 = s.2 + 1 := by rw [tkA_0 hz]
  refine B_readName_0 hs.1.1 ⟨by omega, 2, by omega, ?_⟩
  generalize wr h 182 7 (rd h 182 7 + 1) = g at h1s hN1 hC1 f1 ⊢
  rw [← k2] at k
  generalize tkA s = t at h1s z1 k ⊢
  have bad : ∀ {c : Int}, 1 ≤ c → tkM (tO T n) (tV T n 37) (tW T n 37 V) (tP T n) N t = tkE (tP T n) c t → ∀ h', RSK T n V m h' (tkE (tP T n) c t) → frT g h' → Rn xs xl e mm_readName 38 [some (.inr (.inr 182)), some (.inl v1)] [] h' Q := by
    intro c hc em h' c1 f2
    have ne := tkE_ne' h1s hc
    refine B_readName_38 c1.1.1 ⟨fun _ => k h' (by rw [em]; exact c1) (fun q => absurd (by rw [← em]; exact q) ne) (f1.trans f2.N), fun q => absurd (c1.2.1.symm.trans q) ne⟩
  refine G_isName (by omega) h1s (fun _ nm => ?_) (fun no => ?_)
  · have nm' := nm
    unfold isNm at nm'
    rw [decide_eq_true_iff] at nm'
    refine B_readName_14_1 h1s.1.1 ⟨0, by omega, G_find h1s z1 nm'.1 hN1 (by omega) (fun r hr => B_readName_30 h1s.1.1 ⟨fun c => ?_, fun c => ⟨0, by omega, G_wrong h1s (by omega) (fun h' c1 f2 => bad (by decide) ?_ h' c1 f2)⟩⟩)⟩
    · have na : ¬ N.any (fun j => decide (tV T n 37 j = tV T n 37 t.2)) = true := fun q => by have := hr.mpr q; omega
      have em : tkM (tO T n) (tV T n 37) (tW T n 37 V) (tP T n) N t = tkA t := by unfold tkM; rw [if_pos nm, if_neg na]
      rw [em] at k
      have b7 := h1s.2.2.2.1
      have l19 := hN1.1
      have e8 := h1s.2.1
      have ev := RS_v h1s z1 (by omega) (by omega)
      refine B_readName_38 h1s.1.1 ⟨fun q => absurd (e8.trans z1) q, fun _ => ⟨by omega, by omega, by omega, by omega, by omega, ?_⟩⟩
      have fr : frNK g (wr (wr (wr (wr g 192 (rd g 182 19) (rd g 186 (rd g 182 7))) 194 (rd g 182 19) v1) 182 19 (rd g 182 19 + 1)) 182 7 (rd g 182 7 + 1)) := by
        intro a i hn
        unfold muNK at hn
        rw [rd_wr, if_neg (fun z => hn (by omega)), rd_wr, if_neg (fun z => hn (by omega)), rd_wr, if_neg (fun z => hn (by omega)), rd_wr, if_neg (fun z => hn (by omega))]
      obtain ⟨p1, p2⟩ := h1s.2.2.2.2 z1
      have lt := RS_lt h1s z1 (by omega)
      have m1 := h1s.1.2.2.2.2.1
      refine k _ ⟨RXK_fr h1s.1 (RF_fn h1s.1.1 fr) (fun a i ha => fr a i (by unfold muNK; omega)), ?_, ?_, ?_, fun _ => ⟨?_, ?_⟩⟩ (fun _ => ⟨⟨?_, fun i hi => ?_⟩, ?_, fun i hi => ?_⟩) (f1.trans fr)
      · rw [tkA_0 z1]; exact ((rdw_nei (by decide)).trans ((rdw_nei (by decide)).trans ((rdw_ne (by decide)).trans (rdw_ne (by decide))))).trans (e8.trans z1)
      · rw [tkA_0 z1]; show (0 : Int) ≤ 0; decide
      · rw [rdw_eq]; omega
      · rw [tkA_0 z1, rdw_eq, p1]; show (t.2 : Int) + 1 = ((t.2 + 1 : Nat) : Int); omega
      · rw [tkA_0 z1]; show t.2 + 1 ≤ m; omega
      · rw [rdw_nei (by decide), rdw_eq, l19, List.length_append, List.length_singleton]; omega
      · have hi' := hi
        rw [List.length_append, List.length_singleton] at hi'
        have a1 : rd (wr (wr (wr (wr g 192 (rd g 182 19) (rd g 186 (rd g 182 7))) 194 (rd g 182 19) v1) 182 19 (rd g 182 19 + 1)) 182 7 (rd g 182 7 + 1)) 192 i = rd (wr g 192 (rd g 182 19) (rd g 186 (rd g 182 7))) 192 i := (rdw_ne (by decide)).trans ((rdw_ne (by decide)).trans (rdw_ne (by decide)))
        have a2 : rd (wr (wr (wr (wr g 192 (rd g 182 19) (rd g 186 (rd g 182 7))) 194 (rd g 182 19) v1) 182 19 (rd g 182 19 + 1)) 182 7 (rd g 182 7 + 1)) 194 i = rd (wr (wr g 192 (rd g 182 19) (rd g 186 (rd g 182 7))) 194 (rd g 182 19) v1) 194 i := (rdw_ne (by decide)).trans (rdw_ne (by decide))
        rw [getD_appN hi, a1, a2]
        by_cases z : i < N.length
        · rw [if_pos z, rdw_nei (by omega), rdw_nei (by omega), rdw_ne (by decide)]; exact hN1.2 i z
        · rw [if_neg z, show (i : Int) = rd g 182 19 by omega, rdw_eq, rdw_eq]; exact ⟨ev, hw⟩
      · rw [rdw_nei (by decide), rdw_eq, hC1.1, List.length_append, List.length_singleton]; omega
      · have hi' := hi
        rw [List.length_append, List.length_singleton] at hi'
        have c19 := hC1.1
        have a2 : rd (wr (wr (wr (wr g 192 (rd g 182 19) (rd g 186 (rd g 182 7))) 194 (rd g 182 19) v1) 182 19 (rd g 182 19 + 1)) 182 7 (rd g 182 7 + 1)) 194 i = rd (wr (wr g 192 (rd g 182 19) (rd g 186 (rd g 182 7))) 194 (rd g 182 19) v1) 194 i := (rdw_ne (by decide)).trans (rdw_ne (by decide))
        rw [a2]
        by_cases z : i < C.length
        · rw [getI_l z, rdw_nei (by omega), rdw_ne (by decide)]; exact hC1.2 i z
        · rw [show i = C.length by omega, getI_e, show ((C.length : Nat) : Int) = rd g 182 19 by omega, rdw_eq]
    · unfold tkM
      rw [if_pos nm, if_pos (hr.mp c)]
  · refine B_readName_14_0 h1s.1.1 ⟨0, by omega, G_wrong h1s (by omega) (fun h' c1 f2 => B_readName_22 c1.1.1 (bad (by decide) ?_ h' c1 f2))⟩
    unfold tkM
    rw [if_neg (no z1)]
theorem G_readPersonC (he : 4 ≤ e) (hs : RSK T n V m h s) (hz : s.1 = 0) (ho : tO T n s.2 ≠ 0) (hN : NRK T n h N) (hC : CDK h C) (hl : N.length < 20) {R P : Int} (hR : rd h 188 150 = R) (hr : 0 ≤ R ∧ R ≤ 10) (hP : rd h 188 152 = P) (hp : 0 ≤ P ∧ P < 6)
    (k : ∀ h', RSK T n V m h' (psL (tO T n) (tV T n 37) (tW T n 37 V) (tP T n) R N s) → ((psL (tO T n) (tV T n 37) (tW T n 37 V) (tP T n) R N s).1 = 0 → (NRK T n h' (N ++ [s.2 + 1]) ∧ CDK h' (C ++ [P + 20])) ∧ rd h' 188 152 = P + 1 ∧ rd h' 188 (266 + 4 * P) = tW T n 37 V (psA (tO T n) (tV T n 37) (tW T n 37 V) (tP T n) N s).2 - 18 ∧ rd h' 188 (267 + 4 * P) = tV T n 37 (psB (tO T n) (tV T n 37) (tW T n 37 V) (tP T n) N s).2 ∧ rd h' 188 (268 + 4 * P) = tV T n 37 (psC (tO T n) (tV T n 37) (tW T n 37 V) (tP T n) R N s).2 ∧ rd h' 188 (269 + 4 * P) = tV T n 37 (psD (tO T n) (tV T n 37) (tW T n 37 V) (tP T n) R N s).2) → frPK P h h' → Q none h') :
    Rn xs xl e mm_readPerson 0 [some (.inr (.inr 182)), none, none] [] h Q := by
  refine B_readPerson_0 hs.1.1 ⟨fun _ => ⟨by omega, 3, by omega, ?_⟩, fun c => by omega⟩
  rw [hP]
  refine G_readNameC (by omega) hs hz ho hN hC hl (by omega) (fun h1 s1 n1 f1 => ?_)
  refine B_readPerson_29 s1.1.1 ⟨by omega, by omega, 2, by omega, G_takeSort (by omega) s1 (fun h2 r2 s2 f2 q2 _ _ => ?_)⟩
  refine B_readPerson_46 s2.1.1 ⟨by omega, 2, by omega, G_takeWord (by omega) (RSK_w s2) (by omega) (fun h3 s3 f3 => ?_)⟩
  have b3 : ∀ i, rd h3 188 i = rd (wr h1 188 (4 * P + 266) r2) 188 i := by
    intro i
    rw [f3 _ _ (by unfold muTK; omega), rd_wr, rd_wr, f2 _ _ (by unfold muTK; omega)]
  have b1 : ∀ i, rd h1 188 i = rd h 188 i := fun i => f1 _ _ (by unfold muNK; omega)
  have R3 : rd h3 188 150 = R := by rw [b3, rdw_nei (by omega), b1, hR]
  refine B_readPerson_53 s3.1.1 ⟨by omega, 2, by omega, G_takeRoom (by omega) s3 R3 hr (fun h4 r4 s4 f4 q4 _ => ?_)⟩
  refine B_readPerson_64 s4.1.1 ⟨by omega, 2, by omega, G_takeWord (by omega) (RSK_w s4) (by omega) (fun h5 s5 f5 => ?_)⟩
  have b5 : ∀ i, rd h5 188 i = rd (wr h3 188 (4 * P + 266 + 1) r4) 188 i := by
    intro i
    rw [f5 _ _ (by unfold muTK; omega), rd_wr, rd_wr, f4 _ _ (by unfold muTK; omega)]
  have R5 : rd h5 188 150 = R := by rw [b5, rdw_nei (by omega), R3]
  refine B_readPerson_71 s5.1.1 ⟨by omega, 2, by omega, G_takeRoom (by omega) s5 R5 hr (fun h6 r6 s6 f6 q6 _ => ?_)⟩
  refine B_readPerson_82 s6.1.1 ⟨by omega, by omega, 3, by omega, G_takeAfter (by omega) (RSK_w s6) (by omega) ⟨by unfold i32; omega, by unfold i32; omega⟩ (fun h7 r7 s7 f7 q7 _ => ?_)⟩
  have b7 : ∀ i, rd h7 188 i = rd (wr h5 188 (4 * P + 266 + 2) r6) 188 i := by
    intro i
    rw [f7 _ _ (by unfold muTK; omega), rd_wr, rd_wr, f6 _ _ (by unfold muTK; omega)]
  have P7 : rd h7 188 152 = P := by rw [b7, rdw_nei (by omega), b5, rdw_nei (by omega), b3, rdw_nei (by omega), b1, hP]
  have P8 : rd (wr h7 188 (4 * P + 266 + 3) r7) 188 152 = P := by rw [rdw_nei (by omega), P7]
  refine B_readPerson_99 s7.1.1 ⟨by omega, by omega, ?_⟩
  rw [P8]
  refine k _ (RSK_w (RSK_w s7)) (fun z => ?_) (fun a i hn => ?_)
  · have z7 : (psD (tO T n) (tV T n 37) (tW T n 37 V) (tP T n) R N s).1 = 0 := tkN_z z
    have z6 := tkW_z z7
    have z5 := tkN_z z6
    have z4 := tkW_z z5
    have z3 := tkN_z z4
    have z2 := tkW_z z3
    have z1 := tkF_z z2
    have nn := n1 z1
    have e19 : rd (wr (wr h7 188 (4 * P + 266 + 3) r7) 188 152 (P + 1)) 182 19 = rd h1 182 19 := by
      rw [rdw_ne (by decide), rdw_ne (by decide), f7 _ _ (by unfold muTK; omega), rdw_ne (by decide), f6 _ _ (by unfold muTK; omega), f5 _ _ (by unfold muTK; omega), rdw_ne (by decide), f4 _ _ (by unfold muTK; omega), f3 _ _ (by unfold muTK; omega), rdw_ne (by decide), f2 _ _ (by unfold muTK; omega)]
    have same : ∀ a, a = 192 ∨ a = 194 → ∀ j, rd (wr (wr h7 188 (4 * P + 266 + 3) r7) 188 152 (P + 1)) a j = rd h1 a j := by
      intro a ha j
      rw [rdw_ne (by omega), rdw_ne (by omega), f7 _ _ (by unfold muTK; omega), rdw_ne (by omega), f6 _ _ (by unfold muTK; omega), f5 _ _ (by unfold muTK; omega), rdw_ne (by omega), f4 _ _ (by unfold muTK; omega), f3 _ _ (by unfold muTK; omega), rdw_ne (by omega), f2 _ _ (by unfold muTK; omega)]
    refine ⟨⟨⟨e19.trans nn.1.1, fun i hi => ?_⟩, CDK_fr nn.2 e19 (same 194 (Or.inr rfl))⟩, rdw_eq, ?_, ?_, ?_, ?_⟩
    · rw [same 192 (Or.inl rfl), same 194 (Or.inr rfl)]
      exact nn.1.2 i hi
    · rw [rdw_nei (by omega), rdw_nei (by omega), b7, rdw_nei (by omega), b5, rdw_nei (by omega), b3, show 266 + 4 * P = 4 * P + 266 by omega, rdw_eq]
      exact q2 z2
    · rw [rdw_nei (by omega), rdw_nei (by omega), b7, rdw_nei (by omega), b5, show 267 + 4 * P = 4 * P + 266 + 1 by omega, rdw_eq]
      exact (q4 z4).1
    · rw [rdw_nei (by omega), rdw_nei (by omega), b7, show 268 + 4 * P = 4 * P + 266 + 2 by omega, rdw_eq]
      exact (q6 z6).1
    · rw [rdw_nei (by omega), show 269 + 4 * P = 4 * P + 266 + 3 by omega, rdw_eq]
      exact (q7 z).1
  · unfold muP at hn
    have hn1 : ¬ muNK a i := fun z => hn (Or.inl z)
    have hn2 : ¬ muTK a i := fun z => hn1 (by unfold muTK at z; unfold muNK; omega)
    rw [rd_wr, if_neg (fun z => hn (Or.inr (by omega))), rd_wr, if_neg (fun z => hn (Or.inr (by omega))), f7 _ _ hn2, rd_wr, if_neg (fun z => hn (Or.inr (by omega))), f6 _ _ hn2, f5 _ _ hn2, rd_wr, if_neg (fun z => hn (Or.inr (by omega))), f4 _ _ hn2, f3 _ _ hn2, rd_wr, if_neg (fun z => hn (Or.inr (by omega))), f2 _ _ hn2, f1 _ _ hn1]
theorem G_readDoorC (he : 5 ≤ e) (hs : RSK T n V m h s) (hz : s.1 = 0) (ho : tO T n s.2 ≠ 0) (hN : NRK T n h N) (hC : CDK h C) (hl : N.length < 20) (hR : rd h 188 150 = R) (hr : 0 ≤ R ∧ R ≤ 10) (hD : rd h 188 151 = D) (hd : 0 ≤ D ∧ D < 14)
    (k : ∀ h', RSK T n V m h' (drL (tO T n) (tV T n 37) (tW T n 37 V) (tP T n) R N s) → ((drL (tO T n) (tV T n 37) (tW T n 37 V) (tP T n) R N s).1 = 0 → (NRK T n h' (N ++ [s.2 + 1]) ∧ CDK h' (C ++ [D])) ∧ rd h' 188 151 = D + 1 ∧ rd h' 188 (8 * D + 154) = tW T n 37 V (drC (tO T n) (tV T n 37) (tW T n 37 V) (tP T n) R N s).2 - 14 ∧ rd h' 188 (8 * D + 154 + 1) = tV T n 37 (drA (tO T n) (tV T n 37) (tW T n 37 V) (tP T n) N s).2 ∧ rd h' 188 (8 * D + 154 + 2) = tV T n 37 (drB (tO T n) (tV T n 37) (tW T n 37 V) (tP T n) R N s).2 ∧ drFl T n V h' D (drD (tO T n) (tV T n 37) (tW T n 37 V) (tP T n) R N s)) → (∀ a i, ¬ muDR D a i → rd h' a i = rd h a i) → Q none h') :
    Rn xs xl e mm_readDoor 0 [some (.inr (.inr 182)), none, none, none, none] [] h Q := by
  refine B_readDoor_0 hs.1.1 ⟨fun _ => ⟨3, by omega, ?_⟩, fun c => by omega⟩
  rw [hD]
  refine G_readNameC (by omega) hs hz ho hN hC hl (by omega) (fun h1 s1 n1 f1 => ?_)
  have b1 : ∀ i, rd h1 188 i = rd h 188 i := fun i => f1 _ _ (by unfold muNK; omega)
  refine B_readDoor_26 s1.1.1 ⟨by omega, by omega, by omega, 2, by omega, G_takeRoom (by omega) s1 ((b1 _).trans hR) hr (fun h2 r2 s2 f2 q2 _ => ?_)⟩
  refine B_readDoor_46 s2.1.1 ⟨by omega, 2, by omega, G_takeWord (by omega) (RSK_w s2) (by omega) (fun h3 s3 f3 => ?_)⟩
  have b3 : ∀ i, rd h3 188 i = rd (wr h 188 (8 * D + 155) r2) 188 i := by
    intro i
    rw [f3 _ _ (by unfold muTK; omega), rd_wr, rd_wr, f2 _ _ (by unfold muTK; omega), b1]
  have s3' : RSK T n V m h3 (drB (tO T n) (tV T n 37) (tW T n 37 V) (tP T n) R N s) := s3
  have q2' : (drB (tO T n) (tV T n 37) (tW T n 37 V) (tP T n) R N s).1 = 0 → r2 = tV T n 37 (drA (tO T n) (tV T n 37) (tW T n 37 V) (tP T n) N s).2 ∧ 0 ≤ r2 ∧ r2 ≤ R - 1 := fun z => q2 (tkW_z z)
  refine B_readDoor_52 s3.1.1 ⟨by omega, 2, by omega, G_takeRoom (by omega) s3' (by rw [b3, rdw_nei (by omega), hR]) hr (fun h4 r4 s4 f4 q4 _ => ?_)⟩
  have b4 : ∀ i, rd (wr h4 188 (8 * D + 154 + 2) r4) 188 i = rd (wr (wr h 188 (8 * D + 155) r2) 188 (8 * D + 154 + 2) r4) 188 i := by
    intro i
    exact wr_c ((f4 _ _ (by unfold muTK; omega)).trans (b3 i))
  have e41 : rd (wr h4 188 (8 * D + 154 + 2) r4) 188 (8 * D + 154 + 1) = r2 := by rw [b4, rdw_nei (by omega), show 8 * D + 154 + 1 = 8 * D + 155 by omega, rdw_eq]
  have e42 : rd (wr h4 188 (8 * D + 154 + 2) r4) 188 (8 * D + 154 + 2) = r4 := rdw_eq
  have hp : ∀ c : Int, 1 ≤ c → (tkE (tP T n) c (drB (tO T n) (tV T n 37) (tW T n 37 V) (tP T n) R N s)).1 ≠ 0 := fun c hc => tkE_ne' s3' hc
  -- what comes behind the second room
  have tail : ∀ h5, RSK T n V m h5 (drC (tO T n) (tV T n 37) (tW T n 37 V) (tP T n) R N s) → frT (wr h4 188 (8 * D + 154 + 2) r4) h5 → ((drC (tO T n) (tV T n 37) (tW T n 37 V) (tP T n) R N s).1 = 0 → r4 = tV T n 37 (drB (tO T n) (tV T n 37) (tW T n 37 V) (tP T n) R N s).2) → Rn xs xl e mm_readDoor 105 [some (.inr (.inr 182)), some (.inl D), some (.inl (8 * D + 154)), none, none] [] h5 Q := by
    intro h5 s5 f5 q5
    have b5 : ∀ i, rd h5 188 i = rd (wr (wr h 188 (8 * D + 155) r2) 188 (8 * D + 154 + 2) r4) 188 i := fun i => (f5 _ _ (by unfold muTK; omega)).trans (b4 i)
    have fr5 : ∀ a i, ¬ muDR D a i → rd h5 a i = rd h a i := by
      intro a i hn
      have n1 : ¬ muNK a i := fun z => hn (Or.inl z)
      have n2 : ¬ muTK a i := fun z => n1 (by unfold muTK at z; unfold muNK; omega)
      have n3 : ¬ (a = 188 ∧ (8 * D + 154 ≤ i ∧ i ≤ 8 * D + 154 + 7)) := fun z => hn (Or.inr ⟨z.1, Or.inr z.2⟩)
      rw [f5 a i n2, rd_wr, if_neg (fun z => n3 (by omega)), f4 a i n2, f3 a i n2, rd_wr, if_neg (fun z => n3 (by omega)), f2 a i n2, f1 a i n1]
    have n5 : (drC (tO T n) (tV T n 37) (tW T n 37 V) (tP T n) R N s).1 = 0 → NRK T n h5 (N ++ [s.2 + 1]) ∧ CDK h5 (C ++ [D]) := by
      intro z
      have nn := n1 (tkN_z (tkW_z (tkR_z z)))
      have same : ∀ a i, a ≠ 188 → ¬ muTK a i → rd h5 a i = rd h1 a i := by
        intro a i h8 hn
        rw [f5 a i hn, rdw_ne (fun z => h8 z.symm), f4 a i hn, f3 a i hn, rdw_ne (fun z => h8 z.symm), f2 a i hn]
      refine ⟨⟨(same _ _ (by decide) (by unfold muTK; omega)).trans nn.1.1, fun i hi => ?_⟩, CDK_fr nn.2 (same _ _ (by decide) (by unfold muTK; omega)) (fun i => same _ _ (by decide) (by unfold muTK; omega))⟩
      rw [same 192 _ (by decide) (by unfold muTK; omega), same 194 _ (by decide) (by unfold muTK; omega)]
      exact nn.1.2 i hi
    have e8 := s5.2.1
    have p0 := s5.2.2.1
    have a7 := s5.2.2.2.1
    have bad : ∀ w0 : Int, w0 < 0 → drD (tO T n) (tV T n 37) (tW T n 37 V) (tP T n) R N s = tkE (tP T n) 1 (drC (tO T n) (tV T n 37) (tW T n 37 V) (tP T n) R N s) → Rn xs xl e mm_readDoor 123 [some (.inr (.inr 182)), some (.inl D), some (.inl (8 * D + 154)), none, none] [.inl w0] h5 Q := by
      intro w0 hw0 ef
      have ne := tkE_ne' s5 (v1 := 1) (by decide)
      have eL : drL (tO T n) (tV T n 37) (tW T n 37 V) (tP T n) R N s = tkE (tP T n) 1 (drC (tO T n) (tV T n 37) (tW T n 37 V) (tP T n) R N s) := by
        unfold drL; rw [ef, opL_f ne]
      refine B_readDoor_123 s5.1.1 ⟨fun c => by omega, fun _ => ⟨0, by omega, G_wrong s5 (by omega) (fun h6 s6 f6 => B_readDoor_133 s6.1.1 (k h6 ?_ ?_ (fun a i hn => ?_)))⟩⟩
      · rw [eL]; exact s6
      · rw [eL]; exact fun z => absurd z ne
      · have n1 : ¬ muNK a i := fun z => hn (Or.inl z)
        rw [f6 a i (fun z => n1 (by unfold muTK at z; unfold muNK; omega)), fr5 a i hn]
    by_cases z5 : (drC (tO T n) (tV T n 37) (tW T n 37 V) (tP T n) R N s).1 = 0
    · refine B_readDoor_105 s5.1.1 ⟨fun _ => ⟨1, by omega, G_wordHere (by omega) s5 (by omega) ?_⟩, fun c => by omega⟩
      by_cases q : 14 ≤ tW T n 37 V (drC (tO T n) (tV T n 37) (tW T n 37 V) (tP T n) R N s).2 ∧ tW T n 37 V (drC (tO T n) (tV T n 37) (tW T n 37 V) (tP T n) R N s).2 ≤ 14 + 3
      · have ef : drD (tO T n) (tV T n 37) (tW T n 37 V) (tP T n) R N s = tkA (drC (tO T n) (tV T n 37) (tW T n 37 V) (tP T n) R N s) := by unfold drD tkF; rw [if_pos q]
        have ew : whr (tW T n 37 V) (drC (tO T n) (tV T n 37) (tW T n 37 V) (tP T n) R N s) 14 4 = tW T n 37 V (drC (tO T n) (tV T n 37) (tW T n 37 V) (tP T n) R N s).2 - 14 := by unfold whr; rw [if_pos ⟨z5, by omega, by omega⟩]
        rw [ew]
        have s6 := RS_adv s5 z5 (by rw [tW_o (W := V) (b := 37) (by omega)]; decide)
        rw [← ef] at s6
        refine B_readDoor_123 s5.1.1 ⟨fun _ => ⟨by omega, by omega, 1, by omega, G_hasWord (by omega) (RSK_w s6) (by omega) (fun h7 s7 f7 => ?_)⟩, fun c => by omega⟩
        have b7 : ∀ i, rd h7 188 i = rd (wr (wr (wr h 188 (8 * D + 155) r2) 188 (8 * D + 154 + 2) r4) 188 (8 * D + 154) (tW T n 37 V (drC (tO T n) (tV T n 37) (tW T n 37 V) (tP T n) R N s).2 - 14)) 188 i := by
          intro i
          exact (f7 _ _ (by unfold muTK; omega)).trans (wr_c ((rdw_ne (by decide)).trans (b5 i)))
        refine G_drT1 (by omega) hd s7 (by rw [b7, rdw_nei (by omega), rdw_nei (by omega), rdw_nei (by omega), hD]) (fun h8 s8 q8 d8 f8 => k h8 s8 (fun z => ⟨?_, d8, ?_, ?_, ?_, q8 z⟩) (fun a i hn => ?_))
        · have nn := n5 z5
          have same : ∀ a i, a ≠ 188 → ¬ muTK a i → rd h8 a i = rd h5 a i := by
            intro a i h9 hn
            rw [f8 a i hn (fun z => h9 z.1), f7 a i hn, rdw_ne (fun z => h9 z.symm), rd_wr, if_neg (fun z => hn (by unfold muTK; omega))]
          refine ⟨⟨(same _ _ (by decide) (by unfold muTK; omega)).trans nn.1.1, fun i hi => ?_⟩, CDK_fr nn.2 (same _ _ (by decide) (by unfold muTK; omega)) (fun i => same _ _ (by decide) (by unfold muTK; omega))⟩
          rw [same 192 _ (by decide) (by unfold muTK; omega), same 194 _ (by decide) (by unfold muTK; omega)]
          exact nn.1.2 i hi
        · rw [f8 _ _ (by unfold muTK; omega) (by omega), b7, rdw_eq]
        · rw [f8 _ _ (by unfold muTK; omega) (by omega), b7, rdw_nei (by omega), rdw_nei (by omega), show 8 * D + 154 + 1 = 8 * D + 155 by omega, rdw_eq]
          exact (q2' (tkR_z z5)).1
        · rw [f8 _ _ (by unfold muTK; omega) (by omega), b7, rdw_nei (by omega), rdw_eq]
          exact q5 z5
        · have n1 : ¬ muNK a i := fun z => hn (Or.inl z)
          have n2 : ¬ muTK a i := fun z => n1 (by unfold muTK at z; unfold muNK; omega)
          have n3 : ¬ (a = 188 ∧ (i = 151 ∨ (8 * D + 154 ≤ i ∧ i ≤ 8 * D + 154 + 7))) := fun z => hn (Or.inr z)
          rw [f8 a i n2 (fun z => n3 (by omega)), f7 a i n2, rd_wr, if_neg (fun z => n3 (by omega)), rd_wr, if_neg (fun z => n2 (by unfold muTK; omega)), fr5 a i hn]
      · have ew : whr (tW T n 37 V) (drC (tO T n) (tV T n 37) (tW T n 37 V) (tP T n) R N s) 14 4 = -1 := by unfold whr; rw [if_neg (by omega)]
        rw [ew]
        exact bad (-1) (by decide) (by unfold drD tkF; rw [if_neg q])
    · exact B_readDoor_105 s5.1.1 ⟨fun c => by omega, fun _ => bad (-1) (by decide) (by unfold drD; rw [tkF_f z5, tkE_f z5])⟩
  have e8 := s4.2.1
  have a7 := s4.2.2.2.1
  by_cases z4 : (tkN (tO T n) (tV T n 37) (tP T n) 0 (R - 1) (drB (tO T n) (tV T n 37) (tW T n 37 V) (tP T n) R N s)).1 = 0
  · obtain ⟨zB, oB, _, _, eN⟩ := tkN_ok z4 hp
    have r4e := (q4 z4).1
    have r2e := (q2' zB).1
    refine B_readDoor_63 s4.1.1 ⟨by omega, fun c => absurd (e8.trans z4) c, fun _ => ⟨by omega, by omega, by omega, by omega, fun c => ?_, fun c => ⟨by omega, 0, by omega, ?_⟩⟩⟩
    · rw [e41, e42] at c
      have eC : drC (tO T n) (tV T n 37) (tW T n 37 V) (tP T n) R N s = tkN (tO T n) (tV T n 37) (tP T n) 0 (R - 1) (drB (tO T n) (tV T n 37) (tW T n 37 V) (tP T n) R N s) := by
        unfold drC tkR
        rw [if_neg (fun z => c (by rw [r2e, r4e, z.2]))]
      exact tail _ (by rw [eC]; exact RSK_w s4) frT.refl (fun _ => r4e)
    · rw [e41, e42] at c
      have eC : drC (tO T n) (tV T n 37) (tW T n 37 V) (tP T n) R N s = tkE (tP T n) 3 (drB (tO T n) (tV T n 37) (tW T n 37 V) (tP T n) R N s) := by
        unfold drC tkR
        rw [if_pos ⟨oB, by rw [← r2e, ← r4e, c]⟩]
      have s5 : RSK T n V m (wr (wr h4 188 (8 * D + 154 + 2) r4) 182 7 (rd (wr h4 188 (8 * D + 154 + 2) r4) 182 7 - 1)) (0, (drB (tO T n) (tV T n 37) (tW T n 37 V) (tP T n) R N s).2) := by
        refine RS_back (RSK_w ?_)
        rw [eN] at s4
        exact s4
      have e7 : rd (wr h4 188 (8 * D + 154 + 2) r4) 182 7 = rd h4 182 7 := rdw_ne (by decide)
      rw [e7] at s5
      have eB : drB (tO T n) (tV T n 37) (tW T n 37 V) (tP T n) R N s = (0, (drB (tO T n) (tV T n 37) (tW T n 37 V) (tP T n) R N s).2) := Prod.ext zB rfl
      rw [← eB] at s5
      refine G_wrong s5 (by omega) (fun h6 s6 f6 => tail h6 (by rw [eC]; exact s6) (fr7.trans f6) ?_)
      rw [eC]
      exact fun z => absurd z (hp 3 (by decide))
  · have eC : drC (tO T n) (tV T n 37) (tW T n 37 V) (tP T n) R N s = tkN (tO T n) (tV T n 37) (tP T n) 0 (R - 1) (drB (tO T n) (tV T n 37) (tW T n 37 V) (tP T n) R N s) := by
      unfold drC tkR
      by_cases q : tO T n (drB (tO T n) (tV T n 37) (tW T n 37 V) (tP T n) R N s).2 = 2 ∧ tV T n 37 (drB (tO T n) (tV T n 37) (tW T n 37 V) (tP T n) R N s).2 = tV T n 37 (drA (tO T n) (tV T n 37) (tW T n 37 V) (tP T n) N s).2
      · by_cases zB : (drB (tO T n) (tV T n 37) (tW T n 37 V) (tP T n) R N s).1 = 0
        · obtain ⟨u1, u2, u3⟩ := q2' zB
          refine absurd ?_ z4
          unfold tkN
          rw [if_pos q.1, if_pos (by rw [q.2, ← u1]; exact ⟨u2, u3⟩), tkA_0 zB]
        · rw [tkN_f zB, tkE_f zB, ite_self]
      · rw [if_neg q]
    exact B_readDoor_63 s4.1.1 ⟨by omega, fun _ => tail _ (by rw [eC]; exact RSK_w s4) frT.refl (fun z => absurd (by rw [← eC]; exact z) z4), fun c => absurd (e8.symm.trans c) z4⟩
end NA
end
section
/-! days, part n1: the reference's quarter and the names that it leaves -/
/-- the codes C name what the names N are of: doors ND, people NP -/
def CRel (N ND NP : List Nat) (C : List Int) : Prop := C.length = N.length ∧ (∀ i : Nat, i < N.length → (∃ j : Nat, j < ND.length ∧ C.getD i 0 = (j : Int) ∧ ND.getD j 0 = N.getD i 0) ∨ (∃ j : Nat, j < NP.length ∧ C.getD i 0 = 20 + (j : Int) ∧ NP.getD j 0 = N.getD i 0)) ∧ (∀ j : Nat, j < ND.length → ∃ i : Nat, i < N.length ∧ C.getD i 0 = (j : Int) ∧ ND.getD j 0 = N.getD i 0) ∧ (∀ j : Nat, j < NP.length → ∃ i : Nat, i < N.length ∧ C.getD i 0 = 20 + (j : Int) ∧ NP.getD j 0 = N.getD i 0)
theorem CRel_0 : CRel [] [] [] [] := ⟨rfl, fun i hi => absurd hi (Nat.not_lt_zero i), fun i hi => absurd hi (Nat.not_lt_zero i), fun i hi => absurd hi (Nat.not_lt_zero i)⟩
theorem CRel_d {N ND NP : List Nat} {C : List Int} {x : Nat} (h : CRel N ND NP C) : CRel (N ++ [x]) (ND ++ [x]) NP (C ++ [(ND.length : Int)]) := by
  obtain ⟨h1, h2, h3, h4⟩ := h
  refine ⟨by rw [List.length_append, List.length_append, h1]; rfl, fun i hi => ?_, fun j hj => ?_, fun j hj => ?_⟩
  · rw [List.length_append, List.length_singleton] at hi
    rcases Nat.lt_or_ge i N.length with u | u
    · rw [getI_l (by omega), getD_l u]
      rcases h2 i u with ⟨j, j1, j2, j3⟩ | q
      · exact Or.inl ⟨j, by rw [List.length_append, List.length_singleton]; omega, j2, by rw [getD_l j1]; exact j3⟩
      · exact Or.inr q
    · have e : i = N.length := by omega
      subst e
      refine Or.inl ⟨ND.length, by rw [List.length_append, List.length_singleton]; omega, ?_, ?_⟩
      · rw [← h1, getI_e]
      · rw [getD_e, getD_e]
  · rw [List.length_append, List.length_singleton] at hj
    rcases Nat.lt_or_ge j ND.length with u | u
    · obtain ⟨i, i1, i2, i3⟩ := h3 j u
      exact ⟨i, by rw [List.length_append, List.length_singleton]; omega, by rw [getI_l (by omega)]; exact i2, by rw [getD_l u, getD_l i1]; exact i3⟩
    · have e : j = ND.length := by omega
      subst e
      refine ⟨N.length, by rw [List.length_append, List.length_singleton]; omega, ?_, ?_⟩
      · rw [← h1, getI_e]
      · rw [getD_e, getD_e]
  · obtain ⟨i, i1, i2, i3⟩ := h4 j hj
    exact ⟨i, by rw [List.length_append, List.length_singleton]; omega, by rw [getI_l (by omega)]; exact i2, by rw [getD_l i1]; exact i3⟩
theorem CRel_p {N ND NP : List Nat} {C : List Int} {x : Nat} (h : CRel N ND NP C) : CRel (N ++ [x]) ND (NP ++ [x]) (C ++ [(NP.length : Int) + 20]) := by
  obtain ⟨h1, h2, h3, h4⟩ := h
  refine ⟨by rw [List.length_append, List.length_append, h1]; rfl, fun i hi => ?_, fun j hj => ?_, fun j hj => ?_⟩
  · rw [List.length_append, List.length_singleton] at hi
    rcases Nat.lt_or_ge i N.length with u | u
    · rw [getI_l (by omega), getD_l u]
      rcases h2 i u with q | ⟨j, j1, j2, j3⟩
      · exact Or.inl q
      · exact Or.inr ⟨j, by rw [List.length_append, List.length_singleton]; omega, j2, by rw [getD_l j1]; exact j3⟩
    · have e : i = N.length := by omega
      subst e
      refine Or.inr ⟨NP.length, by rw [List.length_append, List.length_singleton]; omega, ?_, ?_⟩
      · rw [← h1, getI_e]; omega
      · rw [getD_e, getD_e]
  · obtain ⟨i, i1, i2, i3⟩ := h3 j hj
    exact ⟨i, by rw [List.length_append, List.length_singleton]; omega, by rw [getI_l (by omega)]; exact i2, by rw [getD_l i1]; exact i3⟩
  · rw [List.length_append, List.length_singleton] at hj
    rcases Nat.lt_or_ge j NP.length with u | u
    · obtain ⟨i, i1, i2, i3⟩ := h4 j u
      exact ⟨i, by rw [List.length_append, List.length_singleton]; omega, by rw [getI_l (by omega)]; exact i2, by rw [getD_l u, getD_l i1]; exact i3⟩
    · have e : j = NP.length := by omega
      subst e
      refine ⟨N.length, by rw [List.length_append, List.length_singleton]; omega, ?_, ?_⟩
      · rw [← h1, getI_e]; omega
      · rw [getD_e, getD_e]
section NB
variable {xs : Nat → Int} {xl e : Nat} {h : LH} {Q : Option LV → LH → Prop} {T : Int → Int} {n : Int} {V : Int → Int} {m : Nat}
theorem q_copy3N {G : LH} (k : ∀ g, RNG g → (∀ a i, ¬ (a = 191 ∨ a = 193 ∨ (a = 182 ∧ i = 18)) → rd g a i = rd G a i) → (rd g 182 18 = rd G 182 19 ∧ ∀ i, 0 ≤ i → i < rd G 182 19 → rd g 191 i = rd G 192 i ∧ rd g 193 i = rd G 194 i) → ∃ c, c < e ∧ Rn xs xl c mm_begins 0 [some (.inr (.inr 182)), none] [] g (fun r h' => ∀ v, Rn xs xl e mm_quarter 258 [some (.inr (.inr 182)), some (.inl v)] (r.toList ++ []) h' Q)) : ∀ (n : Nat) (g : LH) (v : Int), 20 - v ≤ n → 0 ≤ v → v ≤ 20 → RNG g → (∀ a i, ¬ (a = 191 ∨ a = 193) → rd g a i = rd G a i) → (∀ i, 0 ≤ i → i < v → rd g 191 i = rd G 192 i ∧ rd g 193 i = rd G 194 i) → Rn xs xl e mm_quarter 208 [some (.inr (.inr 182)), some (.inl v)] [] g Q := by
  have stop : ∀ (g : LH) (v : Int), RNG g → (∀ a i, ¬ (a = 191 ∨ a = 193) → rd g a i = rd G a i) → (∀ i, 0 ≤ i → i < v → rd g 191 i = rd G 192 i ∧ rd g 193 i = rd G 194 i) → rd g 182 19 ≤ v → ∃ c, c < e ∧ Rn xs xl c mm_begins 0 [some (.inr (.inr 182)), none] [] (wr g 182 18 (rd g 182 19)) (fun r h' => Rn xs xl e mm_quarter 258 [some (.inr (.inr 182)), some (.inl v)] (r.toList ++ []) h' Q) := by
    intro g v gr gf gc hv
    have m := rF_readMany gr
    have e19 : rd g 182 19 = rd G 182 19 := gf _ _ (by omega)
    obtain ⟨c, c1, c2⟩ := k (wr g 182 18 (rd g 182 19)) (wrR gr (Or.inl (by decide +kernel)) (lo := 0) (hi := 20) (leA1 (by decide +kernel)) m.1 m.2 ⟨by omega, by omega⟩) (fun a i hn => by
      rw [rd_wr, if_neg]
      · exact gf a i (fun q => hn (by omega))
      · rintro ⟨rfl, rfl⟩
        exact hn (by omega)) ⟨rdw_eq.trans e19, fun i i0 i1 => by
          rw [rdw_ne (by decide), rdw_ne (by decide)]
          exact gc i i0 (by omega)⟩
    exact ⟨c, c1, c2.mono (fun r h' q => q v)⟩
  intro n
  induction n with
  | zero =>
    intro g v hn v0 v1 gr gf gc
    have m := rF_readMany gr
    exact B_quarter_208 (RF_of gr) ⟨fun q => stop g v gr gf gc q, fun c => by omega⟩
  | succ n ih =>
    intro g v hn v0 v1 gr gf gc
    have m := rF_readMany gr
    refine B_quarter_208 (RF_of gr) ⟨fun q => stop g v gr gf gc q, fun c => ⟨by omega, by omega, by omega, by omega, by omega, ih _ (v + 1) (by omega) (by omega) (by omega) ?_ (fun a i hn => ?_) (fun i i0 i1 => ?_)⟩⟩
    · have o2 := rA_readNameOf gr (i := v) (by omega)
      exact wR_nameOf (wR_names gr (rd_readNames64 gr (by omega))) o2.1 o2.2
    · rw [rd_wr, if_neg, rd_wr, if_neg]
      · exact gf a i hn
      all_goals (rintro ⟨rfl, rfl⟩; exact hn (by omega))
    · have e2 : rd g 192 v = rd G 192 v := gf _ _ (by omega)
      have e4 : rd g 194 v = rd G 194 v := gf _ _ (by omega)
      by_cases z : i = v
      · subst z
        rw [rdw_ne (by decide), rdw_eq, rdw_eq, e2]
        exact ⟨rfl, e4⟩
      · rw [rdw_ne (by decide), rdw_nei (Ne.symm z), rdw_nei (Ne.symm z), rdw_ne (by decide)]
        exact gc i i0 (by omega)
/-- behind a text without a fault: copies, a new day, answer 0 -/
theorem DQ_tail3 (he : 41 ≤ e) {G : LH} (gI : INV G) (gq : NQ G) (f0 : rd G 182 8 = 0) (k : ∀ g, INV g → (∀ i, rd g 187 i = rd G 187 i) → (∀ i, 0 ≤ i → i < 150 → rd g 188 i = rd G 188 (i + 150)) → (∀ m, 0 ≤ m → m < 4 → rd g 199 m = 0) → rd g 198 34 = 0 → (rd g 182 18 = rd G 182 19 ∧ ∀ i, 0 ≤ i → i < rd G 182 19 → rd g 191 i = rd G 192 i ∧ rd g 193 i = rd G 194 i) → Q (some (.inl 0)) g) : Rn xs xl e mm_quarter 129 [some (.inr (.inr 182)), some (.inl 0)] [] G Q := by
  obtain ⟨q1, q2, q3, q4, q5⟩ := gq f0
  have c0 := rF_codes gI.1
  have n0 := rw_doors gI.1
  have n1 := rw_people gI.1
  refine q_copy1 (G := G) (fun g1 r1 c1 f1 => ?_) 150 G 0 (by omega) (by omega) (by omega) gI.1 (fun i i0 i1 => by omega) (fun _ _ _ => rfl)
  have e13 : rd g1 182 13 = rd G 182 13 := f1 _ _ (by omega)
  refine q_copy2 (G := g1) (by omega) (fun g2 r2 c2 f2 => ?_) (rd g1 182 13).toNat g1 0 (by omega) (by omega) (by omega) r1 (fun i i0 i1 => by omega) (fun _ _ _ => rfl)
  refine q_copy3N (G := g2) (fun g3 r3 f3 n3 => ?_) 20 g2 0 (by omega) (by omega) (by omega) r2 (fun _ _ _ => rfl) (fun i i0 i1 => by omega)
  have x188 : ∀ i, 0 ≤ i → i < 150 → rd g3 188 i = rd G 188 (i + 150) := fun i i0 i1 => ((f3 188 i (by omega)).trans (f2 188 i (by omega))).trans (c1 i i0 i1)
  have x0 := x188 0 (by omega) (by omega)
  have x1 := x188 1 (by omega) (by omega)
  have x2 := x188 2 (by omega) (by omega)
  have x3 := x188 3 (by omega) (by omega)
  have s4 : SP4 g3 := by
    have old : ∀ b j, b ≠ 188 → b ≠ 189 → b ≠ 190 → b ≠ 191 → b ≠ 193 → b ≠ 182 → rd g3 b j = rd G b j := fun b j n1 n2 n3 n4 n5 n6 => ((f3 b j (by omega)).trans (f2 b j (by omega))).trans (f1 b j (by omega))
    obtain ⟨⟨h1, h2, h3, h4, h5, h6, h7, h8⟩, hl, ht, hq, hw⟩ := gI.2
    refine ⟨⟨lines_same (fun j => old _ j (by decide) (by decide) (by decide) (by decide) (by decide) (by decide)) (fun j => old _ j (by decide) (by decide) (by decide) (by decide) (by decide) (by decide)) h1, lines_same (fun j => old _ j (by decide) (by decide) (by decide) (by decide) (by decide) (by decide)) (fun j => old _ j (by decide) (by decide) (by decide) (by decide) (by decide) (by decide)) h2, lines_same (fun j => old _ j (by decide) (by decide) (by decide) (by decide) (by decide) (by decide)) (fun j => old _ j (by decide) (by decide) (by decide) (by decide) (by decide) (by decide)) h3, lines_same (fun j => old _ j (by decide) (by decide) (by decide) (by decide) (by decide) (by decide)) (fun j => old _ j (by decide) (by decide) (by decide) (by decide) (by decide) (by decide)) h4, lines_same (fun j => old _ j (by decide) (by decide) (by decide) (by decide) (by decide) (by decide)) (fun j => old _ j (by decide) (by decide) (by decide) (by decide) (by decide) (by decide)) h5, lines_same (fun j => old _ j (by decide) (by decide) (by decide) (by decide) (by decide) (by decide)) (fun j => old _ j (by decide) (by decide) (by decide) (by decide) (by decide) (by decide)) h6, ?_, ?_⟩, ?_, ?_, ?_⟩
    · intro m m0 m1 q
      rw [old 195 _ (by decide) (by decide) (by decide) (by decide) (by decide) (by decide)] at q ⊢
      exact h7 m m0 m1 q
    · intro m m0 m1 j j0 j1 q
      rw [old 200 _ (by decide) (by decide) (by decide) (by decide) (by decide) (by decide)] at q ⊢
      exact h8 m m0 m1 j j0 j1 q
    · intro q
      rw [x3] at q
      rcases q5 with z | ⟨z1, n, z2, z3, z4⟩
      · have := z.1
        rw [show (3 + 150 : Int) = 153 by omega, this] at q
        cases q
      · have cp : ∀ j, 0 ≤ j → j < rd G 182 13 → rd g3 189 j = opR G j ∧ rd g3 190 j = arR G j := by
          intro j j0 j1
          have y := c2 j j0 (by omega)
          unfold opR arR
          rw [f3 189 j (by omega), f3 190 j (by omega), y.1, y.2, f1 189 _ (by omega), f1 190 _ (by omega), show (j + 1100 : Int) = 1100 + j by omega]
          exact ⟨rfl, rfl⟩
        have lt := seg_lt z3
        exact ⟨n, by omega, seg_same z3 (fun j j0 j1 => cp j j0 (by omega)), (cp n (by omega) (by omega)).1.trans z4⟩
    · unfold SPtok
      rw [old 184 _ (by decide) (by decide) (by decide) (by decide) (by decide) (by decide)]
      exact ht
    · refine ⟨fun d d0 d1 d2 => ?_, fun p p0 p1 p2 => ?_⟩
      · rw [x1] at d2
        rw [x188 _ (by omega) (by omega), x188 (6 + 8 * d) (by omega) (by omega), x0, show (5 + 8 * d + 150 : Int) = 155 + 8 * d by omega, show (6 + 8 * d + 150 : Int) = 156 + 8 * d by omega]
        exact q3 d d0 d2
      · rw [x2] at p2
        rw [x188 _ (by omega) (by omega), x0, show (117 + 4 * p + 150 : Int) = 267 + 4 * p by omega]
        exact q4 p p0 p2
  exact ⟨2, by omega, D_beginsM (by omega) r3 s4 (fun g4 i4 f4 m4 w4 v => B_quarter_258 (RF_of i4.1) (k g4 i4 (fun i => by rw [f4 187 i (by unfold muG; omega), f3 187 i (by omega), f2 187 i (by omega), f1 187 i (by omega)]) (fun i i0 i1 => (f4 188 i (by unfold muG; omega)).trans (x188 i i0 i1)) m4 w4 (by
    have o19 : rd g2 182 19 = rd G 182 19 := (f2 _ _ (by omega)).trans (f1 _ _ (by omega))
    rw [o19] at n3
    refine ⟨(f4 182 18 (by unfold muG; omega)).trans n3.1, fun i i0 i1 => ?_⟩
    rw [f4 191 i (by unfold muG; omega), f4 193 i (by unfold muG; omega), (n3.2 i i0 i1).1, (n3.2 i i0 i1).2, f2 192 i (by omega), f2 194 i (by omega), f1 192 i (by omega), f1 194 i (by omega)]
    exact ⟨rfl, rfl⟩)))⟩
def DRKc (T : Int → Int) (n : Int) (g : LH) (R : Int) (y : QY) : Prop := DRK T n g R y ∧ ∃ C, CDK g C ∧ CRel y.2.1 y.2.2.1 y.2.2.2.1 C
theorem DRKc_T {g g' : LH} {R : Int} {y y' : QY} (hd : DRKc T n g R y) (hf : frT g g') (hy : y'.2 = y.2) : DRKc T n g' R y' := by
  obtain ⟨d, C, c1, c2⟩ := hd
  exact ⟨DRK_T d hf hy, C, CDK_T c1 hf, by rw [hy]; exact c2⟩
/-- the reference's names, of the text's tokens -/
def NMK (T : Int → Int) (n : Int) (g : LH) (y : QY) : Prop := rd g 182 18 = (y.2.1.length : Int) ∧ y.2.1.length ≤ 20 ∧ ∃ C, CRel y.2.1 y.2.2.1 y.2.2.2.1 C ∧ ∀ i : Nat, i < y.2.1.length → rd g 191 i = tV T n 37 (y.2.1.getD i 0) ∧ rd g 193 i = C.getD i 0
theorem NMK_of {G g : LH} {R : Int} {y : QY} (hd : DRKc T n G R y) (hn : rd g 182 18 = rd G 182 19 ∧ ∀ i, 0 ≤ i → i < rd G 182 19 → rd g 191 i = rd G 192 i ∧ rd g 193 i = rd G 194 i) : NMK T n g y := by
  obtain ⟨⟨d1, d2, d3, d4, d5, d6, d7, d8, d9, d10⟩, C, c1, c2⟩ := hd
  have l19 := d1.1
  refine ⟨hn.1.trans d1.1, by omega, C, c2, fun i hi => ?_⟩
  obtain ⟨a, b⟩ := hn.2 i (by omega) (by omega)
  exact ⟨a.trans (d1.2 i hi).1, b.trans (c1.2 i (by rw [c2.1]; exact hi))⟩
theorem G_quarter3 (he : 41 ≤ e) (hI : INV h) (h2 : rd h 182 2 = n) (n0 : 0 ≤ n) (n1 : n ≤ 1000) (hT : ∀ i, 0 ≤ i → i < n → rd h 183 i = T i) (hV : rd h 187 = V) (hi : Vinj V)
    (k : ∀ h', rd h' 187 = V → ((qF (tO T n) (tV T n 37) (tW T n 37 V) (tP T n)).1.1 ≠ 0 → ∀ a i, pq a i → rd h' a i = rd h a i) → ((qF (tO T n) (tV T n 37) (tW T n 37 V) (tP T n)).1.1 = 0 → rd h' 188 0 = qR (tV T n 37) (tW T n 37 V) (tP T n) ∧ (∀ m, 0 ≤ m → m < 4 → rd h' 199 m = 0) ∧ rd h' 198 34 = 0 ∧ NMK T n h' (qF (tO T n) (tV T n 37) (tW T n 37 V) (tP T n))) → Q (some (.inl (qF (tO T n) (tV T n 37) (tW T n 37 V) (tP T n)).1.1)) h') : Rn xs xl e mm_quarter 0 [some (.inr (.inr 182)), none] [] h Q := by
  generalize eF : qF (tO T n) (tV T n 37) (tW T n 37 V) (tP T n) = Y at k
  obtain ⟨R, hRq⟩ : ∃ R, R = qR (tV T n 37) (tW T n 37 V) (tP T n) := ⟨_, rfl⟩
  rw [← hRq] at k
  have loop : ∀ (m : Nat) (c : Nat) (g : LH) (y : QY), qL (tO T n) (tV T n 37) (tW T n 37 V) (tP T n) R c y = Y → RSK T n V m g y.1 → INV g → NQ g → (∀ a i, pq a i → rd g a i = rd h a i) → (y.1.1 = 0 → DRKc T n g R y ∧ 1000 ≤ y.1.2 + c) → Rn xs xl e mm_quarter 52 [some (.inr (.inr 182)), none] [] g Q := by
    intro m c
    induction c with
    | zero =>
      intro g y eY hs gI gq gf hd
      have gF := RF_of gI.1
      have e8 := hs.2.1
      have a7 := hs.2.2.2.1
      have p0 := hs.2.2.1
      have m1 := hs.1.2.2.2.2.1
      have eY' : y = Y := eY
      have stop : Rn xs xl e mm_quarter 115 [some (.inr (.inr 182)), none] [] g Q := by
        refine B_quarter_115 gF ⟨fun q => ?_, fun q => ?_⟩
        · have z : y.1.1 = 0 := by omega
          refine DQ_tail3 he gI gq (e8.trans z) (fun g4 _ f187 f188 f199 f34 fnm => ?_)
          have := k g4 ((funext f187).trans hs.1.2.2.2.2.2.2.2.1)
          rw [← eY', z] at this
          exact this (fun q3 => absurd rfl q3) (fun _ => ⟨(f188 0 (by decide) (by decide)).trans (hd z).1.1.2.1, f199, f34, NMK_of (hd z).1 fnm⟩)
        · have := k g hs.1.2.2.2.2.2.2.2.1
          rw [← eY', ← e8] at this
          exact this (fun _ => gf) (fun q3 => absurd q3 (by omega))
      refine B_quarter_52 gF ⟨fun _ => stop, fun q => ⟨by omega, fun _ => stop, fun q2 => ?_⟩⟩
      have z : y.1.1 = 0 := e8.symm.trans q
      have eo := RS_o hs z
      have lt := RS_lt hs z (fun q3 => q2 (eo.trans q3))
      have := (hd z).2
      omega
    | succ c ih =>
      intro g y eY hs gI gq gf hd
      have gF := RF_of gI.1
      have e8 := hs.2.1
      have a7 := hs.2.2.2.1
      have p0 := hs.2.2.1
      have m1 := hs.1.2.2.2.2.1
      have stop : ¬ (y.1.1 = 0 ∧ tO T n y.1.2 ≠ 0) → Rn xs xl e mm_quarter 115 [some (.inr (.inr 182)), none] [] g Q := by
        intro ns
        have eY' : y = Y := by rw [qL_stop ns] at eY; exact eY
        refine B_quarter_115 gF ⟨fun q => ?_, fun q => ?_⟩
        · have z : y.1.1 = 0 := by omega
          refine DQ_tail3 he gI gq (e8.trans z) (fun g4 _ f187 f188 f199 f34 fnm => ?_)
          have := k g4 ((funext f187).trans hs.1.2.2.2.2.2.2.2.1)
          rw [← eY', z] at this
          exact this (fun q3 => absurd rfl q3) (fun _ => ⟨(f188 0 (by decide) (by decide)).trans (hd z).1.1.2.1, f199, f34, NMK_of (hd z).1 fnm⟩)
        · have := k g hs.1.2.2.2.2.2.2.2.1
          rw [← eY', ← e8] at this
          exact this (fun _ => gf) (fun q3 => absurd q3 (by omega))
      refine B_quarter_52 gF ⟨fun q => stop (fun q3 => q (e8.trans q3.1)), fun q => ⟨by omega, fun q2 => stop (fun q3 => q3.2 ((RS_o hs q3.1).symm.trans q2)), fun q2 => ?_⟩⟩
      have z : y.1.1 = 0 := e8.symm.trans q
      have eo := RS_o hs z
      have no : tO T n y.1.2 ≠ 0 := fun q3 => q2 (eo.trans q3)
      have lt := RS_lt hs z no
      have l7 := (hs.2.2.2.2 z).1
      obtain ⟨D, hc⟩ := hd z
      rw [qL_go ⟨z, no⟩] at eY
      have gp : PB g := ⟨gI, trivial⟩
      have l9 : rd g 182 7 ≤ 999 := by omega
      have t106 : ∀ (g1 : LH) (s1 : Int × Nat), RSK T n V m g1 s1 → PL g g1 → (qS (tO T n) (tV T n 37) (tW T n 37 V) (tP T n) R y).1 = tkS (tO T n) (tV T n 37) (tP T n) 59 s1 → (s1.1 = 0 → DRKc T n g1 R (qS (tO T n) (tV T n 37) (tW T n 37 V) (tP T n) R y)) → Rn xs xl e mm_quarter 106 [some (.inr (.inr 182)), none] [] g1 Q := by
        generalize qS (tO T n) (tV T n 37) (tW T n 37 V) (tP T n) R y = y' at eY
        intro g1 s1 r1 p1 e1 d1
        have A : Rn xs xl 1 mm_takeSign 0 [some (.inr (.inr 182)), some (.inl 59)] [] g1 (fun r g2 => r = none ∧ RSK T n V m g2 (tkS (tO T n) (tV T n 37) (tP T n) 59 s1) ∧ frT g1 g2) := G_takeSign (by omega) r1 (fun h' a b => ⟨rfl, a, b⟩)
        have B : Rn xs xl 1 mm_takeSign 0 [some (.inr (.inr 182)), some (.inl 59)] [] g1 (fun r g2 => r = none ∧ PG muT g1 g2) := D_takeSign (by omega) p1.1 (fun g2 p2 _ => ⟨rfl, p2⟩)
        refine B_quarter_106 (RF_of p1.1.1.1) ⟨1, by omega, (A.and B).mono (fun r g2 q => ?_)⟩
        obtain ⟨⟨rfl, a1, a2⟩, -, p2⟩ := q
        rw [← e1] at a1
        refine B_quarter_112 p2.rf (ih g2 y' eY a1 p2.inv (NQ_T p2 p1.2.2.1) (fun a i ha => ?_) (fun z' => ?_))
        · unfold pq at ha
          rw [p2.2.2.2 a i (by unfold muT; omega), p1.2.2.2 a i (by unfold muA; omega)]
          exact gf a i ha
        have z8 : rd g2 182 8 = 0 := a1.2.1.trans z'
        have z1 := p2.2.2.1 z8
        have ge := p2.2.1
        have g1' := (p1.2.1 z1).2
        have l2 := (a1.2.2.2.2 z').1
        exact ⟨DRKc_T (d1 (r1.2.1.symm.trans z1)) a2 rfl, by omega⟩
      obtain ⟨⟨d1, d2, d3, d4, d5, d6, d7, d8, d9, d10⟩, C, dC, dR⟩ := D
      refine ⟨0, by omega, G_isWord hs (by omega) (fun _ ew => ?_) (fun nw => ?_)⟩
      · -- a door
        have B : Rn xs xl 5 mm_readDoor 0 [some (.inr (.inr 182)), none, none, none, none] [] g (fun r g1 => r = none ∧ PL g g1) := D_readDoor (by omega) gp gq l9 (e8.trans z) (fun g1 p1 => ⟨rfl, p1⟩)
        by_cases c14 : 14 ≤ y.2.2.1.length
        · have A : Rn xs xl 5 mm_readDoor 0 [some (.inr (.inr 182)), none, none, none, none] [] g (fun r g1 => r = none ∧ RSK T n V m g1 (tkE (tP T n) 5 y.1)) := G_readDoorX hs (by omega) (by omega) (fun h' a b => ⟨rfl, a⟩)
          refine B_quarter_76_1 gF ⟨5, by omega, (A.and B).mono (fun r g1 q => ?_)⟩
          obtain ⟨⟨rfl, a1⟩, -, p1⟩ := q
          have ne := tkE_ne' hs (v1 := 5) (by decide)
          refine B_quarter_83 (RF_of p1.1.1.1) (t106 g1 _ a1 p1 ?_ (fun q3 => absurd q3 ne))
          rw [tkS_f ne]
          unfold qS
          rw [if_pos ew, if_pos c14]
        · have A : Rn xs xl 5 mm_readDoor 0 [some (.inr (.inr 182)), none, none, none, none] [] g (fun r g1 => r = none ∧ RSK T n V m g1 (drL (tO T n) (tV T n 37) (tW T n 37 V) (tP T n) R y.2.1 y.1) ∧ ((drL (tO T n) (tV T n 37) (tW T n 37 V) (tP T n) R y.2.1 y.1).1 = 0 → (NRK T n g1 (y.2.1 ++ [y.1.2 + 1]) ∧ CDK g1 (C ++ [(y.2.2.1.length : Int)])) ∧ rd g1 188 151 = (y.2.2.1.length : Int) + 1) ∧ (∀ a i, ¬ muDR (y.2.2.1.length : Int) a i → rd g1 a i = rd g a i)) := G_readDoorC (by omega) hs z no d1 dC (by omega) d2 d3 d4 (by omega) (fun h' a b f => ⟨rfl, a, fun q3 => ⟨(b q3).1, (b q3).2.1⟩, f⟩)
          refine B_quarter_76_1 gF ⟨5, by omega, (A.and B).mono (fun r g1 q => ?_)⟩
          obtain ⟨⟨rfl, a1, a2, a3⟩, -, p1⟩ := q
          refine B_quarter_83 (RF_of p1.1.1.1) (t106 g1 _ a1 p1 ?_ (fun q3 => ?_))
          · unfold qS
            rw [if_pos ew, if_neg c14]
          · obtain ⟨b1, b2⟩ := a2 q3
            unfold DRKc DRK qS
            rw [if_pos ew, if_neg c14]
            rw [a3 188 150 (by unfold muDR muNK; omega), a3 188 152 (by unfold muDR muNK; omega), a3 188 153 (by unfold muDR muNK; omega), a3 182 13 (by unfold muDR muNK; omega), b2]
            simp only [List.length_append, List.length_singleton]
            exact ⟨⟨b1.1, d2, d3, by omega, d5, by omega, by omega, d8, d9, d10⟩, _, b1.2, CRel_d dR⟩
      · refine B_quarter_76_0 gF ⟨0, by omega, G_isWord hs (by omega) (fun _ ew => ?_) (fun nw7 => ?_)⟩
        · have n1' := nw z
          have B : Rn xs xl 5 mm_readPerson 0 [some (.inr (.inr 182)), none, none] [] g (fun r g1 => r = none ∧ PL g g1) := D_readPerson (by omega) gp gq l9 (e8.trans z) (fun g1 p1 => ⟨rfl, p1⟩)
          by_cases c6 : 6 ≤ y.2.2.2.1.length
          · have A : Rn xs xl 5 mm_readPerson 0 [some (.inr (.inr 182)), none, none] [] g (fun r g1 => r = none ∧ RSK T n V m g1 (tkE (tP T n) 5 y.1)) := B_readPerson_0 gF ⟨fun q3 => by omega, fun _ => ⟨0, by omega, G_wrong hs (by omega) (fun h1 s1 f1 => B_readPerson_20 s1.1.1 ⟨rfl, s1⟩)⟩⟩
            refine B_quarter_92_1 gF ⟨5, by omega, (A.and B).mono (fun r g1 q => ?_)⟩
            obtain ⟨⟨rfl, a1⟩, -, p1⟩ := q
            have ne := tkE_ne' hs (v1 := 5) (by decide)
            refine B_quarter_99 (RF_of p1.1.1.1) (t106 g1 _ a1 p1 ?_ (fun q3 => absurd q3 ne))
            rw [tkS_f ne]
            unfold qS
            rw [if_neg n1', if_pos ew, if_pos c6]
          · have A : Rn xs xl 5 mm_readPerson 0 [some (.inr (.inr 182)), none, none] [] g (fun r g1 => r = none ∧ RSK T n V m g1 (psL (tO T n) (tV T n 37) (tW T n 37 V) (tP T n) R y.2.1 y.1) ∧ ((psL (tO T n) (tV T n 37) (tW T n 37 V) (tP T n) R y.2.1 y.1).1 = 0 → (NRK T n g1 (y.2.1 ++ [y.1.2 + 1]) ∧ CDK g1 (C ++ [(y.2.2.2.1.length : Int) + 20])) ∧ rd g1 188 152 = (y.2.2.2.1.length : Int) + 1) ∧ (∀ a i, ¬ muP (y.2.2.2.1.length : Int) a i → rd g1 a i = rd g a i)) := G_readPersonC (by omega) hs z no d1 dC (by omega) d2 d3 d5 (by omega) (fun h' a b f => ⟨rfl, a, fun q3 => ⟨(b q3).1, (b q3).2.1⟩, f⟩)
            refine B_quarter_92_1 gF ⟨5, by omega, (A.and B).mono (fun r g1 q => ?_)⟩
            obtain ⟨⟨rfl, a1, a2, a3⟩, -, p1⟩ := q
            refine B_quarter_99 (RF_of p1.1.1.1) (t106 g1 _ a1 p1 ?_ (fun q3 => ?_))
            · unfold qS
              rw [if_neg n1', if_pos ew, if_neg c6]
            · obtain ⟨b1, b2⟩ := a2 q3
              unfold DRKc DRK qS
              rw [if_neg n1', if_pos ew, if_neg c6]
              rw [a3 188 150 (by unfold muP muNK; omega), a3 188 151 (by unfold muP muNK; omega), a3 188 153 (by unfold muP muNK; omega), a3 182 13 (by unfold muP muNK; omega), b2]
              simp only [List.length_append, List.length_singleton]
              exact ⟨⟨b1.1, d2, d3, d4, by omega, by omega, d7, by omega, d9, d10⟩, _, b1.2, CRel_p dR⟩
        · have n1' := nw z
          have n7' := nw7 z
          have B : Rn xs xl 39 mm_readLet 0 [some (.inr (.inr 182))] [] g (fun r g1 => r = none ∧ PL g g1) := D_readLet (by omega) gp gq (e8.trans z) (fun g1 p1 => ⟨rfl, p1⟩)
          have h13 : rd g 188 153 < 0 → rd g 182 13 = 0 := by
            intro q3
            rcases Nat.eq_zero_or_pos y.2.2.2.2.length with u | u
            · exact (d9 u).2
            · have := d10 u
              omega
          by_cases w11 : tW T n 37 V y.1.2 = 11
          · by_cases cl : 0 < y.2.2.2.2.length
            · have A : Rn xs xl 39 mm_readLet 0 [some (.inr (.inr 182))] [] g (fun r g1 => r = none ∧ RSK T n V m g1 (tkE (tP T n) 3 y.1)) := G_readLet (by omega) hs z (fun q3 => absurd w11 q3) (fun _ _ h' a b => ⟨rfl, a⟩) h13 (fun _ q3 => absurd (d10 cl) (by omega))
              refine B_quarter_92_0 gF ⟨39, by omega, (A.and B).mono (fun r g1 q => ?_)⟩
              obtain ⟨⟨rfl, a1⟩, -, p1⟩ := q
              have ne := tkE_ne' hs (v1 := 3) (by decide)
              refine t106 g1 _ a1 p1 ?_ (fun q3 => absurd q3 ne)
              rw [tkS_f ne]
              unfold qS
              rw [if_neg n1', if_neg n7', if_pos w11, if_pos cl]
            · have d9' := d9 (by omega)
              have A : Rn xs xl 39 mm_readLet 0 [some (.inr (.inr 182))] [] g (fun r g1 => r = none ∧ RSK T n V m g1 (qX (tO T n) (tV T n 37) (tW T n 37 V) (tP T n) y.1).1 ∧ rd g1 188 153 = 0 ∧ (∀ a i, ¬ muLL a i → rd g1 a i = rd g a i)) := G_readLet (by omega) hs z (fun q3 => absurd w11 q3) (fun _ q3 => absurd q3 (by omega)) h13 (fun _ _ h' a b _ f => ⟨rfl, a, b, f⟩)
              refine B_quarter_92_0 gF ⟨39, by omega, (A.and B).mono (fun r g1 q => ?_)⟩
              obtain ⟨⟨rfl, a1, a2, a3⟩, -, p1⟩ := q
              refine t106 g1 _ a1 p1 ?_ (fun q3 => ?_)
              · unfold qS
                rw [if_neg n1', if_neg n7', if_pos w11, if_neg cl]
              · have ln := qX_len (fun j => tP_0 hs.1.2.2.2.2.2.2.1 hs.1.2.2.2.2.2.1 j) q3
                unfold DRKc DRK qS
                rw [if_neg n1', if_neg n7', if_pos w11, if_neg cl]
                rw [a3 188 150 (by unfold muLL muLK; omega), a3 188 151 (by unfold muLL muLK; omega), a3 188 152 (by unfold muLL muLK; omega), a2]
                have dn : NRK T n g1 y.2.1 := by
                  refine ⟨(a3 182 19 (by unfold muLL muLK; omega)).trans d1.1, fun i hi => ?_⟩
                  rw [a3 192 _ (by unfold muLL muLK; omega), a3 194 _ (by unfold muLL muLK; omega)]
                  exact d1.2 i hi
                exact ⟨⟨dn, d2, d3, d4, d5, d6, d7, d8, fun q4 => absurd q4 (Nat.ne_of_gt ln), fun _ => Int.le_refl 0⟩, C, CDK_fr dC (a3 182 19 (by unfold muLL muLK; omega)) (fun i => a3 194 i (by unfold muLL muLK; omega)), dR⟩
          · have A : Rn xs xl 39 mm_readLet 0 [some (.inr (.inr 182))] [] g (fun r g1 => r = none ∧ RSK T n V m g1 (tkE (tP T n) 1 y.1)) := G_readLet (by omega) hs z (fun _ h' a b => ⟨rfl, a⟩) (fun q3 => absurd q3 w11) h13 (fun q3 => absurd q3 w11)
            refine B_quarter_92_0 gF ⟨39, by omega, (A.and B).mono (fun r g1 q => ?_)⟩
            obtain ⟨⟨rfl, a1⟩, -, p1⟩ := q
            have ne := tkE_ne' hs (v1 := 1) (by decide)
            refine t106 g1 _ a1 p1 ?_ (fun q3 => absurd q3 ne)
            rw [tkS_f ne]
            unfold qS
            rw [if_neg n1', if_neg n7', if_neg w11]
  have i0 : INV (wr h 182 0 0) := wF_thrown hI (by omega) (by omega)
  have A0 : Rn xs xl 2 mm_cutAll 0 [some (.inr (.inr 182)), none, none, none, none, none, none] [] (wr h 182 0 0) (fun r h1 => r = none ∧ ∃ m : Nat, (∀ j : Nat, j ≤ m → RTK T n h1 j) ∧ tO T n m = 0 ∧ (∀ j : Nat, j < m → tO T n j ≠ 0) ∧ m ≤ 1000) := F_cutAll (by omega) (RF_of i0.1) ((rdw_nei (by decide)).trans h2) n0 n1 (fun i i0 i1 => (rdw_ne (by decide)).trans (hT i i0 i1)) (fun h' m c1 c2 c3 c4 _ _ _ _ => ⟨rfl, m, c1, c2, c3, c4⟩)
  have B0 : Rn xs xl 2 mm_cutAll 0 [some (.inr (.inr 182)), none, none, none, none, none, none] [] (wr h 182 0 0) (fun r h1 => r = none ∧ INV h1 ∧ rd h1 182 7 = 0 ∧ rd h1 182 8 = 0 ∧ rd h1 182 2 = 0 ∧ (∀ a i, ¬ muC a i → rd h1 a i = rd (wr h 182 0 0) a i)) := D_cutAll (by omega) i0 (fun h1 i1 a1 f1 t1 fr1 => ⟨rfl, i1, a1, f1, t1, fr1⟩)
  refine B_quarter_0 (RF_of hI.1) ⟨2, by omega, (A0.and B0).mono (fun r h1 q => ?_)⟩
  obtain ⟨⟨rfl, m, c1, c2, c3, c4⟩, -, i1, a1, f1, t1, fr1⟩ := q
  have i2 : INV (wr (wr h1 182 13 0) 182 19 0) := wF_readMany (wF_codes i1 (by omega) (by omega)) (by omega) (by omega)
  refine B_quarter_9 (RF_of i1.1) ⟨0, by omega, D_stands i2 (fun h3 i3 m3 z3 fr3 => ?_)⟩
  have e3 : ∀ a i, ¬ (a = 188 ∧ 150 ≤ i) → ¬ (a = 182 ∧ (i = 13 ∨ i = 19)) → rd h3 a i = rd h1 a i := by
    intro a i n1 n2
    rw [fr3 a i n1, rd_wr, if_neg, rd_wr, if_neg] <;> (rintro ⟨rfl, rfl⟩; exact n2 (by omega))
  have x3 : rd h3 182 13 = 0 := (fr3 _ _ (by omega)).trans ((rdw_nei (by decide)).trans rdw_eq)
  have m3' : rd h3 182 19 = 0 := (fr3 _ _ (by omega)).trans rdw_eq
  have s3 : RSK T n V m h3 (0, 0) := by
    refine ⟨⟨RF_of i3.1, fun j hj => ?_, c2, c3, c4, n0, n1, ?_, hi⟩, ?_, Int.le_refl 0, ?_, fun _ => ⟨?_, Nat.zero_le _⟩⟩
    · obtain ⟨r1, r2, r3⟩ := c1 j hj
      exact ⟨(e3 _ _ (by omega) (by omega)).trans r1, (e3 _ _ (by omega) (by omega)).trans r2, fun q1 q2 => (e3 _ _ (by omega) (by omega)).trans (r3 q1 q2)⟩
    · rw [← hV]
      funext i
      rw [e3 _ _ (by omega) (by omega), fr1 _ _ (by unfold muC; omega), rdw_ne (by decide)]
    · rw [e3 _ _ (by omega) (by omega), f1]
    · rw [e3 _ _ (by omega) (by omega), a1]; decide
    · rw [e3 _ _ (by omega) (by omega), a1]; rfl
  have A4 : Rn xs xl 2 mm_takeWord 0 [some (.inr (.inr 182)), some (.inl 0)] [] h3 (fun r h4 => r = none ∧ RSK T n V m h4 (tkW (tW T n 37 V) (tP T n) 0 (0, 0))) := G_takeWord (by omega) s3 (by omega) (fun h' a b => ⟨rfl, a⟩)
  have B4 : Rn xs xl 2 mm_takeWord 0 [some (.inr (.inr 182)), some (.inl 0)] [] h3 (fun r h4 => r = none ∧ PG muT h3 h4) := D_takeWord (by omega) ⟨i3, trivial⟩ (by omega) (fun h4 p4 => ⟨rfl, p4⟩)
  refine B_quarter_26 (RF_of i3.1) ⟨2, by omega, (A4.and B4).mono (fun r h4 q => ?_)⟩
  obtain ⟨⟨rfl, s4⟩, -, p4⟩ := q
  have A5 : Rn xs xl 1 mm_takeNumber 0 [some (.inr (.inr 182)), some (.inl 2), some (.inl 10)] [] h4 (fun r h5 => ∃ x, r = some (.inl x) ∧ RSK T n V m h5 (tkN (tO T n) (tV T n 37) (tP T n) 2 10 (tkW (tW T n 37 V) (tP T n) 0 (0, 0))) ∧ ((tkN (tO T n) (tV T n 37) (tP T n) 2 10 (tkW (tW T n 37 V) (tP T n) 0 (0, 0))).1 = 0 → x = qR (tV T n 37) (tW T n 37 V) (tP T n))) := G_takeNumber (by omega) s4 ⟨by unfold i32; omega, by unfold i32; omega⟩ (fun h' r a _ b _ => ⟨r, rfl, a, fun q3 => (b q3).1⟩)
  have B5 : Rn xs xl 1 mm_takeNumber 0 [some (.inr (.inr 182)), some (.inl 2), some (.inl 10)] [] h4 (fun r h5 => ∃ x, r = some (.inl x) ∧ PG muT h4 h5 ∧ (rd h5 182 8 = 0 → 2 ≤ x ∧ x ≤ 10) ∧ (rd h5 182 8 ≠ 0 → x = 0)) := D_takeNumber (by omega) p4.1 (by unfold i32; omega) (by unfold i32; omega) (fun r h5 p5 a5 b5 => ⟨r, rfl, p5, fun q3 => ⟨(a5 q3).1, (a5 q3).2.1⟩, b5⟩)
  refine B_quarter_31 p4.rf ⟨1, by omega, (A5.and B5).mono (fun r h5 q => ?_)⟩
  obtain ⟨⟨x, rfl, s5, q5⟩, x', ex, p5, a5, b5⟩ := q
  cases ex
  have rb : 0 ≤ x ∧ x ≤ 10 := by
    by_cases z : rd h5 182 8 = 0
    · have := a5 z; omega
    · have := b5 z; omega
  have i6 : INV (wr h5 188 150 x) := wq_rooms p5.inv rb.1 rb.2
  have A7 : Rn xs xl 1 mm_takeSign 0 [some (.inr (.inr 182)), some (.inl 59)] [] (wr h5 188 150 x) (fun r h7 => r = none ∧ RSK T n V m h7 (qA (tO T n) (tV T n 37) (tW T n 37 V) (tP T n))) := G_takeSign (by omega) (RSK_w s5) (fun h' a b => ⟨rfl, a⟩)
  have B7 : Rn xs xl 1 mm_takeSign 0 [some (.inr (.inr 182)), some (.inl 59)] [] (wr h5 188 150 x) (fun r h7 => r = none ∧ PG muT (wr h5 188 150 x) h7) := D_takeSign (by omega) ⟨i6, trivial⟩ (fun h7 p7 _ => ⟨rfl, p7⟩)
  refine B_quarter_45 p5.rf ⟨1, by omega, (A7.and B7).mono (fun r h7 q => ?_)⟩
  obtain ⟨⟨rfl, s7⟩, -, p7⟩ := q
  have p45 := p4.trans p5
  have e7 : ∀ a i, ¬ muT a i → ¬ (a = 188 ∧ i = 150) → rd h7 a i = rd h3 a i := by
    intro a i n1 n2
    rw [p7.2.2.2 a i n1, rd_wr, if_neg (by rintro ⟨rfl, rfl⟩; exact n2 ⟨rfl, rfl⟩)]
    exact p45.2.2.2 a i n1
  have y : ∀ i, i ≠ 150 → rd h7 188 i = rd h3 188 i := fun i hi => e7 188 i (by unfold muT; omega) (by omega)
  have y0 : rd h7 188 150 = x := (p7.2.2.2 _ _ (by unfold muT; omega)).trans rdw_eq
  have y1 : rd h7 188 151 = 0 := (y 151 (by decide)).trans (z3 151 (by decide) (by decide) (by decide))
  have y2 : rd h7 188 152 = 0 := (y 152 (by decide)).trans (z3 152 (by decide) (by decide) (by decide))
  have y3 : rd h7 188 153 = -1 := (y 153 (by decide)).trans m3
  have yc : rd h7 182 13 = 0 := (e7 182 13 (by unfold muT; omega) (by omega)).trans x3
  have yn : rd h7 182 19 = 0 := (e7 182 19 (by unfold muT; omega) (by omega)).trans m3'
  refine loop m 1000 h7 (qB (tO T n) (tV T n 37) (tW T n 37 V) (tP T n)) (by rw [hRq]; exact eF) s7 p7.inv (fun z => ?_) (fun a i ha => ?_) (fun z => ⟨?_, ?_⟩)
  · have z6 := p7.2.2.1 z
    rw [rdw_ne (by decide)] at z6
    have r2 := a5 z6
    refine ⟨by omega, by omega, fun d d0 d1 => by omega, fun p p0 p1 => by omega, Or.inl ⟨y3, yc⟩⟩
  · unfold pq at ha
    rw [e7 a i (by unfold muT; omega) (by omega), e3 a i (by omega) (by omega), fr1 a i (by unfold muC; omega), rd_wr, if_neg (by omega)]
  · have z5 : (tkN (tO T n) (tV T n 37) (tP T n) 2 10 (tkW (tW T n 37 V) (tP T n) 0 (0, 0))).1 = 0 := tkS_z z
    have ex := q5 z5
    refine ⟨⟨⟨yn, fun i hi => absurd hi (Nat.not_lt_zero i)⟩, y0.trans (ex.trans hRq.symm), by rw [hRq, ← ex]; exact rb, y1, y2, rfl, Nat.zero_le 14, Nat.zero_le 6, fun _ => ⟨by omega, yc⟩, fun q3 => absurd q3 (Nat.lt_irrefl 0)⟩, [], ⟨yn, fun i hi => absurd hi (Nat.not_lt_zero i)⟩, CRel_0⟩
  · omega
end NB
end
