/-! LM, by program (wip/p2/hand.py): rows of the reader, lines -/
def mm_takeNumber : LM_M := (⟨"OneSidedModel", "takeNumber", "(II)I"⟩, prog_14_method_19_code, 3, (some .int), 12, 3, 0, 1456, 1455, 1000070)
def mm_takeAfter : LM_M := (⟨"OneSidedModel", "takeAfter", "(III)I"⟩, prog_14_method_20_code, 4, (some .int), 12, 4, 0, 1492, 1491, 1000079)
def mm_isName : LM_M := (⟨"OneSidedModel", "isName", "()Z"⟩, prog_14_method_22_code, 1, (some .boolean), 12, 1, 0, 1476, 1475, 1000075)
def mm_find : LM_M := (⟨"OneSidedModel", "find", "(Z)I"⟩, prog_14_method_23_code, 3, (some .int), 12, 2, 0, 1484, 1483, 1000077)
def mm_readName : LM_M := (⟨"OneSidedModel", "readName", "(I)V"⟩, prog_14_method_25_code, 2, none, 12, 2, 0, 1472, 1471, 1000074)
def mm_takeRoom : LM_M := (⟨"OneSidedModel", "takeRoom", "()I"⟩, prog_14_method_26_code, 1, (some .int), 12, 1, 0, 1488, 1487, 1000078)
def mm_takeSort : LM_M := (⟨"OneSidedModel", "takeSort", "()I"⟩, prog_14_method_28_code, 2, (some .int), 12, 1, 0, 1496, 1495, 1000080)
def mm_readPerson : LM_M := (⟨"OneSidedModel", "readPerson", "()V"⟩, prog_14_method_29_code, 3, none, 12, 1, 0, 1500, 1499, 1000081)
def mm_readLet : LM_M := (⟨"OneSidedModel", "readLet", "()V"⟩, prog_14_method_30_code, 1, none, 12, 1, 0, 1504, 1503, 1000082)
def mm_readTurn : LM_M := (⟨"OneSidedModel", "readTurn", "()V"⟩, prog_14_method_32_code, 3, none, 12, 1, 0, 1540, 1539, 1000090)
def mm_takeTold : LM_M := (⟨"OneSidedModel", "takeTold", "(II)I"⟩, prog_14_method_33_code, 4, (some .int), 12, 3, 0, 1544, 1543, 1000091)
def mm_within : LM_M := (⟨"OneSidedModel", "within", "(III)Z"⟩, prog_14_method_17_code, 3, (some .boolean), 12, 3, 1, 1547, 1546, 0)
def mm_standsAsAlways : LM_M := (⟨"OneSidedModel", "standsAsAlways", "(I)V"⟩, prog_14_method_18_code, 3, none, 12, 2, 0, 1234, 1233, 1000061)
def mm_readDoor : LM_M := (⟨"OneSidedModel", "readDoor", "()V"⟩, prog_14_method_27_code, 5, none, 12, 1, 0, 1468, 1467, 1000073)
theorem dd_takeNumber_0 : decode mm_takeNumber.2.1 0 = .ok (.aload_n 0, 1) := by decide +kernel
theorem dd_takeNumber_1 : decode mm_takeNumber.2.1 1 = .ok (.getfield 210, 3) := by decide +kernel
theorem dd_takeNumber_4 : decode mm_takeNumber.2.1 4 = .ok (.ifCond .ne (24), 3) := by decide +kernel
theorem dd_takeNumber_7 : decode mm_takeNumber.2.1 7 = .ok (.aload_n 0, 1) := by decide +kernel
theorem dd_takeNumber_8 : decode mm_takeNumber.2.1 8 = .ok (.getfield 24, 3) := by decide +kernel
theorem dd_takeNumber_11 : decode mm_takeNumber.2.1 11 = .ok (.aload_n 0, 1) := by decide +kernel
theorem dd_takeNumber_12 : decode mm_takeNumber.2.1 12 = .ok (.getfield 207, 3) := by decide +kernel
theorem dd_takeNumber_15 : decode mm_takeNumber.2.1 15 = .ok (.iaload, 1) := by decide +kernel
theorem dd_takeNumber_16 : decode mm_takeNumber.2.1 16 = .ok (.iconst 2, 1) := by decide +kernel
theorem dd_takeNumber_17 : decode mm_takeNumber.2.1 17 = .ok (.if_icmp .eq (11), 3) := by decide +kernel
theorem dd_takeNumber_20 : decode mm_takeNumber.2.1 20 = .ok (.aload_n 0, 1) := by decide +kernel
theorem dd_takeNumber_21 : decode mm_takeNumber.2.1 21 = .ok (.iconst 1, 1) := by decide +kernel
theorem dd_takeNumber_22 : decode mm_takeNumber.2.1 22 = .ok (.invokevirtual 216, 3) := by decide +kernel
theorem dd_takeNumber_25 : decode mm_takeNumber.2.1 25 = .ok (.goto 45, 3) := by decide +kernel
theorem dd_takeNumber_28 : decode mm_takeNumber.2.1 28 = .ok (.aload_n 0, 1) := by decide +kernel
theorem dd_takeNumber_29 : decode mm_takeNumber.2.1 29 = .ok (.getfield 210, 3) := by decide +kernel
theorem dd_takeNumber_32 : decode mm_takeNumber.2.1 32 = .ok (.ifCond .ne (38), 3) := by decide +kernel
theorem dd_takeNumber_35 : decode mm_takeNumber.2.1 35 = .ok (.aload_n 0, 1) := by decide +kernel
theorem dd_takeNumber_36 : decode mm_takeNumber.2.1 36 = .ok (.getfield 30, 3) := by decide +kernel
theorem dd_takeNumber_39 : decode mm_takeNumber.2.1 39 = .ok (.aload_n 0, 1) := by decide +kernel
theorem dd_takeNumber_40 : decode mm_takeNumber.2.1 40 = .ok (.getfield 207, 3) := by decide +kernel
theorem dd_takeNumber_43 : decode mm_takeNumber.2.1 43 = .ok (.laload, 1) := by decide +kernel
theorem dd_takeNumber_44 : decode mm_takeNumber.2.1 44 = .ok (.iload_n 1, 1) := by decide +kernel
theorem dd_takeNumber_45 : decode mm_takeNumber.2.1 45 = .ok (.i2l, 1) := by decide +kernel
theorem dd_takeNumber_46 : decode mm_takeNumber.2.1 46 = .ok (.lcmp, 1) := by decide +kernel
theorem dd_takeNumber_47 : decode mm_takeNumber.2.1 47 = .ok (.ifCond .lt (18), 3) := by decide +kernel
theorem dd_takeNumber_65 : decode mm_takeNumber.2.1 65 = .ok (.aload_n 0, 1) := by decide +kernel
theorem dd_takeNumber_66 : decode mm_takeNumber.2.1 66 = .ok (.iconst 4, 1) := by decide +kernel
theorem dd_takeNumber_67 : decode mm_takeNumber.2.1 67 = .ok (.invokevirtual 216, 3) := by decide +kernel
theorem dd_takeNumber_50 : decode mm_takeNumber.2.1 50 = .ok (.aload_n 0, 1) := by decide +kernel
theorem dd_takeNumber_51 : decode mm_takeNumber.2.1 51 = .ok (.getfield 30, 3) := by decide +kernel
theorem dd_takeNumber_54 : decode mm_takeNumber.2.1 54 = .ok (.aload_n 0, 1) := by decide +kernel
theorem dd_takeNumber_55 : decode mm_takeNumber.2.1 55 = .ok (.getfield 207, 3) := by decide +kernel
theorem dd_takeNumber_58 : decode mm_takeNumber.2.1 58 = .ok (.laload, 1) := by decide +kernel
theorem dd_takeNumber_59 : decode mm_takeNumber.2.1 59 = .ok (.iload_n 2, 1) := by decide +kernel
theorem dd_takeNumber_60 : decode mm_takeNumber.2.1 60 = .ok (.i2l, 1) := by decide +kernel
theorem dd_takeNumber_61 : decode mm_takeNumber.2.1 61 = .ok (.lcmp, 1) := by decide +kernel
theorem dd_takeNumber_62 : decode mm_takeNumber.2.1 62 = .ok (.ifCond .le (8), 3) := by decide +kernel
theorem dd_takeNumber_70 : decode mm_takeNumber.2.1 70 = .ok (.aload_n 0, 1) := by decide +kernel
theorem dd_takeNumber_71 : decode mm_takeNumber.2.1 71 = .ok (.getfield 210, 3) := by decide +kernel
theorem dd_takeNumber_74 : decode mm_takeNumber.2.1 74 = .ok (.ifCond .le (5), 3) := by decide +kernel
theorem dd_takeNumber_79 : decode mm_takeNumber.2.1 79 = .ok (.aload_n 0, 1) := by decide +kernel
theorem dd_takeNumber_80 : decode mm_takeNumber.2.1 80 = .ok (.dup, 1) := by decide +kernel
theorem dd_takeNumber_81 : decode mm_takeNumber.2.1 81 = .ok (.getfield 207, 3) := by decide +kernel
theorem dd_takeNumber_84 : decode mm_takeNumber.2.1 84 = .ok (.iconst 1, 1) := by decide +kernel
theorem dd_takeNumber_85 : decode mm_takeNumber.2.1 85 = .ok (.iadd, 1) := by decide +kernel
theorem dd_takeNumber_86 : decode mm_takeNumber.2.1 86 = .ok (.putfield 207, 3) := by decide +kernel
theorem dd_takeNumber_89 : decode mm_takeNumber.2.1 89 = .ok (.aload_n 0, 1) := by decide +kernel
theorem dd_takeNumber_90 : decode mm_takeNumber.2.1 90 = .ok (.getfield 30, 3) := by decide +kernel
theorem dd_takeNumber_93 : decode mm_takeNumber.2.1 93 = .ok (.aload_n 0, 1) := by decide +kernel
theorem dd_takeNumber_94 : decode mm_takeNumber.2.1 94 = .ok (.getfield 207, 3) := by decide +kernel
theorem dd_takeNumber_97 : decode mm_takeNumber.2.1 97 = .ok (.iconst 1, 1) := by decide +kernel
theorem dd_takeNumber_98 : decode mm_takeNumber.2.1 98 = .ok (.isub, 1) := by decide +kernel
theorem dd_takeNumber_99 : decode mm_takeNumber.2.1 99 = .ok (.laload, 1) := by decide +kernel
theorem dd_takeNumber_100 : decode mm_takeNumber.2.1 100 = .ok (.l2i, 1) := by decide +kernel
theorem dd_takeNumber_101 : decode mm_takeNumber.2.1 101 = .ok (.ireturn, 1) := by decide +kernel
theorem dd_takeNumber_77 : decode mm_takeNumber.2.1 77 = .ok (.iconst 0, 1) := by decide +kernel
theorem dd_takeNumber_78 : decode mm_takeNumber.2.1 78 = .ok (.ireturn, 1) := by decide +kernel
theorem dd_takeAfter_0 : decode mm_takeAfter.2.1 0 = .ok (.aload_n 0, 1) := by decide +kernel
theorem dd_takeAfter_1 : decode mm_takeAfter.2.1 1 = .ok (.iload_n 1, 1) := by decide +kernel
theorem dd_takeAfter_2 : decode mm_takeAfter.2.1 2 = .ok (.invokevirtual 225, 3) := by decide +kernel
theorem cw_12_225 : cwOk 12 225 0 168 2 2 12 = true := by decide +kernel
theorem mt_takeWord : MTB 168 = some mm_takeWord := rfl
theorem dd_takeAfter_5 : decode mm_takeAfter.2.1 5 = .ok (.aload_n 0, 1) := by decide +kernel
theorem dd_takeAfter_6 : decode mm_takeAfter.2.1 6 = .ok (.iload_n 2, 1) := by decide +kernel
theorem dd_takeAfter_7 : decode mm_takeAfter.2.1 7 = .ok (.iload_n 3, 1) := by decide +kernel
theorem dd_takeAfter_8 : decode mm_takeAfter.2.1 8 = .ok (.invokevirtual 228, 3) := by decide +kernel
theorem cw_12_228 : cwOk 12 228 0 172 3 3 12 = true := by decide +kernel
theorem mt_takeNumber : MTB 172 = some mm_takeNumber := rfl
theorem dd_takeAfter_11 : decode mm_takeAfter.2.1 11 = .ok (.ireturn, 1) := by decide +kernel
theorem dd_isName_0 : decode mm_isName.2.1 0 = .ok (.aload_n 0, 1) := by decide +kernel
theorem dd_isName_1 : decode mm_isName.2.1 1 = .ok (.getfield 210, 3) := by decide +kernel
theorem dd_isName_4 : decode mm_isName.2.1 4 = .ok (.ifCond .ne (30), 3) := by decide +kernel
theorem dd_isName_34 : decode mm_isName.2.1 34 = .ok (.iconst 0, 1) := by decide +kernel
theorem dd_isName_35 : decode mm_isName.2.1 35 = .ok (.ireturn, 1) := by decide +kernel
theorem dd_isName_7 : decode mm_isName.2.1 7 = .ok (.aload_n 0, 1) := by decide +kernel
theorem dd_isName_8 : decode mm_isName.2.1 8 = .ok (.getfield 24, 3) := by decide +kernel
theorem dd_isName_11 : decode mm_isName.2.1 11 = .ok (.aload_n 0, 1) := by decide +kernel
theorem dd_isName_12 : decode mm_isName.2.1 12 = .ok (.getfield 207, 3) := by decide +kernel
theorem dd_isName_15 : decode mm_isName.2.1 15 = .ok (.iaload, 1) := by decide +kernel
theorem dd_isName_16 : decode mm_isName.2.1 16 = .ok (.iconst 1, 1) := by decide +kernel
theorem dd_isName_17 : decode mm_isName.2.1 17 = .ok (.if_icmp .ne (17), 3) := by decide +kernel
theorem dd_isName_20 : decode mm_isName.2.1 20 = .ok (.aload_n 0, 1) := by decide +kernel
theorem dd_isName_21 : decode mm_isName.2.1 21 = .ok (.iconst 0, 1) := by decide +kernel
theorem dd_isName_22 : decode mm_isName.2.1 22 = .ok (.bipush 25, 2) := by decide +kernel
theorem dd_isName_24 : decode mm_isName.2.1 24 = .ok (.invokevirtual 232, 3) := by decide +kernel
theorem dd_isName_27 : decode mm_isName.2.1 27 = .ok (.ifCond .ge (7), 3) := by decide +kernel
theorem dd_isName_30 : decode mm_isName.2.1 30 = .ok (.iconst 1, 1) := by decide +kernel
theorem dd_isName_31 : decode mm_isName.2.1 31 = .ok (.goto 4, 3) := by decide +kernel
theorem dd_find_0 : decode mm_find.2.1 0 = .ok (.iconst 0, 1) := by decide +kernel
theorem dd_find_1 : decode mm_find.2.1 1 = .ok (.istore_n 2, 1) := by decide +kernel
theorem dd_find_2 : decode mm_find.2.1 2 = .ok (.iload_n 2, 1) := by decide +kernel
theorem dd_find_3 : decode mm_find.2.1 3 = .ok (.iload_n 1, 1) := by decide +kernel
theorem dd_find_4 : decode mm_find.2.1 4 = .ok (.ifCond .eq (10), 3) := by decide +kernel
theorem dd_find_14 : decode mm_find.2.1 14 = .ok (.aload_n 0, 1) := by decide +kernel
theorem dd_find_15 : decode mm_find.2.1 15 = .ok (.getfield 238, 3) := by decide +kernel
theorem fd_12_238 : fld 12 238 = some (12, 18) := by decide +kernel
theorem dd_find_18 : decode mm_find.2.1 18 = .ok (.if_icmp .ge (61), 3) := by decide +kernel
theorem dd_find_79 : decode mm_find.2.1 79 = .ok (.iconst (-1), 1) := by decide +kernel
theorem dd_find_80 : decode mm_find.2.1 80 = .ok (.ireturn, 1) := by decide +kernel
theorem dd_find_21 : decode mm_find.2.1 21 = .ok (.iload_n 1, 1) := by decide +kernel
theorem dd_find_22 : decode mm_find.2.1 22 = .ok (.ifCond .eq (12), 3) := by decide +kernel
theorem dd_find_34 : decode mm_find.2.1 34 = .ok (.aload_n 0, 1) := by decide +kernel
theorem dd_find_35 : decode mm_find.2.1 35 = .ok (.getfield 104, 3) := by decide +kernel
theorem fd_12_104 : fld 12 104 = some (12, 14) := by decide +kernel
theorem rf_182_14 {h : LH} (hF : RF h) : rd h 182 14 = 191 := hF 182 14 191 (by decide +kernel) (by decide +kernel)
theorem dd_find_38 : decode mm_find.2.1 38 = .ok (.iload_n 2, 1) := by decide +kernel
theorem dd_find_39 : decode mm_find.2.1 39 = .ok (.laload, 1) := by decide +kernel
theorem ia_191 : isA NC 191 2 = true := by decide +kernel
theorem la_191 : (lay (191 : Int).toNat).2.2 = 20 := by decide +kernel
theorem dd_find_40 : decode mm_find.2.1 40 = .ok (.aload_n 0, 1) := by decide +kernel
theorem dd_find_41 : decode mm_find.2.1 41 = .ok (.getfield 30, 3) := by decide +kernel
theorem dd_find_44 : decode mm_find.2.1 44 = .ok (.aload_n 0, 1) := by decide +kernel
theorem dd_find_45 : decode mm_find.2.1 45 = .ok (.getfield 207, 3) := by decide +kernel
theorem dd_find_48 : decode mm_find.2.1 48 = .ok (.laload, 1) := by decide +kernel
theorem dd_find_49 : decode mm_find.2.1 49 = .ok (.lcmp, 1) := by decide +kernel
theorem dd_find_50 : decode mm_find.2.1 50 = .ok (.ifCond .ne (23), 3) := by decide +kernel
theorem dd_find_73 : decode mm_find.2.1 73 = .ok (.iinc 2 1, 3) := by decide +kernel
theorem dd_find_76 : decode mm_find.2.1 76 = .ok (.goto (-74), 3) := by decide +kernel
theorem dd_find_53 : decode mm_find.2.1 53 = .ok (.iload_n 1, 1) := by decide +kernel
theorem dd_find_54 : decode mm_find.2.1 54 = .ok (.ifCond .eq (12), 3) := by decide +kernel
theorem dd_find_66 : decode mm_find.2.1 66 = .ok (.aload_n 0, 1) := by decide +kernel
theorem dd_find_67 : decode mm_find.2.1 67 = .ok (.getfield 110, 3) := by decide +kernel
theorem fd_12_110 : fld 12 110 = some (12, 16) := by decide +kernel
theorem rf_182_16 {h : LH} (hF : RF h) : rd h 182 16 = 193 := hF 182 16 193 (by decide +kernel) (by decide +kernel)
theorem dd_find_70 : decode mm_find.2.1 70 = .ok (.iload_n 2, 1) := by decide +kernel
theorem dd_find_71 : decode mm_find.2.1 71 = .ok (.iaload, 1) := by decide +kernel
theorem ia_193 : isA NC 193 1 = true := by decide +kernel
theorem la_193 : (lay (193 : Int).toNat).2.2 = 20 := by decide +kernel
theorem dd_find_72 : decode mm_find.2.1 72 = .ok (.ireturn, 1) := by decide +kernel
theorem dd_find_57 : decode mm_find.2.1 57 = .ok (.aload_n 0, 1) := by decide +kernel
theorem dd_find_58 : decode mm_find.2.1 58 = .ok (.getfield 113, 3) := by decide +kernel
theorem fd_12_113 : fld 12 113 = some (12, 17) := by decide +kernel
theorem rf_182_17 {h : LH} (hF : RF h) : rd h 182 17 = 194 := hF 182 17 194 (by decide +kernel) (by decide +kernel)
theorem dd_find_61 : decode mm_find.2.1 61 = .ok (.iload_n 2, 1) := by decide +kernel
theorem dd_find_62 : decode mm_find.2.1 62 = .ok (.iaload, 1) := by decide +kernel
theorem ia_194 : isA NC 194 1 = true := by decide +kernel
theorem la_194 : (lay (194 : Int).toNat).2.2 = 20 := by decide +kernel
theorem dd_find_63 : decode mm_find.2.1 63 = .ok (.goto 9, 3) := by decide +kernel
theorem dd_find_25 : decode mm_find.2.1 25 = .ok (.aload_n 0, 1) := by decide +kernel
theorem dd_find_26 : decode mm_find.2.1 26 = .ok (.getfield 107, 3) := by decide +kernel
theorem fd_12_107 : fld 12 107 = some (12, 15) := by decide +kernel
theorem rf_182_15 {h : LH} (hF : RF h) : rd h 182 15 = 192 := hF 182 15 192 (by decide +kernel) (by decide +kernel)
theorem dd_find_29 : decode mm_find.2.1 29 = .ok (.iload_n 2, 1) := by decide +kernel
theorem dd_find_30 : decode mm_find.2.1 30 = .ok (.laload, 1) := by decide +kernel
theorem ia_192 : isA NC 192 2 = true := by decide +kernel
theorem la_192 : (lay (192 : Int).toNat).2.2 = 20 := by decide +kernel
theorem dd_find_31 : decode mm_find.2.1 31 = .ok (.goto 9, 3) := by decide +kernel
theorem dd_find_7 : decode mm_find.2.1 7 = .ok (.aload_n 0, 1) := by decide +kernel
theorem dd_find_8 : decode mm_find.2.1 8 = .ok (.getfield 235, 3) := by decide +kernel
theorem fd_12_235 : fld 12 235 = some (12, 19) := by decide +kernel
theorem dd_find_11 : decode mm_find.2.1 11 = .ok (.goto 7, 3) := by decide +kernel
theorem dd_readName_0 : decode mm_readName.2.1 0 = .ok (.aload_n 0, 1) := by decide +kernel
theorem dd_readName_1 : decode mm_readName.2.1 1 = .ok (.dup, 1) := by decide +kernel
theorem dd_readName_2 : decode mm_readName.2.1 2 = .ok (.getfield 207, 3) := by decide +kernel
theorem dd_readName_5 : decode mm_readName.2.1 5 = .ok (.iconst 1, 1) := by decide +kernel
theorem dd_readName_6 : decode mm_readName.2.1 6 = .ok (.iadd, 1) := by decide +kernel
theorem dd_readName_7 : decode mm_readName.2.1 7 = .ok (.putfield 207, 3) := by decide +kernel
theorem dd_readName_10 : decode mm_readName.2.1 10 = .ok (.aload_n 0, 1) := by decide +kernel
theorem dd_readName_11 : decode mm_readName.2.1 11 = .ok (.invokevirtual 259, 3) := by decide +kernel
theorem cw_12_259 : cwOk 12 259 0 177 1 1 12 = true := by decide +kernel
theorem mt_isName : MTB 177 = some mm_isName := rfl
theorem dd_readName_14 : decode mm_readName.2.1 14 = .ok (.ifCond .ne (11), 3) := by decide +kernel
theorem dd_readName_25 : decode mm_readName.2.1 25 = .ok (.aload_n 0, 1) := by decide +kernel
theorem dd_readName_26 : decode mm_readName.2.1 26 = .ok (.iconst 1, 1) := by decide +kernel
theorem dd_readName_27 : decode mm_readName.2.1 27 = .ok (.invokevirtual 263, 3) := by decide +kernel
theorem cw_12_263 : cwOk 12 263 0 179 2 3 12 = true := by decide +kernel
theorem mt_find : MTB 179 = some mm_find := rfl
theorem dd_readName_17 : decode mm_readName.2.1 17 = .ok (.aload_n 0, 1) := by decide +kernel
theorem dd_readName_18 : decode mm_readName.2.1 18 = .ok (.iconst 1, 1) := by decide +kernel
theorem dd_readName_19 : decode mm_readName.2.1 19 = .ok (.invokevirtual 216, 3) := by decide +kernel
theorem dd_readName_22 : decode mm_readName.2.1 22 = .ok (.goto 16, 3) := by decide +kernel
theorem dd_readName_30 : decode mm_readName.2.1 30 = .ok (.ifCond .lt (8), 3) := by decide +kernel
theorem dd_readName_33 : decode mm_readName.2.1 33 = .ok (.aload_n 0, 1) := by decide +kernel
theorem dd_readName_34 : decode mm_readName.2.1 34 = .ok (.iconst 3, 1) := by decide +kernel
theorem dd_readName_35 : decode mm_readName.2.1 35 = .ok (.invokevirtual 216, 3) := by decide +kernel
theorem dd_readName_38 : decode mm_readName.2.1 38 = .ok (.aload_n 0, 1) := by decide +kernel
theorem dd_readName_39 : decode mm_readName.2.1 39 = .ok (.getfield 210, 3) := by decide +kernel
theorem dd_readName_42 : decode mm_readName.2.1 42 = .ok (.ifCond .ne (51), 3) := by decide +kernel
theorem dd_readName_93 : decode mm_readName.2.1 93 = .ok (.return_, 1) := by decide +kernel
theorem dd_readName_45 : decode mm_readName.2.1 45 = .ok (.aload_n 0, 1) := by decide +kernel
theorem dd_readName_46 : decode mm_readName.2.1 46 = .ok (.getfield 107, 3) := by decide +kernel
theorem dd_readName_49 : decode mm_readName.2.1 49 = .ok (.aload_n 0, 1) := by decide +kernel
theorem dd_readName_50 : decode mm_readName.2.1 50 = .ok (.getfield 235, 3) := by decide +kernel
theorem dd_readName_53 : decode mm_readName.2.1 53 = .ok (.aload_n 0, 1) := by decide +kernel
theorem dd_readName_54 : decode mm_readName.2.1 54 = .ok (.getfield 30, 3) := by decide +kernel
theorem dd_readName_57 : decode mm_readName.2.1 57 = .ok (.aload_n 0, 1) := by decide +kernel
theorem dd_readName_58 : decode mm_readName.2.1 58 = .ok (.getfield 207, 3) := by decide +kernel
theorem dd_readName_61 : decode mm_readName.2.1 61 = .ok (.laload, 1) := by decide +kernel
theorem dd_readName_62 : decode mm_readName.2.1 62 = .ok (.lastore, 1) := by decide +kernel
theorem dd_readName_63 : decode mm_readName.2.1 63 = .ok (.aload_n 0, 1) := by decide +kernel
theorem dd_readName_64 : decode mm_readName.2.1 64 = .ok (.getfield 113, 3) := by decide +kernel
theorem dd_readName_67 : decode mm_readName.2.1 67 = .ok (.aload_n 0, 1) := by decide +kernel
theorem dd_readName_68 : decode mm_readName.2.1 68 = .ok (.getfield 235, 3) := by decide +kernel
theorem dd_readName_71 : decode mm_readName.2.1 71 = .ok (.iload_n 1, 1) := by decide +kernel
theorem dd_readName_72 : decode mm_readName.2.1 72 = .ok (.iastore, 1) := by decide +kernel
theorem dd_readName_73 : decode mm_readName.2.1 73 = .ok (.aload_n 0, 1) := by decide +kernel
theorem dd_readName_74 : decode mm_readName.2.1 74 = .ok (.dup, 1) := by decide +kernel
theorem dd_readName_75 : decode mm_readName.2.1 75 = .ok (.getfield 235, 3) := by decide +kernel
theorem dd_readName_78 : decode mm_readName.2.1 78 = .ok (.iconst 1, 1) := by decide +kernel
theorem dd_readName_79 : decode mm_readName.2.1 79 = .ok (.iadd, 1) := by decide +kernel
theorem dd_readName_80 : decode mm_readName.2.1 80 = .ok (.putfield 235, 3) := by decide +kernel
theorem fn_12_19 : fin 12 19 = false := by decide +kernel
theorem dd_readName_83 : decode mm_readName.2.1 83 = .ok (.aload_n 0, 1) := by decide +kernel
theorem dd_readName_84 : decode mm_readName.2.1 84 = .ok (.dup, 1) := by decide +kernel
theorem dd_readName_85 : decode mm_readName.2.1 85 = .ok (.getfield 207, 3) := by decide +kernel
theorem dd_readName_88 : decode mm_readName.2.1 88 = .ok (.iconst 1, 1) := by decide +kernel
theorem dd_readName_89 : decode mm_readName.2.1 89 = .ok (.iadd, 1) := by decide +kernel
theorem dd_readName_90 : decode mm_readName.2.1 90 = .ok (.putfield 207, 3) := by decide +kernel
theorem dd_takeRoom_0 : decode mm_takeRoom.2.1 0 = .ok (.aload_n 0, 1) := by decide +kernel
theorem dd_takeRoom_1 : decode mm_takeRoom.2.1 1 = .ok (.iconst 0, 1) := by decide +kernel
theorem dd_takeRoom_2 : decode mm_takeRoom.2.1 2 = .ok (.aload_n 0, 1) := by decide +kernel
theorem dd_takeRoom_3 : decode mm_takeRoom.2.1 3 = .ok (.getfield 95, 3) := by decide +kernel
theorem dd_takeRoom_6 : decode mm_takeRoom.2.1 6 = .ok (.sipush 150, 3) := by decide +kernel
theorem dd_takeRoom_9 : decode mm_takeRoom.2.1 9 = .ok (.iaload, 1) := by decide +kernel
theorem dd_takeRoom_10 : decode mm_takeRoom.2.1 10 = .ok (.iconst 1, 1) := by decide +kernel
theorem dd_takeRoom_11 : decode mm_takeRoom.2.1 11 = .ok (.isub, 1) := by decide +kernel
theorem dd_takeRoom_12 : decode mm_takeRoom.2.1 12 = .ok (.invokevirtual 228, 3) := by decide +kernel
theorem dd_takeRoom_15 : decode mm_takeRoom.2.1 15 = .ok (.ireturn, 1) := by decide +kernel
theorem dd_takeSort_0 : decode mm_takeSort.2.1 0 = .ok (.aload_n 0, 1) := by decide +kernel
theorem dd_takeSort_1 : decode mm_takeSort.2.1 1 = .ok (.getfield 210, 3) := by decide +kernel
theorem dd_takeSort_4 : decode mm_takeSort.2.1 4 = .ok (.ifCond .le (7), 3) := by decide +kernel
theorem dd_takeSort_11 : decode mm_takeSort.2.1 11 = .ok (.aload_n 0, 1) := by decide +kernel
theorem dd_takeSort_12 : decode mm_takeSort.2.1 12 = .ok (.bipush 18, 2) := by decide +kernel
theorem dd_takeSort_14 : decode mm_takeSort.2.1 14 = .ok (.iconst 4, 1) := by decide +kernel
theorem dd_takeSort_15 : decode mm_takeSort.2.1 15 = .ok (.invokevirtual 232, 3) := by decide +kernel
theorem dd_takeSort_7 : decode mm_takeSort.2.1 7 = .ok (.iconst (-1), 1) := by decide +kernel
theorem dd_takeSort_8 : decode mm_takeSort.2.1 8 = .ok (.goto 10, 3) := by decide +kernel
theorem dd_takeSort_18 : decode mm_takeSort.2.1 18 = .ok (.istore_n 1, 1) := by decide +kernel
theorem dd_takeSort_19 : decode mm_takeSort.2.1 19 = .ok (.iload_n 1, 1) := by decide +kernel
theorem dd_takeSort_20 : decode mm_takeSort.2.1 20 = .ok (.ifCond .ge (10), 3) := by decide +kernel
theorem dd_takeSort_30 : decode mm_takeSort.2.1 30 = .ok (.aload_n 0, 1) := by decide +kernel
theorem dd_takeSort_31 : decode mm_takeSort.2.1 31 = .ok (.dup, 1) := by decide +kernel
theorem dd_takeSort_32 : decode mm_takeSort.2.1 32 = .ok (.getfield 207, 3) := by decide +kernel
theorem dd_takeSort_35 : decode mm_takeSort.2.1 35 = .ok (.iconst 1, 1) := by decide +kernel
theorem dd_takeSort_36 : decode mm_takeSort.2.1 36 = .ok (.iadd, 1) := by decide +kernel
theorem dd_takeSort_37 : decode mm_takeSort.2.1 37 = .ok (.putfield 207, 3) := by decide +kernel
theorem dd_takeSort_40 : decode mm_takeSort.2.1 40 = .ok (.iload_n 1, 1) := by decide +kernel
theorem dd_takeSort_41 : decode mm_takeSort.2.1 41 = .ok (.ireturn, 1) := by decide +kernel
theorem dd_takeSort_23 : decode mm_takeSort.2.1 23 = .ok (.aload_n 0, 1) := by decide +kernel
theorem dd_takeSort_24 : decode mm_takeSort.2.1 24 = .ok (.iconst 1, 1) := by decide +kernel
theorem dd_takeSort_25 : decode mm_takeSort.2.1 25 = .ok (.invokevirtual 216, 3) := by decide +kernel
theorem dd_takeSort_28 : decode mm_takeSort.2.1 28 = .ok (.iconst 0, 1) := by decide +kernel
theorem dd_takeSort_29 : decode mm_takeSort.2.1 29 = .ok (.ireturn, 1) := by decide +kernel
theorem dd_readPerson_0 : decode mm_readPerson.2.1 0 = .ok (.aload_n 0, 1) := by decide +kernel
theorem dd_readPerson_1 : decode mm_readPerson.2.1 1 = .ok (.getfield 95, 3) := by decide +kernel
theorem dd_readPerson_4 : decode mm_readPerson.2.1 4 = .ok (.sipush 152, 3) := by decide +kernel
theorem dd_readPerson_7 : decode mm_readPerson.2.1 7 = .ok (.iaload, 1) := by decide +kernel
theorem dd_readPerson_8 : decode mm_readPerson.2.1 8 = .ok (.istore_n 1, 1) := by decide +kernel
theorem dd_readPerson_9 : decode mm_readPerson.2.1 9 = .ok (.iload_n 1, 1) := by decide +kernel
theorem dd_readPerson_10 : decode mm_readPerson.2.1 10 = .ok (.bipush 6, 2) := by decide +kernel
theorem dd_readPerson_12 : decode mm_readPerson.2.1 12 = .ok (.if_icmp .ne (9), 3) := by decide +kernel
theorem dd_readPerson_21 : decode mm_readPerson.2.1 21 = .ok (.aload_n 0, 1) := by decide +kernel
theorem dd_readPerson_22 : decode mm_readPerson.2.1 22 = .ok (.bipush 20, 2) := by decide +kernel
theorem dd_readPerson_24 : decode mm_readPerson.2.1 24 = .ok (.iload_n 1, 1) := by decide +kernel
theorem dd_readPerson_25 : decode mm_readPerson.2.1 25 = .ok (.iadd, 1) := by decide +kernel
theorem dd_readPerson_26 : decode mm_readPerson.2.1 26 = .ok (.invokevirtual 267, 3) := by decide +kernel
theorem cw_12_267 : cwOk 12 267 0 176 2 2 12 = true := by decide +kernel
theorem mt_readName : MTB 176 = some mm_readName := rfl
theorem dd_readPerson_15 : decode mm_readPerson.2.1 15 = .ok (.aload_n 0, 1) := by decide +kernel
theorem dd_readPerson_16 : decode mm_readPerson.2.1 16 = .ok (.iconst 5, 1) := by decide +kernel
theorem dd_readPerson_17 : decode mm_readPerson.2.1 17 = .ok (.invokevirtual 216, 3) := by decide +kernel
theorem dd_readPerson_20 : decode mm_readPerson.2.1 20 = .ok (.return_, 1) := by decide +kernel
theorem dd_readPerson_29 : decode mm_readPerson.2.1 29 = .ok (.sipush 266, 3) := by decide +kernel
theorem dd_readPerson_32 : decode mm_readPerson.2.1 32 = .ok (.iconst 4, 1) := by decide +kernel
theorem dd_readPerson_33 : decode mm_readPerson.2.1 33 = .ok (.iload_n 1, 1) := by decide +kernel
theorem dd_readPerson_34 : decode mm_readPerson.2.1 34 = .ok (.imul, 1) := by decide +kernel
theorem dd_readPerson_35 : decode mm_readPerson.2.1 35 = .ok (.iadd, 1) := by decide +kernel
theorem dd_readPerson_36 : decode mm_readPerson.2.1 36 = .ok (.istore_n 2, 1) := by decide +kernel
theorem dd_readPerson_37 : decode mm_readPerson.2.1 37 = .ok (.aload_n 0, 1) := by decide +kernel
theorem dd_readPerson_38 : decode mm_readPerson.2.1 38 = .ok (.getfield 95, 3) := by decide +kernel
theorem dd_readPerson_41 : decode mm_readPerson.2.1 41 = .ok (.iload_n 2, 1) := by decide +kernel
theorem dd_readPerson_42 : decode mm_readPerson.2.1 42 = .ok (.aload_n 0, 1) := by decide +kernel
theorem dd_readPerson_43 : decode mm_readPerson.2.1 43 = .ok (.invokevirtual 278, 3) := by decide +kernel
theorem cw_12_278 : cwOk 12 278 0 182 1 2 12 = true := by decide +kernel
theorem mt_takeSort : MTB 182 = some mm_takeSort := rfl
theorem dd_readPerson_46 : decode mm_readPerson.2.1 46 = .ok (.iastore, 1) := by decide +kernel
theorem dd_readPerson_47 : decode mm_readPerson.2.1 47 = .ok (.aload_n 0, 1) := by decide +kernel
theorem dd_readPerson_48 : decode mm_readPerson.2.1 48 = .ok (.bipush 8, 2) := by decide +kernel
theorem dd_readPerson_50 : decode mm_readPerson.2.1 50 = .ok (.invokevirtual 225, 3) := by decide +kernel
theorem dd_readPerson_53 : decode mm_readPerson.2.1 53 = .ok (.aload_n 0, 1) := by decide +kernel
theorem dd_readPerson_54 : decode mm_readPerson.2.1 54 = .ok (.getfield 95, 3) := by decide +kernel
theorem dd_readPerson_57 : decode mm_readPerson.2.1 57 = .ok (.iload_n 2, 1) := by decide +kernel
theorem dd_readPerson_58 : decode mm_readPerson.2.1 58 = .ok (.iconst 1, 1) := by decide +kernel
theorem dd_readPerson_59 : decode mm_readPerson.2.1 59 = .ok (.iadd, 1) := by decide +kernel
theorem dd_readPerson_60 : decode mm_readPerson.2.1 60 = .ok (.aload_n 0, 1) := by decide +kernel
theorem dd_readPerson_61 : decode mm_readPerson.2.1 61 = .ok (.invokevirtual 270, 3) := by decide +kernel
theorem cw_12_270 : cwOk 12 270 0 180 1 1 12 = true := by decide +kernel
theorem mt_takeRoom : MTB 180 = some mm_takeRoom := rfl
theorem dd_readPerson_64 : decode mm_readPerson.2.1 64 = .ok (.iastore, 1) := by decide +kernel
theorem dd_readPerson_65 : decode mm_readPerson.2.1 65 = .ok (.aload_n 0, 1) := by decide +kernel
theorem dd_readPerson_66 : decode mm_readPerson.2.1 66 = .ok (.bipush 9, 2) := by decide +kernel
theorem dd_readPerson_68 : decode mm_readPerson.2.1 68 = .ok (.invokevirtual 225, 3) := by decide +kernel
theorem dd_readPerson_71 : decode mm_readPerson.2.1 71 = .ok (.aload_n 0, 1) := by decide +kernel
theorem dd_readPerson_72 : decode mm_readPerson.2.1 72 = .ok (.getfield 95, 3) := by decide +kernel
theorem dd_readPerson_75 : decode mm_readPerson.2.1 75 = .ok (.iload_n 2, 1) := by decide +kernel
theorem dd_readPerson_76 : decode mm_readPerson.2.1 76 = .ok (.iconst 2, 1) := by decide +kernel
theorem dd_readPerson_77 : decode mm_readPerson.2.1 77 = .ok (.iadd, 1) := by decide +kernel
theorem dd_readPerson_78 : decode mm_readPerson.2.1 78 = .ok (.aload_n 0, 1) := by decide +kernel
theorem dd_readPerson_79 : decode mm_readPerson.2.1 79 = .ok (.invokevirtual 270, 3) := by decide +kernel
theorem dd_readPerson_82 : decode mm_readPerson.2.1 82 = .ok (.iastore, 1) := by decide +kernel
theorem dd_readPerson_83 : decode mm_readPerson.2.1 83 = .ok (.aload_n 0, 1) := by decide +kernel
theorem dd_readPerson_84 : decode mm_readPerson.2.1 84 = .ok (.getfield 95, 3) := by decide +kernel
theorem dd_readPerson_87 : decode mm_readPerson.2.1 87 = .ok (.iload_n 2, 1) := by decide +kernel
theorem dd_readPerson_88 : decode mm_readPerson.2.1 88 = .ok (.iconst 3, 1) := by decide +kernel
theorem dd_readPerson_89 : decode mm_readPerson.2.1 89 = .ok (.iadd, 1) := by decide +kernel
theorem dd_readPerson_90 : decode mm_readPerson.2.1 90 = .ok (.aload_n 0, 1) := by decide +kernel
theorem dd_readPerson_91 : decode mm_readPerson.2.1 91 = .ok (.bipush 10, 2) := by decide +kernel
theorem dd_readPerson_93 : decode mm_readPerson.2.1 93 = .ok (.iconst 1, 1) := by decide +kernel
theorem dd_readPerson_94 : decode mm_readPerson.2.1 94 = .ok (.bipush 24, 2) := by decide +kernel
theorem dd_readPerson_96 : decode mm_readPerson.2.1 96 = .ok (.invokevirtual 274, 3) := by decide +kernel
theorem cw_12_274 : cwOk 12 274 0 181 4 4 12 = true := by decide +kernel
theorem mt_takeAfter : MTB 181 = some mm_takeAfter := rfl
theorem dd_readPerson_99 : decode mm_readPerson.2.1 99 = .ok (.iastore, 1) := by decide +kernel
theorem dd_readPerson_100 : decode mm_readPerson.2.1 100 = .ok (.aload_n 0, 1) := by decide +kernel
theorem dd_readPerson_101 : decode mm_readPerson.2.1 101 = .ok (.getfield 95, 3) := by decide +kernel
theorem dd_readPerson_104 : decode mm_readPerson.2.1 104 = .ok (.sipush 152, 3) := by decide +kernel
theorem dd_readPerson_107 : decode mm_readPerson.2.1 107 = .ok (.dup2, 1) := by decide +kernel
theorem dd_readPerson_108 : decode mm_readPerson.2.1 108 = .ok (.iaload, 1) := by decide +kernel
theorem dd_readPerson_109 : decode mm_readPerson.2.1 109 = .ok (.iconst 1, 1) := by decide +kernel
theorem dd_readPerson_110 : decode mm_readPerson.2.1 110 = .ok (.iadd, 1) := by decide +kernel
theorem dd_readPerson_111 : decode mm_readPerson.2.1 111 = .ok (.iastore, 1) := by decide +kernel
theorem dd_readPerson_112 : decode mm_readPerson.2.1 112 = .ok (.return_, 1) := by decide +kernel
theorem dd_readLet_0 : decode mm_readLet.2.1 0 = .ok (.aload_n 0, 1) := by decide +kernel
theorem dd_readLet_1 : decode mm_readLet.2.1 1 = .ok (.bipush 11, 2) := by decide +kernel
theorem dd_readLet_3 : decode mm_readLet.2.1 3 = .ok (.invokevirtual 219, 3) := by decide +kernel
theorem dd_readLet_6 : decode mm_readLet.2.1 6 = .ok (.ifCond .ne (11), 3) := by decide +kernel
theorem dd_readLet_17 : decode mm_readLet.2.1 17 = .ok (.aload_n 0, 1) := by decide +kernel
theorem dd_readLet_18 : decode mm_readLet.2.1 18 = .ok (.getfield 95, 3) := by decide +kernel
theorem dd_readLet_21 : decode mm_readLet.2.1 21 = .ok (.sipush 153, 3) := by decide +kernel
theorem dd_readLet_24 : decode mm_readLet.2.1 24 = .ok (.iaload, 1) := by decide +kernel
theorem dd_readLet_25 : decode mm_readLet.2.1 25 = .ok (.ifCond .lt (8), 3) := by decide +kernel
theorem dd_readLet_28 : decode mm_readLet.2.1 28 = .ok (.aload_n 0, 1) := by decide +kernel
theorem dd_readLet_29 : decode mm_readLet.2.1 29 = .ok (.iconst 3, 1) := by decide +kernel
theorem dd_readLet_30 : decode mm_readLet.2.1 30 = .ok (.invokevirtual 216, 3) := by decide +kernel
theorem dd_readLet_9 : decode mm_readLet.2.1 9 = .ok (.aload_n 0, 1) := by decide +kernel
theorem dd_readLet_10 : decode mm_readLet.2.1 10 = .ok (.iconst 1, 1) := by decide +kernel
theorem dd_readLet_11 : decode mm_readLet.2.1 11 = .ok (.invokevirtual 216, 3) := by decide +kernel
theorem dd_readLet_14 : decode mm_readLet.2.1 14 = .ok (.goto 19, 3) := by decide +kernel
theorem dd_readLet_33 : decode mm_readLet.2.1 33 = .ok (.aload_n 0, 1) := by decide +kernel
theorem dd_readLet_34 : decode mm_readLet.2.1 34 = .ok (.getfield 210, 3) := by decide +kernel
theorem dd_readLet_37 : decode mm_readLet.2.1 37 = .ok (.ifCond .le (4), 3) := by decide +kernel
theorem dd_readLet_41 : decode mm_readLet.2.1 41 = .ok (.aload_n 0, 1) := by decide +kernel
theorem dd_readLet_42 : decode mm_readLet.2.1 42 = .ok (.dup, 1) := by decide +kernel
theorem dd_readLet_43 : decode mm_readLet.2.1 43 = .ok (.getfield 207, 3) := by decide +kernel
theorem dd_readLet_46 : decode mm_readLet.2.1 46 = .ok (.iconst 1, 1) := by decide +kernel
theorem dd_readLet_47 : decode mm_readLet.2.1 47 = .ok (.iadd, 1) := by decide +kernel
theorem dd_readLet_48 : decode mm_readLet.2.1 48 = .ok (.putfield 207, 3) := by decide +kernel
theorem dd_readLet_51 : decode mm_readLet.2.1 51 = .ok (.aload_n 0, 1) := by decide +kernel
theorem dd_readLet_52 : decode mm_readLet.2.1 52 = .ok (.getfield 95, 3) := by decide +kernel
theorem dd_readLet_55 : decode mm_readLet.2.1 55 = .ok (.sipush 153, 3) := by decide +kernel
theorem dd_readLet_58 : decode mm_readLet.2.1 58 = .ok (.aload_n 0, 1) := by decide +kernel
theorem dd_readLet_59 : decode mm_readLet.2.1 59 = .ok (.getfield 244, 3) := by decide +kernel
theorem dd_readLet_62 : decode mm_readLet.2.1 62 = .ok (.iastore, 1) := by decide +kernel
theorem dd_readLet_63 : decode mm_readLet.2.1 63 = .ok (.aload_n 0, 1) := by decide +kernel
theorem dd_readLet_64 : decode mm_readLet.2.1 64 = .ok (.iconst 0, 1) := by decide +kernel
theorem dd_readLet_65 : decode mm_readLet.2.1 65 = .ok (.invokevirtual 281, 3) := by decide +kernel
theorem dd_readLet_40 : decode mm_readLet.2.1 40 = .ok (.return_, 1) := by decide +kernel
theorem dd_readLet_68 : decode mm_readLet.2.1 68 = .ok (.aload_n 0, 1) := by decide +kernel
theorem dd_readLet_69 : decode mm_readLet.2.1 69 = .ok (.iconst 0, 1) := by decide +kernel
theorem dd_readLet_70 : decode mm_readLet.2.1 70 = .ok (.iconst 0, 1) := by decide +kernel
theorem dd_readLet_71 : decode mm_readLet.2.1 71 = .ok (.invokevirtual 284, 3) := by decide +kernel
theorem dd_readLet_74 : decode mm_readLet.2.1 74 = .ok (.return_, 1) := by decide +kernel
theorem dd_readTurn_0 : decode mm_readTurn.2.1 0 = .ok (.bipush 50, 2) := by decide +kernel
theorem dd_readTurn_2 : decode mm_readTurn.2.1 2 = .ok (.iconst 2, 1) := by decide +kernel
theorem dd_readTurn_3 : decode mm_readTurn.2.1 3 = .ok (.aload_n 0, 1) := by decide +kernel
theorem dd_readTurn_4 : decode mm_readTurn.2.1 4 = .ok (.getfield 288, 3) := by decide +kernel
theorem fd_12_288 : fld 12 288 = some (12, 21) := by decide +kernel
theorem dd_readTurn_7 : decode mm_readTurn.2.1 7 = .ok (.imul, 1) := by decide +kernel
theorem dd_readTurn_8 : decode mm_readTurn.2.1 8 = .ok (.iadd, 1) := by decide +kernel
theorem dd_readTurn_9 : decode mm_readTurn.2.1 9 = .ok (.istore_n 1, 1) := by decide +kernel
theorem dd_readTurn_10 : decode mm_readTurn.2.1 10 = .ok (.aload_n 0, 1) := by decide +kernel
theorem dd_readTurn_11 : decode mm_readTurn.2.1 11 = .ok (.bipush 13, 2) := by decide +kernel
theorem dd_readTurn_13 : decode mm_readTurn.2.1 13 = .ok (.invokevirtual 219, 3) := by decide +kernel
theorem dd_readTurn_16 : decode mm_readTurn.2.1 16 = .ok (.istore_n 2, 1) := by decide +kernel
theorem dd_readTurn_17 : decode mm_readTurn.2.1 17 = .ok (.aload_n 0, 1) := by decide +kernel
theorem dd_readTurn_18 : decode mm_readTurn.2.1 18 = .ok (.dup, 1) := by decide +kernel
theorem dd_readTurn_19 : decode mm_readTurn.2.1 19 = .ok (.getfield 207, 3) := by decide +kernel
theorem dd_readTurn_22 : decode mm_readTurn.2.1 22 = .ok (.iconst 1, 1) := by decide +kernel
theorem dd_readTurn_23 : decode mm_readTurn.2.1 23 = .ok (.iadd, 1) := by decide +kernel
theorem dd_readTurn_24 : decode mm_readTurn.2.1 24 = .ok (.putfield 207, 3) := by decide +kernel
theorem dd_readTurn_27 : decode mm_readTurn.2.1 27 = .ok (.aload_n 0, 1) := by decide +kernel
theorem dd_readTurn_28 : decode mm_readTurn.2.1 28 = .ok (.getfield 116, 3) := by decide +kernel
theorem fd_12_116 : fld 12 116 = some (12, 20) := by decide +kernel
theorem rf_182_20 {h : LH} (hF : RF h) : rd h 182 20 = 195 := hF 182 20 195 (by decide +kernel) (by decide +kernel)
theorem dd_readTurn_31 : decode mm_readTurn.2.1 31 = .ok (.iload_n 1, 1) := by decide +kernel
theorem dd_readTurn_32 : decode mm_readTurn.2.1 32 = .ok (.iload_n 2, 1) := by decide +kernel
theorem dd_readTurn_33 : decode mm_readTurn.2.1 33 = .ok (.ifCond .eq (7), 3) := by decide +kernel
theorem dd_readTurn_40 : decode mm_readTurn.2.1 40 = .ok (.aload_n 0, 1) := by decide +kernel
theorem dd_readTurn_41 : decode mm_readTurn.2.1 41 = .ok (.bipush 20, 2) := by decide +kernel
theorem dd_readTurn_43 : decode mm_readTurn.2.1 43 = .ok (.bipush 6, 2) := by decide +kernel
theorem dd_readTurn_45 : decode mm_readTurn.2.1 45 = .ok (.invokevirtual 294, 3) := by decide +kernel
theorem cw_12_294 : cwOk 12 294 0 194 3 4 12 = true := by decide +kernel
theorem mt_takeTold : MTB 194 = some mm_takeTold := rfl
theorem dd_readTurn_36 : decode mm_readTurn.2.1 36 = .ok (.iconst (-1), 1) := by decide +kernel
theorem dd_readTurn_37 : decode mm_readTurn.2.1 37 = .ok (.goto 11, 3) := by decide +kernel
theorem dd_readTurn_48 : decode mm_readTurn.2.1 48 = .ok (.iastore, 1) := by decide +kernel
theorem ia_195 : isA NC 195 1 = true := by decide +kernel
theorem la_195 : (lay (195 : Int).toNat).2.2 = 100 := by decide +kernel
theorem dd_readTurn_49 : decode mm_readTurn.2.1 49 = .ok (.aload_n 0, 1) := by decide +kernel
theorem dd_readTurn_50 : decode mm_readTurn.2.1 50 = .ok (.getfield 116, 3) := by decide +kernel
theorem dd_readTurn_53 : decode mm_readTurn.2.1 53 = .ok (.iload_n 1, 1) := by decide +kernel
theorem dd_readTurn_54 : decode mm_readTurn.2.1 54 = .ok (.iconst 1, 1) := by decide +kernel
theorem dd_readTurn_55 : decode mm_readTurn.2.1 55 = .ok (.iadd, 1) := by decide +kernel
theorem dd_readTurn_56 : decode mm_readTurn.2.1 56 = .ok (.iload_n 2, 1) := by decide +kernel
theorem dd_readTurn_57 : decode mm_readTurn.2.1 57 = .ok (.ifCond .eq (7), 3) := by decide +kernel
theorem dd_readTurn_64 : decode mm_readTurn.2.1 64 = .ok (.aload_n 0, 1) := by decide +kernel
theorem dd_readTurn_65 : decode mm_readTurn.2.1 65 = .ok (.iconst 0, 1) := by decide +kernel
theorem dd_readTurn_66 : decode mm_readTurn.2.1 66 = .ok (.bipush 14, 2) := by decide +kernel
theorem dd_readTurn_68 : decode mm_readTurn.2.1 68 = .ok (.invokevirtual 294, 3) := by decide +kernel
theorem dd_readTurn_60 : decode mm_readTurn.2.1 60 = .ok (.iconst (-1), 1) := by decide +kernel
theorem dd_readTurn_61 : decode mm_readTurn.2.1 61 = .ok (.goto 10, 3) := by decide +kernel
theorem dd_readTurn_71 : decode mm_readTurn.2.1 71 = .ok (.iastore, 1) := by decide +kernel
theorem dd_readTurn_72 : decode mm_readTurn.2.1 72 = .ok (.aload_n 0, 1) := by decide +kernel
theorem dd_readTurn_73 : decode mm_readTurn.2.1 73 = .ok (.dup, 1) := by decide +kernel
theorem dd_readTurn_74 : decode mm_readTurn.2.1 74 = .ok (.getfield 288, 3) := by decide +kernel
theorem dd_readTurn_77 : decode mm_readTurn.2.1 77 = .ok (.iconst 1, 1) := by decide +kernel
theorem dd_readTurn_78 : decode mm_readTurn.2.1 78 = .ok (.iadd, 1) := by decide +kernel
theorem dd_readTurn_79 : decode mm_readTurn.2.1 79 = .ok (.putfield 288, 3) := by decide +kernel
theorem fn_12_21 : fin 12 21 = false := by decide +kernel
theorem dd_readTurn_82 : decode mm_readTurn.2.1 82 = .ok (.return_, 1) := by decide +kernel
theorem dd_takeTold_0 : decode mm_takeTold.2.1 0 = .ok (.aload_n 0, 1) := by decide +kernel
theorem dd_takeTold_1 : decode mm_takeTold.2.1 1 = .ok (.getfield 210, 3) := by decide +kernel
theorem dd_takeTold_4 : decode mm_takeTold.2.1 4 = .ok (.ifCond .ne (15), 3) := by decide +kernel
theorem dd_takeTold_7 : decode mm_takeTold.2.1 7 = .ok (.aload_n 0, 1) := by decide +kernel
theorem dd_takeTold_8 : decode mm_takeTold.2.1 8 = .ok (.invokevirtual 259, 3) := by decide +kernel
theorem dd_takeTold_11 : decode mm_takeTold.2.1 11 = .ok (.ifCond .ne (8), 3) := by decide +kernel
theorem dd_takeTold_14 : decode mm_takeTold.2.1 14 = .ok (.aload_n 0, 1) := by decide +kernel
theorem dd_takeTold_15 : decode mm_takeTold.2.1 15 = .ok (.iconst 1, 1) := by decide +kernel
theorem dd_takeTold_16 : decode mm_takeTold.2.1 16 = .ok (.invokevirtual 216, 3) := by decide +kernel
theorem dd_takeTold_19 : decode mm_takeTold.2.1 19 = .ok (.aload_n 0, 1) := by decide +kernel
theorem dd_takeTold_20 : decode mm_takeTold.2.1 20 = .ok (.getfield 210, 3) := by decide +kernel
theorem dd_takeTold_23 : decode mm_takeTold.2.1 23 = .ok (.ifCond .le (7), 3) := by decide +kernel
theorem dd_takeTold_30 : decode mm_takeTold.2.1 30 = .ok (.aload_n 0, 1) := by decide +kernel
theorem dd_takeTold_31 : decode mm_takeTold.2.1 31 = .ok (.iconst 0, 1) := by decide +kernel
theorem dd_takeTold_32 : decode mm_takeTold.2.1 32 = .ok (.invokevirtual 263, 3) := by decide +kernel
theorem dd_takeTold_26 : decode mm_takeTold.2.1 26 = .ok (.iconst (-1), 1) := by decide +kernel
theorem dd_takeTold_27 : decode mm_takeTold.2.1 27 = .ok (.goto 10, 3) := by decide +kernel
theorem dd_takeTold_37 : decode mm_takeTold.2.1 37 = .ok (.istore_n 3, 1) := by decide +kernel
theorem dd_takeTold_38 : decode mm_takeTold.2.1 38 = .ok (.aload_n 0, 1) := by decide +kernel
theorem dd_takeTold_39 : decode mm_takeTold.2.1 39 = .ok (.getfield 210, 3) := by decide +kernel
theorem dd_takeTold_42 : decode mm_takeTold.2.1 42 = .ok (.ifCond .ne (19), 3) := by decide +kernel
theorem dd_takeTold_61 : decode mm_takeTold.2.1 61 = .ok (.aload_n 0, 1) := by decide +kernel
theorem dd_takeTold_62 : decode mm_takeTold.2.1 62 = .ok (.dup, 1) := by decide +kernel
theorem dd_takeTold_63 : decode mm_takeTold.2.1 63 = .ok (.getfield 207, 3) := by decide +kernel
theorem dd_takeTold_66 : decode mm_takeTold.2.1 66 = .ok (.aload_n 0, 1) := by decide +kernel
theorem dd_takeTold_67 : decode mm_takeTold.2.1 67 = .ok (.getfield 210, 3) := by decide +kernel
theorem dd_takeTold_70 : decode mm_takeTold.2.1 70 = .ok (.ifCond .le (7), 3) := by decide +kernel
theorem dd_takeTold_77 : decode mm_takeTold.2.1 77 = .ok (.iconst 1, 1) := by decide +kernel
theorem dd_takeTold_78 : decode mm_takeTold.2.1 78 = .ok (.iadd, 1) := by decide +kernel
theorem dd_takeTold_79 : decode mm_takeTold.2.1 79 = .ok (.putfield 207, 3) := by decide +kernel
theorem dd_takeTold_82 : decode mm_takeTold.2.1 82 = .ok (.iload_n 3, 1) := by decide +kernel
theorem dd_takeTold_83 : decode mm_takeTold.2.1 83 = .ok (.ireturn, 1) := by decide +kernel
theorem dd_takeTold_73 : decode mm_takeTold.2.1 73 = .ok (.iconst 0, 1) := by decide +kernel
theorem dd_takeTold_74 : decode mm_takeTold.2.1 74 = .ok (.goto 4, 3) := by decide +kernel
theorem dd_takeTold_45 : decode mm_takeTold.2.1 45 = .ok (.iload_n 3, 1) := by decide +kernel
theorem dd_takeTold_46 : decode mm_takeTold.2.1 46 = .ok (.iconst 0, 1) := by decide +kernel
theorem dd_takeTold_47 : decode mm_takeTold.2.1 47 = .ok (.iload_n 2, 1) := by decide +kernel
theorem dd_takeTold_48 : decode mm_takeTold.2.1 48 = .ok (.iconst 1, 1) := by decide +kernel
theorem dd_takeTold_49 : decode mm_takeTold.2.1 49 = .ok (.isub, 1) := by decide +kernel
theorem dd_takeTold_50 : decode mm_takeTold.2.1 50 = .ok (.invokestatic 297, 3) := by decide +kernel
theorem cw_12_297 : cwOk 12 297 1 195 3 3 12 = true := by decide +kernel
theorem mt_within : MTB 195 = some mm_within := rfl
theorem dd_within_0 : decode mm_within.2.1 0 = .ok (.iload_n 0, 1) := by decide +kernel
theorem dd_within_1 : decode mm_within.2.1 1 = .ok (.iload_n 1, 1) := by decide +kernel
theorem dd_within_2 : decode mm_within.2.1 2 = .ok (.if_icmp .lt (12), 3) := by decide +kernel
theorem dd_within_14 : decode mm_within.2.1 14 = .ok (.iconst 0, 1) := by decide +kernel
theorem dd_within_15 : decode mm_within.2.1 15 = .ok (.ireturn, 1) := by decide +kernel
theorem dd_takeTold_53 : decode mm_takeTold.2.1 53 = .ok (.ifCond .ne (8), 3) := by decide +kernel
theorem dd_takeTold_56 : decode mm_takeTold.2.1 56 = .ok (.aload_n 0, 1) := by decide +kernel
theorem dd_takeTold_57 : decode mm_takeTold.2.1 57 = .ok (.iconst 2, 1) := by decide +kernel
theorem dd_takeTold_58 : decode mm_takeTold.2.1 58 = .ok (.invokevirtual 216, 3) := by decide +kernel
theorem dd_takeTold_35 : decode mm_takeTold.2.1 35 = .ok (.iload_n 1, 1) := by decide +kernel
theorem dd_takeTold_36 : decode mm_takeTold.2.1 36 = .ok (.isub, 1) := by decide +kernel
theorem dd_within_5 : decode mm_within.2.1 5 = .ok (.iload_n 0, 1) := by decide +kernel
theorem dd_within_6 : decode mm_within.2.1 6 = .ok (.iload_n 2, 1) := by decide +kernel
theorem dd_within_7 : decode mm_within.2.1 7 = .ok (.if_icmp .gt (7), 3) := by decide +kernel
theorem dd_within_10 : decode mm_within.2.1 10 = .ok (.iconst 1, 1) := by decide +kernel
theorem dd_within_11 : decode mm_within.2.1 11 = .ok (.goto 4, 3) := by decide +kernel
theorem dd_standsAsAlways_0 : decode mm_standsAsAlways.2.1 0 = .ok (.iconst 0, 1) := by decide +kernel
theorem dd_standsAsAlways_1 : decode mm_standsAsAlways.2.1 1 = .ok (.istore_n 2, 1) := by decide +kernel
theorem dd_standsAsAlways_2 : decode mm_standsAsAlways.2.1 2 = .ok (.iload_n 2, 1) := by decide +kernel
theorem dd_standsAsAlways_3 : decode mm_standsAsAlways.2.1 3 = .ok (.sipush 150, 3) := by decide +kernel
theorem dd_standsAsAlways_6 : decode mm_standsAsAlways.2.1 6 = .ok (.if_icmp .ge (18), 3) := by decide +kernel
theorem dd_standsAsAlways_24 : decode mm_standsAsAlways.2.1 24 = .ok (.aload_n 0, 1) := by decide +kernel
theorem dd_standsAsAlways_25 : decode mm_standsAsAlways.2.1 25 = .ok (.getfield 95, 3) := by decide +kernel
theorem dd_standsAsAlways_28 : decode mm_standsAsAlways.2.1 28 = .ok (.iload_n 1, 1) := by decide +kernel
theorem dd_standsAsAlways_29 : decode mm_standsAsAlways.2.1 29 = .ok (.iconst 3, 1) := by decide +kernel
theorem dd_standsAsAlways_30 : decode mm_standsAsAlways.2.1 30 = .ok (.iadd, 1) := by decide +kernel
theorem dd_standsAsAlways_31 : decode mm_standsAsAlways.2.1 31 = .ok (.iconst (-1), 1) := by decide +kernel
theorem dd_standsAsAlways_32 : decode mm_standsAsAlways.2.1 32 = .ok (.iastore, 1) := by decide +kernel
theorem dd_standsAsAlways_33 : decode mm_standsAsAlways.2.1 33 = .ok (.return_, 1) := by decide +kernel
theorem dd_standsAsAlways_9 : decode mm_standsAsAlways.2.1 9 = .ok (.aload_n 0, 1) := by decide +kernel
theorem dd_standsAsAlways_10 : decode mm_standsAsAlways.2.1 10 = .ok (.getfield 95, 3) := by decide +kernel
theorem dd_standsAsAlways_13 : decode mm_standsAsAlways.2.1 13 = .ok (.iload_n 1, 1) := by decide +kernel
theorem dd_standsAsAlways_14 : decode mm_standsAsAlways.2.1 14 = .ok (.iload_n 2, 1) := by decide +kernel
theorem dd_standsAsAlways_15 : decode mm_standsAsAlways.2.1 15 = .ok (.iadd, 1) := by decide +kernel
theorem dd_standsAsAlways_16 : decode mm_standsAsAlways.2.1 16 = .ok (.iconst 0, 1) := by decide +kernel
theorem dd_standsAsAlways_17 : decode mm_standsAsAlways.2.1 17 = .ok (.iastore, 1) := by decide +kernel
theorem dd_standsAsAlways_18 : decode mm_standsAsAlways.2.1 18 = .ok (.iinc 2 1, 3) := by decide +kernel
theorem dd_standsAsAlways_21 : decode mm_standsAsAlways.2.1 21 = .ok (.goto (-19), 3) := by decide +kernel
theorem dd_readDoor_0 : decode mm_readDoor.2.1 0 = .ok (.aload_n 0, 1) := by decide +kernel
theorem dd_readDoor_1 : decode mm_readDoor.2.1 1 = .ok (.getfield 95, 3) := by decide +kernel
theorem dd_readDoor_4 : decode mm_readDoor.2.1 4 = .ok (.sipush 151, 3) := by decide +kernel
theorem dd_readDoor_7 : decode mm_readDoor.2.1 7 = .ok (.iaload, 1) := by decide +kernel
theorem dd_readDoor_8 : decode mm_readDoor.2.1 8 = .ok (.istore_n 1, 1) := by decide +kernel
theorem dd_readDoor_9 : decode mm_readDoor.2.1 9 = .ok (.iload_n 1, 1) := by decide +kernel
theorem dd_readDoor_10 : decode mm_readDoor.2.1 10 = .ok (.bipush 14, 2) := by decide +kernel
theorem dd_readDoor_12 : decode mm_readDoor.2.1 12 = .ok (.if_icmp .ne (9), 3) := by decide +kernel
theorem dd_readDoor_21 : decode mm_readDoor.2.1 21 = .ok (.aload_n 0, 1) := by decide +kernel
theorem dd_readDoor_22 : decode mm_readDoor.2.1 22 = .ok (.iload_n 1, 1) := by decide +kernel
theorem dd_readDoor_23 : decode mm_readDoor.2.1 23 = .ok (.invokevirtual 267, 3) := by decide +kernel
theorem dd_readDoor_15 : decode mm_readDoor.2.1 15 = .ok (.aload_n 0, 1) := by decide +kernel
theorem dd_readDoor_16 : decode mm_readDoor.2.1 16 = .ok (.iconst 5, 1) := by decide +kernel
theorem dd_readDoor_17 : decode mm_readDoor.2.1 17 = .ok (.invokevirtual 216, 3) := by decide +kernel
theorem dd_readDoor_20 : decode mm_readDoor.2.1 20 = .ok (.return_, 1) := by decide +kernel
theorem dd_readDoor_26 : decode mm_readDoor.2.1 26 = .ok (.sipush 154, 3) := by decide +kernel
theorem dd_readDoor_29 : decode mm_readDoor.2.1 29 = .ok (.bipush 8, 2) := by decide +kernel
theorem dd_readDoor_31 : decode mm_readDoor.2.1 31 = .ok (.iload_n 1, 1) := by decide +kernel
theorem dd_readDoor_32 : decode mm_readDoor.2.1 32 = .ok (.imul, 1) := by decide +kernel
theorem dd_readDoor_33 : decode mm_readDoor.2.1 33 = .ok (.iadd, 1) := by decide +kernel
theorem dd_readDoor_34 : decode mm_readDoor.2.1 34 = .ok (.istore_n 2, 1) := by decide +kernel
theorem dd_readDoor_35 : decode mm_readDoor.2.1 35 = .ok (.aload_n 0, 1) := by decide +kernel
theorem dd_readDoor_36 : decode mm_readDoor.2.1 36 = .ok (.getfield 95, 3) := by decide +kernel
theorem dd_readDoor_39 : decode mm_readDoor.2.1 39 = .ok (.iload_n 2, 1) := by decide +kernel
theorem dd_readDoor_40 : decode mm_readDoor.2.1 40 = .ok (.iconst 1, 1) := by decide +kernel
theorem dd_readDoor_41 : decode mm_readDoor.2.1 41 = .ok (.iadd, 1) := by decide +kernel
theorem dd_readDoor_42 : decode mm_readDoor.2.1 42 = .ok (.aload_n 0, 1) := by decide +kernel
theorem dd_readDoor_43 : decode mm_readDoor.2.1 43 = .ok (.invokevirtual 270, 3) := by decide +kernel
theorem dd_readDoor_46 : decode mm_readDoor.2.1 46 = .ok (.iastore, 1) := by decide +kernel
theorem dd_readDoor_47 : decode mm_readDoor.2.1 47 = .ok (.aload_n 0, 1) := by decide +kernel
theorem dd_readDoor_48 : decode mm_readDoor.2.1 48 = .ok (.iconst 2, 1) := by decide +kernel
theorem dd_readDoor_49 : decode mm_readDoor.2.1 49 = .ok (.invokevirtual 225, 3) := by decide +kernel
theorem dd_readDoor_52 : decode mm_readDoor.2.1 52 = .ok (.aload_n 0, 1) := by decide +kernel
theorem dd_readDoor_53 : decode mm_readDoor.2.1 53 = .ok (.getfield 95, 3) := by decide +kernel
theorem dd_readDoor_56 : decode mm_readDoor.2.1 56 = .ok (.iload_n 2, 1) := by decide +kernel
theorem dd_readDoor_57 : decode mm_readDoor.2.1 57 = .ok (.iconst 2, 1) := by decide +kernel
theorem dd_readDoor_58 : decode mm_readDoor.2.1 58 = .ok (.iadd, 1) := by decide +kernel
theorem dd_readDoor_59 : decode mm_readDoor.2.1 59 = .ok (.aload_n 0, 1) := by decide +kernel
theorem dd_readDoor_60 : decode mm_readDoor.2.1 60 = .ok (.invokevirtual 270, 3) := by decide +kernel
theorem dd_readDoor_63 : decode mm_readDoor.2.1 63 = .ok (.iastore, 1) := by decide +kernel
theorem dd_readDoor_64 : decode mm_readDoor.2.1 64 = .ok (.aload_n 0, 1) := by decide +kernel
theorem dd_readDoor_65 : decode mm_readDoor.2.1 65 = .ok (.getfield 210, 3) := by decide +kernel
theorem dd_readDoor_68 : decode mm_readDoor.2.1 68 = .ok (.ifCond .ne (37), 3) := by decide +kernel
theorem dd_readDoor_71 : decode mm_readDoor.2.1 71 = .ok (.aload_n 0, 1) := by decide +kernel
theorem dd_readDoor_72 : decode mm_readDoor.2.1 72 = .ok (.getfield 95, 3) := by decide +kernel
theorem dd_readDoor_75 : decode mm_readDoor.2.1 75 = .ok (.iload_n 2, 1) := by decide +kernel
theorem dd_readDoor_76 : decode mm_readDoor.2.1 76 = .ok (.iconst 1, 1) := by decide +kernel
theorem dd_readDoor_77 : decode mm_readDoor.2.1 77 = .ok (.iadd, 1) := by decide +kernel
theorem dd_readDoor_78 : decode mm_readDoor.2.1 78 = .ok (.iaload, 1) := by decide +kernel
theorem dd_readDoor_79 : decode mm_readDoor.2.1 79 = .ok (.aload_n 0, 1) := by decide +kernel
theorem dd_readDoor_80 : decode mm_readDoor.2.1 80 = .ok (.getfield 95, 3) := by decide +kernel
theorem dd_readDoor_83 : decode mm_readDoor.2.1 83 = .ok (.iload_n 2, 1) := by decide +kernel
theorem dd_readDoor_84 : decode mm_readDoor.2.1 84 = .ok (.iconst 2, 1) := by decide +kernel
theorem dd_readDoor_85 : decode mm_readDoor.2.1 85 = .ok (.iadd, 1) := by decide +kernel
theorem dd_readDoor_86 : decode mm_readDoor.2.1 86 = .ok (.iaload, 1) := by decide +kernel
theorem dd_readDoor_87 : decode mm_readDoor.2.1 87 = .ok (.if_icmp .ne (18), 3) := by decide +kernel
theorem dd_readDoor_90 : decode mm_readDoor.2.1 90 = .ok (.aload_n 0, 1) := by decide +kernel
theorem dd_readDoor_91 : decode mm_readDoor.2.1 91 = .ok (.dup, 1) := by decide +kernel
theorem dd_readDoor_92 : decode mm_readDoor.2.1 92 = .ok (.getfield 207, 3) := by decide +kernel
theorem dd_readDoor_95 : decode mm_readDoor.2.1 95 = .ok (.iconst 1, 1) := by decide +kernel
theorem dd_readDoor_96 : decode mm_readDoor.2.1 96 = .ok (.isub, 1) := by decide +kernel
theorem dd_readDoor_97 : decode mm_readDoor.2.1 97 = .ok (.putfield 207, 3) := by decide +kernel
theorem dd_readDoor_100 : decode mm_readDoor.2.1 100 = .ok (.aload_n 0, 1) := by decide +kernel
theorem dd_readDoor_101 : decode mm_readDoor.2.1 101 = .ok (.iconst 3, 1) := by decide +kernel
theorem dd_readDoor_102 : decode mm_readDoor.2.1 102 = .ok (.invokevirtual 216, 3) := by decide +kernel
theorem dd_readDoor_105 : decode mm_readDoor.2.1 105 = .ok (.aload_n 0, 1) := by decide +kernel
theorem dd_readDoor_106 : decode mm_readDoor.2.1 106 = .ok (.getfield 210, 3) := by decide +kernel
theorem dd_readDoor_109 : decode mm_readDoor.2.1 109 = .ok (.ifCond .le (7), 3) := by decide +kernel
theorem dd_readDoor_116 : decode mm_readDoor.2.1 116 = .ok (.aload_n 0, 1) := by decide +kernel
theorem dd_readDoor_117 : decode mm_readDoor.2.1 117 = .ok (.bipush 14, 2) := by decide +kernel
theorem dd_readDoor_119 : decode mm_readDoor.2.1 119 = .ok (.iconst 4, 1) := by decide +kernel
theorem dd_readDoor_120 : decode mm_readDoor.2.1 120 = .ok (.invokevirtual 232, 3) := by decide +kernel
theorem dd_readDoor_112 : decode mm_readDoor.2.1 112 = .ok (.iconst (-1), 1) := by decide +kernel
theorem dd_readDoor_113 : decode mm_readDoor.2.1 113 = .ok (.goto 10, 3) := by decide +kernel
theorem dd_readDoor_123 : decode mm_readDoor.2.1 123 = .ok (.istore_n 3, 1) := by decide +kernel
theorem dd_readDoor_124 : decode mm_readDoor.2.1 124 = .ok (.iload_n 3, 1) := by decide +kernel
theorem dd_readDoor_125 : decode mm_readDoor.2.1 125 = .ok (.ifCond .ge (9), 3) := by decide +kernel
theorem dd_readDoor_134 : decode mm_readDoor.2.1 134 = .ok (.aload_n 0, 1) := by decide +kernel
theorem dd_readDoor_135 : decode mm_readDoor.2.1 135 = .ok (.dup, 1) := by decide +kernel
theorem dd_readDoor_136 : decode mm_readDoor.2.1 136 = .ok (.getfield 207, 3) := by decide +kernel
theorem dd_readDoor_139 : decode mm_readDoor.2.1 139 = .ok (.iconst 1, 1) := by decide +kernel
theorem dd_readDoor_140 : decode mm_readDoor.2.1 140 = .ok (.iadd, 1) := by decide +kernel
theorem dd_readDoor_141 : decode mm_readDoor.2.1 141 = .ok (.putfield 207, 3) := by decide +kernel
theorem dd_readDoor_144 : decode mm_readDoor.2.1 144 = .ok (.aload_n 0, 1) := by decide +kernel
theorem dd_readDoor_145 : decode mm_readDoor.2.1 145 = .ok (.getfield 95, 3) := by decide +kernel
theorem dd_readDoor_148 : decode mm_readDoor.2.1 148 = .ok (.iload_n 2, 1) := by decide +kernel
theorem dd_readDoor_149 : decode mm_readDoor.2.1 149 = .ok (.iload_n 3, 1) := by decide +kernel
theorem dd_readDoor_150 : decode mm_readDoor.2.1 150 = .ok (.iastore, 1) := by decide +kernel
theorem dd_readDoor_151 : decode mm_readDoor.2.1 151 = .ok (.aload_n 0, 1) := by decide +kernel
theorem dd_readDoor_152 : decode mm_readDoor.2.1 152 = .ok (.iconst 3, 1) := by decide +kernel
theorem dd_readDoor_153 : decode mm_readDoor.2.1 153 = .ok (.invokevirtual 222, 3) := by decide +kernel
theorem dd_readDoor_128 : decode mm_readDoor.2.1 128 = .ok (.aload_n 0, 1) := by decide +kernel
theorem dd_readDoor_129 : decode mm_readDoor.2.1 129 = .ok (.iconst 1, 1) := by decide +kernel
theorem dd_readDoor_130 : decode mm_readDoor.2.1 130 = .ok (.invokevirtual 216, 3) := by decide +kernel
theorem dd_readDoor_133 : decode mm_readDoor.2.1 133 = .ok (.return_, 1) := by decide +kernel
theorem dd_readDoor_156 : decode mm_readDoor.2.1 156 = .ok (.istore 4, 2) := by decide +kernel
theorem dd_readDoor_158 : decode mm_readDoor.2.1 158 = .ok (.aload_n 0, 1) := by decide +kernel
theorem dd_readDoor_159 : decode mm_readDoor.2.1 159 = .ok (.getfield 95, 3) := by decide +kernel
theorem dd_readDoor_162 : decode mm_readDoor.2.1 162 = .ok (.iload_n 2, 1) := by decide +kernel
theorem dd_readDoor_163 : decode mm_readDoor.2.1 163 = .ok (.iconst 3, 1) := by decide +kernel
theorem dd_readDoor_164 : decode mm_readDoor.2.1 164 = .ok (.iadd, 1) := by decide +kernel
theorem dd_readDoor_165 : decode mm_readDoor.2.1 165 = .ok (.iload 4, 2) := by decide +kernel
theorem dd_readDoor_167 : decode mm_readDoor.2.1 167 = .ok (.ifCond .eq (13), 3) := by decide +kernel
theorem dd_readDoor_180 : decode mm_readDoor.2.1 180 = .ok (.iconst 0, 1) := by decide +kernel
theorem dd_readDoor_170 : decode mm_readDoor.2.1 170 = .ok (.aload_n 0, 1) := by decide +kernel
theorem dd_readDoor_171 : decode mm_readDoor.2.1 171 = .ok (.iconst 0, 1) := by decide +kernel
theorem dd_readDoor_172 : decode mm_readDoor.2.1 172 = .ok (.bipush 23, 2) := by decide +kernel
theorem dd_readDoor_174 : decode mm_readDoor.2.1 174 = .ok (.invokevirtual 228, 3) := by decide +kernel
theorem dd_readDoor_177 : decode mm_readDoor.2.1 177 = .ok (.goto 4, 3) := by decide +kernel
theorem dd_readDoor_181 : decode mm_readDoor.2.1 181 = .ok (.iastore, 1) := by decide +kernel
theorem dd_readDoor_182 : decode mm_readDoor.2.1 182 = .ok (.aload_n 0, 1) := by decide +kernel
theorem dd_readDoor_183 : decode mm_readDoor.2.1 183 = .ok (.getfield 95, 3) := by decide +kernel
theorem dd_readDoor_186 : decode mm_readDoor.2.1 186 = .ok (.iload_n 2, 1) := by decide +kernel
theorem dd_readDoor_187 : decode mm_readDoor.2.1 187 = .ok (.iconst 4, 1) := by decide +kernel
theorem dd_readDoor_188 : decode mm_readDoor.2.1 188 = .ok (.iadd, 1) := by decide +kernel
theorem dd_readDoor_189 : decode mm_readDoor.2.1 189 = .ok (.iload 4, 2) := by decide +kernel
theorem dd_readDoor_191 : decode mm_readDoor.2.1 191 = .ok (.ifCond .eq (23), 3) := by decide +kernel
theorem dd_readDoor_214 : decode mm_readDoor.2.1 214 = .ok (.bipush 24, 2) := by decide +kernel
theorem dd_readDoor_194 : decode mm_readDoor.2.1 194 = .ok (.aload_n 0, 1) := by decide +kernel
theorem dd_readDoor_195 : decode mm_readDoor.2.1 195 = .ok (.iconst 2, 1) := by decide +kernel
theorem dd_readDoor_196 : decode mm_readDoor.2.1 196 = .ok (.aload_n 0, 1) := by decide +kernel
theorem dd_readDoor_197 : decode mm_readDoor.2.1 197 = .ok (.getfield 95, 3) := by decide +kernel
theorem dd_readDoor_200 : decode mm_readDoor.2.1 200 = .ok (.iload_n 2, 1) := by decide +kernel
theorem dd_readDoor_201 : decode mm_readDoor.2.1 201 = .ok (.iconst 3, 1) := by decide +kernel
theorem dd_readDoor_202 : decode mm_readDoor.2.1 202 = .ok (.iadd, 1) := by decide +kernel
theorem dd_readDoor_203 : decode mm_readDoor.2.1 203 = .ok (.iaload, 1) := by decide +kernel
theorem dd_readDoor_204 : decode mm_readDoor.2.1 204 = .ok (.iconst 1, 1) := by decide +kernel
theorem dd_readDoor_205 : decode mm_readDoor.2.1 205 = .ok (.iadd, 1) := by decide +kernel
theorem dd_readDoor_206 : decode mm_readDoor.2.1 206 = .ok (.bipush 24, 2) := by decide +kernel
theorem dd_readDoor_208 : decode mm_readDoor.2.1 208 = .ok (.invokevirtual 274, 3) := by decide +kernel
theorem dd_readDoor_211 : decode mm_readDoor.2.1 211 = .ok (.goto 5, 3) := by decide +kernel
theorem dd_readDoor_216 : decode mm_readDoor.2.1 216 = .ok (.iastore, 1) := by decide +kernel
theorem dd_readDoor_217 : decode mm_readDoor.2.1 217 = .ok (.aload_n 0, 1) := by decide +kernel
theorem dd_readDoor_218 : decode mm_readDoor.2.1 218 = .ok (.getfield 95, 3) := by decide +kernel
theorem dd_readDoor_221 : decode mm_readDoor.2.1 221 = .ok (.iload_n 2, 1) := by decide +kernel
theorem dd_readDoor_222 : decode mm_readDoor.2.1 222 = .ok (.iconst 5, 1) := by decide +kernel
theorem dd_readDoor_223 : decode mm_readDoor.2.1 223 = .ok (.iadd, 1) := by decide +kernel
theorem dd_readDoor_224 : decode mm_readDoor.2.1 224 = .ok (.aload_n 0, 1) := by decide +kernel
theorem dd_readDoor_225 : decode mm_readDoor.2.1 225 = .ok (.iconst 4, 1) := by decide +kernel
theorem dd_readDoor_226 : decode mm_readDoor.2.1 226 = .ok (.invokevirtual 222, 3) := by decide +kernel
theorem dd_readDoor_229 : decode mm_readDoor.2.1 229 = .ok (.ifCond .eq (10), 3) := by decide +kernel
theorem dd_readDoor_239 : decode mm_readDoor.2.1 239 = .ok (.iconst (-1), 1) := by decide +kernel
theorem dd_readDoor_232 : decode mm_readDoor.2.1 232 = .ok (.aload_n 0, 1) := by decide +kernel
theorem dd_readDoor_233 : decode mm_readDoor.2.1 233 = .ok (.invokevirtual 278, 3) := by decide +kernel
theorem dd_readDoor_236 : decode mm_readDoor.2.1 236 = .ok (.goto 4, 3) := by decide +kernel
theorem dd_readDoor_240 : decode mm_readDoor.2.1 240 = .ok (.iastore, 1) := by decide +kernel
theorem dd_readDoor_241 : decode mm_readDoor.2.1 241 = .ok (.aload_n 0, 1) := by decide +kernel
theorem dd_readDoor_242 : decode mm_readDoor.2.1 242 = .ok (.getfield 95, 3) := by decide +kernel
theorem dd_readDoor_245 : decode mm_readDoor.2.1 245 = .ok (.iload_n 2, 1) := by decide +kernel
theorem dd_readDoor_246 : decode mm_readDoor.2.1 246 = .ok (.bipush 6, 2) := by decide +kernel
theorem dd_readDoor_248 : decode mm_readDoor.2.1 248 = .ok (.iadd, 1) := by decide +kernel
theorem dd_readDoor_249 : decode mm_readDoor.2.1 249 = .ok (.aload_n 0, 1) := by decide +kernel
theorem dd_readDoor_250 : decode mm_readDoor.2.1 250 = .ok (.iconst 5, 1) := by decide +kernel
theorem dd_readDoor_251 : decode mm_readDoor.2.1 251 = .ok (.invokevirtual 222, 3) := by decide +kernel
theorem dd_readDoor_254 : decode mm_readDoor.2.1 254 = .ok (.ifCond .eq (13), 3) := by decide +kernel
theorem dd_readDoor_267 : decode mm_readDoor.2.1 267 = .ok (.iconst 1, 1) := by decide +kernel
theorem dd_readDoor_257 : decode mm_readDoor.2.1 257 = .ok (.aload_n 0, 1) := by decide +kernel
theorem dd_readDoor_258 : decode mm_readDoor.2.1 258 = .ok (.iconst 1, 1) := by decide +kernel
theorem dd_readDoor_259 : decode mm_readDoor.2.1 259 = .ok (.bipush 9, 2) := by decide +kernel
theorem dd_readDoor_261 : decode mm_readDoor.2.1 261 = .ok (.invokevirtual 228, 3) := by decide +kernel
theorem dd_readDoor_264 : decode mm_readDoor.2.1 264 = .ok (.goto 4, 3) := by decide +kernel
theorem dd_readDoor_268 : decode mm_readDoor.2.1 268 = .ok (.iastore, 1) := by decide +kernel
theorem dd_readDoor_269 : decode mm_readDoor.2.1 269 = .ok (.aload_n 0, 1) := by decide +kernel
theorem dd_readDoor_270 : decode mm_readDoor.2.1 270 = .ok (.getfield 95, 3) := by decide +kernel
theorem dd_readDoor_273 : decode mm_readDoor.2.1 273 = .ok (.iload_n 2, 1) := by decide +kernel
theorem dd_readDoor_274 : decode mm_readDoor.2.1 274 = .ok (.bipush 7, 2) := by decide +kernel
theorem dd_readDoor_276 : decode mm_readDoor.2.1 276 = .ok (.iadd, 1) := by decide +kernel
theorem dd_readDoor_277 : decode mm_readDoor.2.1 277 = .ok (.aload_n 0, 1) := by decide +kernel
theorem dd_readDoor_278 : decode mm_readDoor.2.1 278 = .ok (.bipush 6, 2) := by decide +kernel
theorem dd_readDoor_280 : decode mm_readDoor.2.1 280 = .ok (.invokevirtual 222, 3) := by decide +kernel
theorem dd_readDoor_283 : decode mm_readDoor.2.1 283 = .ok (.ifCond .eq (13), 3) := by decide +kernel
theorem dd_readDoor_296 : decode mm_readDoor.2.1 296 = .ok (.iconst 0, 1) := by decide +kernel
theorem dd_readDoor_286 : decode mm_readDoor.2.1 286 = .ok (.aload_n 0, 1) := by decide +kernel
theorem dd_readDoor_287 : decode mm_readDoor.2.1 287 = .ok (.iconst 0, 1) := by decide +kernel
theorem dd_readDoor_288 : decode mm_readDoor.2.1 288 = .ok (.bipush 9, 2) := by decide +kernel
theorem dd_readDoor_290 : decode mm_readDoor.2.1 290 = .ok (.invokevirtual 228, 3) := by decide +kernel
theorem dd_readDoor_293 : decode mm_readDoor.2.1 293 = .ok (.goto 4, 3) := by decide +kernel
theorem dd_readDoor_297 : decode mm_readDoor.2.1 297 = .ok (.iastore, 1) := by decide +kernel
theorem dd_readDoor_298 : decode mm_readDoor.2.1 298 = .ok (.aload_n 0, 1) := by decide +kernel
theorem dd_readDoor_299 : decode mm_readDoor.2.1 299 = .ok (.getfield 95, 3) := by decide +kernel
theorem dd_readDoor_302 : decode mm_readDoor.2.1 302 = .ok (.sipush 151, 3) := by decide +kernel
theorem dd_readDoor_305 : decode mm_readDoor.2.1 305 = .ok (.dup2, 1) := by decide +kernel
theorem dd_readDoor_306 : decode mm_readDoor.2.1 306 = .ok (.iaload, 1) := by decide +kernel
theorem dd_readDoor_307 : decode mm_readDoor.2.1 307 = .ok (.iconst 1, 1) := by decide +kernel
theorem dd_readDoor_308 : decode mm_readDoor.2.1 308 = .ok (.iadd, 1) := by decide +kernel
theorem dd_readDoor_309 : decode mm_readDoor.2.1 309 = .ok (.iastore, 1) := by decide +kernel
theorem dd_readDoor_310 : decode mm_readDoor.2.1 310 = .ok (.return_, 1) := by decide +kernel
theorem B_takeNumber_0 {xs : Nat → Int} {xl e : Nat} {h : LH} {Q : Option LV → LH → Prop} {v1 v2 : Int} (hF : RF h)
    (k : ((rd h 182 8) ≠ 0 →
        Rn xs xl e mm_takeNumber 28 [some (.inr (.inr 182)), some (.inl v1), some (.inl v2)] [] h Q) ∧
      ((rd h 182 8) = 0 →
        (0 ≤ (rd h 182 7) ∧ (rd h 182 7) < 1002) ∧
        ((rd h 184 (rd h 182 7)) = 2 →
          Rn xs xl e mm_takeNumber 28 [some (.inr (.inr 182)), some (.inl v1), some (.inl v2)] [] h Q) ∧
        ((rd h 184 (rd h 182 7)) ≠ 2 →
          (∃ c, c < e ∧ Rn xs xl c mm_wrong 0 [some (.inr (.inr 182)), some (.inl 1)] [] h (fun r h' => Rn xs xl e mm_takeNumber 25 [some (.inr (.inr 182)), some (.inl v1), some (.inl v2)] (r.toList ++ []) h' Q))))) :
    Rn xs xl e mm_takeNumber 0 [some (.inr (.inr 182)), some (.inl v1), some (.inl v2)] [] h Q := by
  refine R_ld (v := .inr (.inr 182)) dd_takeNumber_0 rfl rfl rfl rfl ?_
  refine R_gf (v := .inl (rd h 182 8)) dd_takeNumber_1 fd_12_210 io_182 (congrArg (fun z : Int => (Sum.inl z : LV)) (rfl)) rfl ?_
  refine R_if dd_takeNumber_4 rfl rfl (fun (c3 : (rd h 182 8) ≠ 0) => ?_) (fun (c3 : (rd h 182 8) = 0) => ?_)
  · replace k := k.1 c3
    exact k
  · replace k := k.2 c3
    refine R_ld (v := .inr (.inr 182)) dd_takeNumber_7 rfl rfl rfl rfl ?_
    refine R_gf (v := .inr (.inr 184)) dd_takeNumber_8 fd_12_24 io_182 (congrArg (fun z : Int => (Sum.inr (Sum.inr z) : LV)) (rf_182_4 hF)) rfl ?_
    refine R_ld (v := .inr (.inr 182)) dd_takeNumber_11 rfl rfl rfl rfl ?_
    refine R_gf (v := .inl (rd h 182 7)) dd_takeNumber_12 fd_12_207 io_182 (congrArg (fun z : Int => (Sum.inl z : LV)) (rfl)) rfl ?_
    obtain ⟨s1, k⟩ := k
    refine R_iald (v := (rd h 184 (rd h 182 7))) (n := 1002) dd_takeNumber_15 ia_184 la_184 s1 (rfl) rfl ?_
    refine R_ic dd_takeNumber_16 (by decide) rfl ?_
    refine R_icmp dd_takeNumber_17 rfl rfl (fun (c4 : (rd h 184 (rd h 182 7)) = 2) => ?_) (fun (c4 : (rd h 184 (rd h 182 7)) ≠ 2) => ?_)
    · replace k := k.1 c4
      exact k
    · replace k := k.2 c4
      refine R_ld (v := .inr (.inr 182)) dd_takeNumber_20 rfl rfl rfl rfl ?_
      refine R_ic dd_takeNumber_21 (by decide) rfl ?_
      obtain ⟨c, hc, k⟩ := k
      exact R_call (as := [.inr (.inr 182), .inl 1]) (rest := []) (M' := mm_wrong) (ls0 := [some (.inr (.inr 182)), some (.inl 1)]) dd_takeNumber_22 rfl rfl (cw_v cw_12_216 io_182 rfl rfl (Nat.le_of_ble_eq_true rfl) (Nat.le_of_ble_eq_true rfl)) mt_wrong rfl hc rfl k
theorem B_takeNumber_25 {xs : Nat → Int} {xl e : Nat} {h : LH} {Q : Option LV → LH → Prop} {v1 v2 : Int} (hF : RF h)
    (k : Rn xs xl e mm_takeNumber 70 [some (.inr (.inr 182)), some (.inl v1), some (.inl v2)] [] h Q) :
    Rn xs xl e mm_takeNumber 25 [some (.inr (.inr 182)), some (.inl v1), some (.inl v2)] [] h Q := by
  refine R_goto dd_takeNumber_25 rfl ?_
  exact k
theorem B_takeNumber_28 {xs : Nat → Int} {xl e : Nat} {h : LH} {Q : Option LV → LH → Prop} {v1 v2 : Int} (hF : RF h)
    (k : ((rd h 182 8) ≠ 0 →
        Rn xs xl e mm_takeNumber 70 [some (.inr (.inr 182)), some (.inl v1), some (.inl v2)] [] h Q) ∧
      ((rd h 182 8) = 0 →
        (0 ≤ (rd h 182 7) ∧ (rd h 182 7) < 1002) ∧
        ((lcmp_ (rd h 186 (rd h 182 7)) v1) < 0 →
          (∃ c, c < e ∧ Rn xs xl c mm_wrong 0 [some (.inr (.inr 182)), some (.inl 4)] [] h (fun r h' => Rn xs xl e mm_takeNumber 70 [some (.inr (.inr 182)), some (.inl v1), some (.inl v2)] (r.toList ++ []) h' Q))) ∧
        (0 ≤ (lcmp_ (rd h 186 (rd h 182 7)) v1) →
          (0 ≤ (rd h 182 7) ∧ (rd h 182 7) < 1002) ∧
          ((lcmp_ (rd h 186 (rd h 182 7)) v2) ≤ 0 →
            Rn xs xl e mm_takeNumber 70 [some (.inr (.inr 182)), some (.inl v1), some (.inl v2)] [] h Q) ∧
          (0 < (lcmp_ (rd h 186 (rd h 182 7)) v2) →
            (∃ c, c < e ∧ Rn xs xl c mm_wrong 0 [some (.inr (.inr 182)), some (.inl 4)] [] h (fun r h' => Rn xs xl e mm_takeNumber 70 [some (.inr (.inr 182)), some (.inl v1), some (.inl v2)] (r.toList ++ []) h' Q)))))) :
    Rn xs xl e mm_takeNumber 28 [some (.inr (.inr 182)), some (.inl v1), some (.inl v2)] [] h Q := by
  refine R_ld (v := .inr (.inr 182)) dd_takeNumber_28 rfl rfl rfl rfl ?_
  refine R_gf (v := .inl (rd h 182 8)) dd_takeNumber_29 fd_12_210 io_182 (congrArg (fun z : Int => (Sum.inl z : LV)) (rfl)) rfl ?_
  refine R_if dd_takeNumber_32 rfl rfl (fun (c5 : (rd h 182 8) ≠ 0) => ?_) (fun (c5 : (rd h 182 8) = 0) => ?_)
  · replace k := k.1 c5
    exact k
  · replace k := k.2 c5
    refine R_ld (v := .inr (.inr 182)) dd_takeNumber_35 rfl rfl rfl rfl ?_
    refine R_gf (v := .inr (.inr 186)) dd_takeNumber_36 fd_12_30 io_182 (congrArg (fun z : Int => (Sum.inr (Sum.inr z) : LV)) (rf_182_6 hF)) rfl ?_
    refine R_ld (v := .inr (.inr 182)) dd_takeNumber_39 rfl rfl rfl rfl ?_
    refine R_gf (v := .inl (rd h 182 7)) dd_takeNumber_40 fd_12_207 io_182 (congrArg (fun z : Int => (Sum.inl z : LV)) (rfl)) rfl ?_
    obtain ⟨s1, k⟩ := k
    refine R_lald (v := (rd h 186 (rd h 182 7))) (n := 1002) dd_takeNumber_43 ia_186 la_186 s1 (rfl) rfl ?_
    refine R_ld (v := .inl v1) dd_takeNumber_44 rfl rfl rfl rfl ?_
    refine R_A dd_takeNumber_45 rfl rfl rfl rfl ?_
    refine R_A dd_takeNumber_46 rfl rfl rfl rfl ?_
    refine R_if dd_takeNumber_47 rfl rfl (fun (c6 : (lcmp_ (rd h 186 (rd h 182 7)) v1) < 0) => ?_) (fun (c6 : 0 ≤ (lcmp_ (rd h 186 (rd h 182 7)) v1)) => ?_)
    · replace k := k.1 c6
      refine R_ld (v := .inr (.inr 182)) dd_takeNumber_65 rfl rfl rfl rfl ?_
      refine R_ic dd_takeNumber_66 (by decide) rfl ?_
      obtain ⟨c, hc, k⟩ := k
      exact R_call (as := [.inr (.inr 182), .inl 4]) (rest := []) (M' := mm_wrong) (ls0 := [some (.inr (.inr 182)), some (.inl 4)]) dd_takeNumber_67 rfl rfl (cw_v cw_12_216 io_182 rfl rfl (Nat.le_of_ble_eq_true rfl) (Nat.le_of_ble_eq_true rfl)) mt_wrong rfl hc rfl k
    · replace k := k.2 c6
      refine R_ld (v := .inr (.inr 182)) dd_takeNumber_50 rfl rfl rfl rfl ?_
      refine R_gf (v := .inr (.inr 186)) dd_takeNumber_51 fd_12_30 io_182 (congrArg (fun z : Int => (Sum.inr (Sum.inr z) : LV)) (rf_182_6 hF)) rfl ?_
      refine R_ld (v := .inr (.inr 182)) dd_takeNumber_54 rfl rfl rfl rfl ?_
      refine R_gf (v := .inl (rd h 182 7)) dd_takeNumber_55 fd_12_207 io_182 (congrArg (fun z : Int => (Sum.inl z : LV)) (rfl)) rfl ?_
      obtain ⟨s3, k⟩ := k
      refine R_lald (v := (rd h 186 (rd h 182 7))) (n := 1002) dd_takeNumber_58 ia_186 la_186 s3 (rfl) rfl ?_
      refine R_ld (v := .inl v2) dd_takeNumber_59 rfl rfl rfl rfl ?_
      refine R_A dd_takeNumber_60 rfl rfl rfl rfl ?_
      refine R_A dd_takeNumber_61 rfl rfl rfl rfl ?_
      refine R_if dd_takeNumber_62 rfl rfl (fun (c7 : (lcmp_ (rd h 186 (rd h 182 7)) v2) ≤ 0) => ?_) (fun (c7 : 0 < (lcmp_ (rd h 186 (rd h 182 7)) v2)) => ?_)
      · replace k := k.1 c7
        exact k
      · replace k := k.2 c7
        refine R_ld (v := .inr (.inr 182)) dd_takeNumber_65 rfl rfl rfl rfl ?_
        refine R_ic dd_takeNumber_66 (by decide) rfl ?_
        obtain ⟨c, hc, k⟩ := k
        exact R_call (as := [.inr (.inr 182), .inl 4]) (rest := []) (M' := mm_wrong) (ls0 := [some (.inr (.inr 182)), some (.inl 4)]) dd_takeNumber_67 rfl rfl (cw_v cw_12_216 io_182 rfl rfl (Nat.le_of_ble_eq_true rfl) (Nat.le_of_ble_eq_true rfl)) mt_wrong rfl hc rfl k
theorem B_takeNumber_70 {xs : Nat → Int} {xl e : Nat} {h : LH} {Q : Option LV → LH → Prop} {v1 v2 : Int} (hF : RF h)
    (k : ((rd h 182 8) ≤ 0 →
        (-2147483648 ≤ (rd h 182 7) + 1 ∧ (rd h 182 7) + 1 ≤ 2147483647) ∧
        (-2147483648 ≤ ((rd h 182 7) + 1) - 1 ∧ ((rd h 182 7) + 1) - 1 ≤ 2147483647) ∧
        (0 ≤ ((rd h 182 7) + 1) - 1 ∧ ((rd h 182 7) + 1) - 1 < 1002) ∧
        Q (some (.inl (w32 (rd h 186 (((rd h 182 7) + 1) - 1))))) (wr h 182 7 ((rd h 182 7) + 1))) ∧
      (0 < (rd h 182 8) →
        Q (some (.inl 0)) h)) :
    Rn xs xl e mm_takeNumber 70 [some (.inr (.inr 182)), some (.inl v1), some (.inl v2)] [] h Q := by
  refine R_ld (v := .inr (.inr 182)) dd_takeNumber_70 rfl rfl rfl rfl ?_
  refine R_gf (v := .inl (rd h 182 8)) dd_takeNumber_71 fd_12_210 io_182 (congrArg (fun z : Int => (Sum.inl z : LV)) (rfl)) rfl ?_
  refine R_if dd_takeNumber_74 rfl rfl (fun (c4 : (rd h 182 8) ≤ 0) => ?_) (fun (c4 : 0 < (rd h 182 8)) => ?_)
  · replace k := k.1 c4
    refine R_ld (v := .inr (.inr 182)) dd_takeNumber_79 rfl rfl rfl rfl ?_
    refine R_A dd_takeNumber_80 rfl rfl rfl rfl ?_
    refine R_gf (v := .inl (rd h 182 7)) dd_takeNumber_81 fd_12_207 io_182 (congrArg (fun z : Int => (Sum.inl z : LV)) (rfl)) rfl ?_
    refine R_ic dd_takeNumber_84 (by decide) rfl ?_
    obtain ⟨s1, k⟩ := k
    refine R_iadd (c := (rd h 182 7) + 1) dd_takeNumber_85 (by omega) s1 rfl ?_
    refine R_pf (z := ((rd h 182 7) + 1)) dd_takeNumber_86 fd_12_207 io_182 fn_12_7 rfl rfl ?_
    refine R_ld (v := .inr (.inr 182)) dd_takeNumber_89 rfl rfl rfl rfl ?_
    refine R_gf (v := .inr (.inr 186)) dd_takeNumber_90 fd_12_30 io_182 (congrArg (fun z : Int => (Sum.inr (Sum.inr z) : LV)) ((rdw_nei (by omega)).trans (rf_182_6 hF))) rfl ?_
    refine R_ld (v := .inr (.inr 182)) dd_takeNumber_93 rfl rfl rfl rfl ?_
    refine R_gf (v := .inl ((rd h 182 7) + 1)) dd_takeNumber_94 fd_12_207 io_182 (congrArg (fun z : Int => (Sum.inl z : LV)) (rdw_eq)) rfl ?_
    refine R_ic dd_takeNumber_97 (by decide) rfl ?_
    obtain ⟨s2, k⟩ := k
    refine R_isub (c := ((rd h 182 7) + 1) - 1) dd_takeNumber_98 (by omega) s2 rfl ?_
    obtain ⟨s3, k⟩ := k
    refine R_lald (v := (rd h 186 (((rd h 182 7) + 1) - 1))) (n := 1002) dd_takeNumber_99 ia_186 la_186 s3 (rdw_ne (by decide)) rfl ?_
    refine R_A dd_takeNumber_100 rfl rfl rfl rfl ?_
    exact R_iret dd_takeNumber_101 rfl k
  · replace k := k.2 c4
    refine R_ic dd_takeNumber_77 (by decide) rfl ?_
    exact R_iret dd_takeNumber_78 rfl k
theorem B_takeAfter_0 {xs : Nat → Int} {xl e : Nat} {h : LH} {Q : Option LV → LH → Prop} {v1 v2 v3 : Int} (hF : RF h)
    (k : (∃ c, c < e ∧ Rn xs xl c mm_takeWord 0 [some (.inr (.inr 182)), some (.inl v1)] [] h (fun r h' => Rn xs xl e mm_takeAfter 5 [some (.inr (.inr 182)), some (.inl v1), some (.inl v2), some (.inl v3)] (r.toList ++ []) h' Q))) :
    Rn xs xl e mm_takeAfter 0 [some (.inr (.inr 182)), some (.inl v1), some (.inl v2), some (.inl v3)] [] h Q := by
  refine R_ld (v := .inr (.inr 182)) dd_takeAfter_0 rfl rfl rfl rfl ?_
  refine R_ld (v := .inl v1) dd_takeAfter_1 rfl rfl rfl rfl ?_
  obtain ⟨c, hc, k⟩ := k
  exact R_call (as := [.inr (.inr 182), .inl v1]) (rest := []) (M' := mm_takeWord) (ls0 := [some (.inr (.inr 182)), some (.inl v1)]) dd_takeAfter_2 rfl rfl (cw_v cw_12_225 io_182 rfl rfl (Nat.le_of_ble_eq_true rfl) (Nat.le_of_ble_eq_true rfl)) mt_takeWord rfl hc rfl k
theorem B_takeAfter_5 {xs : Nat → Int} {xl e : Nat} {h : LH} {Q : Option LV → LH → Prop} {v1 v2 v3 : Int} (hF : RF h)
    (k : (∃ c, c < e ∧ Rn xs xl c mm_takeNumber 0 [some (.inr (.inr 182)), some (.inl v2), some (.inl v3)] [] h (fun r h' => Rn xs xl e mm_takeAfter 11 [some (.inr (.inr 182)), some (.inl v1), some (.inl v2), some (.inl v3)] (r.toList ++ []) h' Q))) :
    Rn xs xl e mm_takeAfter 5 [some (.inr (.inr 182)), some (.inl v1), some (.inl v2), some (.inl v3)] [] h Q := by
  refine R_ld (v := .inr (.inr 182)) dd_takeAfter_5 rfl rfl rfl rfl ?_
  refine R_ld (v := .inl v2) dd_takeAfter_6 rfl rfl rfl rfl ?_
  refine R_ld (v := .inl v3) dd_takeAfter_7 rfl rfl rfl rfl ?_
  obtain ⟨c, hc, k⟩ := k
  exact R_call (as := [.inr (.inr 182), .inl v2, .inl v3]) (rest := []) (M' := mm_takeNumber) (ls0 := [some (.inr (.inr 182)), some (.inl v2), some (.inl v3)]) dd_takeAfter_8 rfl rfl (cw_v cw_12_228 io_182 rfl rfl (Nat.le_of_ble_eq_true rfl) (Nat.le_of_ble_eq_true rfl)) mt_takeNumber rfl hc rfl k
theorem B_takeAfter_11 {xs : Nat → Int} {xl e : Nat} {h : LH} {Q : Option LV → LH → Prop} {v1 v2 v3 w0 : Int} (hF : RF h)
    (k : Q (some (.inl w0)) h) :
    Rn xs xl e mm_takeAfter 11 [some (.inr (.inr 182)), some (.inl v1), some (.inl v2), some (.inl v3)] [.inl w0] h Q := by
  exact R_iret dd_takeAfter_11 rfl k
theorem B_isName_0 {xs : Nat → Int} {xl e : Nat} {h : LH} {Q : Option LV → LH → Prop} (hF : RF h)
    (k : ((rd h 182 8) ≠ 0 →
        Q (some (.inl 0)) h) ∧
      ((rd h 182 8) = 0 →
        (0 ≤ (rd h 182 7) ∧ (rd h 182 7) < 1002) ∧
        ((rd h 184 (rd h 182 7)) ≠ 1 →
          Q (some (.inl 0)) h) ∧
        ((rd h 184 (rd h 182 7)) = 1 →
          (∃ c, c < e ∧ Rn xs xl c mm_wordHere 0 [some (.inr (.inr 182)), some (.inl 0), some (.inl 25), none, none] [] h (fun r h' => Rn xs xl e mm_isName 27 [some (.inr (.inr 182))] (r.toList ++ []) h' Q))))) :
    Rn xs xl e mm_isName 0 [some (.inr (.inr 182))] [] h Q := by
  refine R_ld (v := .inr (.inr 182)) dd_isName_0 rfl rfl rfl rfl ?_
  refine R_gf (v := .inl (rd h 182 8)) dd_isName_1 fd_12_210 io_182 (congrArg (fun z : Int => (Sum.inl z : LV)) (rfl)) rfl ?_
  refine R_if dd_isName_4 rfl rfl (fun (c3 : (rd h 182 8) ≠ 0) => ?_) (fun (c3 : (rd h 182 8) = 0) => ?_)
  · replace k := k.1 c3
    refine R_ic dd_isName_34 (by decide) rfl ?_
    exact R_zret dd_isName_35 rfl (by decide) k
  · replace k := k.2 c3
    refine R_ld (v := .inr (.inr 182)) dd_isName_7 rfl rfl rfl rfl ?_
    refine R_gf (v := .inr (.inr 184)) dd_isName_8 fd_12_24 io_182 (congrArg (fun z : Int => (Sum.inr (Sum.inr z) : LV)) (rf_182_4 hF)) rfl ?_
    refine R_ld (v := .inr (.inr 182)) dd_isName_11 rfl rfl rfl rfl ?_
    refine R_gf (v := .inl (rd h 182 7)) dd_isName_12 fd_12_207 io_182 (congrArg (fun z : Int => (Sum.inl z : LV)) (rfl)) rfl ?_
    obtain ⟨s1, k⟩ := k
    refine R_iald (v := (rd h 184 (rd h 182 7))) (n := 1002) dd_isName_15 ia_184 la_184 s1 (rfl) rfl ?_
    refine R_ic dd_isName_16 (by decide) rfl ?_
    refine R_icmp dd_isName_17 rfl rfl (fun (c4 : (rd h 184 (rd h 182 7)) ≠ 1) => ?_) (fun (c4 : (rd h 184 (rd h 182 7)) = 1) => ?_)
    · replace k := k.1 c4
      refine R_ic dd_isName_34 (by decide) rfl ?_
      exact R_zret dd_isName_35 rfl (by decide) k
    · replace k := k.2 c4
      refine R_ld (v := .inr (.inr 182)) dd_isName_20 rfl rfl rfl rfl ?_
      refine R_ic dd_isName_21 (by decide) rfl ?_
      refine R_bi dd_isName_22 (by decide) rfl ?_
      obtain ⟨c, hc, k⟩ := k
      exact R_call (as := [.inr (.inr 182), .inl 0, .inl 25]) (rest := []) (M' := mm_wordHere) (ls0 := [some (.inr (.inr 182)), some (.inl 0), some (.inl 25), none, none]) dd_isName_24 rfl rfl (cw_v cw_12_232 io_182 rfl rfl (Nat.le_of_ble_eq_true rfl) (Nat.le_of_ble_eq_true rfl)) mt_wordHere rfl hc rfl k
theorem B_isName_27 {xs : Nat → Int} {xl e : Nat} {h : LH} {Q : Option LV → LH → Prop} {w0 : Int} (hF : RF h)
    (k : (0 ≤ w0 →
        Q (some (.inl 0)) h) ∧
      (w0 < 0 →
        Q (some (.inl 1)) h)) :
    Rn xs xl e mm_isName 27 [some (.inr (.inr 182))] [.inl w0] h Q := by
  refine R_if dd_isName_27 rfl rfl (fun (c1 : 0 ≤ w0) => ?_) (fun (c1 : w0 < 0) => ?_)
  · replace k := k.1 c1
    refine R_ic dd_isName_34 (by decide) rfl ?_
    exact R_zret dd_isName_35 rfl (by decide) k
  · replace k := k.2 c1
    refine R_ic dd_isName_30 (by decide) rfl ?_
    refine R_goto dd_isName_31 rfl ?_
    exact R_zret dd_isName_35 rfl (by decide) k
theorem B_find_0 {xs : Nat → Int} {xl e : Nat} {h : LH} {Q : Option LV → LH → Prop} {v1 : Int} (hF : RF h)
    (k : Rn xs xl e mm_find 2 [some (.inr (.inr 182)), some (.inl v1), some (.inl 0)] [] h Q) :
    Rn xs xl e mm_find 0 [some (.inr (.inr 182)), some (.inl v1), none] [] h Q := by
  refine R_ic dd_find_0 (by decide) rfl ?_
  refine R_st (ls' := [some (.inr (.inr 182)), some (.inl v1), some (.inl 0)]) dd_find_1 rfl rfl rfl (Nat.le_of_ble_eq_true rfl) rfl rfl ?_
  exact k
theorem B_find_2 {xs : Nat → Int} {xl e : Nat} {h : LH} {Q : Option LV → LH → Prop} {v1 v2 : Int} (hF : RF h)
    (k : (v1 = 0 →
        ((rd h 182 18) ≤ v2 →
          Q (some (.inl (-1))) h) ∧
        (v2 < (rd h 182 18) →
          (v1 = 0 →
            (0 ≤ v2 ∧ v2 < 20) ∧
            (0 ≤ (rd h 182 7) ∧ (rd h 182 7) < 1002) ∧
            ((lcmp_ (rd h 191 v2) (rd h 186 (rd h 182 7))) ≠ 0 →
              (-2147483648 ≤ v2 + 1 ∧ v2 + 1 ≤ 2147483647) ∧
              Rn xs xl e mm_find 2 [some (.inr (.inr 182)), some (.inl v1), some (.inl (v2 + 1))] [] h Q) ∧
            ((lcmp_ (rd h 191 v2) (rd h 186 (rd h 182 7))) = 0 →
              (v1 = 0 →
                (0 ≤ v2 ∧ v2 < 20) ∧
                Q (some (.inl (rd h 193 v2))) h) ∧
              (v1 ≠ 0 →
                (0 ≤ v2 ∧ v2 < 20) ∧
                Q (some (.inl (rd h 194 v2))) h))) ∧
          (v1 ≠ 0 →
            (0 ≤ v2 ∧ v2 < 20) ∧
            (0 ≤ (rd h 182 7) ∧ (rd h 182 7) < 1002) ∧
            ((lcmp_ (rd h 192 v2) (rd h 186 (rd h 182 7))) ≠ 0 →
              (-2147483648 ≤ v2 + 1 ∧ v2 + 1 ≤ 2147483647) ∧
              Rn xs xl e mm_find 2 [some (.inr (.inr 182)), some (.inl v1), some (.inl (v2 + 1))] [] h Q) ∧
            ((lcmp_ (rd h 192 v2) (rd h 186 (rd h 182 7))) = 0 →
              (v1 = 0 →
                (0 ≤ v2 ∧ v2 < 20) ∧
                Q (some (.inl (rd h 193 v2))) h) ∧
              (v1 ≠ 0 →
                (0 ≤ v2 ∧ v2 < 20) ∧
                Q (some (.inl (rd h 194 v2))) h))))) ∧
      (v1 ≠ 0 →
        ((rd h 182 19) ≤ v2 →
          Q (some (.inl (-1))) h) ∧
        (v2 < (rd h 182 19) →
          (v1 = 0 →
            (0 ≤ v2 ∧ v2 < 20) ∧
            (0 ≤ (rd h 182 7) ∧ (rd h 182 7) < 1002) ∧
            ((lcmp_ (rd h 191 v2) (rd h 186 (rd h 182 7))) ≠ 0 →
              (-2147483648 ≤ v2 + 1 ∧ v2 + 1 ≤ 2147483647) ∧
              Rn xs xl e mm_find 2 [some (.inr (.inr 182)), some (.inl v1), some (.inl (v2 + 1))] [] h Q) ∧
            ((lcmp_ (rd h 191 v2) (rd h 186 (rd h 182 7))) = 0 →
              (v1 = 0 →
                (0 ≤ v2 ∧ v2 < 20) ∧
                Q (some (.inl (rd h 193 v2))) h) ∧
              (v1 ≠ 0 →
                (0 ≤ v2 ∧ v2 < 20) ∧
                Q (some (.inl (rd h 194 v2))) h))) ∧
          (v1 ≠ 0 →
            (0 ≤ v2 ∧ v2 < 20) ∧
            (0 ≤ (rd h 182 7) ∧ (rd h 182 7) < 1002) ∧
            ((lcmp_ (rd h 192 v2) (rd h 186 (rd h 182 7))) ≠ 0 →
              (-2147483648 ≤ v2 + 1 ∧ v2 + 1 ≤ 2147483647) ∧
              Rn xs xl e mm_find 2 [some (.inr (.inr 182)), some (.inl v1), some (.inl (v2 + 1))] [] h Q) ∧
            ((lcmp_ (rd h 192 v2) (rd h 186 (rd h 182 7))) = 0 →
              (v1 = 0 →
                (0 ≤ v2 ∧ v2 < 20) ∧
                Q (some (.inl (rd h 193 v2))) h) ∧
              (v1 ≠ 0 →
                (0 ≤ v2 ∧ v2 < 20) ∧
                Q (some (.inl (rd h 194 v2))) h)))))) :
    Rn xs xl e mm_find 2 [some (.inr (.inr 182)), some (.inl v1), some (.inl v2)] [] h Q := by
  refine R_ld (v := .inl v2) dd_find_2 rfl rfl rfl rfl ?_
  refine R_ld (v := .inl v1) dd_find_3 rfl rfl rfl rfl ?_
  refine R_if dd_find_4 rfl rfl (fun (c21 : v1 = 0) => ?_) (fun (c21 : v1 ≠ 0) => ?_)
  · replace k := k.1 c21
    refine R_ld (v := .inr (.inr 182)) dd_find_14 rfl rfl rfl rfl ?_
    refine R_gf (v := .inl (rd h 182 18)) dd_find_15 fd_12_238 io_182 (congrArg (fun z : Int => (Sum.inl z : LV)) (rfl)) rfl ?_
    refine R_icmp dd_find_18 rfl rfl (fun (c22 : (rd h 182 18) ≤ v2) => ?_) (fun (c22 : v2 < (rd h 182 18)) => ?_)
    · replace k := k.1 c22
      refine R_ic dd_find_79 (by decide) rfl ?_
      exact R_iret dd_find_80 rfl k
    · replace k := k.2 c22
      refine R_ld (v := .inl v1) dd_find_21 rfl rfl rfl rfl ?_
      refine R_if dd_find_22 rfl rfl (fun (c23 : v1 = 0) => ?_) (fun (c23 : v1 ≠ 0) => ?_)
      · replace k := k.1 c23
        refine R_ld (v := .inr (.inr 182)) dd_find_34 rfl rfl rfl rfl ?_
        refine R_gf (v := .inr (.inr 191)) dd_find_35 fd_12_104 io_182 (congrArg (fun z : Int => (Sum.inr (Sum.inr z) : LV)) (rf_182_14 hF)) rfl ?_
        refine R_ld (v := .inl v2) dd_find_38 rfl rfl rfl rfl ?_
        obtain ⟨s1, k⟩ := k
        refine R_lald (v := (rd h 191 v2)) (n := 20) dd_find_39 ia_191 la_191 s1 (rfl) rfl ?_
        refine R_ld (v := .inr (.inr 182)) dd_find_40 rfl rfl rfl rfl ?_
        refine R_gf (v := .inr (.inr 186)) dd_find_41 fd_12_30 io_182 (congrArg (fun z : Int => (Sum.inr (Sum.inr z) : LV)) (rf_182_6 hF)) rfl ?_
        refine R_ld (v := .inr (.inr 182)) dd_find_44 rfl rfl rfl rfl ?_
        refine R_gf (v := .inl (rd h 182 7)) dd_find_45 fd_12_207 io_182 (congrArg (fun z : Int => (Sum.inl z : LV)) (rfl)) rfl ?_
        obtain ⟨s2, k⟩ := k
        refine R_lald (v := (rd h 186 (rd h 182 7))) (n := 1002) dd_find_48 ia_186 la_186 s2 (rfl) rfl ?_
        refine R_A dd_find_49 rfl rfl rfl rfl ?_
        refine R_if dd_find_50 rfl rfl (fun (c24 : (lcmp_ (rd h 191 v2) (rd h 186 (rd h 182 7))) ≠ 0) => ?_) (fun (c24 : (lcmp_ (rd h 191 v2) (rd h 186 (rd h 182 7))) = 0) => ?_)
        · replace k := k.1 c24
          obtain ⟨s3, k⟩ := k
          refine R_inc (y := v2 + 1) (ls' := [some (.inr (.inr 182)), some (.inl v1), some (.inl (v2 + 1))]) dd_find_73 rfl (by decide) (by omega) s3 rfl rfl ?_
          refine R_goto dd_find_76 rfl ?_
          exact k
        · replace k := k.2 c24
          refine R_ld (v := .inl v1) dd_find_53 rfl rfl rfl rfl ?_
          refine R_if dd_find_54 rfl rfl (fun (c25 : v1 = 0) => ?_) (fun (c25 : v1 ≠ 0) => ?_)
          · replace k := k.1 c25
            refine R_ld (v := .inr (.inr 182)) dd_find_66 rfl rfl rfl rfl ?_
            refine R_gf (v := .inr (.inr 193)) dd_find_67 fd_12_110 io_182 (congrArg (fun z : Int => (Sum.inr (Sum.inr z) : LV)) (rf_182_16 hF)) rfl ?_
            refine R_ld (v := .inl v2) dd_find_70 rfl rfl rfl rfl ?_
            obtain ⟨s4, k⟩ := k
            refine R_iald (v := (rd h 193 v2)) (n := 20) dd_find_71 ia_193 la_193 s4 (rfl) rfl ?_
            exact R_iret dd_find_72 rfl k
          · replace k := k.2 c25
            refine R_ld (v := .inr (.inr 182)) dd_find_57 rfl rfl rfl rfl ?_
            refine R_gf (v := .inr (.inr 194)) dd_find_58 fd_12_113 io_182 (congrArg (fun z : Int => (Sum.inr (Sum.inr z) : LV)) (rf_182_17 hF)) rfl ?_
            refine R_ld (v := .inl v2) dd_find_61 rfl rfl rfl rfl ?_
            obtain ⟨s5, k⟩ := k
            refine R_iald (v := (rd h 194 v2)) (n := 20) dd_find_62 ia_194 la_194 s5 (rfl) rfl ?_
            refine R_goto dd_find_63 rfl ?_
            exact R_iret dd_find_72 rfl k
      · replace k := k.2 c23
        refine R_ld (v := .inr (.inr 182)) dd_find_25 rfl rfl rfl rfl ?_
        refine R_gf (v := .inr (.inr 192)) dd_find_26 fd_12_107 io_182 (congrArg (fun z : Int => (Sum.inr (Sum.inr z) : LV)) (rf_182_15 hF)) rfl ?_
        refine R_ld (v := .inl v2) dd_find_29 rfl rfl rfl rfl ?_
        obtain ⟨s6, k⟩ := k
        refine R_lald (v := (rd h 192 v2)) (n := 20) dd_find_30 ia_192 la_192 s6 (rfl) rfl ?_
        refine R_goto dd_find_31 rfl ?_
        refine R_ld (v := .inr (.inr 182)) dd_find_40 rfl rfl rfl rfl ?_
        refine R_gf (v := .inr (.inr 186)) dd_find_41 fd_12_30 io_182 (congrArg (fun z : Int => (Sum.inr (Sum.inr z) : LV)) (rf_182_6 hF)) rfl ?_
        refine R_ld (v := .inr (.inr 182)) dd_find_44 rfl rfl rfl rfl ?_
        refine R_gf (v := .inl (rd h 182 7)) dd_find_45 fd_12_207 io_182 (congrArg (fun z : Int => (Sum.inl z : LV)) (rfl)) rfl ?_
        obtain ⟨s7, k⟩ := k
        refine R_lald (v := (rd h 186 (rd h 182 7))) (n := 1002) dd_find_48 ia_186 la_186 s7 (rfl) rfl ?_
        refine R_A dd_find_49 rfl rfl rfl rfl ?_
        refine R_if dd_find_50 rfl rfl (fun (c26 : (lcmp_ (rd h 192 v2) (rd h 186 (rd h 182 7))) ≠ 0) => ?_) (fun (c26 : (lcmp_ (rd h 192 v2) (rd h 186 (rd h 182 7))) = 0) => ?_)
        · replace k := k.1 c26
          obtain ⟨s8, k⟩ := k
          refine R_inc (y := v2 + 1) (ls' := [some (.inr (.inr 182)), some (.inl v1), some (.inl (v2 + 1))]) dd_find_73 rfl (by decide) (by omega) s8 rfl rfl ?_
          refine R_goto dd_find_76 rfl ?_
          exact k
        · replace k := k.2 c26
          refine R_ld (v := .inl v1) dd_find_53 rfl rfl rfl rfl ?_
          refine R_if dd_find_54 rfl rfl (fun (c27 : v1 = 0) => ?_) (fun (c27 : v1 ≠ 0) => ?_)
          · replace k := k.1 c27
            refine R_ld (v := .inr (.inr 182)) dd_find_66 rfl rfl rfl rfl ?_
            refine R_gf (v := .inr (.inr 193)) dd_find_67 fd_12_110 io_182 (congrArg (fun z : Int => (Sum.inr (Sum.inr z) : LV)) (rf_182_16 hF)) rfl ?_
            refine R_ld (v := .inl v2) dd_find_70 rfl rfl rfl rfl ?_
            obtain ⟨s9, k⟩ := k
            refine R_iald (v := (rd h 193 v2)) (n := 20) dd_find_71 ia_193 la_193 s9 (rfl) rfl ?_
            exact R_iret dd_find_72 rfl k
          · replace k := k.2 c27
            refine R_ld (v := .inr (.inr 182)) dd_find_57 rfl rfl rfl rfl ?_
            refine R_gf (v := .inr (.inr 194)) dd_find_58 fd_12_113 io_182 (congrArg (fun z : Int => (Sum.inr (Sum.inr z) : LV)) (rf_182_17 hF)) rfl ?_
            refine R_ld (v := .inl v2) dd_find_61 rfl rfl rfl rfl ?_
            obtain ⟨s10, k⟩ := k
            refine R_iald (v := (rd h 194 v2)) (n := 20) dd_find_62 ia_194 la_194 s10 (rfl) rfl ?_
            refine R_goto dd_find_63 rfl ?_
            exact R_iret dd_find_72 rfl k
  · replace k := k.2 c21
    refine R_ld (v := .inr (.inr 182)) dd_find_7 rfl rfl rfl rfl ?_
    refine R_gf (v := .inl (rd h 182 19)) dd_find_8 fd_12_235 io_182 (congrArg (fun z : Int => (Sum.inl z : LV)) (rfl)) rfl ?_
    refine R_goto dd_find_11 rfl ?_
    refine R_icmp dd_find_18 rfl rfl (fun (c28 : (rd h 182 19) ≤ v2) => ?_) (fun (c28 : v2 < (rd h 182 19)) => ?_)
    · replace k := k.1 c28
      refine R_ic dd_find_79 (by decide) rfl ?_
      exact R_iret dd_find_80 rfl k
    · replace k := k.2 c28
      refine R_ld (v := .inl v1) dd_find_21 rfl rfl rfl rfl ?_
      refine R_if dd_find_22 rfl rfl (fun (c29 : v1 = 0) => ?_) (fun (c29 : v1 ≠ 0) => ?_)
      · replace k := k.1 c29
        refine R_ld (v := .inr (.inr 182)) dd_find_34 rfl rfl rfl rfl ?_
        refine R_gf (v := .inr (.inr 191)) dd_find_35 fd_12_104 io_182 (congrArg (fun z : Int => (Sum.inr (Sum.inr z) : LV)) (rf_182_14 hF)) rfl ?_
        refine R_ld (v := .inl v2) dd_find_38 rfl rfl rfl rfl ?_
        obtain ⟨s11, k⟩ := k
        refine R_lald (v := (rd h 191 v2)) (n := 20) dd_find_39 ia_191 la_191 s11 (rfl) rfl ?_
        refine R_ld (v := .inr (.inr 182)) dd_find_40 rfl rfl rfl rfl ?_
        refine R_gf (v := .inr (.inr 186)) dd_find_41 fd_12_30 io_182 (congrArg (fun z : Int => (Sum.inr (Sum.inr z) : LV)) (rf_182_6 hF)) rfl ?_
        refine R_ld (v := .inr (.inr 182)) dd_find_44 rfl rfl rfl rfl ?_
        refine R_gf (v := .inl (rd h 182 7)) dd_find_45 fd_12_207 io_182 (congrArg (fun z : Int => (Sum.inl z : LV)) (rfl)) rfl ?_
        obtain ⟨s12, k⟩ := k
        refine R_lald (v := (rd h 186 (rd h 182 7))) (n := 1002) dd_find_48 ia_186 la_186 s12 (rfl) rfl ?_
        refine R_A dd_find_49 rfl rfl rfl rfl ?_
        refine R_if dd_find_50 rfl rfl (fun (c30 : (lcmp_ (rd h 191 v2) (rd h 186 (rd h 182 7))) ≠ 0) => ?_) (fun (c30 : (lcmp_ (rd h 191 v2) (rd h 186 (rd h 182 7))) = 0) => ?_)
        · replace k := k.1 c30
          obtain ⟨s13, k⟩ := k
          refine R_inc (y := v2 + 1) (ls' := [some (.inr (.inr 182)), some (.inl v1), some (.inl (v2 + 1))]) dd_find_73 rfl (by decide) (by omega) s13 rfl rfl ?_
          refine R_goto dd_find_76 rfl ?_
          exact k
        · replace k := k.2 c30
          refine R_ld (v := .inl v1) dd_find_53 rfl rfl rfl rfl ?_
          refine R_if dd_find_54 rfl rfl (fun (c31 : v1 = 0) => ?_) (fun (c31 : v1 ≠ 0) => ?_)
          · replace k := k.1 c31
            refine R_ld (v := .inr (.inr 182)) dd_find_66 rfl rfl rfl rfl ?_
            refine R_gf (v := .inr (.inr 193)) dd_find_67 fd_12_110 io_182 (congrArg (fun z : Int => (Sum.inr (Sum.inr z) : LV)) (rf_182_16 hF)) rfl ?_
            refine R_ld (v := .inl v2) dd_find_70 rfl rfl rfl rfl ?_
            obtain ⟨s14, k⟩ := k
            refine R_iald (v := (rd h 193 v2)) (n := 20) dd_find_71 ia_193 la_193 s14 (rfl) rfl ?_
            exact R_iret dd_find_72 rfl k
          · replace k := k.2 c31
            refine R_ld (v := .inr (.inr 182)) dd_find_57 rfl rfl rfl rfl ?_
            refine R_gf (v := .inr (.inr 194)) dd_find_58 fd_12_113 io_182 (congrArg (fun z : Int => (Sum.inr (Sum.inr z) : LV)) (rf_182_17 hF)) rfl ?_
            refine R_ld (v := .inl v2) dd_find_61 rfl rfl rfl rfl ?_
            obtain ⟨s15, k⟩ := k
            refine R_iald (v := (rd h 194 v2)) (n := 20) dd_find_62 ia_194 la_194 s15 (rfl) rfl ?_
            refine R_goto dd_find_63 rfl ?_
            exact R_iret dd_find_72 rfl k
      · replace k := k.2 c29
        refine R_ld (v := .inr (.inr 182)) dd_find_25 rfl rfl rfl rfl ?_
        refine R_gf (v := .inr (.inr 192)) dd_find_26 fd_12_107 io_182 (congrArg (fun z : Int => (Sum.inr (Sum.inr z) : LV)) (rf_182_15 hF)) rfl ?_
        refine R_ld (v := .inl v2) dd_find_29 rfl rfl rfl rfl ?_
        obtain ⟨s16, k⟩ := k
        refine R_lald (v := (rd h 192 v2)) (n := 20) dd_find_30 ia_192 la_192 s16 (rfl) rfl ?_
        refine R_goto dd_find_31 rfl ?_
        refine R_ld (v := .inr (.inr 182)) dd_find_40 rfl rfl rfl rfl ?_
        refine R_gf (v := .inr (.inr 186)) dd_find_41 fd_12_30 io_182 (congrArg (fun z : Int => (Sum.inr (Sum.inr z) : LV)) (rf_182_6 hF)) rfl ?_
        refine R_ld (v := .inr (.inr 182)) dd_find_44 rfl rfl rfl rfl ?_
        refine R_gf (v := .inl (rd h 182 7)) dd_find_45 fd_12_207 io_182 (congrArg (fun z : Int => (Sum.inl z : LV)) (rfl)) rfl ?_
        obtain ⟨s17, k⟩ := k
        refine R_lald (v := (rd h 186 (rd h 182 7))) (n := 1002) dd_find_48 ia_186 la_186 s17 (rfl) rfl ?_
        refine R_A dd_find_49 rfl rfl rfl rfl ?_
        refine R_if dd_find_50 rfl rfl (fun (c32 : (lcmp_ (rd h 192 v2) (rd h 186 (rd h 182 7))) ≠ 0) => ?_) (fun (c32 : (lcmp_ (rd h 192 v2) (rd h 186 (rd h 182 7))) = 0) => ?_)
        · replace k := k.1 c32
          obtain ⟨s18, k⟩ := k
          refine R_inc (y := v2 + 1) (ls' := [some (.inr (.inr 182)), some (.inl v1), some (.inl (v2 + 1))]) dd_find_73 rfl (by decide) (by omega) s18 rfl rfl ?_
          refine R_goto dd_find_76 rfl ?_
          exact k
        · replace k := k.2 c32
          refine R_ld (v := .inl v1) dd_find_53 rfl rfl rfl rfl ?_
          refine R_if dd_find_54 rfl rfl (fun (c33 : v1 = 0) => ?_) (fun (c33 : v1 ≠ 0) => ?_)
          · replace k := k.1 c33
            refine R_ld (v := .inr (.inr 182)) dd_find_66 rfl rfl rfl rfl ?_
            refine R_gf (v := .inr (.inr 193)) dd_find_67 fd_12_110 io_182 (congrArg (fun z : Int => (Sum.inr (Sum.inr z) : LV)) (rf_182_16 hF)) rfl ?_
            refine R_ld (v := .inl v2) dd_find_70 rfl rfl rfl rfl ?_
            obtain ⟨s19, k⟩ := k
            refine R_iald (v := (rd h 193 v2)) (n := 20) dd_find_71 ia_193 la_193 s19 (rfl) rfl ?_
            exact R_iret dd_find_72 rfl k
          · replace k := k.2 c33
            refine R_ld (v := .inr (.inr 182)) dd_find_57 rfl rfl rfl rfl ?_
            refine R_gf (v := .inr (.inr 194)) dd_find_58 fd_12_113 io_182 (congrArg (fun z : Int => (Sum.inr (Sum.inr z) : LV)) (rf_182_17 hF)) rfl ?_
            refine R_ld (v := .inl v2) dd_find_61 rfl rfl rfl rfl ?_
            obtain ⟨s20, k⟩ := k
            refine R_iald (v := (rd h 194 v2)) (n := 20) dd_find_62 ia_194 la_194 s20 (rfl) rfl ?_
            refine R_goto dd_find_63 rfl ?_
            exact R_iret dd_find_72 rfl k
theorem B_readName_0 {xs : Nat → Int} {xl e : Nat} {h : LH} {Q : Option LV → LH → Prop} {v1 : Int} (hF : RF h)
    (k : (-2147483648 ≤ (rd h 182 7) + 1 ∧ (rd h 182 7) + 1 ≤ 2147483647) ∧
      (∃ c, c < e ∧ Rn xs xl c mm_isName 0 [some (.inr (.inr 182))] [] (wr h 182 7 ((rd h 182 7) + 1)) (fun r h' => Rn xs xl e mm_readName 14 [some (.inr (.inr 182)), some (.inl v1)] (r.toList ++ []) h' Q))) :
    Rn xs xl e mm_readName 0 [some (.inr (.inr 182)), some (.inl v1)] [] h Q := by
  refine R_ld (v := .inr (.inr 182)) dd_readName_0 rfl rfl rfl rfl ?_
  refine R_A dd_readName_1 rfl rfl rfl rfl ?_
  refine R_gf (v := .inl (rd h 182 7)) dd_readName_2 fd_12_207 io_182 (congrArg (fun z : Int => (Sum.inl z : LV)) (rfl)) rfl ?_
  refine R_ic dd_readName_5 (by decide) rfl ?_
  obtain ⟨s1, k⟩ := k
  refine R_iadd (c := (rd h 182 7) + 1) dd_readName_6 (by omega) s1 rfl ?_
  refine R_pf (z := ((rd h 182 7) + 1)) dd_readName_7 fd_12_207 io_182 fn_12_7 rfl rfl ?_
  refine R_ld (v := .inr (.inr 182)) dd_readName_10 rfl rfl rfl rfl ?_
  obtain ⟨c, hc, k⟩ := k
  exact R_call (as := [.inr (.inr 182)]) (rest := []) (M' := mm_isName) (ls0 := [some (.inr (.inr 182))]) dd_readName_11 rfl rfl (cw_v cw_12_259 io_182 rfl rfl (Nat.le_of_ble_eq_true rfl) (Nat.le_of_ble_eq_true rfl)) mt_isName rfl hc rfl k
theorem B_readName_14_1 {xs : Nat → Int} {xl e : Nat} {h : LH} {Q : Option LV → LH → Prop} {v1 : Int} (hF : RF h)
    (k : (∃ c, c < e ∧ Rn xs xl c mm_find 0 [some (.inr (.inr 182)), some (.inl 1), none] [] h (fun r h' => Rn xs xl e mm_readName 30 [some (.inr (.inr 182)), some (.inl v1)] (r.toList ++ []) h' Q))) :
    Rn xs xl e mm_readName 14 [some (.inr (.inr 182)), some (.inl v1)] [.inl 1] h Q := by
  refine R_if dd_readName_14 rfl rfl (fun (c2 : 1 ≠ 0) => ?_) (fun (c2 : 1 = 0) => ?_)
  · skip
    refine R_ld (v := .inr (.inr 182)) dd_readName_25 rfl rfl rfl rfl ?_
    refine R_ic dd_readName_26 (by decide) rfl ?_
    obtain ⟨c, hc, k⟩ := k
    exact R_call (as := [.inr (.inr 182), .inl 1]) (rest := []) (M' := mm_find) (ls0 := [some (.inr (.inr 182)), some (.inl 1), none]) dd_readName_27 rfl rfl (cw_v cw_12_263 io_182 rfl rfl (Nat.le_of_ble_eq_true rfl) (Nat.le_of_ble_eq_true rfl)) mt_find rfl hc rfl k
  · exact absurd c2 (by omega)
theorem B_readName_14_0 {xs : Nat → Int} {xl e : Nat} {h : LH} {Q : Option LV → LH → Prop} {v1 : Int} (hF : RF h)
    (k : (∃ c, c < e ∧ Rn xs xl c mm_wrong 0 [some (.inr (.inr 182)), some (.inl 1)] [] h (fun r h' => Rn xs xl e mm_readName 22 [some (.inr (.inr 182)), some (.inl v1)] (r.toList ++ []) h' Q))) :
    Rn xs xl e mm_readName 14 [some (.inr (.inr 182)), some (.inl v1)] [.inl 0] h Q := by
  refine R_if dd_readName_14 rfl rfl (fun (c2 : 0 ≠ 0) => ?_) (fun (c2 : 0 = 0) => ?_)
  · exact absurd c2 (by omega)
  · skip
    refine R_ld (v := .inr (.inr 182)) dd_readName_17 rfl rfl rfl rfl ?_
    refine R_ic dd_readName_18 (by decide) rfl ?_
    obtain ⟨c, hc, k⟩ := k
    exact R_call (as := [.inr (.inr 182), .inl 1]) (rest := []) (M' := mm_wrong) (ls0 := [some (.inr (.inr 182)), some (.inl 1)]) dd_readName_19 rfl rfl (cw_v cw_12_216 io_182 rfl rfl (Nat.le_of_ble_eq_true rfl) (Nat.le_of_ble_eq_true rfl)) mt_wrong rfl hc rfl k
theorem B_readName_22 {xs : Nat → Int} {xl e : Nat} {h : LH} {Q : Option LV → LH → Prop} {v1 : Int} (hF : RF h)
    (k : Rn xs xl e mm_readName 38 [some (.inr (.inr 182)), some (.inl v1)] [] h Q) :
    Rn xs xl e mm_readName 22 [some (.inr (.inr 182)), some (.inl v1)] [] h Q := by
  refine R_goto dd_readName_22 rfl ?_
  exact k
theorem B_readName_30 {xs : Nat → Int} {xl e : Nat} {h : LH} {Q : Option LV → LH → Prop} {v1 w0 : Int} (hF : RF h)
    (k : (w0 < 0 →
        Rn xs xl e mm_readName 38 [some (.inr (.inr 182)), some (.inl v1)] [] h Q) ∧
      (0 ≤ w0 →
        (∃ c, c < e ∧ Rn xs xl c mm_wrong 0 [some (.inr (.inr 182)), some (.inl 3)] [] h (fun r h' => Rn xs xl e mm_readName 38 [some (.inr (.inr 182)), some (.inl v1)] (r.toList ++ []) h' Q)))) :
    Rn xs xl e mm_readName 30 [some (.inr (.inr 182)), some (.inl v1)] [.inl w0] h Q := by
  refine R_if dd_readName_30 rfl rfl (fun (c2 : w0 < 0) => ?_) (fun (c2 : 0 ≤ w0) => ?_)
  · replace k := k.1 c2
    exact k
  · replace k := k.2 c2
    refine R_ld (v := .inr (.inr 182)) dd_readName_33 rfl rfl rfl rfl ?_
    refine R_ic dd_readName_34 (by decide) rfl ?_
    obtain ⟨c, hc, k⟩ := k
    exact R_call (as := [.inr (.inr 182), .inl 3]) (rest := []) (M' := mm_wrong) (ls0 := [some (.inr (.inr 182)), some (.inl 3)]) dd_readName_35 rfl rfl (cw_v cw_12_216 io_182 rfl rfl (Nat.le_of_ble_eq_true rfl) (Nat.le_of_ble_eq_true rfl)) mt_wrong rfl hc rfl k
theorem B_readName_38 {xs : Nat → Int} {xl e : Nat} {h : LH} {Q : Option LV → LH → Prop} {v1 : Int} (hF : RF h)
    (k : ((rd h 182 8) ≠ 0 →
        Q none h) ∧
      ((rd h 182 8) = 0 →
        (0 ≤ (rd h 182 7) ∧ (rd h 182 7) < 1002) ∧
        (0 ≤ (rd h 182 19) ∧ (rd h 182 19) < 20) ∧
        (0 ≤ (rd h 182 19) ∧ (rd h 182 19) < 20) ∧
        (-2147483648 ≤ (rd h 182 19) + 1 ∧ (rd h 182 19) + 1 ≤ 2147483647) ∧
        (-2147483648 ≤ (rd h 182 7) + 1 ∧ (rd h 182 7) + 1 ≤ 2147483647) ∧
        Q none (wr (wr (wr (wr h 192 (rd h 182 19) (rd h 186 (rd h 182 7))) 194 (rd h 182 19) v1) 182 19 ((rd h 182 19) + 1)) 182 7 ((rd h 182 7) + 1)))) :
    Rn xs xl e mm_readName 38 [some (.inr (.inr 182)), some (.inl v1)] [] h Q := by
  refine R_ld (v := .inr (.inr 182)) dd_readName_38 rfl rfl rfl rfl ?_
  refine R_gf (v := .inl (rd h 182 8)) dd_readName_39 fd_12_210 io_182 (congrArg (fun z : Int => (Sum.inl z : LV)) (rfl)) rfl ?_
  refine R_if dd_readName_42 rfl rfl (fun (c6 : (rd h 182 8) ≠ 0) => ?_) (fun (c6 : (rd h 182 8) = 0) => ?_)
  · replace k := k.1 c6
    exact R_vret dd_readName_93 rfl k
  · replace k := k.2 c6
    refine R_ld (v := .inr (.inr 182)) dd_readName_45 rfl rfl rfl rfl ?_
    refine R_gf (v := .inr (.inr 192)) dd_readName_46 fd_12_107 io_182 (congrArg (fun z : Int => (Sum.inr (Sum.inr z) : LV)) (rf_182_15 hF)) rfl ?_
    refine R_ld (v := .inr (.inr 182)) dd_readName_49 rfl rfl rfl rfl ?_
    refine R_gf (v := .inl (rd h 182 19)) dd_readName_50 fd_12_235 io_182 (congrArg (fun z : Int => (Sum.inl z : LV)) (rfl)) rfl ?_
    refine R_ld (v := .inr (.inr 182)) dd_readName_53 rfl rfl rfl rfl ?_
    refine R_gf (v := .inr (.inr 186)) dd_readName_54 fd_12_30 io_182 (congrArg (fun z : Int => (Sum.inr (Sum.inr z) : LV)) (rf_182_6 hF)) rfl ?_
    refine R_ld (v := .inr (.inr 182)) dd_readName_57 rfl rfl rfl rfl ?_
    refine R_gf (v := .inl (rd h 182 7)) dd_readName_58 fd_12_207 io_182 (congrArg (fun z : Int => (Sum.inl z : LV)) (rfl)) rfl ?_
    obtain ⟨s1, k⟩ := k
    refine R_lald (v := (rd h 186 (rd h 182 7))) (n := 1002) dd_readName_61 ia_186 la_186 s1 (rfl) rfl ?_
    obtain ⟨s2, k⟩ := k
    refine R_last (n := 20) dd_readName_62 ia_192 la_192 s2 rfl ?_
    refine R_ld (v := .inr (.inr 182)) dd_readName_63 rfl rfl rfl rfl ?_
    refine R_gf (v := .inr (.inr 194)) dd_readName_64 fd_12_113 io_182 (congrArg (fun z : Int => (Sum.inr (Sum.inr z) : LV)) ((rdw_ne (by decide)).trans (rf_182_17 hF))) rfl ?_
    refine R_ld (v := .inr (.inr 182)) dd_readName_67 rfl rfl rfl rfl ?_
    refine R_gf (v := .inl (rd h 182 19)) dd_readName_68 fd_12_235 io_182 (congrArg (fun z : Int => (Sum.inl z : LV)) (rdw_ne (by decide))) rfl ?_
    refine R_ld (v := .inl v1) dd_readName_71 rfl rfl rfl rfl ?_
    obtain ⟨s3, k⟩ := k
    refine R_iast (n := 20) dd_readName_72 ia_194 la_194 s3 rfl ?_
    refine R_ld (v := .inr (.inr 182)) dd_readName_73 rfl rfl rfl rfl ?_
    refine R_A dd_readName_74 rfl rfl rfl rfl ?_
    refine R_gf (v := .inl (rd h 182 19)) dd_readName_75 fd_12_235 io_182 (congrArg (fun z : Int => (Sum.inl z : LV)) ((rdw_ne (by decide)).trans (rdw_ne (by decide)))) rfl ?_
    refine R_ic dd_readName_78 (by decide) rfl ?_
    obtain ⟨s4, k⟩ := k
    refine R_iadd (c := (rd h 182 19) + 1) dd_readName_79 (by omega) s4 rfl ?_
    refine R_pf (z := ((rd h 182 19) + 1)) dd_readName_80 fd_12_235 io_182 fn_12_19 rfl rfl ?_
    refine R_ld (v := .inr (.inr 182)) dd_readName_83 rfl rfl rfl rfl ?_
    refine R_A dd_readName_84 rfl rfl rfl rfl ?_
    refine R_gf (v := .inl (rd h 182 7)) dd_readName_85 fd_12_207 io_182 (congrArg (fun z : Int => (Sum.inl z : LV)) ((rdw_nei (by omega)).trans ((rdw_ne (by decide)).trans (rdw_ne (by decide))))) rfl ?_
    refine R_ic dd_readName_88 (by decide) rfl ?_
    obtain ⟨s5, k⟩ := k
    refine R_iadd (c := (rd h 182 7) + 1) dd_readName_89 (by omega) s5 rfl ?_
    refine R_pf (z := ((rd h 182 7) + 1)) dd_readName_90 fd_12_207 io_182 fn_12_7 rfl rfl ?_
    exact R_vret dd_readName_93 rfl k
theorem B_takeRoom_0 {xs : Nat → Int} {xl e : Nat} {h : LH} {Q : Option LV → LH → Prop} (hF : RF h)
    (k : (-2147483648 ≤ (rd h 188 150) - 1 ∧ (rd h 188 150) - 1 ≤ 2147483647) ∧
      (∃ c, c < e ∧ Rn xs xl c mm_takeNumber 0 [some (.inr (.inr 182)), some (.inl 0), some (.inl ((rd h 188 150) - 1))] [] h (fun r h' => Rn xs xl e mm_takeRoom 15 [some (.inr (.inr 182))] (r.toList ++ []) h' Q))) :
    Rn xs xl e mm_takeRoom 0 [some (.inr (.inr 182))] [] h Q := by
  refine R_ld (v := .inr (.inr 182)) dd_takeRoom_0 rfl rfl rfl rfl ?_
  refine R_ic dd_takeRoom_1 (by decide) rfl ?_
  refine R_ld (v := .inr (.inr 182)) dd_takeRoom_2 rfl rfl rfl rfl ?_
  refine R_gf (v := .inr (.inr 188)) dd_takeRoom_3 fd_12_95 io_182 (congrArg (fun z : Int => (Sum.inr (Sum.inr z) : LV)) (rf_182_10 hF)) rfl ?_
  refine R_si dd_takeRoom_6 (by decide) rfl ?_
  refine R_iald (v := (rd h 188 150)) (n := 300) dd_takeRoom_9 ia_188 la_188 (by decide) (rfl) rfl ?_
  refine R_ic dd_takeRoom_10 (by decide) rfl ?_
  obtain ⟨s1, k⟩ := k
  refine R_isub (c := (rd h 188 150) - 1) dd_takeRoom_11 (by omega) s1 rfl ?_
  obtain ⟨c, hc, k⟩ := k
  exact R_call (as := [.inr (.inr 182), .inl 0, .inl ((rd h 188 150) - 1)]) (rest := []) (M' := mm_takeNumber) (ls0 := [some (.inr (.inr 182)), some (.inl 0), some (.inl ((rd h 188 150) - 1))]) dd_takeRoom_12 rfl rfl (cw_v cw_12_228 io_182 rfl rfl (Nat.le_of_ble_eq_true rfl) (Nat.le_of_ble_eq_true rfl)) mt_takeNumber rfl hc rfl k
theorem B_takeRoom_15 {xs : Nat → Int} {xl e : Nat} {h : LH} {Q : Option LV → LH → Prop} {w0 : Int} (hF : RF h)
    (k : Q (some (.inl w0)) h) :
    Rn xs xl e mm_takeRoom 15 [some (.inr (.inr 182))] [.inl w0] h Q := by
  exact R_iret dd_takeRoom_15 rfl k
theorem B_takeSort_0 {xs : Nat → Int} {xl e : Nat} {h : LH} {Q : Option LV → LH → Prop} (hF : RF h)
    (k : ((rd h 182 8) ≤ 0 →
        (∃ c, c < e ∧ Rn xs xl c mm_wordHere 0 [some (.inr (.inr 182)), some (.inl 18), some (.inl 4), none, none] [] h (fun r h' => Rn xs xl e mm_takeSort 18 [some (.inr (.inr 182)), none] (r.toList ++ []) h' Q))) ∧
      (0 < (rd h 182 8) →
        Rn xs xl e mm_takeSort 18 [some (.inr (.inr 182)), none] [.inl (-1)] h Q)) :
    Rn xs xl e mm_takeSort 0 [some (.inr (.inr 182)), none] [] h Q := by
  refine R_ld (v := .inr (.inr 182)) dd_takeSort_0 rfl rfl rfl rfl ?_
  refine R_gf (v := .inl (rd h 182 8)) dd_takeSort_1 fd_12_210 io_182 (congrArg (fun z : Int => (Sum.inl z : LV)) (rfl)) rfl ?_
  refine R_if dd_takeSort_4 rfl rfl (fun (c2 : (rd h 182 8) ≤ 0) => ?_) (fun (c2 : 0 < (rd h 182 8)) => ?_)
  · replace k := k.1 c2
    refine R_ld (v := .inr (.inr 182)) dd_takeSort_11 rfl rfl rfl rfl ?_
    refine R_bi dd_takeSort_12 (by decide) rfl ?_
    refine R_ic dd_takeSort_14 (by decide) rfl ?_
    obtain ⟨c, hc, k⟩ := k
    exact R_call (as := [.inr (.inr 182), .inl 18, .inl 4]) (rest := []) (M' := mm_wordHere) (ls0 := [some (.inr (.inr 182)), some (.inl 18), some (.inl 4), none, none]) dd_takeSort_15 rfl rfl (cw_v cw_12_232 io_182 rfl rfl (Nat.le_of_ble_eq_true rfl) (Nat.le_of_ble_eq_true rfl)) mt_wordHere rfl hc rfl k
  · replace k := k.2 c2
    refine R_ic dd_takeSort_7 (by decide) rfl ?_
    refine R_goto dd_takeSort_8 rfl ?_
    exact k
theorem B_takeSort_18 {xs : Nat → Int} {xl e : Nat} {h : LH} {Q : Option LV → LH → Prop} {w0 : Int} (hF : RF h)
    (k : (0 ≤ w0 →
        (-2147483648 ≤ (rd h 182 7) + 1 ∧ (rd h 182 7) + 1 ≤ 2147483647) ∧
        Q (some (.inl w0)) (wr h 182 7 ((rd h 182 7) + 1))) ∧
      (w0 < 0 →
        (∃ c, c < e ∧ Rn xs xl c mm_wrong 0 [some (.inr (.inr 182)), some (.inl 1)] [] h (fun r h' => Rn xs xl e mm_takeSort 28 [some (.inr (.inr 182)), some (.inl w0)] (r.toList ++ []) h' Q)))) :
    Rn xs xl e mm_takeSort 18 [some (.inr (.inr 182)), none] [.inl w0] h Q := by
  refine R_st (ls' := [some (.inr (.inr 182)), some (.inl w0)]) dd_takeSort_18 rfl rfl rfl (Nat.le_of_ble_eq_true rfl) rfl rfl ?_
  refine R_ld (v := .inl w0) dd_takeSort_19 rfl rfl rfl rfl ?_
  refine R_if dd_takeSort_20 rfl rfl (fun (c3 : 0 ≤ w0) => ?_) (fun (c3 : w0 < 0) => ?_)
  · replace k := k.1 c3
    refine R_ld (v := .inr (.inr 182)) dd_takeSort_30 rfl rfl rfl rfl ?_
    refine R_A dd_takeSort_31 rfl rfl rfl rfl ?_
    refine R_gf (v := .inl (rd h 182 7)) dd_takeSort_32 fd_12_207 io_182 (congrArg (fun z : Int => (Sum.inl z : LV)) (rfl)) rfl ?_
    refine R_ic dd_takeSort_35 (by decide) rfl ?_
    obtain ⟨s1, k⟩ := k
    refine R_iadd (c := (rd h 182 7) + 1) dd_takeSort_36 (by omega) s1 rfl ?_
    refine R_pf (z := ((rd h 182 7) + 1)) dd_takeSort_37 fd_12_207 io_182 fn_12_7 rfl rfl ?_
    refine R_ld (v := .inl w0) dd_takeSort_40 rfl rfl rfl rfl ?_
    exact R_iret dd_takeSort_41 rfl k
  · replace k := k.2 c3
    refine R_ld (v := .inr (.inr 182)) dd_takeSort_23 rfl rfl rfl rfl ?_
    refine R_ic dd_takeSort_24 (by decide) rfl ?_
    obtain ⟨c, hc, k⟩ := k
    exact R_call (as := [.inr (.inr 182), .inl 1]) (rest := []) (M' := mm_wrong) (ls0 := [some (.inr (.inr 182)), some (.inl 1)]) dd_takeSort_25 rfl rfl (cw_v cw_12_216 io_182 rfl rfl (Nat.le_of_ble_eq_true rfl) (Nat.le_of_ble_eq_true rfl)) mt_wrong rfl hc rfl k
theorem B_takeSort_28 {xs : Nat → Int} {xl e : Nat} {h : LH} {Q : Option LV → LH → Prop} {v1 : Int} (hF : RF h)
    (k : Q (some (.inl 0)) h) :
    Rn xs xl e mm_takeSort 28 [some (.inr (.inr 182)), some (.inl v1)] [] h Q := by
  refine R_ic dd_takeSort_28 (by decide) rfl ?_
  exact R_iret dd_takeSort_29 rfl k
theorem B_readPerson_0 {xs : Nat → Int} {xl e : Nat} {h : LH} {Q : Option LV → LH → Prop} (hF : RF h)
    (k : ((rd h 188 152) ≠ 6 →
        (-2147483648 ≤ (rd h 188 152) + 20 ∧ (rd h 188 152) + 20 ≤ 2147483647) ∧
        (∃ c, c < e ∧ Rn xs xl c mm_readName 0 [some (.inr (.inr 182)), some (.inl ((rd h 188 152) + 20))] [] h (fun r h' => Rn xs xl e mm_readPerson 29 [some (.inr (.inr 182)), some (.inl (rd h 188 152)), none] (r.toList ++ []) h' Q))) ∧
      ((rd h 188 152) = 6 →
        (∃ c, c < e ∧ Rn xs xl c mm_wrong 0 [some (.inr (.inr 182)), some (.inl 5)] [] h (fun r h' => Rn xs xl e mm_readPerson 20 [some (.inr (.inr 182)), some (.inl (rd h 188 152)), none] (r.toList ++ []) h' Q)))) :
    Rn xs xl e mm_readPerson 0 [some (.inr (.inr 182)), none, none] [] h Q := by
  refine R_ld (v := .inr (.inr 182)) dd_readPerson_0 rfl rfl rfl rfl ?_
  refine R_gf (v := .inr (.inr 188)) dd_readPerson_1 fd_12_95 io_182 (congrArg (fun z : Int => (Sum.inr (Sum.inr z) : LV)) (rf_182_10 hF)) rfl ?_
  refine R_si dd_readPerson_4 (by decide) rfl ?_
  refine R_iald (v := (rd h 188 152)) (n := 300) dd_readPerson_7 ia_188 la_188 (by decide) (rfl) rfl ?_
  refine R_st (ls' := [some (.inr (.inr 182)), some (.inl (rd h 188 152)), none]) dd_readPerson_8 rfl rfl rfl (Nat.le_of_ble_eq_true rfl) rfl rfl ?_
  refine R_ld (v := .inl (rd h 188 152)) dd_readPerson_9 rfl rfl rfl rfl ?_
  refine R_bi dd_readPerson_10 (by decide) rfl ?_
  refine R_icmp dd_readPerson_12 rfl rfl (fun (c4 : (rd h 188 152) ≠ 6) => ?_) (fun (c4 : (rd h 188 152) = 6) => ?_)
  · replace k := k.1 c4
    refine R_ld (v := .inr (.inr 182)) dd_readPerson_21 rfl rfl rfl rfl ?_
    refine R_bi dd_readPerson_22 (by decide) rfl ?_
    refine R_ld (v := .inl (rd h 188 152)) dd_readPerson_24 rfl rfl rfl rfl ?_
    obtain ⟨s1, k⟩ := k
    refine R_iadd (c := (rd h 188 152) + 20) dd_readPerson_25 (by omega) s1 rfl ?_
    obtain ⟨c, hc, k⟩ := k
    exact R_call (as := [.inr (.inr 182), .inl ((rd h 188 152) + 20)]) (rest := []) (M' := mm_readName) (ls0 := [some (.inr (.inr 182)), some (.inl ((rd h 188 152) + 20))]) dd_readPerson_26 rfl rfl (cw_v cw_12_267 io_182 rfl rfl (Nat.le_of_ble_eq_true rfl) (Nat.le_of_ble_eq_true rfl)) mt_readName rfl hc rfl k
  · replace k := k.2 c4
    refine R_ld (v := .inr (.inr 182)) dd_readPerson_15 rfl rfl rfl rfl ?_
    refine R_ic dd_readPerson_16 (by decide) rfl ?_
    obtain ⟨c, hc, k⟩ := k
    exact R_call (as := [.inr (.inr 182), .inl 5]) (rest := []) (M' := mm_wrong) (ls0 := [some (.inr (.inr 182)), some (.inl 5)]) dd_readPerson_17 rfl rfl (cw_v cw_12_216 io_182 rfl rfl (Nat.le_of_ble_eq_true rfl) (Nat.le_of_ble_eq_true rfl)) mt_wrong rfl hc rfl k
theorem B_readPerson_20 {xs : Nat → Int} {xl e : Nat} {h : LH} {Q : Option LV → LH → Prop} {v1 : Int} (hF : RF h)
    (k : Q none h) :
    Rn xs xl e mm_readPerson 20 [some (.inr (.inr 182)), some (.inl v1), none] [] h Q := by
  exact R_vret dd_readPerson_20 rfl k
theorem B_readPerson_29 {xs : Nat → Int} {xl e : Nat} {h : LH} {Q : Option LV → LH → Prop} {v1 : Int} (hF : RF h)
    (k : (-2147483648 ≤ 4 * v1 ∧ 4 * v1 ≤ 2147483647) ∧
      (-2147483648 ≤ 4 * v1 + 266 ∧ 4 * v1 + 266 ≤ 2147483647) ∧
      (∃ c, c < e ∧ Rn xs xl c mm_takeSort 0 [some (.inr (.inr 182)), none] [] h (fun r h' => Rn xs xl e mm_readPerson 46 [some (.inr (.inr 182)), some (.inl v1), some (.inl (4 * v1 + 266))] (r.toList ++ [.inl (4 * v1 + 266), .inr (.inr 188)]) h' Q))) :
    Rn xs xl e mm_readPerson 29 [some (.inr (.inr 182)), some (.inl v1), none] [] h Q := by
  refine R_si dd_readPerson_29 (by decide) rfl ?_
  refine R_ic dd_readPerson_32 (by decide) rfl ?_
  refine R_ld (v := .inl v1) dd_readPerson_33 rfl rfl rfl rfl ?_
  obtain ⟨s1, k⟩ := k
  refine R_imul (c := 4 * v1) dd_readPerson_34 (by omega) s1 rfl ?_
  obtain ⟨s2, k⟩ := k
  refine R_iadd (c := 4 * v1 + 266) dd_readPerson_35 (by omega) s2 rfl ?_
  refine R_st (ls' := [some (.inr (.inr 182)), some (.inl v1), some (.inl (4 * v1 + 266))]) dd_readPerson_36 rfl rfl rfl (Nat.le_of_ble_eq_true rfl) rfl rfl ?_
  refine R_ld (v := .inr (.inr 182)) dd_readPerson_37 rfl rfl rfl rfl ?_
  refine R_gf (v := .inr (.inr 188)) dd_readPerson_38 fd_12_95 io_182 (congrArg (fun z : Int => (Sum.inr (Sum.inr z) : LV)) (rf_182_10 hF)) rfl ?_
  refine R_ld (v := .inl (4 * v1 + 266)) dd_readPerson_41 rfl rfl rfl rfl ?_
  refine R_ld (v := .inr (.inr 182)) dd_readPerson_42 rfl rfl rfl rfl ?_
  obtain ⟨c, hc, k⟩ := k
  exact R_call (as := [.inr (.inr 182)]) (rest := [.inl (4 * v1 + 266), .inr (.inr 188)]) (M' := mm_takeSort) (ls0 := [some (.inr (.inr 182)), none]) dd_readPerson_43 rfl rfl (cw_v cw_12_278 io_182 rfl rfl (Nat.le_of_ble_eq_true rfl) (Nat.le_of_ble_eq_true rfl)) mt_takeSort rfl hc rfl k
theorem B_readPerson_46 {xs : Nat → Int} {xl e : Nat} {h : LH} {Q : Option LV → LH → Prop} {v1 v2 w1 w2 : Int} (hF : RF h)
    (k : (0 ≤ w1 ∧ w1 < 300) ∧
      (∃ c, c < e ∧ Rn xs xl c mm_takeWord 0 [some (.inr (.inr 182)), some (.inl 8)] [] (wr h 188 w1 w2) (fun r h' => Rn xs xl e mm_readPerson 53 [some (.inr (.inr 182)), some (.inl v1), some (.inl v2)] (r.toList ++ []) h' Q))) :
    Rn xs xl e mm_readPerson 46 [some (.inr (.inr 182)), some (.inl v1), some (.inl v2)] [.inl w2, .inl w1, .inr (.inr 188)] h Q := by
  obtain ⟨s1, k⟩ := k
  refine R_iast (n := 300) dd_readPerson_46 ia_188 la_188 s1 rfl ?_
  refine R_ld (v := .inr (.inr 182)) dd_readPerson_47 rfl rfl rfl rfl ?_
  refine R_bi dd_readPerson_48 (by decide) rfl ?_
  obtain ⟨c, hc, k⟩ := k
  exact R_call (as := [.inr (.inr 182), .inl 8]) (rest := []) (M' := mm_takeWord) (ls0 := [some (.inr (.inr 182)), some (.inl 8)]) dd_readPerson_50 rfl rfl (cw_v cw_12_225 io_182 rfl rfl (Nat.le_of_ble_eq_true rfl) (Nat.le_of_ble_eq_true rfl)) mt_takeWord rfl hc rfl k
theorem B_readPerson_53 {xs : Nat → Int} {xl e : Nat} {h : LH} {Q : Option LV → LH → Prop} {v1 v2 : Int} (hF : RF h)
    (k : (-2147483648 ≤ v2 + 1 ∧ v2 + 1 ≤ 2147483647) ∧
      (∃ c, c < e ∧ Rn xs xl c mm_takeRoom 0 [some (.inr (.inr 182))] [] h (fun r h' => Rn xs xl e mm_readPerson 64 [some (.inr (.inr 182)), some (.inl v1), some (.inl v2)] (r.toList ++ [.inl (v2 + 1), .inr (.inr 188)]) h' Q))) :
    Rn xs xl e mm_readPerson 53 [some (.inr (.inr 182)), some (.inl v1), some (.inl v2)] [] h Q := by
  refine R_ld (v := .inr (.inr 182)) dd_readPerson_53 rfl rfl rfl rfl ?_
  refine R_gf (v := .inr (.inr 188)) dd_readPerson_54 fd_12_95 io_182 (congrArg (fun z : Int => (Sum.inr (Sum.inr z) : LV)) (rf_182_10 hF)) rfl ?_
  refine R_ld (v := .inl v2) dd_readPerson_57 rfl rfl rfl rfl ?_
  refine R_ic dd_readPerson_58 (by decide) rfl ?_
  obtain ⟨s1, k⟩ := k
  refine R_iadd (c := v2 + 1) dd_readPerson_59 (by omega) s1 rfl ?_
  refine R_ld (v := .inr (.inr 182)) dd_readPerson_60 rfl rfl rfl rfl ?_
  obtain ⟨c, hc, k⟩ := k
  exact R_call (as := [.inr (.inr 182)]) (rest := [.inl (v2 + 1), .inr (.inr 188)]) (M' := mm_takeRoom) (ls0 := [some (.inr (.inr 182))]) dd_readPerson_61 rfl rfl (cw_v cw_12_270 io_182 rfl rfl (Nat.le_of_ble_eq_true rfl) (Nat.le_of_ble_eq_true rfl)) mt_takeRoom rfl hc rfl k
theorem B_readPerson_64 {xs : Nat → Int} {xl e : Nat} {h : LH} {Q : Option LV → LH → Prop} {v1 v2 w1 w2 : Int} (hF : RF h)
    (k : (0 ≤ w1 ∧ w1 < 300) ∧
      (∃ c, c < e ∧ Rn xs xl c mm_takeWord 0 [some (.inr (.inr 182)), some (.inl 9)] [] (wr h 188 w1 w2) (fun r h' => Rn xs xl e mm_readPerson 71 [some (.inr (.inr 182)), some (.inl v1), some (.inl v2)] (r.toList ++ []) h' Q))) :
    Rn xs xl e mm_readPerson 64 [some (.inr (.inr 182)), some (.inl v1), some (.inl v2)] [.inl w2, .inl w1, .inr (.inr 188)] h Q := by
  obtain ⟨s1, k⟩ := k
  refine R_iast (n := 300) dd_readPerson_64 ia_188 la_188 s1 rfl ?_
  refine R_ld (v := .inr (.inr 182)) dd_readPerson_65 rfl rfl rfl rfl ?_
  refine R_bi dd_readPerson_66 (by decide) rfl ?_
  obtain ⟨c, hc, k⟩ := k
  exact R_call (as := [.inr (.inr 182), .inl 9]) (rest := []) (M' := mm_takeWord) (ls0 := [some (.inr (.inr 182)), some (.inl 9)]) dd_readPerson_68 rfl rfl (cw_v cw_12_225 io_182 rfl rfl (Nat.le_of_ble_eq_true rfl) (Nat.le_of_ble_eq_true rfl)) mt_takeWord rfl hc rfl k
theorem B_readPerson_71 {xs : Nat → Int} {xl e : Nat} {h : LH} {Q : Option LV → LH → Prop} {v1 v2 : Int} (hF : RF h)
    (k : (-2147483648 ≤ v2 + 2 ∧ v2 + 2 ≤ 2147483647) ∧
      (∃ c, c < e ∧ Rn xs xl c mm_takeRoom 0 [some (.inr (.inr 182))] [] h (fun r h' => Rn xs xl e mm_readPerson 82 [some (.inr (.inr 182)), some (.inl v1), some (.inl v2)] (r.toList ++ [.inl (v2 + 2), .inr (.inr 188)]) h' Q))) :
    Rn xs xl e mm_readPerson 71 [some (.inr (.inr 182)), some (.inl v1), some (.inl v2)] [] h Q := by
  refine R_ld (v := .inr (.inr 182)) dd_readPerson_71 rfl rfl rfl rfl ?_
  refine R_gf (v := .inr (.inr 188)) dd_readPerson_72 fd_12_95 io_182 (congrArg (fun z : Int => (Sum.inr (Sum.inr z) : LV)) (rf_182_10 hF)) rfl ?_
  refine R_ld (v := .inl v2) dd_readPerson_75 rfl rfl rfl rfl ?_
  refine R_ic dd_readPerson_76 (by decide) rfl ?_
  obtain ⟨s1, k⟩ := k
  refine R_iadd (c := v2 + 2) dd_readPerson_77 (by omega) s1 rfl ?_
  refine R_ld (v := .inr (.inr 182)) dd_readPerson_78 rfl rfl rfl rfl ?_
  obtain ⟨c, hc, k⟩ := k
  exact R_call (as := [.inr (.inr 182)]) (rest := [.inl (v2 + 2), .inr (.inr 188)]) (M' := mm_takeRoom) (ls0 := [some (.inr (.inr 182))]) dd_readPerson_79 rfl rfl (cw_v cw_12_270 io_182 rfl rfl (Nat.le_of_ble_eq_true rfl) (Nat.le_of_ble_eq_true rfl)) mt_takeRoom rfl hc rfl k
theorem B_readPerson_82 {xs : Nat → Int} {xl e : Nat} {h : LH} {Q : Option LV → LH → Prop} {v1 v2 w1 w2 : Int} (hF : RF h)
    (k : (0 ≤ w1 ∧ w1 < 300) ∧
      (-2147483648 ≤ v2 + 3 ∧ v2 + 3 ≤ 2147483647) ∧
      (∃ c, c < e ∧ Rn xs xl c mm_takeAfter 0 [some (.inr (.inr 182)), some (.inl 10), some (.inl 1), some (.inl 24)] [] (wr h 188 w1 w2) (fun r h' => Rn xs xl e mm_readPerson 99 [some (.inr (.inr 182)), some (.inl v1), some (.inl v2)] (r.toList ++ [.inl (v2 + 3), .inr (.inr 188)]) h' Q))) :
    Rn xs xl e mm_readPerson 82 [some (.inr (.inr 182)), some (.inl v1), some (.inl v2)] [.inl w2, .inl w1, .inr (.inr 188)] h Q := by
  obtain ⟨s1, k⟩ := k
  refine R_iast (n := 300) dd_readPerson_82 ia_188 la_188 s1 rfl ?_
  refine R_ld (v := .inr (.inr 182)) dd_readPerson_83 rfl rfl rfl rfl ?_
  refine R_gf (v := .inr (.inr 188)) dd_readPerson_84 fd_12_95 io_182 (congrArg (fun z : Int => (Sum.inr (Sum.inr z) : LV)) ((rdw_ne (by decide)).trans (rf_182_10 hF))) rfl ?_
  refine R_ld (v := .inl v2) dd_readPerson_87 rfl rfl rfl rfl ?_
  refine R_ic dd_readPerson_88 (by decide) rfl ?_
  obtain ⟨s2, k⟩ := k
  refine R_iadd (c := v2 + 3) dd_readPerson_89 (by omega) s2 rfl ?_
  refine R_ld (v := .inr (.inr 182)) dd_readPerson_90 rfl rfl rfl rfl ?_
  refine R_bi dd_readPerson_91 (by decide) rfl ?_
  refine R_ic dd_readPerson_93 (by decide) rfl ?_
  refine R_bi dd_readPerson_94 (by decide) rfl ?_
  obtain ⟨c, hc, k⟩ := k
  exact R_call (as := [.inr (.inr 182), .inl 10, .inl 1, .inl 24]) (rest := [.inl (v2 + 3), .inr (.inr 188)]) (M' := mm_takeAfter) (ls0 := [some (.inr (.inr 182)), some (.inl 10), some (.inl 1), some (.inl 24)]) dd_readPerson_96 rfl rfl (cw_v cw_12_274 io_182 rfl rfl (Nat.le_of_ble_eq_true rfl) (Nat.le_of_ble_eq_true rfl)) mt_takeAfter rfl hc rfl k
theorem B_readPerson_99 {xs : Nat → Int} {xl e : Nat} {h : LH} {Q : Option LV → LH → Prop} {v1 v2 w1 w2 : Int} (hF : RF h)
    (k : (0 ≤ w1 ∧ w1 < 300) ∧
      (-2147483648 ≤ (rd (wr h 188 w1 w2) 188 152) + 1 ∧ (rd (wr h 188 w1 w2) 188 152) + 1 ≤ 2147483647) ∧
      Q none (wr (wr h 188 w1 w2) 188 152 ((rd (wr h 188 w1 w2) 188 152) + 1))) :
    Rn xs xl e mm_readPerson 99 [some (.inr (.inr 182)), some (.inl v1), some (.inl v2)] [.inl w2, .inl w1, .inr (.inr 188)] h Q := by
  obtain ⟨s1, k⟩ := k
  refine R_iast (n := 300) dd_readPerson_99 ia_188 la_188 s1 rfl ?_
  refine R_ld (v := .inr (.inr 182)) dd_readPerson_100 rfl rfl rfl rfl ?_
  refine R_gf (v := .inr (.inr 188)) dd_readPerson_101 fd_12_95 io_182 (congrArg (fun z : Int => (Sum.inr (Sum.inr z) : LV)) ((rdw_ne (by decide)).trans (rf_182_10 hF))) rfl ?_
  refine R_si dd_readPerson_104 (by decide) rfl ?_
  refine R_A dd_readPerson_107 rfl rfl rfl rfl ?_
  refine R_iald (v := (rd (wr h 188 w1 w2) 188 152)) (n := 300) dd_readPerson_108 ia_188 la_188 (by decide) (rfl) rfl ?_
  refine R_ic dd_readPerson_109 (by decide) rfl ?_
  obtain ⟨s2, k⟩ := k
  refine R_iadd (c := (rd (wr h 188 w1 w2) 188 152) + 1) dd_readPerson_110 (by omega) s2 rfl ?_
  refine R_iast (n := 300) dd_readPerson_111 ia_188 la_188 (by decide) rfl ?_
  exact R_vret dd_readPerson_112 rfl k
theorem B_readLet_0 {xs : Nat → Int} {xl e : Nat} {h : LH} {Q : Option LV → LH → Prop} (hF : RF h)
    (k : (∃ c, c < e ∧ Rn xs xl c mm_isWord 0 [some (.inr (.inr 182)), some (.inl 11)] [] h (fun r h' => Rn xs xl e mm_readLet 6 [some (.inr (.inr 182))] (r.toList ++ []) h' Q))) :
    Rn xs xl e mm_readLet 0 [some (.inr (.inr 182))] [] h Q := by
  refine R_ld (v := .inr (.inr 182)) dd_readLet_0 rfl rfl rfl rfl ?_
  refine R_bi dd_readLet_1 (by decide) rfl ?_
  obtain ⟨c, hc, k⟩ := k
  exact R_call (as := [.inr (.inr 182), .inl 11]) (rest := []) (M' := mm_isWord) (ls0 := [some (.inr (.inr 182)), some (.inl 11)]) dd_readLet_3 rfl rfl (cw_v cw_12_219 io_182 rfl rfl (Nat.le_of_ble_eq_true rfl) (Nat.le_of_ble_eq_true rfl)) mt_isWord rfl hc rfl k
theorem B_readLet_6_1 {xs : Nat → Int} {xl e : Nat} {h : LH} {Q : Option LV → LH → Prop} (hF : RF h)
    (k : ((rd h 188 153) < 0 →
        Rn xs xl e mm_readLet 33 [some (.inr (.inr 182))] [] h Q) ∧
      (0 ≤ (rd h 188 153) →
        (∃ c, c < e ∧ Rn xs xl c mm_wrong 0 [some (.inr (.inr 182)), some (.inl 3)] [] h (fun r h' => Rn xs xl e mm_readLet 33 [some (.inr (.inr 182))] (r.toList ++ []) h' Q)))) :
    Rn xs xl e mm_readLet 6 [some (.inr (.inr 182))] [.inl 1] h Q := by
  refine R_if dd_readLet_6 rfl rfl (fun (c2 : 1 ≠ 0) => ?_) (fun (c2 : 1 = 0) => ?_)
  · skip
    refine R_ld (v := .inr (.inr 182)) dd_readLet_17 rfl rfl rfl rfl ?_
    refine R_gf (v := .inr (.inr 188)) dd_readLet_18 fd_12_95 io_182 (congrArg (fun z : Int => (Sum.inr (Sum.inr z) : LV)) (rf_182_10 hF)) rfl ?_
    refine R_si dd_readLet_21 (by decide) rfl ?_
    refine R_iald (v := (rd h 188 153)) (n := 300) dd_readLet_24 ia_188 la_188 (by decide) (rfl) rfl ?_
    refine R_if dd_readLet_25 rfl rfl (fun (c3 : (rd h 188 153) < 0) => ?_) (fun (c3 : 0 ≤ (rd h 188 153)) => ?_)
    · replace k := k.1 c3
      exact k
    · replace k := k.2 c3
      refine R_ld (v := .inr (.inr 182)) dd_readLet_28 rfl rfl rfl rfl ?_
      refine R_ic dd_readLet_29 (by decide) rfl ?_
      obtain ⟨c, hc, k⟩ := k
      exact R_call (as := [.inr (.inr 182), .inl 3]) (rest := []) (M' := mm_wrong) (ls0 := [some (.inr (.inr 182)), some (.inl 3)]) dd_readLet_30 rfl rfl (cw_v cw_12_216 io_182 rfl rfl (Nat.le_of_ble_eq_true rfl) (Nat.le_of_ble_eq_true rfl)) mt_wrong rfl hc rfl k
  · exact absurd c2 (by omega)
theorem B_readLet_6_0 {xs : Nat → Int} {xl e : Nat} {h : LH} {Q : Option LV → LH → Prop} (hF : RF h)
    (k : (∃ c, c < e ∧ Rn xs xl c mm_wrong 0 [some (.inr (.inr 182)), some (.inl 1)] [] h (fun r h' => Rn xs xl e mm_readLet 14 [some (.inr (.inr 182))] (r.toList ++ []) h' Q))) :
    Rn xs xl e mm_readLet 6 [some (.inr (.inr 182))] [.inl 0] h Q := by
  refine R_if dd_readLet_6 rfl rfl (fun (c2 : 0 ≠ 0) => ?_) (fun (c2 : 0 = 0) => ?_)
  · exact absurd c2 (by omega)
  · skip
    refine R_ld (v := .inr (.inr 182)) dd_readLet_9 rfl rfl rfl rfl ?_
    refine R_ic dd_readLet_10 (by decide) rfl ?_
    obtain ⟨c, hc, k⟩ := k
    exact R_call (as := [.inr (.inr 182), .inl 1]) (rest := []) (M' := mm_wrong) (ls0 := [some (.inr (.inr 182)), some (.inl 1)]) dd_readLet_11 rfl rfl (cw_v cw_12_216 io_182 rfl rfl (Nat.le_of_ble_eq_true rfl) (Nat.le_of_ble_eq_true rfl)) mt_wrong rfl hc rfl k
theorem B_readLet_14 {xs : Nat → Int} {xl e : Nat} {h : LH} {Q : Option LV → LH → Prop} (hF : RF h)
    (k : Rn xs xl e mm_readLet 33 [some (.inr (.inr 182))] [] h Q) :
    Rn xs xl e mm_readLet 14 [some (.inr (.inr 182))] [] h Q := by
  refine R_goto dd_readLet_14 rfl ?_
  exact k
theorem B_readLet_33 {xs : Nat → Int} {xl e : Nat} {h : LH} {Q : Option LV → LH → Prop} (hF : RF h)
    (k : ((rd h 182 8) ≤ 0 →
        (-2147483648 ≤ (rd h 182 7) + 1 ∧ (rd h 182 7) + 1 ≤ 2147483647) ∧
        (∃ c, c < e ∧ Rn xs xl c mm_all 0 [some (.inr (.inr 182)), some (.inl 0), none] [] (wr (wr h 182 7 ((rd h 182 7) + 1)) 188 153 (rd h 182 13)) (fun r h' => Rn xs xl e mm_readLet 68 [some (.inr (.inr 182))] (r.toList ++ []) h' Q))) ∧
      (0 < (rd h 182 8) →
        Q none h)) :
    Rn xs xl e mm_readLet 33 [some (.inr (.inr 182))] [] h Q := by
  refine R_ld (v := .inr (.inr 182)) dd_readLet_33 rfl rfl rfl rfl ?_
  refine R_gf (v := .inl (rd h 182 8)) dd_readLet_34 fd_12_210 io_182 (congrArg (fun z : Int => (Sum.inl z : LV)) (rfl)) rfl ?_
  refine R_if dd_readLet_37 rfl rfl (fun (c3 : (rd h 182 8) ≤ 0) => ?_) (fun (c3 : 0 < (rd h 182 8)) => ?_)
  · replace k := k.1 c3
    refine R_ld (v := .inr (.inr 182)) dd_readLet_41 rfl rfl rfl rfl ?_
    refine R_A dd_readLet_42 rfl rfl rfl rfl ?_
    refine R_gf (v := .inl (rd h 182 7)) dd_readLet_43 fd_12_207 io_182 (congrArg (fun z : Int => (Sum.inl z : LV)) (rfl)) rfl ?_
    refine R_ic dd_readLet_46 (by decide) rfl ?_
    obtain ⟨s1, k⟩ := k
    refine R_iadd (c := (rd h 182 7) + 1) dd_readLet_47 (by omega) s1 rfl ?_
    refine R_pf (z := ((rd h 182 7) + 1)) dd_readLet_48 fd_12_207 io_182 fn_12_7 rfl rfl ?_
    refine R_ld (v := .inr (.inr 182)) dd_readLet_51 rfl rfl rfl rfl ?_
    refine R_gf (v := .inr (.inr 188)) dd_readLet_52 fd_12_95 io_182 (congrArg (fun z : Int => (Sum.inr (Sum.inr z) : LV)) ((rdw_nei (by omega)).trans (rf_182_10 hF))) rfl ?_
    refine R_si dd_readLet_55 (by decide) rfl ?_
    refine R_ld (v := .inr (.inr 182)) dd_readLet_58 rfl rfl rfl rfl ?_
    refine R_gf (v := .inl (rd h 182 13)) dd_readLet_59 fd_12_244 io_182 (congrArg (fun z : Int => (Sum.inl z : LV)) (rdw_nei (by omega))) rfl ?_
    refine R_iast (n := 300) dd_readLet_62 ia_188 la_188 (by decide) rfl ?_
    refine R_ld (v := .inr (.inr 182)) dd_readLet_63 rfl rfl rfl rfl ?_
    refine R_ic dd_readLet_64 (by decide) rfl ?_
    obtain ⟨c, hc, k⟩ := k
    exact R_call (as := [.inr (.inr 182), .inl 0]) (rest := []) (M' := mm_all) (ls0 := [some (.inr (.inr 182)), some (.inl 0), none]) dd_readLet_65 rfl rfl (cw_v cw_12_281 io_182 rfl rfl (Nat.le_of_ble_eq_true rfl) (Nat.le_of_ble_eq_true rfl)) mt_all rfl hc rfl k
  · replace k := k.2 c3
    exact R_vret dd_readLet_40 rfl k
theorem B_readLet_68 {xs : Nat → Int} {xl e : Nat} {h : LH} {Q : Option LV → LH → Prop} (hF : RF h)
    (k : (∃ c, c < e ∧ Rn xs xl c mm_emit 0 [some (.inr (.inr 182)), some (.inl 0), some (.inl 0)] [] h (fun r h' => Rn xs xl e mm_readLet 74 [some (.inr (.inr 182))] (r.toList ++ []) h' Q))) :
    Rn xs xl e mm_readLet 68 [some (.inr (.inr 182))] [] h Q := by
  refine R_ld (v := .inr (.inr 182)) dd_readLet_68 rfl rfl rfl rfl ?_
  refine R_ic dd_readLet_69 (by decide) rfl ?_
  refine R_ic dd_readLet_70 (by decide) rfl ?_
  obtain ⟨c, hc, k⟩ := k
  exact R_call (as := [.inr (.inr 182), .inl 0, .inl 0]) (rest := []) (M' := mm_emit) (ls0 := [some (.inr (.inr 182)), some (.inl 0), some (.inl 0)]) dd_readLet_71 rfl rfl (cw_v cw_12_284 io_182 rfl rfl (Nat.le_of_ble_eq_true rfl) (Nat.le_of_ble_eq_true rfl)) mt_emit rfl hc rfl k
theorem B_readLet_74 {xs : Nat → Int} {xl e : Nat} {h : LH} {Q : Option LV → LH → Prop} (hF : RF h)
    (k : Q none h) :
    Rn xs xl e mm_readLet 74 [some (.inr (.inr 182))] [] h Q := by
  exact R_vret dd_readLet_74 rfl k
theorem B_readTurn_0 {xs : Nat → Int} {xl e : Nat} {h : LH} {Q : Option LV → LH → Prop} (hF : RF h)
    (k : (-2147483648 ≤ 2 * (rd h 182 21) ∧ 2 * (rd h 182 21) ≤ 2147483647) ∧
      (-2147483648 ≤ 2 * (rd h 182 21) + 50 ∧ 2 * (rd h 182 21) + 50 ≤ 2147483647) ∧
      (∃ c, c < e ∧ Rn xs xl c mm_isWord 0 [some (.inr (.inr 182)), some (.inl 13)] [] h (fun r h' => Rn xs xl e mm_readTurn 16 [some (.inr (.inr 182)), some (.inl (2 * (rd h 182 21) + 50)), none] (r.toList ++ []) h' Q))) :
    Rn xs xl e mm_readTurn 0 [some (.inr (.inr 182)), none, none] [] h Q := by
  refine R_bi dd_readTurn_0 (by decide) rfl ?_
  refine R_ic dd_readTurn_2 (by decide) rfl ?_
  refine R_ld (v := .inr (.inr 182)) dd_readTurn_3 rfl rfl rfl rfl ?_
  refine R_gf (v := .inl (rd h 182 21)) dd_readTurn_4 fd_12_288 io_182 (congrArg (fun z : Int => (Sum.inl z : LV)) (rfl)) rfl ?_
  obtain ⟨s1, k⟩ := k
  refine R_imul (c := 2 * (rd h 182 21)) dd_readTurn_7 (by omega) s1 rfl ?_
  obtain ⟨s2, k⟩ := k
  refine R_iadd (c := 2 * (rd h 182 21) + 50) dd_readTurn_8 (by omega) s2 rfl ?_
  refine R_st (ls' := [some (.inr (.inr 182)), some (.inl (2 * (rd h 182 21) + 50)), none]) dd_readTurn_9 rfl rfl rfl (Nat.le_of_ble_eq_true rfl) rfl rfl ?_
  refine R_ld (v := .inr (.inr 182)) dd_readTurn_10 rfl rfl rfl rfl ?_
  refine R_bi dd_readTurn_11 (by decide) rfl ?_
  obtain ⟨c, hc, k⟩ := k
  exact R_call (as := [.inr (.inr 182), .inl 13]) (rest := []) (M' := mm_isWord) (ls0 := [some (.inr (.inr 182)), some (.inl 13)]) dd_readTurn_13 rfl rfl (cw_v cw_12_219 io_182 rfl rfl (Nat.le_of_ble_eq_true rfl) (Nat.le_of_ble_eq_true rfl)) mt_isWord rfl hc rfl k
theorem B_readTurn_16 {xs : Nat → Int} {xl e : Nat} {h : LH} {Q : Option LV → LH → Prop} {v1 w0 : Int} (hF : RF h)
    (k : (-2147483648 ≤ (rd h 182 7) + 1 ∧ (rd h 182 7) + 1 ≤ 2147483647) ∧
      (w0 = 0 →
        (∃ c, c < e ∧ Rn xs xl c mm_takeTold 0 [some (.inr (.inr 182)), some (.inl 20), some (.inl 6), none] [] (wr h 182 7 ((rd h 182 7) + 1)) (fun r h' => Rn xs xl e mm_readTurn 48 [some (.inr (.inr 182)), some (.inl v1), some (.inl w0)] (r.toList ++ [.inl v1, .inr (.inr 195)]) h' Q))) ∧
      (w0 ≠ 0 →
        (0 ≤ v1 ∧ v1 < 100) ∧
        (-2147483648 ≤ v1 + 1 ∧ v1 + 1 ≤ 2147483647) ∧
        (w0 = 0 →
          (∃ c, c < e ∧ Rn xs xl c mm_takeTold 0 [some (.inr (.inr 182)), some (.inl 0), some (.inl 14), none] [] (wr (wr h 182 7 ((rd h 182 7) + 1)) 195 v1 (-1)) (fun r h' => Rn xs xl e mm_readTurn 71 [some (.inr (.inr 182)), some (.inl v1), some (.inl w0)] (r.toList ++ [.inl (v1 + 1), .inr (.inr 195)]) h' Q))) ∧
        (w0 ≠ 0 →
          (0 ≤ v1 + 1 ∧ v1 + 1 < 100) ∧
          (-2147483648 ≤ (rd h 182 21) + 1 ∧ (rd h 182 21) + 1 ≤ 2147483647) ∧
          Q none (wr (wr (wr (wr h 182 7 ((rd h 182 7) + 1)) 195 v1 (-1)) 195 (v1 + 1) (-1)) 182 21 ((rd h 182 21) + 1))))) :
    Rn xs xl e mm_readTurn 16 [some (.inr (.inr 182)), some (.inl v1), none] [.inl w0] h Q := by
  refine R_st (ls' := [some (.inr (.inr 182)), some (.inl v1), some (.inl w0)]) dd_readTurn_16 rfl rfl rfl (Nat.le_of_ble_eq_true rfl) rfl rfl ?_
  refine R_ld (v := .inr (.inr 182)) dd_readTurn_17 rfl rfl rfl rfl ?_
  refine R_A dd_readTurn_18 rfl rfl rfl rfl ?_
  refine R_gf (v := .inl (rd h 182 7)) dd_readTurn_19 fd_12_207 io_182 (congrArg (fun z : Int => (Sum.inl z : LV)) (rfl)) rfl ?_
  refine R_ic dd_readTurn_22 (by decide) rfl ?_
  obtain ⟨s1, k⟩ := k
  refine R_iadd (c := (rd h 182 7) + 1) dd_readTurn_23 (by omega) s1 rfl ?_
  refine R_pf (z := ((rd h 182 7) + 1)) dd_readTurn_24 fd_12_207 io_182 fn_12_7 rfl rfl ?_
  refine R_ld (v := .inr (.inr 182)) dd_readTurn_27 rfl rfl rfl rfl ?_
  refine R_gf (v := .inr (.inr 195)) dd_readTurn_28 fd_12_116 io_182 (congrArg (fun z : Int => (Sum.inr (Sum.inr z) : LV)) ((rdw_nei (by omega)).trans (rf_182_20 hF))) rfl ?_
  refine R_ld (v := .inl v1) dd_readTurn_31 rfl rfl rfl rfl ?_
  refine R_ld (v := .inl w0) dd_readTurn_32 rfl rfl rfl rfl ?_
  refine R_if dd_readTurn_33 rfl rfl (fun (c8 : w0 = 0) => ?_) (fun (c8 : w0 ≠ 0) => ?_)
  · replace k := k.1 c8
    refine R_ld (v := .inr (.inr 182)) dd_readTurn_40 rfl rfl rfl rfl ?_
    refine R_bi dd_readTurn_41 (by decide) rfl ?_
    refine R_bi dd_readTurn_43 (by decide) rfl ?_
    obtain ⟨c, hc, k⟩ := k
    exact R_call (as := [.inr (.inr 182), .inl 20, .inl 6]) (rest := [.inl v1, .inr (.inr 195)]) (M' := mm_takeTold) (ls0 := [some (.inr (.inr 182)), some (.inl 20), some (.inl 6), none]) dd_readTurn_45 rfl rfl (cw_v cw_12_294 io_182 rfl rfl (Nat.le_of_ble_eq_true rfl) (Nat.le_of_ble_eq_true rfl)) mt_takeTold rfl hc rfl k
  · replace k := k.2 c8
    refine R_ic dd_readTurn_36 (by decide) rfl ?_
    refine R_goto dd_readTurn_37 rfl ?_
    obtain ⟨s3, k⟩ := k
    refine R_iast (n := 100) dd_readTurn_48 ia_195 la_195 s3 rfl ?_
    refine R_ld (v := .inr (.inr 182)) dd_readTurn_49 rfl rfl rfl rfl ?_
    refine R_gf (v := .inr (.inr 195)) dd_readTurn_50 fd_12_116 io_182 (congrArg (fun z : Int => (Sum.inr (Sum.inr z) : LV)) ((rdw_ne (by decide)).trans ((rdw_nei (by omega)).trans (rf_182_20 hF)))) rfl ?_
    refine R_ld (v := .inl v1) dd_readTurn_53 rfl rfl rfl rfl ?_
    refine R_ic dd_readTurn_54 (by decide) rfl ?_
    obtain ⟨s4, k⟩ := k
    refine R_iadd (c := v1 + 1) dd_readTurn_55 (by omega) s4 rfl ?_
    refine R_ld (v := .inl w0) dd_readTurn_56 rfl rfl rfl rfl ?_
    refine R_if dd_readTurn_57 rfl rfl (fun (c9 : w0 = 0) => ?_) (fun (c9 : w0 ≠ 0) => ?_)
    · replace k := k.1 c9
      refine R_ld (v := .inr (.inr 182)) dd_readTurn_64 rfl rfl rfl rfl ?_
      refine R_ic dd_readTurn_65 (by decide) rfl ?_
      refine R_bi dd_readTurn_66 (by decide) rfl ?_
      obtain ⟨c, hc, k⟩ := k
      exact R_call (as := [.inr (.inr 182), .inl 0, .inl 14]) (rest := [.inl (v1 + 1), .inr (.inr 195)]) (M' := mm_takeTold) (ls0 := [some (.inr (.inr 182)), some (.inl 0), some (.inl 14), none]) dd_readTurn_68 rfl rfl (cw_v cw_12_294 io_182 rfl rfl (Nat.le_of_ble_eq_true rfl) (Nat.le_of_ble_eq_true rfl)) mt_takeTold rfl hc rfl k
    · replace k := k.2 c9
      refine R_ic dd_readTurn_60 (by decide) rfl ?_
      refine R_goto dd_readTurn_61 rfl ?_
      obtain ⟨s6, k⟩ := k
      refine R_iast (n := 100) dd_readTurn_71 ia_195 la_195 s6 rfl ?_
      refine R_ld (v := .inr (.inr 182)) dd_readTurn_72 rfl rfl rfl rfl ?_
      refine R_A dd_readTurn_73 rfl rfl rfl rfl ?_
      refine R_gf (v := .inl (rd h 182 21)) dd_readTurn_74 fd_12_288 io_182 (congrArg (fun z : Int => (Sum.inl z : LV)) ((rdw_ne (by decide)).trans ((rdw_ne (by decide)).trans (rdw_nei (by omega))))) rfl ?_
      refine R_ic dd_readTurn_77 (by decide) rfl ?_
      obtain ⟨s7, k⟩ := k
      refine R_iadd (c := (rd h 182 21) + 1) dd_readTurn_78 (by omega) s7 rfl ?_
      refine R_pf (z := ((rd h 182 21) + 1)) dd_readTurn_79 fd_12_288 io_182 fn_12_21 rfl rfl ?_
      exact R_vret dd_readTurn_82 rfl k
theorem B_readTurn_48 {xs : Nat → Int} {xl e : Nat} {h : LH} {Q : Option LV → LH → Prop} {v1 v2 w1 w2 : Int} (hF : RF h)
    (k : (0 ≤ w1 ∧ w1 < 100) ∧
      (-2147483648 ≤ v1 + 1 ∧ v1 + 1 ≤ 2147483647) ∧
      (v2 = 0 →
        (∃ c, c < e ∧ Rn xs xl c mm_takeTold 0 [some (.inr (.inr 182)), some (.inl 0), some (.inl 14), none] [] (wr h 195 w1 w2) (fun r h' => Rn xs xl e mm_readTurn 71 [some (.inr (.inr 182)), some (.inl v1), some (.inl v2)] (r.toList ++ [.inl (v1 + 1), .inr (.inr 195)]) h' Q))) ∧
      (v2 ≠ 0 →
        (0 ≤ v1 + 1 ∧ v1 + 1 < 100) ∧
        (-2147483648 ≤ (rd h 182 21) + 1 ∧ (rd h 182 21) + 1 ≤ 2147483647) ∧
        Q none (wr (wr (wr h 195 w1 w2) 195 (v1 + 1) (-1)) 182 21 ((rd h 182 21) + 1)))) :
    Rn xs xl e mm_readTurn 48 [some (.inr (.inr 182)), some (.inl v1), some (.inl v2)] [.inl w2, .inl w1, .inr (.inr 195)] h Q := by
  obtain ⟨s1, k⟩ := k
  refine R_iast (n := 100) dd_readTurn_48 ia_195 la_195 s1 rfl ?_
  refine R_ld (v := .inr (.inr 182)) dd_readTurn_49 rfl rfl rfl rfl ?_
  refine R_gf (v := .inr (.inr 195)) dd_readTurn_50 fd_12_116 io_182 (congrArg (fun z : Int => (Sum.inr (Sum.inr z) : LV)) ((rdw_ne (by decide)).trans (rf_182_20 hF))) rfl ?_
  refine R_ld (v := .inl v1) dd_readTurn_53 rfl rfl rfl rfl ?_
  refine R_ic dd_readTurn_54 (by decide) rfl ?_
  obtain ⟨s2, k⟩ := k
  refine R_iadd (c := v1 + 1) dd_readTurn_55 (by omega) s2 rfl ?_
  refine R_ld (v := .inl v2) dd_readTurn_56 rfl rfl rfl rfl ?_
  refine R_if dd_readTurn_57 rfl rfl (fun (c6 : v2 = 0) => ?_) (fun (c6 : v2 ≠ 0) => ?_)
  · replace k := k.1 c6
    refine R_ld (v := .inr (.inr 182)) dd_readTurn_64 rfl rfl rfl rfl ?_
    refine R_ic dd_readTurn_65 (by decide) rfl ?_
    refine R_bi dd_readTurn_66 (by decide) rfl ?_
    obtain ⟨c, hc, k⟩ := k
    exact R_call (as := [.inr (.inr 182), .inl 0, .inl 14]) (rest := [.inl (v1 + 1), .inr (.inr 195)]) (M' := mm_takeTold) (ls0 := [some (.inr (.inr 182)), some (.inl 0), some (.inl 14), none]) dd_readTurn_68 rfl rfl (cw_v cw_12_294 io_182 rfl rfl (Nat.le_of_ble_eq_true rfl) (Nat.le_of_ble_eq_true rfl)) mt_takeTold rfl hc rfl k
  · replace k := k.2 c6
    refine R_ic dd_readTurn_60 (by decide) rfl ?_
    refine R_goto dd_readTurn_61 rfl ?_
    obtain ⟨s4, k⟩ := k
    refine R_iast (n := 100) dd_readTurn_71 ia_195 la_195 s4 rfl ?_
    refine R_ld (v := .inr (.inr 182)) dd_readTurn_72 rfl rfl rfl rfl ?_
    refine R_A dd_readTurn_73 rfl rfl rfl rfl ?_
    refine R_gf (v := .inl (rd h 182 21)) dd_readTurn_74 fd_12_288 io_182 (congrArg (fun z : Int => (Sum.inl z : LV)) ((rdw_ne (by decide)).trans (rdw_ne (by decide)))) rfl ?_
    refine R_ic dd_readTurn_77 (by decide) rfl ?_
    obtain ⟨s5, k⟩ := k
    refine R_iadd (c := (rd h 182 21) + 1) dd_readTurn_78 (by omega) s5 rfl ?_
    refine R_pf (z := ((rd h 182 21) + 1)) dd_readTurn_79 fd_12_288 io_182 fn_12_21 rfl rfl ?_
    exact R_vret dd_readTurn_82 rfl k
theorem B_readTurn_71 {xs : Nat → Int} {xl e : Nat} {h : LH} {Q : Option LV → LH → Prop} {v1 v2 w1 w2 : Int} (hF : RF h)
    (k : (0 ≤ w1 ∧ w1 < 100) ∧
      (-2147483648 ≤ (rd h 182 21) + 1 ∧ (rd h 182 21) + 1 ≤ 2147483647) ∧
      Q none (wr (wr h 195 w1 w2) 182 21 ((rd h 182 21) + 1))) :
    Rn xs xl e mm_readTurn 71 [some (.inr (.inr 182)), some (.inl v1), some (.inl v2)] [.inl w2, .inl w1, .inr (.inr 195)] h Q := by
  obtain ⟨s1, k⟩ := k
  refine R_iast (n := 100) dd_readTurn_71 ia_195 la_195 s1 rfl ?_
  refine R_ld (v := .inr (.inr 182)) dd_readTurn_72 rfl rfl rfl rfl ?_
  refine R_A dd_readTurn_73 rfl rfl rfl rfl ?_
  refine R_gf (v := .inl (rd h 182 21)) dd_readTurn_74 fd_12_288 io_182 (congrArg (fun z : Int => (Sum.inl z : LV)) (rdw_ne (by decide))) rfl ?_
  refine R_ic dd_readTurn_77 (by decide) rfl ?_
  obtain ⟨s2, k⟩ := k
  refine R_iadd (c := (rd h 182 21) + 1) dd_readTurn_78 (by omega) s2 rfl ?_
  refine R_pf (z := ((rd h 182 21) + 1)) dd_readTurn_79 fd_12_288 io_182 fn_12_21 rfl rfl ?_
  exact R_vret dd_readTurn_82 rfl k
theorem B_takeTold_0 {xs : Nat → Int} {xl e : Nat} {h : LH} {Q : Option LV → LH → Prop} {v1 v2 : Int} (hF : RF h)
    (k : ((rd h 182 8) ≠ 0 →
        Rn xs xl e mm_takeTold 19 [some (.inr (.inr 182)), some (.inl v1), some (.inl v2), none] [] h Q) ∧
      ((rd h 182 8) = 0 →
        (∃ c, c < e ∧ Rn xs xl c mm_isName 0 [some (.inr (.inr 182))] [] h (fun r h' => Rn xs xl e mm_takeTold 11 [some (.inr (.inr 182)), some (.inl v1), some (.inl v2), none] (r.toList ++ []) h' Q)))) :
    Rn xs xl e mm_takeTold 0 [some (.inr (.inr 182)), some (.inl v1), some (.inl v2), none] [] h Q := by
  refine R_ld (v := .inr (.inr 182)) dd_takeTold_0 rfl rfl rfl rfl ?_
  refine R_gf (v := .inl (rd h 182 8)) dd_takeTold_1 fd_12_210 io_182 (congrArg (fun z : Int => (Sum.inl z : LV)) (rfl)) rfl ?_
  refine R_if dd_takeTold_4 rfl rfl (fun (c2 : (rd h 182 8) ≠ 0) => ?_) (fun (c2 : (rd h 182 8) = 0) => ?_)
  · replace k := k.1 c2
    exact k
  · replace k := k.2 c2
    refine R_ld (v := .inr (.inr 182)) dd_takeTold_7 rfl rfl rfl rfl ?_
    obtain ⟨c, hc, k⟩ := k
    exact R_call (as := [.inr (.inr 182)]) (rest := []) (M' := mm_isName) (ls0 := [some (.inr (.inr 182))]) dd_takeTold_8 rfl rfl (cw_v cw_12_259 io_182 rfl rfl (Nat.le_of_ble_eq_true rfl) (Nat.le_of_ble_eq_true rfl)) mt_isName rfl hc rfl k
theorem B_takeTold_11_1 {xs : Nat → Int} {xl e : Nat} {h : LH} {Q : Option LV → LH → Prop} {v1 v2 : Int} (hF : RF h)
    (k : Rn xs xl e mm_takeTold 19 [some (.inr (.inr 182)), some (.inl v1), some (.inl v2), none] [] h Q) :
    Rn xs xl e mm_takeTold 11 [some (.inr (.inr 182)), some (.inl v1), some (.inl v2), none] [.inl 1] h Q := by
  refine R_if dd_takeTold_11 rfl rfl (fun (c1 : 1 ≠ 0) => ?_) (fun (c1 : 1 = 0) => ?_)
  · skip
    exact k
  · exact absurd c1 (by omega)
theorem B_takeTold_11_0 {xs : Nat → Int} {xl e : Nat} {h : LH} {Q : Option LV → LH → Prop} {v1 v2 : Int} (hF : RF h)
    (k : (∃ c, c < e ∧ Rn xs xl c mm_wrong 0 [some (.inr (.inr 182)), some (.inl 1)] [] h (fun r h' => Rn xs xl e mm_takeTold 19 [some (.inr (.inr 182)), some (.inl v1), some (.inl v2), none] (r.toList ++ []) h' Q))) :
    Rn xs xl e mm_takeTold 11 [some (.inr (.inr 182)), some (.inl v1), some (.inl v2), none] [.inl 0] h Q := by
  refine R_if dd_takeTold_11 rfl rfl (fun (c2 : 0 ≠ 0) => ?_) (fun (c2 : 0 = 0) => ?_)
  · exact absurd c2 (by omega)
  · skip
    refine R_ld (v := .inr (.inr 182)) dd_takeTold_14 rfl rfl rfl rfl ?_
    refine R_ic dd_takeTold_15 (by decide) rfl ?_
    obtain ⟨c, hc, k⟩ := k
    exact R_call (as := [.inr (.inr 182), .inl 1]) (rest := []) (M' := mm_wrong) (ls0 := [some (.inr (.inr 182)), some (.inl 1)]) dd_takeTold_16 rfl rfl (cw_v cw_12_216 io_182 rfl rfl (Nat.le_of_ble_eq_true rfl) (Nat.le_of_ble_eq_true rfl)) mt_wrong rfl hc rfl k
theorem B_takeTold_19 {xs : Nat → Int} {xl e : Nat} {h : LH} {Q : Option LV → LH → Prop} {v1 v2 : Int} (hF : RF h) (he : 1 ≤ e)
    (k : ((rd h 182 8) ≤ 0 →
        (∃ c, c < e ∧ Rn xs xl c mm_find 0 [some (.inr (.inr 182)), some (.inl 0), none] [] h (fun r h' => Rn xs xl e mm_takeTold 35 [some (.inr (.inr 182)), some (.inl v1), some (.inl v2), none] (r.toList ++ []) h' Q))) ∧
      (0 < (rd h 182 8) →
        ((rd h 182 8) ≠ 0 →
          ((rd h 182 8) ≤ 0 →
            (-2147483648 ≤ (rd h 182 7) + 1 ∧ (rd h 182 7) + 1 ≤ 2147483647) ∧
            Q (some (.inl (-1))) (wr h 182 7 ((rd h 182 7) + 1))) ∧
          (0 < (rd h 182 8) →
            (-2147483648 ≤ (rd h 182 7) ∧ (rd h 182 7) ≤ 2147483647) ∧
            Q (some (.inl (-1))) (wr h 182 7 (rd h 182 7)))) ∧
        ((rd h 182 8) = 0 →
          (-2147483648 ≤ v2 - 1 ∧ v2 - 1 ≤ 2147483647) ∧
          (∃ c, c < e ∧ Rn xs xl c mm_wrong 0 [some (.inr (.inr 182)), some (.inl 2)] [] h (fun r h' => Rn xs xl e mm_takeTold 61 [some (.inr (.inr 182)), some (.inl v1), some (.inl v2), some (.inl (-1))] (r.toList ++ []) h' Q))))) :
    Rn xs xl e mm_takeTold 19 [some (.inr (.inr 182)), some (.inl v1), some (.inl v2), none] [] h Q := by
  refine R_ld (v := .inr (.inr 182)) dd_takeTold_19 rfl rfl rfl rfl ?_
  refine R_gf (v := .inl (rd h 182 8)) dd_takeTold_20 fd_12_210 io_182 (congrArg (fun z : Int => (Sum.inl z : LV)) (rfl)) rfl ?_
  refine R_if dd_takeTold_23 rfl rfl (fun (c6 : (rd h 182 8) ≤ 0) => ?_) (fun (c6 : 0 < (rd h 182 8)) => ?_)
  · replace k := k.1 c6
    refine R_ld (v := .inr (.inr 182)) dd_takeTold_30 rfl rfl rfl rfl ?_
    refine R_ic dd_takeTold_31 (by decide) rfl ?_
    obtain ⟨c, hc, k⟩ := k
    exact R_call (as := [.inr (.inr 182), .inl 0]) (rest := []) (M' := mm_find) (ls0 := [some (.inr (.inr 182)), some (.inl 0), none]) dd_takeTold_32 rfl rfl (cw_v cw_12_263 io_182 rfl rfl (Nat.le_of_ble_eq_true rfl) (Nat.le_of_ble_eq_true rfl)) mt_find rfl hc rfl k
  · replace k := k.2 c6
    refine R_ic dd_takeTold_26 (by decide) rfl ?_
    refine R_goto dd_takeTold_27 rfl ?_
    refine R_st (ls' := [some (.inr (.inr 182)), some (.inl v1), some (.inl v2), some (.inl (-1))]) dd_takeTold_37 rfl rfl rfl (Nat.le_of_ble_eq_true rfl) rfl rfl ?_
    refine R_ld (v := .inr (.inr 182)) dd_takeTold_38 rfl rfl rfl rfl ?_
    refine R_gf (v := .inl (rd h 182 8)) dd_takeTold_39 fd_12_210 io_182 (congrArg (fun z : Int => (Sum.inl z : LV)) (rfl)) rfl ?_
    refine R_if dd_takeTold_42 rfl rfl (fun (c7 : (rd h 182 8) ≠ 0) => ?_) (fun (c7 : (rd h 182 8) = 0) => ?_)
    · replace k := k.1 c7
      refine R_ld (v := .inr (.inr 182)) dd_takeTold_61 rfl rfl rfl rfl ?_
      refine R_A dd_takeTold_62 rfl rfl rfl rfl ?_
      refine R_gf (v := .inl (rd h 182 7)) dd_takeTold_63 fd_12_207 io_182 (congrArg (fun z : Int => (Sum.inl z : LV)) (rfl)) rfl ?_
      refine R_ld (v := .inr (.inr 182)) dd_takeTold_66 rfl rfl rfl rfl ?_
      refine R_gf (v := .inl (rd h 182 8)) dd_takeTold_67 fd_12_210 io_182 (congrArg (fun z : Int => (Sum.inl z : LV)) (rfl)) rfl ?_
      refine R_if dd_takeTold_70 rfl rfl (fun (c8 : (rd h 182 8) ≤ 0) => ?_) (fun (c8 : 0 < (rd h 182 8)) => ?_)
      · replace k := k.1 c8
        refine R_ic dd_takeTold_77 (by decide) rfl ?_
        obtain ⟨s2, k⟩ := k
        refine R_iadd (c := (rd h 182 7) + 1) dd_takeTold_78 (by omega) s2 rfl ?_
        refine R_pf (z := ((rd h 182 7) + 1)) dd_takeTold_79 fd_12_207 io_182 fn_12_7 rfl rfl ?_
        refine R_ld (v := .inl (-1)) dd_takeTold_82 rfl rfl rfl rfl ?_
        exact R_iret dd_takeTold_83 rfl k
      · replace k := k.2 c8
        refine R_ic dd_takeTold_73 (by decide) rfl ?_
        refine R_goto dd_takeTold_74 rfl ?_
        obtain ⟨s3, k⟩ := k
        refine R_iadd (c := (rd h 182 7)) dd_takeTold_78 (by omega) s3 rfl ?_
        refine R_pf (z := (rd h 182 7)) dd_takeTold_79 fd_12_207 io_182 fn_12_7 rfl rfl ?_
        refine R_ld (v := .inl (-1)) dd_takeTold_82 rfl rfl rfl rfl ?_
        exact R_iret dd_takeTold_83 rfl k
    · replace k := k.2 c7
      refine R_ld (v := .inl (-1)) dd_takeTold_45 rfl rfl rfl rfl ?_
      refine R_ic dd_takeTold_46 (by decide) rfl ?_
      refine R_ld (v := .inl v2) dd_takeTold_47 rfl rfl rfl rfl ?_
      refine R_ic dd_takeTold_48 (by decide) rfl ?_
      obtain ⟨s4, k⟩ := k
      refine R_isub (c := v2 - 1) dd_takeTold_49 (by omega) s4 rfl ?_
      refine R_call (as := [.inl (-1), .inl 0, .inl (v2 - 1)]) (rest := []) (M' := mm_within) (ls0 := [some (.inl (-1)), some (.inl 0), some (.inl (v2 - 1))]) dd_takeTold_50 rfl rfl (cw_s cw_12_297 rfl rfl (Nat.le_of_ble_eq_true rfl) (Nat.le_of_ble_eq_true rfl)) mt_within rfl (c := e - 1) (by omega) rfl ?_
      refine R_ld (v := .inl (-1)) dd_within_0 rfl rfl rfl rfl ?_
      refine R_ld (v := .inl 0) dd_within_1 rfl rfl rfl rfl ?_
      refine R_icmp dd_within_2 rfl rfl (fun (c9 : (-1) < 0) => ?_) (fun (c9 : 0 ≤ (-1)) => ?_)
      · skip
        refine R_ic dd_within_14 (by decide) rfl ?_
        refine R_zret dd_within_15 rfl (by decide) ?_
        change Rn xs xl e mm_takeTold 53 [some (.inr (.inr 182)), some (.inl v1), some (.inl v2), some (.inl (-1))] [.inl 0] h _
        refine R_if dd_takeTold_53 rfl rfl (fun (c10 : 0 ≠ 0) => ?_) (fun (c10 : 0 = 0) => ?_)
        · exact absurd c10 (by omega)
        · skip
          refine R_ld (v := .inr (.inr 182)) dd_takeTold_56 rfl rfl rfl rfl ?_
          refine R_ic dd_takeTold_57 (by decide) rfl ?_
          obtain ⟨c, hc, k⟩ := k
          exact R_call (as := [.inr (.inr 182), .inl 2]) (rest := []) (M' := mm_wrong) (ls0 := [some (.inr (.inr 182)), some (.inl 2)]) dd_takeTold_58 rfl rfl (cw_v cw_12_216 io_182 rfl rfl (Nat.le_of_ble_eq_true rfl) (Nat.le_of_ble_eq_true rfl)) mt_wrong rfl hc rfl k
      · exact absurd c9 (by omega)
theorem B_takeTold_35 {xs : Nat → Int} {xl e : Nat} {h : LH} {Q : Option LV → LH → Prop} {v1 v2 w0 : Int} (hF : RF h) (he : 1 ≤ e)
    (k : (-2147483648 ≤ w0 - v1 ∧ w0 - v1 ≤ 2147483647) ∧
      ((rd h 182 8) ≠ 0 →
        Rn xs xl e mm_takeTold 61 [some (.inr (.inr 182)), some (.inl v1), some (.inl v2), some (.inl (w0 - v1))] [] h Q) ∧
      ((rd h 182 8) = 0 →
        (-2147483648 ≤ v2 - 1 ∧ v2 - 1 ≤ 2147483647) ∧
        ((w0 - v1) < 0 →
          (∃ c, c < e ∧ Rn xs xl c mm_wrong 0 [some (.inr (.inr 182)), some (.inl 2)] [] h (fun r h' => Rn xs xl e mm_takeTold 61 [some (.inr (.inr 182)), some (.inl v1), some (.inl v2), some (.inl (w0 - v1))] (r.toList ++ []) h' Q))) ∧
        (0 ≤ (w0 - v1) →
          ((v2 - 1) < (w0 - v1) →
            (∃ c, c < e ∧ Rn xs xl c mm_wrong 0 [some (.inr (.inr 182)), some (.inl 2)] [] h (fun r h' => Rn xs xl e mm_takeTold 61 [some (.inr (.inr 182)), some (.inl v1), some (.inl v2), some (.inl (w0 - v1))] (r.toList ++ []) h' Q))) ∧
          ((w0 - v1) ≤ (v2 - 1) →
            Rn xs xl e mm_takeTold 61 [some (.inr (.inr 182)), some (.inl v1), some (.inl v2), some (.inl (w0 - v1))] [] h Q)))) :
    Rn xs xl e mm_takeTold 35 [some (.inr (.inr 182)), some (.inl v1), some (.inl v2), none] [.inl w0] h Q := by
  refine R_ld (v := .inl v1) dd_takeTold_35 rfl rfl rfl rfl ?_
  obtain ⟨s1, k⟩ := k
  refine R_isub (c := w0 - v1) dd_takeTold_36 (by omega) s1 rfl ?_
  refine R_st (ls' := [some (.inr (.inr 182)), some (.inl v1), some (.inl v2), some (.inl (w0 - v1))]) dd_takeTold_37 rfl rfl rfl (Nat.le_of_ble_eq_true rfl) rfl rfl ?_
  refine R_ld (v := .inr (.inr 182)) dd_takeTold_38 rfl rfl rfl rfl ?_
  refine R_gf (v := .inl (rd h 182 8)) dd_takeTold_39 fd_12_210 io_182 (congrArg (fun z : Int => (Sum.inl z : LV)) (rfl)) rfl ?_
  refine R_if dd_takeTold_42 rfl rfl (fun (c5 : (rd h 182 8) ≠ 0) => ?_) (fun (c5 : (rd h 182 8) = 0) => ?_)
  · replace k := k.1 c5
    exact k
  · replace k := k.2 c5
    refine R_ld (v := .inl (w0 - v1)) dd_takeTold_45 rfl rfl rfl rfl ?_
    refine R_ic dd_takeTold_46 (by decide) rfl ?_
    refine R_ld (v := .inl v2) dd_takeTold_47 rfl rfl rfl rfl ?_
    refine R_ic dd_takeTold_48 (by decide) rfl ?_
    obtain ⟨s2, k⟩ := k
    refine R_isub (c := v2 - 1) dd_takeTold_49 (by omega) s2 rfl ?_
    refine R_call (as := [.inl (w0 - v1), .inl 0, .inl (v2 - 1)]) (rest := []) (M' := mm_within) (ls0 := [some (.inl (w0 - v1)), some (.inl 0), some (.inl (v2 - 1))]) dd_takeTold_50 rfl rfl (cw_s cw_12_297 rfl rfl (Nat.le_of_ble_eq_true rfl) (Nat.le_of_ble_eq_true rfl)) mt_within rfl (c := e - 1) (by omega) rfl ?_
    refine R_ld (v := .inl (w0 - v1)) dd_within_0 rfl rfl rfl rfl ?_
    refine R_ld (v := .inl 0) dd_within_1 rfl rfl rfl rfl ?_
    refine R_icmp dd_within_2 rfl rfl (fun (c6 : (w0 - v1) < 0) => ?_) (fun (c6 : 0 ≤ (w0 - v1)) => ?_)
    · replace k := k.1 c6
      refine R_ic dd_within_14 (by decide) rfl ?_
      refine R_zret dd_within_15 rfl (by decide) ?_
      change Rn xs xl e mm_takeTold 53 [some (.inr (.inr 182)), some (.inl v1), some (.inl v2), some (.inl (w0 - v1))] [.inl 0] h _
      refine R_if dd_takeTold_53 rfl rfl (fun (c7 : 0 ≠ 0) => ?_) (fun (c7 : 0 = 0) => ?_)
      · exact absurd c7 (by omega)
      · skip
        refine R_ld (v := .inr (.inr 182)) dd_takeTold_56 rfl rfl rfl rfl ?_
        refine R_ic dd_takeTold_57 (by decide) rfl ?_
        obtain ⟨c, hc, k⟩ := k
        exact R_call (as := [.inr (.inr 182), .inl 2]) (rest := []) (M' := mm_wrong) (ls0 := [some (.inr (.inr 182)), some (.inl 2)]) dd_takeTold_58 rfl rfl (cw_v cw_12_216 io_182 rfl rfl (Nat.le_of_ble_eq_true rfl) (Nat.le_of_ble_eq_true rfl)) mt_wrong rfl hc rfl k
    · replace k := k.2 c6
      refine R_ld (v := .inl (w0 - v1)) dd_within_5 rfl rfl rfl rfl ?_
      refine R_ld (v := .inl (v2 - 1)) dd_within_6 rfl rfl rfl rfl ?_
      refine R_icmp dd_within_7 rfl rfl (fun (c8 : (v2 - 1) < (w0 - v1)) => ?_) (fun (c8 : (w0 - v1) ≤ (v2 - 1)) => ?_)
      · replace k := k.1 c8
        refine R_ic dd_within_14 (by decide) rfl ?_
        refine R_zret dd_within_15 rfl (by decide) ?_
        change Rn xs xl e mm_takeTold 53 [some (.inr (.inr 182)), some (.inl v1), some (.inl v2), some (.inl (w0 - v1))] [.inl 0] h _
        refine R_if dd_takeTold_53 rfl rfl (fun (c9 : 0 ≠ 0) => ?_) (fun (c9 : 0 = 0) => ?_)
        · exact absurd c9 (by omega)
        · skip
          refine R_ld (v := .inr (.inr 182)) dd_takeTold_56 rfl rfl rfl rfl ?_
          refine R_ic dd_takeTold_57 (by decide) rfl ?_
          obtain ⟨c, hc, k⟩ := k
          exact R_call (as := [.inr (.inr 182), .inl 2]) (rest := []) (M' := mm_wrong) (ls0 := [some (.inr (.inr 182)), some (.inl 2)]) dd_takeTold_58 rfl rfl (cw_v cw_12_216 io_182 rfl rfl (Nat.le_of_ble_eq_true rfl) (Nat.le_of_ble_eq_true rfl)) mt_wrong rfl hc rfl k
      · replace k := k.2 c8
        refine R_ic dd_within_10 (by decide) rfl ?_
        refine R_goto dd_within_11 rfl ?_
        refine R_zret dd_within_15 rfl (by decide) ?_
        change Rn xs xl e mm_takeTold 53 [some (.inr (.inr 182)), some (.inl v1), some (.inl v2), some (.inl (w0 - v1))] [.inl 1] h _
        refine R_if dd_takeTold_53 rfl rfl (fun (c10 : 1 ≠ 0) => ?_) (fun (c10 : 1 = 0) => ?_)
        · skip
          exact k
        · exact absurd c10 (by omega)
theorem B_takeTold_61 {xs : Nat → Int} {xl e : Nat} {h : LH} {Q : Option LV → LH → Prop} {v1 v2 v3 : Int} (hF : RF h)
    (k : ((rd h 182 8) ≤ 0 →
        (-2147483648 ≤ (rd h 182 7) + 1 ∧ (rd h 182 7) + 1 ≤ 2147483647) ∧
        Q (some (.inl v3)) (wr h 182 7 ((rd h 182 7) + 1))) ∧
      (0 < (rd h 182 8) →
        (-2147483648 ≤ (rd h 182 7) ∧ (rd h 182 7) ≤ 2147483647) ∧
        Q (some (.inl v3)) (wr h 182 7 (rd h 182 7)))) :
    Rn xs xl e mm_takeTold 61 [some (.inr (.inr 182)), some (.inl v1), some (.inl v2), some (.inl v3)] [] h Q := by
  refine R_ld (v := .inr (.inr 182)) dd_takeTold_61 rfl rfl rfl rfl ?_
  refine R_A dd_takeTold_62 rfl rfl rfl rfl ?_
  refine R_gf (v := .inl (rd h 182 7)) dd_takeTold_63 fd_12_207 io_182 (congrArg (fun z : Int => (Sum.inl z : LV)) (rfl)) rfl ?_
  refine R_ld (v := .inr (.inr 182)) dd_takeTold_66 rfl rfl rfl rfl ?_
  refine R_gf (v := .inl (rd h 182 8)) dd_takeTold_67 fd_12_210 io_182 (congrArg (fun z : Int => (Sum.inl z : LV)) (rfl)) rfl ?_
  refine R_if dd_takeTold_70 rfl rfl (fun (c3 : (rd h 182 8) ≤ 0) => ?_) (fun (c3 : 0 < (rd h 182 8)) => ?_)
  · replace k := k.1 c3
    refine R_ic dd_takeTold_77 (by decide) rfl ?_
    obtain ⟨s1, k⟩ := k
    refine R_iadd (c := (rd h 182 7) + 1) dd_takeTold_78 (by omega) s1 rfl ?_
    refine R_pf (z := ((rd h 182 7) + 1)) dd_takeTold_79 fd_12_207 io_182 fn_12_7 rfl rfl ?_
    refine R_ld (v := .inl v3) dd_takeTold_82 rfl rfl rfl rfl ?_
    exact R_iret dd_takeTold_83 rfl k
  · replace k := k.2 c3
    refine R_ic dd_takeTold_73 (by decide) rfl ?_
    refine R_goto dd_takeTold_74 rfl ?_
    obtain ⟨s2, k⟩ := k
    refine R_iadd (c := (rd h 182 7)) dd_takeTold_78 (by omega) s2 rfl ?_
    refine R_pf (z := (rd h 182 7)) dd_takeTold_79 fd_12_207 io_182 fn_12_7 rfl rfl ?_
    refine R_ld (v := .inl v3) dd_takeTold_82 rfl rfl rfl rfl ?_
    exact R_iret dd_takeTold_83 rfl k
theorem B_standsAsAlways_0 {xs : Nat → Int} {xl e : Nat} {h : LH} {Q : Option LV → LH → Prop} {v1 : Int} (hF : RF h)
    (k : Rn xs xl e mm_standsAsAlways 2 [some (.inr (.inr 182)), some (.inl v1), some (.inl 0)] [] h Q) :
    Rn xs xl e mm_standsAsAlways 0 [some (.inr (.inr 182)), some (.inl v1), none] [] h Q := by
  refine R_ic dd_standsAsAlways_0 (by decide) rfl ?_
  refine R_st (ls' := [some (.inr (.inr 182)), some (.inl v1), some (.inl 0)]) dd_standsAsAlways_1 rfl rfl rfl (Nat.le_of_ble_eq_true rfl) rfl rfl ?_
  exact k
theorem B_standsAsAlways_2 {xs : Nat → Int} {xl e : Nat} {h : LH} {Q : Option LV → LH → Prop} {v1 v2 : Int} (hF : RF h)
    (k : (150 ≤ v2 →
        (-2147483648 ≤ v1 + 3 ∧ v1 + 3 ≤ 2147483647) ∧
        (0 ≤ v1 + 3 ∧ v1 + 3 < 300) ∧
        Q none (wr h 188 (v1 + 3) (-1))) ∧
      (v2 < 150 →
        (-2147483648 ≤ v1 + v2 ∧ v1 + v2 ≤ 2147483647) ∧
        (0 ≤ v1 + v2 ∧ v1 + v2 < 300) ∧
        (-2147483648 ≤ v2 + 1 ∧ v2 + 1 ≤ 2147483647) ∧
        Rn xs xl e mm_standsAsAlways 2 [some (.inr (.inr 182)), some (.inl v1), some (.inl (v2 + 1))] [] (wr h 188 (v1 + v2) 0) Q)) :
    Rn xs xl e mm_standsAsAlways 2 [some (.inr (.inr 182)), some (.inl v1), some (.inl v2)] [] h Q := by
  refine R_ld (v := .inl v2) dd_standsAsAlways_2 rfl rfl rfl rfl ?_
  refine R_si dd_standsAsAlways_3 (by decide) rfl ?_
  refine R_icmp dd_standsAsAlways_6 rfl rfl (fun (c6 : 150 ≤ v2) => ?_) (fun (c6 : v2 < 150) => ?_)
  · replace k := k.1 c6
    refine R_ld (v := .inr (.inr 182)) dd_standsAsAlways_24 rfl rfl rfl rfl ?_
    refine R_gf (v := .inr (.inr 188)) dd_standsAsAlways_25 fd_12_95 io_182 (congrArg (fun z : Int => (Sum.inr (Sum.inr z) : LV)) (rf_182_10 hF)) rfl ?_
    refine R_ld (v := .inl v1) dd_standsAsAlways_28 rfl rfl rfl rfl ?_
    refine R_ic dd_standsAsAlways_29 (by decide) rfl ?_
    obtain ⟨s1, k⟩ := k
    refine R_iadd (c := v1 + 3) dd_standsAsAlways_30 (by omega) s1 rfl ?_
    refine R_ic dd_standsAsAlways_31 (by decide) rfl ?_
    obtain ⟨s2, k⟩ := k
    refine R_iast (n := 300) dd_standsAsAlways_32 ia_188 la_188 s2 rfl ?_
    exact R_vret dd_standsAsAlways_33 rfl k
  · replace k := k.2 c6
    refine R_ld (v := .inr (.inr 182)) dd_standsAsAlways_9 rfl rfl rfl rfl ?_
    refine R_gf (v := .inr (.inr 188)) dd_standsAsAlways_10 fd_12_95 io_182 (congrArg (fun z : Int => (Sum.inr (Sum.inr z) : LV)) (rf_182_10 hF)) rfl ?_
    refine R_ld (v := .inl v1) dd_standsAsAlways_13 rfl rfl rfl rfl ?_
    refine R_ld (v := .inl v2) dd_standsAsAlways_14 rfl rfl rfl rfl ?_
    obtain ⟨s3, k⟩ := k
    refine R_iadd (c := v1 + v2) dd_standsAsAlways_15 (by omega) s3 rfl ?_
    refine R_ic dd_standsAsAlways_16 (by decide) rfl ?_
    obtain ⟨s4, k⟩ := k
    refine R_iast (n := 300) dd_standsAsAlways_17 ia_188 la_188 s4 rfl ?_
    obtain ⟨s5, k⟩ := k
    refine R_inc (y := v2 + 1) (ls' := [some (.inr (.inr 182)), some (.inl v1), some (.inl (v2 + 1))]) dd_standsAsAlways_18 rfl (by decide) (by omega) s5 rfl rfl ?_
    refine R_goto dd_standsAsAlways_21 rfl ?_
    exact k
theorem B_readDoor_0 {xs : Nat → Int} {xl e : Nat} {h : LH} {Q : Option LV → LH → Prop} (hF : RF h)
    (k : ((rd h 188 151) ≠ 14 →
        (∃ c, c < e ∧ Rn xs xl c mm_readName 0 [some (.inr (.inr 182)), some (.inl (rd h 188 151))] [] h (fun r h' => Rn xs xl e mm_readDoor 26 [some (.inr (.inr 182)), some (.inl (rd h 188 151)), none, none, none] (r.toList ++ []) h' Q))) ∧
      ((rd h 188 151) = 14 →
        (∃ c, c < e ∧ Rn xs xl c mm_wrong 0 [some (.inr (.inr 182)), some (.inl 5)] [] h (fun r h' => Rn xs xl e mm_readDoor 20 [some (.inr (.inr 182)), some (.inl (rd h 188 151)), none, none, none] (r.toList ++ []) h' Q)))) :
    Rn xs xl e mm_readDoor 0 [some (.inr (.inr 182)), none, none, none, none] [] h Q := by
  refine R_ld (v := .inr (.inr 182)) dd_readDoor_0 rfl rfl rfl rfl ?_
  refine R_gf (v := .inr (.inr 188)) dd_readDoor_1 fd_12_95 io_182 (congrArg (fun z : Int => (Sum.inr (Sum.inr z) : LV)) (rf_182_10 hF)) rfl ?_
  refine R_si dd_readDoor_4 (by decide) rfl ?_
  refine R_iald (v := (rd h 188 151)) (n := 300) dd_readDoor_7 ia_188 la_188 (by decide) (rfl) rfl ?_
  refine R_st (ls' := [some (.inr (.inr 182)), some (.inl (rd h 188 151)), none, none, none]) dd_readDoor_8 rfl rfl rfl (Nat.le_of_ble_eq_true rfl) rfl rfl ?_
  refine R_ld (v := .inl (rd h 188 151)) dd_readDoor_9 rfl rfl rfl rfl ?_
  refine R_bi dd_readDoor_10 (by decide) rfl ?_
  refine R_icmp dd_readDoor_12 rfl rfl (fun (c3 : (rd h 188 151) ≠ 14) => ?_) (fun (c3 : (rd h 188 151) = 14) => ?_)
  · replace k := k.1 c3
    refine R_ld (v := .inr (.inr 182)) dd_readDoor_21 rfl rfl rfl rfl ?_
    refine R_ld (v := .inl (rd h 188 151)) dd_readDoor_22 rfl rfl rfl rfl ?_
    obtain ⟨c, hc, k⟩ := k
    exact R_call (as := [.inr (.inr 182), .inl (rd h 188 151)]) (rest := []) (M' := mm_readName) (ls0 := [some (.inr (.inr 182)), some (.inl (rd h 188 151))]) dd_readDoor_23 rfl rfl (cw_v cw_12_267 io_182 rfl rfl (Nat.le_of_ble_eq_true rfl) (Nat.le_of_ble_eq_true rfl)) mt_readName rfl hc rfl k
  · replace k := k.2 c3
    refine R_ld (v := .inr (.inr 182)) dd_readDoor_15 rfl rfl rfl rfl ?_
    refine R_ic dd_readDoor_16 (by decide) rfl ?_
    obtain ⟨c, hc, k⟩ := k
    exact R_call (as := [.inr (.inr 182), .inl 5]) (rest := []) (M' := mm_wrong) (ls0 := [some (.inr (.inr 182)), some (.inl 5)]) dd_readDoor_17 rfl rfl (cw_v cw_12_216 io_182 rfl rfl (Nat.le_of_ble_eq_true rfl) (Nat.le_of_ble_eq_true rfl)) mt_wrong rfl hc rfl k
theorem B_readDoor_20 {xs : Nat → Int} {xl e : Nat} {h : LH} {Q : Option LV → LH → Prop} {v1 : Int} (hF : RF h)
    (k : Q none h) :
    Rn xs xl e mm_readDoor 20 [some (.inr (.inr 182)), some (.inl v1), none, none, none] [] h Q := by
  exact R_vret dd_readDoor_20 rfl k
theorem B_readDoor_26 {xs : Nat → Int} {xl e : Nat} {h : LH} {Q : Option LV → LH → Prop} {v1 : Int} (hF : RF h)
    (k : (-2147483648 ≤ 8 * v1 ∧ 8 * v1 ≤ 2147483647) ∧
      (-2147483648 ≤ 8 * v1 + 154 ∧ 8 * v1 + 154 ≤ 2147483647) ∧
      (-2147483648 ≤ 8 * v1 + 155 ∧ 8 * v1 + 155 ≤ 2147483647) ∧
      (∃ c, c < e ∧ Rn xs xl c mm_takeRoom 0 [some (.inr (.inr 182))] [] h (fun r h' => Rn xs xl e mm_readDoor 46 [some (.inr (.inr 182)), some (.inl v1), some (.inl (8 * v1 + 154)), none, none] (r.toList ++ [.inl (8 * v1 + 155), .inr (.inr 188)]) h' Q))) :
    Rn xs xl e mm_readDoor 26 [some (.inr (.inr 182)), some (.inl v1), none, none, none] [] h Q := by
  refine R_si dd_readDoor_26 (by decide) rfl ?_
  refine R_bi dd_readDoor_29 (by decide) rfl ?_
  refine R_ld (v := .inl v1) dd_readDoor_31 rfl rfl rfl rfl ?_
  obtain ⟨s1, k⟩ := k
  refine R_imul (c := 8 * v1) dd_readDoor_32 (by omega) s1 rfl ?_
  obtain ⟨s2, k⟩ := k
  refine R_iadd (c := 8 * v1 + 154) dd_readDoor_33 (by omega) s2 rfl ?_
  refine R_st (ls' := [some (.inr (.inr 182)), some (.inl v1), some (.inl (8 * v1 + 154)), none, none]) dd_readDoor_34 rfl rfl rfl (Nat.le_of_ble_eq_true rfl) rfl rfl ?_
  refine R_ld (v := .inr (.inr 182)) dd_readDoor_35 rfl rfl rfl rfl ?_
  refine R_gf (v := .inr (.inr 188)) dd_readDoor_36 fd_12_95 io_182 (congrArg (fun z : Int => (Sum.inr (Sum.inr z) : LV)) (rf_182_10 hF)) rfl ?_
  refine R_ld (v := .inl (8 * v1 + 154)) dd_readDoor_39 rfl rfl rfl rfl ?_
  refine R_ic dd_readDoor_40 (by decide) rfl ?_
  obtain ⟨s3, k⟩ := k
  refine R_iadd (c := 8 * v1 + 155) dd_readDoor_41 (by omega) s3 rfl ?_
  refine R_ld (v := .inr (.inr 182)) dd_readDoor_42 rfl rfl rfl rfl ?_
  obtain ⟨c, hc, k⟩ := k
  exact R_call (as := [.inr (.inr 182)]) (rest := [.inl (8 * v1 + 155), .inr (.inr 188)]) (M' := mm_takeRoom) (ls0 := [some (.inr (.inr 182))]) dd_readDoor_43 rfl rfl (cw_v cw_12_270 io_182 rfl rfl (Nat.le_of_ble_eq_true rfl) (Nat.le_of_ble_eq_true rfl)) mt_takeRoom rfl hc rfl k
theorem B_readDoor_46 {xs : Nat → Int} {xl e : Nat} {h : LH} {Q : Option LV → LH → Prop} {v1 v2 w1 w2 : Int} (hF : RF h)
    (k : (0 ≤ w1 ∧ w1 < 300) ∧
      (∃ c, c < e ∧ Rn xs xl c mm_takeWord 0 [some (.inr (.inr 182)), some (.inl 2)] [] (wr h 188 w1 w2) (fun r h' => Rn xs xl e mm_readDoor 52 [some (.inr (.inr 182)), some (.inl v1), some (.inl v2), none, none] (r.toList ++ []) h' Q))) :
    Rn xs xl e mm_readDoor 46 [some (.inr (.inr 182)), some (.inl v1), some (.inl v2), none, none] [.inl w2, .inl w1, .inr (.inr 188)] h Q := by
  obtain ⟨s1, k⟩ := k
  refine R_iast (n := 300) dd_readDoor_46 ia_188 la_188 s1 rfl ?_
  refine R_ld (v := .inr (.inr 182)) dd_readDoor_47 rfl rfl rfl rfl ?_
  refine R_ic dd_readDoor_48 (by decide) rfl ?_
  obtain ⟨c, hc, k⟩ := k
  exact R_call (as := [.inr (.inr 182), .inl 2]) (rest := []) (M' := mm_takeWord) (ls0 := [some (.inr (.inr 182)), some (.inl 2)]) dd_readDoor_49 rfl rfl (cw_v cw_12_225 io_182 rfl rfl (Nat.le_of_ble_eq_true rfl) (Nat.le_of_ble_eq_true rfl)) mt_takeWord rfl hc rfl k
theorem B_readDoor_52 {xs : Nat → Int} {xl e : Nat} {h : LH} {Q : Option LV → LH → Prop} {v1 v2 : Int} (hF : RF h)
    (k : (-2147483648 ≤ v2 + 2 ∧ v2 + 2 ≤ 2147483647) ∧
      (∃ c, c < e ∧ Rn xs xl c mm_takeRoom 0 [some (.inr (.inr 182))] [] h (fun r h' => Rn xs xl e mm_readDoor 63 [some (.inr (.inr 182)), some (.inl v1), some (.inl v2), none, none] (r.toList ++ [.inl (v2 + 2), .inr (.inr 188)]) h' Q))) :
    Rn xs xl e mm_readDoor 52 [some (.inr (.inr 182)), some (.inl v1), some (.inl v2), none, none] [] h Q := by
  refine R_ld (v := .inr (.inr 182)) dd_readDoor_52 rfl rfl rfl rfl ?_
  refine R_gf (v := .inr (.inr 188)) dd_readDoor_53 fd_12_95 io_182 (congrArg (fun z : Int => (Sum.inr (Sum.inr z) : LV)) (rf_182_10 hF)) rfl ?_
  refine R_ld (v := .inl v2) dd_readDoor_56 rfl rfl rfl rfl ?_
  refine R_ic dd_readDoor_57 (by decide) rfl ?_
  obtain ⟨s1, k⟩ := k
  refine R_iadd (c := v2 + 2) dd_readDoor_58 (by omega) s1 rfl ?_
  refine R_ld (v := .inr (.inr 182)) dd_readDoor_59 rfl rfl rfl rfl ?_
  obtain ⟨c, hc, k⟩ := k
  exact R_call (as := [.inr (.inr 182)]) (rest := [.inl (v2 + 2), .inr (.inr 188)]) (M' := mm_takeRoom) (ls0 := [some (.inr (.inr 182))]) dd_readDoor_60 rfl rfl (cw_v cw_12_270 io_182 rfl rfl (Nat.le_of_ble_eq_true rfl) (Nat.le_of_ble_eq_true rfl)) mt_takeRoom rfl hc rfl k
theorem B_readDoor_63 {xs : Nat → Int} {xl e : Nat} {h : LH} {Q : Option LV → LH → Prop} {v1 v2 w1 w2 : Int} (hF : RF h)
    (k : (0 ≤ w1 ∧ w1 < 300) ∧
      ((rd h 182 8) ≠ 0 →
        Rn xs xl e mm_readDoor 105 [some (.inr (.inr 182)), some (.inl v1), some (.inl v2), none, none] [] (wr h 188 w1 w2) Q) ∧
      ((rd h 182 8) = 0 →
        (-2147483648 ≤ v2 + 1 ∧ v2 + 1 ≤ 2147483647) ∧
        (0 ≤ v2 + 1 ∧ v2 + 1 < 300) ∧
        (-2147483648 ≤ v2 + 2 ∧ v2 + 2 ≤ 2147483647) ∧
        (0 ≤ v2 + 2 ∧ v2 + 2 < 300) ∧
        ((rd (wr h 188 w1 w2) 188 (v2 + 1)) ≠ (rd (wr h 188 w1 w2) 188 (v2 + 2)) →
          Rn xs xl e mm_readDoor 105 [some (.inr (.inr 182)), some (.inl v1), some (.inl v2), none, none] [] (wr h 188 w1 w2) Q) ∧
        ((rd (wr h 188 w1 w2) 188 (v2 + 1)) = (rd (wr h 188 w1 w2) 188 (v2 + 2)) →
          (-2147483648 ≤ (rd h 182 7) - 1 ∧ (rd h 182 7) - 1 ≤ 2147483647) ∧
          (∃ c, c < e ∧ Rn xs xl c mm_wrong 0 [some (.inr (.inr 182)), some (.inl 3)] [] (wr (wr h 188 w1 w2) 182 7 ((rd h 182 7) - 1)) (fun r h' => Rn xs xl e mm_readDoor 105 [some (.inr (.inr 182)), some (.inl v1), some (.inl v2), none, none] (r.toList ++ []) h' Q))))) :
    Rn xs xl e mm_readDoor 63 [some (.inr (.inr 182)), some (.inl v1), some (.inl v2), none, none] [.inl w2, .inl w1, .inr (.inr 188)] h Q := by
  obtain ⟨s1, k⟩ := k
  refine R_iast (n := 300) dd_readDoor_63 ia_188 la_188 s1 rfl ?_
  refine R_ld (v := .inr (.inr 182)) dd_readDoor_64 rfl rfl rfl rfl ?_
  refine R_gf (v := .inl (rd h 182 8)) dd_readDoor_65 fd_12_210 io_182 (congrArg (fun z : Int => (Sum.inl z : LV)) (rdw_ne (by decide))) rfl ?_
  refine R_if dd_readDoor_68 rfl rfl (fun (c8 : (rd h 182 8) ≠ 0) => ?_) (fun (c8 : (rd h 182 8) = 0) => ?_)
  · replace k := k.1 c8
    exact k
  · replace k := k.2 c8
    refine R_ld (v := .inr (.inr 182)) dd_readDoor_71 rfl rfl rfl rfl ?_
    refine R_gf (v := .inr (.inr 188)) dd_readDoor_72 fd_12_95 io_182 (congrArg (fun z : Int => (Sum.inr (Sum.inr z) : LV)) ((rdw_ne (by decide)).trans (rf_182_10 hF))) rfl ?_
    refine R_ld (v := .inl v2) dd_readDoor_75 rfl rfl rfl rfl ?_
    refine R_ic dd_readDoor_76 (by decide) rfl ?_
    obtain ⟨s2, k⟩ := k
    refine R_iadd (c := v2 + 1) dd_readDoor_77 (by omega) s2 rfl ?_
    obtain ⟨s3, k⟩ := k
    refine R_iald (v := (rd (wr h 188 w1 w2) 188 (v2 + 1))) (n := 300) dd_readDoor_78 ia_188 la_188 s3 (rfl) rfl ?_
    refine R_ld (v := .inr (.inr 182)) dd_readDoor_79 rfl rfl rfl rfl ?_
    refine R_gf (v := .inr (.inr 188)) dd_readDoor_80 fd_12_95 io_182 (congrArg (fun z : Int => (Sum.inr (Sum.inr z) : LV)) ((rdw_ne (by decide)).trans (rf_182_10 hF))) rfl ?_
    refine R_ld (v := .inl v2) dd_readDoor_83 rfl rfl rfl rfl ?_
    refine R_ic dd_readDoor_84 (by decide) rfl ?_
    obtain ⟨s4, k⟩ := k
    refine R_iadd (c := v2 + 2) dd_readDoor_85 (by omega) s4 rfl ?_
    obtain ⟨s5, k⟩ := k
    refine R_iald (v := (rd (wr h 188 w1 w2) 188 (v2 + 2))) (n := 300) dd_readDoor_86 ia_188 la_188 s5 (rfl) rfl ?_
    refine R_icmp dd_readDoor_87 rfl rfl (fun (c9 : (rd (wr h 188 w1 w2) 188 (v2 + 1)) ≠ (rd (wr h 188 w1 w2) 188 (v2 + 2))) => ?_) (fun (c9 : (rd (wr h 188 w1 w2) 188 (v2 + 1)) = (rd (wr h 188 w1 w2) 188 (v2 + 2))) => ?_)
    · replace k := k.1 c9
      exact k
    · replace k := k.2 c9
      refine R_ld (v := .inr (.inr 182)) dd_readDoor_90 rfl rfl rfl rfl ?_
      refine R_A dd_readDoor_91 rfl rfl rfl rfl ?_
      refine R_gf (v := .inl (rd h 182 7)) dd_readDoor_92 fd_12_207 io_182 (congrArg (fun z : Int => (Sum.inl z : LV)) (rdw_ne (by decide))) rfl ?_
      refine R_ic dd_readDoor_95 (by decide) rfl ?_
      obtain ⟨s6, k⟩ := k
      refine R_isub (c := (rd h 182 7) - 1) dd_readDoor_96 (by omega) s6 rfl ?_
      refine R_pf (z := ((rd h 182 7) - 1)) dd_readDoor_97 fd_12_207 io_182 fn_12_7 rfl rfl ?_
      refine R_ld (v := .inr (.inr 182)) dd_readDoor_100 rfl rfl rfl rfl ?_
      refine R_ic dd_readDoor_101 (by decide) rfl ?_
      obtain ⟨c, hc, k⟩ := k
      exact R_call (as := [.inr (.inr 182), .inl 3]) (rest := []) (M' := mm_wrong) (ls0 := [some (.inr (.inr 182)), some (.inl 3)]) dd_readDoor_102 rfl rfl (cw_v cw_12_216 io_182 rfl rfl (Nat.le_of_ble_eq_true rfl) (Nat.le_of_ble_eq_true rfl)) mt_wrong rfl hc rfl k
theorem B_readDoor_105 {xs : Nat → Int} {xl e : Nat} {h : LH} {Q : Option LV → LH → Prop} {v1 v2 : Int} (hF : RF h)
    (k : ((rd h 182 8) ≤ 0 →
        (∃ c, c < e ∧ Rn xs xl c mm_wordHere 0 [some (.inr (.inr 182)), some (.inl 14), some (.inl 4), none, none] [] h (fun r h' => Rn xs xl e mm_readDoor 123 [some (.inr (.inr 182)), some (.inl v1), some (.inl v2), none, none] (r.toList ++ []) h' Q))) ∧
      (0 < (rd h 182 8) →
        Rn xs xl e mm_readDoor 123 [some (.inr (.inr 182)), some (.inl v1), some (.inl v2), none, none] [.inl (-1)] h Q)) :
    Rn xs xl e mm_readDoor 105 [some (.inr (.inr 182)), some (.inl v1), some (.inl v2), none, none] [] h Q := by
  refine R_ld (v := .inr (.inr 182)) dd_readDoor_105 rfl rfl rfl rfl ?_
  refine R_gf (v := .inl (rd h 182 8)) dd_readDoor_106 fd_12_210 io_182 (congrArg (fun z : Int => (Sum.inl z : LV)) (rfl)) rfl ?_
  refine R_if dd_readDoor_109 rfl rfl (fun (c2 : (rd h 182 8) ≤ 0) => ?_) (fun (c2 : 0 < (rd h 182 8)) => ?_)
  · replace k := k.1 c2
    refine R_ld (v := .inr (.inr 182)) dd_readDoor_116 rfl rfl rfl rfl ?_
    refine R_bi dd_readDoor_117 (by decide) rfl ?_
    refine R_ic dd_readDoor_119 (by decide) rfl ?_
    obtain ⟨c, hc, k⟩ := k
    exact R_call (as := [.inr (.inr 182), .inl 14, .inl 4]) (rest := []) (M' := mm_wordHere) (ls0 := [some (.inr (.inr 182)), some (.inl 14), some (.inl 4), none, none]) dd_readDoor_120 rfl rfl (cw_v cw_12_232 io_182 rfl rfl (Nat.le_of_ble_eq_true rfl) (Nat.le_of_ble_eq_true rfl)) mt_wordHere rfl hc rfl k
  · replace k := k.2 c2
    refine R_ic dd_readDoor_112 (by decide) rfl ?_
    refine R_goto dd_readDoor_113 rfl ?_
    exact k
theorem B_readDoor_123 {xs : Nat → Int} {xl e : Nat} {h : LH} {Q : Option LV → LH → Prop} {v1 v2 w0 : Int} (hF : RF h)
    (k : (0 ≤ w0 →
        (-2147483648 ≤ (rd h 182 7) + 1 ∧ (rd h 182 7) + 1 ≤ 2147483647) ∧
        (0 ≤ v2 ∧ v2 < 300) ∧
        (∃ c, c < e ∧ Rn xs xl c mm_hasWord 0 [some (.inr (.inr 182)), some (.inl 3), none] [] (wr (wr h 182 7 ((rd h 182 7) + 1)) 188 v2 w0) (fun r h' => Rn xs xl e mm_readDoor 156 [some (.inr (.inr 182)), some (.inl v1), some (.inl v2), some (.inl w0), none] (r.toList ++ []) h' Q))) ∧
      (w0 < 0 →
        (∃ c, c < e ∧ Rn xs xl c mm_wrong 0 [some (.inr (.inr 182)), some (.inl 1)] [] h (fun r h' => Rn xs xl e mm_readDoor 133 [some (.inr (.inr 182)), some (.inl v1), some (.inl v2), some (.inl w0), none] (r.toList ++ []) h' Q)))) :
    Rn xs xl e mm_readDoor 123 [some (.inr (.inr 182)), some (.inl v1), some (.inl v2), none, none] [.inl w0] h Q := by
  refine R_st (ls' := [some (.inr (.inr 182)), some (.inl v1), some (.inl v2), some (.inl w0), none]) dd_readDoor_123 rfl rfl rfl (Nat.le_of_ble_eq_true rfl) rfl rfl ?_
  refine R_ld (v := .inl w0) dd_readDoor_124 rfl rfl rfl rfl ?_
  refine R_if dd_readDoor_125 rfl rfl (fun (c5 : 0 ≤ w0) => ?_) (fun (c5 : w0 < 0) => ?_)
  · replace k := k.1 c5
    refine R_ld (v := .inr (.inr 182)) dd_readDoor_134 rfl rfl rfl rfl ?_
    refine R_A dd_readDoor_135 rfl rfl rfl rfl ?_
    refine R_gf (v := .inl (rd h 182 7)) dd_readDoor_136 fd_12_207 io_182 (congrArg (fun z : Int => (Sum.inl z : LV)) (rfl)) rfl ?_
    refine R_ic dd_readDoor_139 (by decide) rfl ?_
    obtain ⟨s1, k⟩ := k
    refine R_iadd (c := (rd h 182 7) + 1) dd_readDoor_140 (by omega) s1 rfl ?_
    refine R_pf (z := ((rd h 182 7) + 1)) dd_readDoor_141 fd_12_207 io_182 fn_12_7 rfl rfl ?_
    refine R_ld (v := .inr (.inr 182)) dd_readDoor_144 rfl rfl rfl rfl ?_
    refine R_gf (v := .inr (.inr 188)) dd_readDoor_145 fd_12_95 io_182 (congrArg (fun z : Int => (Sum.inr (Sum.inr z) : LV)) ((rdw_nei (by omega)).trans (rf_182_10 hF))) rfl ?_
    refine R_ld (v := .inl v2) dd_readDoor_148 rfl rfl rfl rfl ?_
    refine R_ld (v := .inl w0) dd_readDoor_149 rfl rfl rfl rfl ?_
    obtain ⟨s2, k⟩ := k
    refine R_iast (n := 300) dd_readDoor_150 ia_188 la_188 s2 rfl ?_
    refine R_ld (v := .inr (.inr 182)) dd_readDoor_151 rfl rfl rfl rfl ?_
    refine R_ic dd_readDoor_152 (by decide) rfl ?_
    obtain ⟨c, hc, k⟩ := k
    exact R_call (as := [.inr (.inr 182), .inl 3]) (rest := []) (M' := mm_hasWord) (ls0 := [some (.inr (.inr 182)), some (.inl 3), none]) dd_readDoor_153 rfl rfl (cw_v cw_12_222 io_182 rfl rfl (Nat.le_of_ble_eq_true rfl) (Nat.le_of_ble_eq_true rfl)) mt_hasWord rfl hc rfl k
  · replace k := k.2 c5
    refine R_ld (v := .inr (.inr 182)) dd_readDoor_128 rfl rfl rfl rfl ?_
    refine R_ic dd_readDoor_129 (by decide) rfl ?_
    obtain ⟨c, hc, k⟩ := k
    exact R_call (as := [.inr (.inr 182), .inl 1]) (rest := []) (M' := mm_wrong) (ls0 := [some (.inr (.inr 182)), some (.inl 1)]) dd_readDoor_130 rfl rfl (cw_v cw_12_216 io_182 rfl rfl (Nat.le_of_ble_eq_true rfl) (Nat.le_of_ble_eq_true rfl)) mt_wrong rfl hc rfl k
theorem B_readDoor_133 {xs : Nat → Int} {xl e : Nat} {h : LH} {Q : Option LV → LH → Prop} {v1 v2 v3 : Int} (hF : RF h)
    (k : Q none h) :
    Rn xs xl e mm_readDoor 133 [some (.inr (.inr 182)), some (.inl v1), some (.inl v2), some (.inl v3), none] [] h Q := by
  exact R_vret dd_readDoor_133 rfl k
theorem B_readDoor_156 {xs : Nat → Int} {xl e : Nat} {h : LH} {Q : Option LV → LH → Prop} {v1 v2 v3 w0 : Int} (hF : RF h)
    (k : (-2147483648 ≤ v2 + 3 ∧ v2 + 3 ≤ 2147483647) ∧
      (w0 = 0 →
        Rn xs xl e mm_readDoor 181 [some (.inr (.inr 182)), some (.inl v1), some (.inl v2), some (.inl v3), some (.inl w0)] [.inl 0, .inl (v2 + 3), .inr (.inr 188)] h Q) ∧
      (w0 ≠ 0 →
        (∃ c, c < e ∧ Rn xs xl c mm_takeNumber 0 [some (.inr (.inr 182)), some (.inl 0), some (.inl 23)] [] h (fun r h' => Rn xs xl e mm_readDoor 177 [some (.inr (.inr 182)), some (.inl v1), some (.inl v2), some (.inl v3), some (.inl w0)] (r.toList ++ [.inl (v2 + 3), .inr (.inr 188)]) h' Q)))) :
    Rn xs xl e mm_readDoor 156 [some (.inr (.inr 182)), some (.inl v1), some (.inl v2), some (.inl v3), none] [.inl w0] h Q := by
  refine R_st (ls' := [some (.inr (.inr 182)), some (.inl v1), some (.inl v2), some (.inl v3), some (.inl w0)]) dd_readDoor_156 rfl rfl rfl (Nat.le_of_ble_eq_true rfl) rfl rfl ?_
  refine R_ld (v := .inr (.inr 182)) dd_readDoor_158 rfl rfl rfl rfl ?_
  refine R_gf (v := .inr (.inr 188)) dd_readDoor_159 fd_12_95 io_182 (congrArg (fun z : Int => (Sum.inr (Sum.inr z) : LV)) (rf_182_10 hF)) rfl ?_
  refine R_ld (v := .inl v2) dd_readDoor_162 rfl rfl rfl rfl ?_
  refine R_ic dd_readDoor_163 (by decide) rfl ?_
  obtain ⟨s1, k⟩ := k
  refine R_iadd (c := v2 + 3) dd_readDoor_164 (by omega) s1 rfl ?_
  refine R_ld (v := .inl w0) dd_readDoor_165 rfl rfl rfl rfl ?_
  refine R_if dd_readDoor_167 rfl rfl (fun (c3 : w0 = 0) => ?_) (fun (c3 : w0 ≠ 0) => ?_)
  · replace k := k.1 c3
    refine R_ic dd_readDoor_180 (by decide) rfl ?_
    exact k
  · replace k := k.2 c3
    refine R_ld (v := .inr (.inr 182)) dd_readDoor_170 rfl rfl rfl rfl ?_
    refine R_ic dd_readDoor_171 (by decide) rfl ?_
    refine R_bi dd_readDoor_172 (by decide) rfl ?_
    obtain ⟨c, hc, k⟩ := k
    exact R_call (as := [.inr (.inr 182), .inl 0, .inl 23]) (rest := [.inl (v2 + 3), .inr (.inr 188)]) (M' := mm_takeNumber) (ls0 := [some (.inr (.inr 182)), some (.inl 0), some (.inl 23)]) dd_readDoor_174 rfl rfl (cw_v cw_12_228 io_182 rfl rfl (Nat.le_of_ble_eq_true rfl) (Nat.le_of_ble_eq_true rfl)) mt_takeNumber rfl hc rfl k
theorem B_readDoor_177 {xs : Nat → Int} {xl e : Nat} {h : LH} {Q : Option LV → LH → Prop} {v1 v2 v3 v4 w1 w2 : Int} (hF : RF h)
    (k : Rn xs xl e mm_readDoor 181 [some (.inr (.inr 182)), some (.inl v1), some (.inl v2), some (.inl v3), some (.inl v4)] [.inl w2, .inl w1, .inr (.inr 188)] h Q) :
    Rn xs xl e mm_readDoor 177 [some (.inr (.inr 182)), some (.inl v1), some (.inl v2), some (.inl v3), some (.inl v4)] [.inl w2, .inl w1, .inr (.inr 188)] h Q := by
  refine R_goto dd_readDoor_177 rfl ?_
  exact k
theorem B_readDoor_181 {xs : Nat → Int} {xl e : Nat} {h : LH} {Q : Option LV → LH → Prop} {v1 v2 v3 v4 w1 w2 : Int} (hF : RF h)
    (k : (0 ≤ w1 ∧ w1 < 300) ∧
      (-2147483648 ≤ v2 + 4 ∧ v2 + 4 ≤ 2147483647) ∧
      (v4 = 0 →
        Rn xs xl e mm_readDoor 216 [some (.inr (.inr 182)), some (.inl v1), some (.inl v2), some (.inl v3), some (.inl v4)] [.inl 24, .inl (v2 + 4), .inr (.inr 188)] (wr h 188 w1 w2) Q) ∧
      (v4 ≠ 0 →
        (-2147483648 ≤ v2 + 3 ∧ v2 + 3 ≤ 2147483647) ∧
        (0 ≤ v2 + 3 ∧ v2 + 3 < 300) ∧
        (-2147483648 ≤ (rd (wr h 188 w1 w2) 188 (v2 + 3)) + 1 ∧ (rd (wr h 188 w1 w2) 188 (v2 + 3)) + 1 ≤ 2147483647) ∧
        (∃ c, c < e ∧ Rn xs xl c mm_takeAfter 0 [some (.inr (.inr 182)), some (.inl 2), some (.inl ((rd (wr h 188 w1 w2) 188 (v2 + 3)) + 1)), some (.inl 24)] [] (wr h 188 w1 w2) (fun r h' => Rn xs xl e mm_readDoor 211 [some (.inr (.inr 182)), some (.inl v1), some (.inl v2), some (.inl v3), some (.inl v4)] (r.toList ++ [.inl (v2 + 4), .inr (.inr 188)]) h' Q)))) :
    Rn xs xl e mm_readDoor 181 [some (.inr (.inr 182)), some (.inl v1), some (.inl v2), some (.inl v3), some (.inl v4)] [.inl w2, .inl w1, .inr (.inr 188)] h Q := by
  obtain ⟨s1, k⟩ := k
  refine R_iast (n := 300) dd_readDoor_181 ia_188 la_188 s1 rfl ?_
  refine R_ld (v := .inr (.inr 182)) dd_readDoor_182 rfl rfl rfl rfl ?_
  refine R_gf (v := .inr (.inr 188)) dd_readDoor_183 fd_12_95 io_182 (congrArg (fun z : Int => (Sum.inr (Sum.inr z) : LV)) ((rdw_ne (by decide)).trans (rf_182_10 hF))) rfl ?_
  refine R_ld (v := .inl v2) dd_readDoor_186 rfl rfl rfl rfl ?_
  refine R_ic dd_readDoor_187 (by decide) rfl ?_
  obtain ⟨s2, k⟩ := k
  refine R_iadd (c := v2 + 4) dd_readDoor_188 (by omega) s2 rfl ?_
  refine R_ld (v := .inl v4) dd_readDoor_189 rfl rfl rfl rfl ?_
  refine R_if dd_readDoor_191 rfl rfl (fun (c7 : v4 = 0) => ?_) (fun (c7 : v4 ≠ 0) => ?_)
  · replace k := k.1 c7
    refine R_bi dd_readDoor_214 (by decide) rfl ?_
    exact k
  · replace k := k.2 c7
    refine R_ld (v := .inr (.inr 182)) dd_readDoor_194 rfl rfl rfl rfl ?_
    refine R_ic dd_readDoor_195 (by decide) rfl ?_
    refine R_ld (v := .inr (.inr 182)) dd_readDoor_196 rfl rfl rfl rfl ?_
    refine R_gf (v := .inr (.inr 188)) dd_readDoor_197 fd_12_95 io_182 (congrArg (fun z : Int => (Sum.inr (Sum.inr z) : LV)) ((rdw_ne (by decide)).trans (rf_182_10 hF))) rfl ?_
    refine R_ld (v := .inl v2) dd_readDoor_200 rfl rfl rfl rfl ?_
    refine R_ic dd_readDoor_201 (by decide) rfl ?_
    obtain ⟨s3, k⟩ := k
    refine R_iadd (c := v2 + 3) dd_readDoor_202 (by omega) s3 rfl ?_
    obtain ⟨s4, k⟩ := k
    refine R_iald (v := (rd (wr h 188 w1 w2) 188 (v2 + 3))) (n := 300) dd_readDoor_203 ia_188 la_188 s4 (rfl) rfl ?_
    refine R_ic dd_readDoor_204 (by decide) rfl ?_
    obtain ⟨s5, k⟩ := k
    refine R_iadd (c := (rd (wr h 188 w1 w2) 188 (v2 + 3)) + 1) dd_readDoor_205 (by omega) s5 rfl ?_
    refine R_bi dd_readDoor_206 (by decide) rfl ?_
    obtain ⟨c, hc, k⟩ := k
    exact R_call (as := [.inr (.inr 182), .inl 2, .inl ((rd (wr h 188 w1 w2) 188 (v2 + 3)) + 1), .inl 24]) (rest := [.inl (v2 + 4), .inr (.inr 188)]) (M' := mm_takeAfter) (ls0 := [some (.inr (.inr 182)), some (.inl 2), some (.inl ((rd (wr h 188 w1 w2) 188 (v2 + 3)) + 1)), some (.inl 24)]) dd_readDoor_208 rfl rfl (cw_v cw_12_274 io_182 rfl rfl (Nat.le_of_ble_eq_true rfl) (Nat.le_of_ble_eq_true rfl)) mt_takeAfter rfl hc rfl k
theorem B_readDoor_211 {xs : Nat → Int} {xl e : Nat} {h : LH} {Q : Option LV → LH → Prop} {v1 v2 v3 v4 w1 w2 : Int} (hF : RF h)
    (k : Rn xs xl e mm_readDoor 216 [some (.inr (.inr 182)), some (.inl v1), some (.inl v2), some (.inl v3), some (.inl v4)] [.inl w2, .inl w1, .inr (.inr 188)] h Q) :
    Rn xs xl e mm_readDoor 211 [some (.inr (.inr 182)), some (.inl v1), some (.inl v2), some (.inl v3), some (.inl v4)] [.inl w2, .inl w1, .inr (.inr 188)] h Q := by
  refine R_goto dd_readDoor_211 rfl ?_
  exact k
theorem B_readDoor_216 {xs : Nat → Int} {xl e : Nat} {h : LH} {Q : Option LV → LH → Prop} {v1 v2 v3 v4 w1 w2 : Int} (hF : RF h)
    (k : (0 ≤ w1 ∧ w1 < 300) ∧
      (-2147483648 ≤ v2 + 5 ∧ v2 + 5 ≤ 2147483647) ∧
      (∃ c, c < e ∧ Rn xs xl c mm_hasWord 0 [some (.inr (.inr 182)), some (.inl 4), none] [] (wr h 188 w1 w2) (fun r h' => Rn xs xl e mm_readDoor 229 [some (.inr (.inr 182)), some (.inl v1), some (.inl v2), some (.inl v3), some (.inl v4)] (r.toList ++ [.inl (v2 + 5), .inr (.inr 188)]) h' Q))) :
    Rn xs xl e mm_readDoor 216 [some (.inr (.inr 182)), some (.inl v1), some (.inl v2), some (.inl v3), some (.inl v4)] [.inl w2, .inl w1, .inr (.inr 188)] h Q := by
  obtain ⟨s1, k⟩ := k
  refine R_iast (n := 300) dd_readDoor_216 ia_188 la_188 s1 rfl ?_
  refine R_ld (v := .inr (.inr 182)) dd_readDoor_217 rfl rfl rfl rfl ?_
  refine R_gf (v := .inr (.inr 188)) dd_readDoor_218 fd_12_95 io_182 (congrArg (fun z : Int => (Sum.inr (Sum.inr z) : LV)) ((rdw_ne (by decide)).trans (rf_182_10 hF))) rfl ?_
  refine R_ld (v := .inl v2) dd_readDoor_221 rfl rfl rfl rfl ?_
  refine R_ic dd_readDoor_222 (by decide) rfl ?_
  obtain ⟨s2, k⟩ := k
  refine R_iadd (c := v2 + 5) dd_readDoor_223 (by omega) s2 rfl ?_
  refine R_ld (v := .inr (.inr 182)) dd_readDoor_224 rfl rfl rfl rfl ?_
  refine R_ic dd_readDoor_225 (by decide) rfl ?_
  obtain ⟨c, hc, k⟩ := k
  exact R_call (as := [.inr (.inr 182), .inl 4]) (rest := [.inl (v2 + 5), .inr (.inr 188)]) (M' := mm_hasWord) (ls0 := [some (.inr (.inr 182)), some (.inl 4), none]) dd_readDoor_226 rfl rfl (cw_v cw_12_222 io_182 rfl rfl (Nat.le_of_ble_eq_true rfl) (Nat.le_of_ble_eq_true rfl)) mt_hasWord rfl hc rfl k
theorem B_readDoor_229 {xs : Nat → Int} {xl e : Nat} {h : LH} {Q : Option LV → LH → Prop} {v1 v2 v3 v4 w1 w2 : Int} (hF : RF h)
    (k : (w2 = 0 →
        Rn xs xl e mm_readDoor 240 [some (.inr (.inr 182)), some (.inl v1), some (.inl v2), some (.inl v3), some (.inl v4)] [.inl (-1), .inl w1, .inr (.inr 188)] h Q) ∧
      (w2 ≠ 0 →
        (∃ c, c < e ∧ Rn xs xl c mm_takeSort 0 [some (.inr (.inr 182)), none] [] h (fun r h' => Rn xs xl e mm_readDoor 236 [some (.inr (.inr 182)), some (.inl v1), some (.inl v2), some (.inl v3), some (.inl v4)] (r.toList ++ [.inl w1, .inr (.inr 188)]) h' Q)))) :
    Rn xs xl e mm_readDoor 229 [some (.inr (.inr 182)), some (.inl v1), some (.inl v2), some (.inl v3), some (.inl v4)] [.inl w2, .inl w1, .inr (.inr 188)] h Q := by
  refine R_if dd_readDoor_229 rfl rfl (fun (c2 : w2 = 0) => ?_) (fun (c2 : w2 ≠ 0) => ?_)
  · replace k := k.1 c2
    refine R_ic dd_readDoor_239 (by decide) rfl ?_
    exact k
  · replace k := k.2 c2
    refine R_ld (v := .inr (.inr 182)) dd_readDoor_232 rfl rfl rfl rfl ?_
    obtain ⟨c, hc, k⟩ := k
    exact R_call (as := [.inr (.inr 182)]) (rest := [.inl w1, .inr (.inr 188)]) (M' := mm_takeSort) (ls0 := [some (.inr (.inr 182)), none]) dd_readDoor_233 rfl rfl (cw_v cw_12_278 io_182 rfl rfl (Nat.le_of_ble_eq_true rfl) (Nat.le_of_ble_eq_true rfl)) mt_takeSort rfl hc rfl k
theorem B_readDoor_236 {xs : Nat → Int} {xl e : Nat} {h : LH} {Q : Option LV → LH → Prop} {v1 v2 v3 v4 w1 w2 : Int} (hF : RF h)
    (k : Rn xs xl e mm_readDoor 240 [some (.inr (.inr 182)), some (.inl v1), some (.inl v2), some (.inl v3), some (.inl v4)] [.inl w2, .inl w1, .inr (.inr 188)] h Q) :
    Rn xs xl e mm_readDoor 236 [some (.inr (.inr 182)), some (.inl v1), some (.inl v2), some (.inl v3), some (.inl v4)] [.inl w2, .inl w1, .inr (.inr 188)] h Q := by
  refine R_goto dd_readDoor_236 rfl ?_
  exact k
theorem B_readDoor_240 {xs : Nat → Int} {xl e : Nat} {h : LH} {Q : Option LV → LH → Prop} {v1 v2 v3 v4 w1 w2 : Int} (hF : RF h)
    (k : (0 ≤ w1 ∧ w1 < 300) ∧
      (-2147483648 ≤ v2 + 6 ∧ v2 + 6 ≤ 2147483647) ∧
      (∃ c, c < e ∧ Rn xs xl c mm_hasWord 0 [some (.inr (.inr 182)), some (.inl 5), none] [] (wr h 188 w1 w2) (fun r h' => Rn xs xl e mm_readDoor 254 [some (.inr (.inr 182)), some (.inl v1), some (.inl v2), some (.inl v3), some (.inl v4)] (r.toList ++ [.inl (v2 + 6), .inr (.inr 188)]) h' Q))) :
    Rn xs xl e mm_readDoor 240 [some (.inr (.inr 182)), some (.inl v1), some (.inl v2), some (.inl v3), some (.inl v4)] [.inl w2, .inl w1, .inr (.inr 188)] h Q := by
  obtain ⟨s1, k⟩ := k
  refine R_iast (n := 300) dd_readDoor_240 ia_188 la_188 s1 rfl ?_
  refine R_ld (v := .inr (.inr 182)) dd_readDoor_241 rfl rfl rfl rfl ?_
  refine R_gf (v := .inr (.inr 188)) dd_readDoor_242 fd_12_95 io_182 (congrArg (fun z : Int => (Sum.inr (Sum.inr z) : LV)) ((rdw_ne (by decide)).trans (rf_182_10 hF))) rfl ?_
  refine R_ld (v := .inl v2) dd_readDoor_245 rfl rfl rfl rfl ?_
  refine R_bi dd_readDoor_246 (by decide) rfl ?_
  obtain ⟨s2, k⟩ := k
  refine R_iadd (c := v2 + 6) dd_readDoor_248 (by omega) s2 rfl ?_
  refine R_ld (v := .inr (.inr 182)) dd_readDoor_249 rfl rfl rfl rfl ?_
  refine R_ic dd_readDoor_250 (by decide) rfl ?_
  obtain ⟨c, hc, k⟩ := k
  exact R_call (as := [.inr (.inr 182), .inl 5]) (rest := [.inl (v2 + 6), .inr (.inr 188)]) (M' := mm_hasWord) (ls0 := [some (.inr (.inr 182)), some (.inl 5), none]) dd_readDoor_251 rfl rfl (cw_v cw_12_222 io_182 rfl rfl (Nat.le_of_ble_eq_true rfl) (Nat.le_of_ble_eq_true rfl)) mt_hasWord rfl hc rfl k
theorem B_readDoor_254 {xs : Nat → Int} {xl e : Nat} {h : LH} {Q : Option LV → LH → Prop} {v1 v2 v3 v4 w1 w2 : Int} (hF : RF h)
    (k : (w2 = 0 →
        Rn xs xl e mm_readDoor 268 [some (.inr (.inr 182)), some (.inl v1), some (.inl v2), some (.inl v3), some (.inl v4)] [.inl 1, .inl w1, .inr (.inr 188)] h Q) ∧
      (w2 ≠ 0 →
        (∃ c, c < e ∧ Rn xs xl c mm_takeNumber 0 [some (.inr (.inr 182)), some (.inl 1), some (.inl 9)] [] h (fun r h' => Rn xs xl e mm_readDoor 264 [some (.inr (.inr 182)), some (.inl v1), some (.inl v2), some (.inl v3), some (.inl v4)] (r.toList ++ [.inl w1, .inr (.inr 188)]) h' Q)))) :
    Rn xs xl e mm_readDoor 254 [some (.inr (.inr 182)), some (.inl v1), some (.inl v2), some (.inl v3), some (.inl v4)] [.inl w2, .inl w1, .inr (.inr 188)] h Q := by
  refine R_if dd_readDoor_254 rfl rfl (fun (c2 : w2 = 0) => ?_) (fun (c2 : w2 ≠ 0) => ?_)
  · replace k := k.1 c2
    refine R_ic dd_readDoor_267 (by decide) rfl ?_
    exact k
  · replace k := k.2 c2
    refine R_ld (v := .inr (.inr 182)) dd_readDoor_257 rfl rfl rfl rfl ?_
    refine R_ic dd_readDoor_258 (by decide) rfl ?_
    refine R_bi dd_readDoor_259 (by decide) rfl ?_
    obtain ⟨c, hc, k⟩ := k
    exact R_call (as := [.inr (.inr 182), .inl 1, .inl 9]) (rest := [.inl w1, .inr (.inr 188)]) (M' := mm_takeNumber) (ls0 := [some (.inr (.inr 182)), some (.inl 1), some (.inl 9)]) dd_readDoor_261 rfl rfl (cw_v cw_12_228 io_182 rfl rfl (Nat.le_of_ble_eq_true rfl) (Nat.le_of_ble_eq_true rfl)) mt_takeNumber rfl hc rfl k
theorem B_readDoor_264 {xs : Nat → Int} {xl e : Nat} {h : LH} {Q : Option LV → LH → Prop} {v1 v2 v3 v4 w1 w2 : Int} (hF : RF h)
    (k : Rn xs xl e mm_readDoor 268 [some (.inr (.inr 182)), some (.inl v1), some (.inl v2), some (.inl v3), some (.inl v4)] [.inl w2, .inl w1, .inr (.inr 188)] h Q) :
    Rn xs xl e mm_readDoor 264 [some (.inr (.inr 182)), some (.inl v1), some (.inl v2), some (.inl v3), some (.inl v4)] [.inl w2, .inl w1, .inr (.inr 188)] h Q := by
  refine R_goto dd_readDoor_264 rfl ?_
  exact k
theorem B_readDoor_268 {xs : Nat → Int} {xl e : Nat} {h : LH} {Q : Option LV → LH → Prop} {v1 v2 v3 v4 w1 w2 : Int} (hF : RF h)
    (k : (0 ≤ w1 ∧ w1 < 300) ∧
      (-2147483648 ≤ v2 + 7 ∧ v2 + 7 ≤ 2147483647) ∧
      (∃ c, c < e ∧ Rn xs xl c mm_hasWord 0 [some (.inr (.inr 182)), some (.inl 6), none] [] (wr h 188 w1 w2) (fun r h' => Rn xs xl e mm_readDoor 283 [some (.inr (.inr 182)), some (.inl v1), some (.inl v2), some (.inl v3), some (.inl v4)] (r.toList ++ [.inl (v2 + 7), .inr (.inr 188)]) h' Q))) :
    Rn xs xl e mm_readDoor 268 [some (.inr (.inr 182)), some (.inl v1), some (.inl v2), some (.inl v3), some (.inl v4)] [.inl w2, .inl w1, .inr (.inr 188)] h Q := by
  obtain ⟨s1, k⟩ := k
  refine R_iast (n := 300) dd_readDoor_268 ia_188 la_188 s1 rfl ?_
  refine R_ld (v := .inr (.inr 182)) dd_readDoor_269 rfl rfl rfl rfl ?_
  refine R_gf (v := .inr (.inr 188)) dd_readDoor_270 fd_12_95 io_182 (congrArg (fun z : Int => (Sum.inr (Sum.inr z) : LV)) ((rdw_ne (by decide)).trans (rf_182_10 hF))) rfl ?_
  refine R_ld (v := .inl v2) dd_readDoor_273 rfl rfl rfl rfl ?_
  refine R_bi dd_readDoor_274 (by decide) rfl ?_
  obtain ⟨s2, k⟩ := k
  refine R_iadd (c := v2 + 7) dd_readDoor_276 (by omega) s2 rfl ?_
  refine R_ld (v := .inr (.inr 182)) dd_readDoor_277 rfl rfl rfl rfl ?_
  refine R_bi dd_readDoor_278 (by decide) rfl ?_
  obtain ⟨c, hc, k⟩ := k
  exact R_call (as := [.inr (.inr 182), .inl 6]) (rest := [.inl (v2 + 7), .inr (.inr 188)]) (M' := mm_hasWord) (ls0 := [some (.inr (.inr 182)), some (.inl 6), none]) dd_readDoor_280 rfl rfl (cw_v cw_12_222 io_182 rfl rfl (Nat.le_of_ble_eq_true rfl) (Nat.le_of_ble_eq_true rfl)) mt_hasWord rfl hc rfl k
theorem B_readDoor_283 {xs : Nat → Int} {xl e : Nat} {h : LH} {Q : Option LV → LH → Prop} {v1 v2 v3 v4 w1 w2 : Int} (hF : RF h)
    (k : (w2 = 0 →
        Rn xs xl e mm_readDoor 297 [some (.inr (.inr 182)), some (.inl v1), some (.inl v2), some (.inl v3), some (.inl v4)] [.inl 0, .inl w1, .inr (.inr 188)] h Q) ∧
      (w2 ≠ 0 →
        (∃ c, c < e ∧ Rn xs xl c mm_takeNumber 0 [some (.inr (.inr 182)), some (.inl 0), some (.inl 9)] [] h (fun r h' => Rn xs xl e mm_readDoor 293 [some (.inr (.inr 182)), some (.inl v1), some (.inl v2), some (.inl v3), some (.inl v4)] (r.toList ++ [.inl w1, .inr (.inr 188)]) h' Q)))) :
    Rn xs xl e mm_readDoor 283 [some (.inr (.inr 182)), some (.inl v1), some (.inl v2), some (.inl v3), some (.inl v4)] [.inl w2, .inl w1, .inr (.inr 188)] h Q := by
  refine R_if dd_readDoor_283 rfl rfl (fun (c2 : w2 = 0) => ?_) (fun (c2 : w2 ≠ 0) => ?_)
  · replace k := k.1 c2
    refine R_ic dd_readDoor_296 (by decide) rfl ?_
    exact k
  · replace k := k.2 c2
    refine R_ld (v := .inr (.inr 182)) dd_readDoor_286 rfl rfl rfl rfl ?_
    refine R_ic dd_readDoor_287 (by decide) rfl ?_
    refine R_bi dd_readDoor_288 (by decide) rfl ?_
    obtain ⟨c, hc, k⟩ := k
    exact R_call (as := [.inr (.inr 182), .inl 0, .inl 9]) (rest := [.inl w1, .inr (.inr 188)]) (M' := mm_takeNumber) (ls0 := [some (.inr (.inr 182)), some (.inl 0), some (.inl 9)]) dd_readDoor_290 rfl rfl (cw_v cw_12_228 io_182 rfl rfl (Nat.le_of_ble_eq_true rfl) (Nat.le_of_ble_eq_true rfl)) mt_takeNumber rfl hc rfl k
theorem B_readDoor_293 {xs : Nat → Int} {xl e : Nat} {h : LH} {Q : Option LV → LH → Prop} {v1 v2 v3 v4 w1 w2 : Int} (hF : RF h)
    (k : Rn xs xl e mm_readDoor 297 [some (.inr (.inr 182)), some (.inl v1), some (.inl v2), some (.inl v3), some (.inl v4)] [.inl w2, .inl w1, .inr (.inr 188)] h Q) :
    Rn xs xl e mm_readDoor 293 [some (.inr (.inr 182)), some (.inl v1), some (.inl v2), some (.inl v3), some (.inl v4)] [.inl w2, .inl w1, .inr (.inr 188)] h Q := by
  refine R_goto dd_readDoor_293 rfl ?_
  exact k
theorem B_readDoor_297 {xs : Nat → Int} {xl e : Nat} {h : LH} {Q : Option LV → LH → Prop} {v1 v2 v3 v4 w1 w2 : Int} (hF : RF h)
    (k : (0 ≤ w1 ∧ w1 < 300) ∧
      (-2147483648 ≤ (rd (wr h 188 w1 w2) 188 151) + 1 ∧ (rd (wr h 188 w1 w2) 188 151) + 1 ≤ 2147483647) ∧
      Q none (wr (wr h 188 w1 w2) 188 151 ((rd (wr h 188 w1 w2) 188 151) + 1))) :
    Rn xs xl e mm_readDoor 297 [some (.inr (.inr 182)), some (.inl v1), some (.inl v2), some (.inl v3), some (.inl v4)] [.inl w2, .inl w1, .inr (.inr 188)] h Q := by
  obtain ⟨s1, k⟩ := k
  refine R_iast (n := 300) dd_readDoor_297 ia_188 la_188 s1 rfl ?_
  refine R_ld (v := .inr (.inr 182)) dd_readDoor_298 rfl rfl rfl rfl ?_
  refine R_gf (v := .inr (.inr 188)) dd_readDoor_299 fd_12_95 io_182 (congrArg (fun z : Int => (Sum.inr (Sum.inr z) : LV)) ((rdw_ne (by decide)).trans (rf_182_10 hF))) rfl ?_
  refine R_si dd_readDoor_302 (by decide) rfl ?_
  refine R_A dd_readDoor_305 rfl rfl rfl rfl ?_
  refine R_iald (v := (rd (wr h 188 w1 w2) 188 151)) (n := 300) dd_readDoor_306 ia_188 la_188 (by decide) (rfl) rfl ?_
  refine R_ic dd_readDoor_307 (by decide) rfl ?_
  obtain ⟨s2, k⟩ := k
  refine R_iadd (c := (rd (wr h 188 w1 w2) 188 151) + 1) dd_readDoor_308 (by omega) s2 rfl ?_
  refine R_iast (n := 300) dd_readDoor_309 ia_188 la_188 (by decide) rfl ?_
  exact R_vret dd_readDoor_310 rfl k
