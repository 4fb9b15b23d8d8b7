/-! LM, by program (wip/p2/hand.py): rows of feed -/
def mm_Reader_putBytes : LM_M := (⟨"OneSided$Reader", "putBytes", "(J)V"⟩, prog_9_method_2_code, 6, none, 7, 2, 0, 579, 577, 578)
def mm_OneSided_feed : LM_M := (⟨"OneSided", "feed", "(JJJ)I"⟩, prog_1_method_2_code, 7, (some .int), 11, 4, 0, 575, 573, 574)
def mm_lay : LM_M := (⟨"OneSidedModel", "lay", "(J)V"⟩, prog_14_method_3_code, 5, none, 12, 2, 0, 1196, 1194, 1000060)
def mm_feed : LM_M := (⟨"OneSidedModel", "feed", "(JJJ)I"⟩, prog_14_method_2_code, 7, (some .int), 12, 4, 0, 1191, 1189, 1190)
theorem dd_Reader_putBytes_0 : decode mm_Reader_putBytes.2.1 0 = .ok (.bipush 56, 2) := by decide +kernel
theorem dd_Reader_putBytes_2 : decode mm_Reader_putBytes.2.1 2 = .ok (.istore_n 3, 1) := by decide +kernel
theorem dd_Reader_putBytes_3 : decode mm_Reader_putBytes.2.1 3 = .ok (.iload_n 3, 1) := by decide +kernel
theorem dd_Reader_putBytes_4 : decode mm_Reader_putBytes.2.1 4 = .ok (.ifCond .lt (84), 3) := by decide +kernel
theorem dd_Reader_putBytes_88 : decode mm_Reader_putBytes.2.1 88 = .ok (.return_, 1) := by decide +kernel
theorem dd_Reader_putBytes_7 : decode mm_Reader_putBytes.2.1 7 = .ok (.lload_n 1, 1) := by decide +kernel
theorem dd_Reader_putBytes_8 : decode mm_Reader_putBytes.2.1 8 = .ok (.iload_n 3, 1) := by decide +kernel
theorem dd_Reader_putBytes_9 : decode mm_Reader_putBytes.2.1 9 = .ok (.lushr, 1) := by decide +kernel
theorem dd_Reader_putBytes_10 : decode mm_Reader_putBytes.2.1 10 = .ok (.l2i, 1) := by decide +kernel
theorem dd_Reader_putBytes_11 : decode mm_Reader_putBytes.2.1 11 = .ok (.sipush 255, 3) := by decide +kernel
theorem dd_Reader_putBytes_14 : decode mm_Reader_putBytes.2.1 14 = .ok (.iand, 1) := by decide +kernel
theorem dd_Reader_putBytes_15 : decode mm_Reader_putBytes.2.1 15 = .ok (.istore 4, 2) := by decide +kernel
theorem dd_Reader_putBytes_17 : decode mm_Reader_putBytes.2.1 17 = .ok (.iload 4, 2) := by decide +kernel
theorem dd_Reader_putBytes_19 : decode mm_Reader_putBytes.2.1 19 = .ok (.bipush 10, 2) := by decide +kernel
theorem dd_Reader_putBytes_21 : decode mm_Reader_putBytes.2.1 21 = .ok (.if_icmp .eq (17), 3) := by decide +kernel
theorem dd_Reader_putBytes_38 : decode mm_Reader_putBytes.2.1 38 = .ok (.iconst 1, 1) := by decide +kernel
theorem dd_Reader_putBytes_39 : decode mm_Reader_putBytes.2.1 39 = .ok (.goto 4, 3) := by decide +kernel
theorem dd_Reader_putBytes_43 : decode mm_Reader_putBytes.2.1 43 = .ok (.istore 5, 2) := by decide +kernel
theorem dd_Reader_putBytes_45 : decode mm_Reader_putBytes.2.1 45 = .ok (.iload 5, 2) := by decide +kernel
theorem dd_Reader_putBytes_47 : decode mm_Reader_putBytes.2.1 47 = .ok (.ifCond .eq (35), 3) := by decide +kernel
theorem dd_Reader_putBytes_50 : decode mm_Reader_putBytes.2.1 50 = .ok (.aload_n 0, 1) := by decide +kernel
theorem dd_Reader_putBytes_51 : decode mm_Reader_putBytes.2.1 51 = .ok (.getfield 35, 3) := by decide +kernel
theorem fd_7_35 : fld 7 35 = some (7, 0) := by decide +kernel
theorem dd_Reader_putBytes_54 : decode mm_Reader_putBytes.2.1 54 = .ok (.sipush 1000, 3) := by decide +kernel
theorem dd_Reader_putBytes_57 : decode mm_Reader_putBytes.2.1 57 = .ok (.if_icmp .ge (25), 3) := by decide +kernel
theorem dd_Reader_putBytes_60 : decode mm_Reader_putBytes.2.1 60 = .ok (.aload_n 0, 1) := by decide +kernel
theorem dd_Reader_putBytes_61 : decode mm_Reader_putBytes.2.1 61 = .ok (.getfield 9, 3) := by decide +kernel
theorem fd_7_9 : fld 7 9 = some (7, 1) := by decide +kernel
theorem rf_2_1 {h : LH} (hF : RF h) : rd h 2 1 = 3 := hF 2 1 3 (by decide +kernel) (by decide +kernel)
theorem dd_Reader_putBytes_64 : decode mm_Reader_putBytes.2.1 64 = .ok (.aload_n 0, 1) := by decide +kernel
theorem dd_Reader_putBytes_65 : decode mm_Reader_putBytes.2.1 65 = .ok (.getfield 35, 3) := by decide +kernel
theorem dd_Reader_putBytes_68 : decode mm_Reader_putBytes.2.1 68 = .ok (.iload 4, 2) := by decide +kernel
theorem dd_Reader_putBytes_70 : decode mm_Reader_putBytes.2.1 70 = .ok (.i2b, 1) := by decide +kernel
theorem dd_Reader_putBytes_71 : decode mm_Reader_putBytes.2.1 71 = .ok (.bastore, 1) := by decide +kernel
theorem ia_3 : isA NC 3 3 = true := by decide +kernel
theorem la_3 : (lay (3 : Int).toNat).2.2 = 1000 := by decide +kernel
theorem dd_Reader_putBytes_72 : decode mm_Reader_putBytes.2.1 72 = .ok (.aload_n 0, 1) := by decide +kernel
theorem dd_Reader_putBytes_73 : decode mm_Reader_putBytes.2.1 73 = .ok (.dup, 1) := by decide +kernel
theorem dd_Reader_putBytes_74 : decode mm_Reader_putBytes.2.1 74 = .ok (.getfield 35, 3) := by decide +kernel
theorem dd_Reader_putBytes_77 : decode mm_Reader_putBytes.2.1 77 = .ok (.iconst 1, 1) := by decide +kernel
theorem dd_Reader_putBytes_78 : decode mm_Reader_putBytes.2.1 78 = .ok (.iadd, 1) := by decide +kernel
theorem dd_Reader_putBytes_79 : decode mm_Reader_putBytes.2.1 79 = .ok (.putfield 35, 3) := by decide +kernel
theorem fn_7_0 : fin 7 0 = false := by decide +kernel
theorem dd_Reader_putBytes_24 : decode mm_Reader_putBytes.2.1 24 = .ok (.iload 4, 2) := by decide +kernel
theorem dd_Reader_putBytes_26 : decode mm_Reader_putBytes.2.1 26 = .ok (.bipush 32, 2) := by decide +kernel
theorem dd_Reader_putBytes_28 : decode mm_Reader_putBytes.2.1 28 = .ok (.if_icmp .lt (14), 3) := by decide +kernel
theorem dd_Reader_putBytes_42 : decode mm_Reader_putBytes.2.1 42 = .ok (.iconst 0, 1) := by decide +kernel
theorem dd_Reader_putBytes_31 : decode mm_Reader_putBytes.2.1 31 = .ok (.iload 4, 2) := by decide +kernel
theorem dd_Reader_putBytes_33 : decode mm_Reader_putBytes.2.1 33 = .ok (.bipush 126, 2) := by decide +kernel
theorem dd_Reader_putBytes_35 : decode mm_Reader_putBytes.2.1 35 = .ok (.if_icmp .gt (7), 3) := by decide +kernel
theorem dd_Reader_putBytes_82 : decode mm_Reader_putBytes.2.1 82 = .ok (.iinc 3 (-8), 3) := by decide +kernel
theorem dd_Reader_putBytes_85 : decode mm_Reader_putBytes.2.1 85 = .ok (.goto (-82), 3) := by decide +kernel
theorem dd_OneSided_feed_0 : decode mm_OneSided_feed.2.1 0 = .ok (.aload_n 0, 1) := by decide +kernel
theorem dd_OneSided_feed_1 : decode mm_OneSided_feed.2.1 1 = .ok (.getfield 10, 3) := by decide +kernel
theorem fd_11_10 : fld 11 10 = some (11, 0) := by decide +kernel
theorem rf_1_0 {h : LH} (hF : RF h) : rd h 1 0 = 2 := hF 1 0 2 (by decide +kernel) (by decide +kernel)
theorem dd_OneSided_feed_4 : decode mm_OneSided_feed.2.1 4 = .ok (.lload_n 1, 1) := by decide +kernel
theorem dd_OneSided_feed_5 : decode mm_OneSided_feed.2.1 5 = .ok (.invokevirtual 82, 3) := by decide +kernel
theorem cw_11_82 : cwOk 11 82 0 14 2 6 7 = true := by decide +kernel
theorem mt_Reader_putBytes : MTB 14 = some mm_Reader_putBytes := rfl
theorem dd_OneSided_feed_8 : decode mm_OneSided_feed.2.1 8 = .ok (.aload_n 0, 1) := by decide +kernel
theorem dd_OneSided_feed_9 : decode mm_OneSided_feed.2.1 9 = .ok (.getfield 10, 3) := by decide +kernel
theorem dd_OneSided_feed_12 : decode mm_OneSided_feed.2.1 12 = .ok (.lload_n 3, 1) := by decide +kernel
theorem dd_OneSided_feed_13 : decode mm_OneSided_feed.2.1 13 = .ok (.invokevirtual 82, 3) := by decide +kernel
theorem dd_OneSided_feed_16 : decode mm_OneSided_feed.2.1 16 = .ok (.aload_n 0, 1) := by decide +kernel
theorem dd_OneSided_feed_17 : decode mm_OneSided_feed.2.1 17 = .ok (.getfield 10, 3) := by decide +kernel
theorem dd_OneSided_feed_20 : decode mm_OneSided_feed.2.1 20 = .ok (.lload 5, 2) := by decide +kernel
theorem dd_OneSided_feed_22 : decode mm_OneSided_feed.2.1 22 = .ok (.invokevirtual 82, 3) := by decide +kernel
theorem dd_OneSided_feed_25 : decode mm_OneSided_feed.2.1 25 = .ok (.aload_n 0, 1) := by decide +kernel
theorem dd_OneSided_feed_26 : decode mm_OneSided_feed.2.1 26 = .ok (.getfield 10, 3) := by decide +kernel
theorem dd_OneSided_feed_29 : decode mm_OneSided_feed.2.1 29 = .ok (.getfield 86, 3) := by decide +kernel
theorem fd_11_86 : fld 11 86 = some (7, 0) := by decide +kernel
theorem dd_OneSided_feed_32 : decode mm_OneSided_feed.2.1 32 = .ok (.ireturn, 1) := by decide +kernel
theorem dd_lay_0 : decode mm_lay.2.1 0 = .ok (.bipush 56, 2) := by decide +kernel
theorem dd_lay_2 : decode mm_lay.2.1 2 = .ok (.istore_n 3, 1) := by decide +kernel
theorem dd_lay_3 : decode mm_lay.2.1 3 = .ok (.iload_n 3, 1) := by decide +kernel
theorem dd_lay_4 : decode mm_lay.2.1 4 = .ok (.ifCond .lt (71), 3) := by decide +kernel
theorem dd_lay_75 : decode mm_lay.2.1 75 = .ok (.return_, 1) := by decide +kernel
theorem dd_lay_7 : decode mm_lay.2.1 7 = .ok (.lload_n 1, 1) := by decide +kernel
theorem dd_lay_8 : decode mm_lay.2.1 8 = .ok (.iload_n 3, 1) := by decide +kernel
theorem dd_lay_9 : decode mm_lay.2.1 9 = .ok (.lshr, 1) := by decide +kernel
theorem dd_lay_10 : decode mm_lay.2.1 10 = .ok (.l2i, 1) := by decide +kernel
theorem dd_lay_11 : decode mm_lay.2.1 11 = .ok (.sipush 255, 3) := by decide +kernel
theorem dd_lay_14 : decode mm_lay.2.1 14 = .ok (.iand, 1) := by decide +kernel
theorem dd_lay_15 : decode mm_lay.2.1 15 = .ok (.istore 4, 2) := by decide +kernel
theorem dd_lay_17 : decode mm_lay.2.1 17 = .ok (.iload 4, 2) := by decide +kernel
theorem dd_lay_19 : decode mm_lay.2.1 19 = .ok (.bipush 10, 2) := by decide +kernel
theorem dd_lay_21 : decode mm_lay.2.1 21 = .ok (.if_icmp .eq (17), 3) := by decide +kernel
theorem dd_lay_38 : decode mm_lay.2.1 38 = .ok (.aload_n 0, 1) := by decide +kernel
theorem dd_lay_39 : decode mm_lay.2.1 39 = .ok (.getfield 11, 3) := by decide +kernel
theorem dd_lay_42 : decode mm_lay.2.1 42 = .ok (.sipush 1000, 3) := by decide +kernel
theorem dd_lay_45 : decode mm_lay.2.1 45 = .ok (.if_icmp .ge (24), 3) := by decide +kernel
theorem dd_lay_48 : decode mm_lay.2.1 48 = .ok (.aload_n 0, 1) := by decide +kernel
theorem dd_lay_49 : decode mm_lay.2.1 49 = .ok (.getfield 14, 3) := by decide +kernel
theorem dd_lay_52 : decode mm_lay.2.1 52 = .ok (.aload_n 0, 1) := by decide +kernel
theorem dd_lay_53 : decode mm_lay.2.1 53 = .ok (.getfield 11, 3) := by decide +kernel
theorem dd_lay_56 : decode mm_lay.2.1 56 = .ok (.iload 4, 2) := by decide +kernel
theorem dd_lay_58 : decode mm_lay.2.1 58 = .ok (.iastore, 1) := by decide +kernel
theorem dd_lay_59 : decode mm_lay.2.1 59 = .ok (.aload_n 0, 1) := by decide +kernel
theorem dd_lay_60 : decode mm_lay.2.1 60 = .ok (.dup, 1) := by decide +kernel
theorem dd_lay_61 : decode mm_lay.2.1 61 = .ok (.getfield 11, 3) := by decide +kernel
theorem dd_lay_64 : decode mm_lay.2.1 64 = .ok (.iconst 1, 1) := by decide +kernel
theorem dd_lay_65 : decode mm_lay.2.1 65 = .ok (.iadd, 1) := by decide +kernel
theorem dd_lay_66 : decode mm_lay.2.1 66 = .ok (.putfield 11, 3) := by decide +kernel
theorem dd_lay_24 : decode mm_lay.2.1 24 = .ok (.iload 4, 2) := by decide +kernel
theorem dd_lay_26 : decode mm_lay.2.1 26 = .ok (.bipush 32, 2) := by decide +kernel
theorem dd_lay_28 : decode mm_lay.2.1 28 = .ok (.if_icmp .lt (41), 3) := by decide +kernel
theorem dd_lay_31 : decode mm_lay.2.1 31 = .ok (.iload 4, 2) := by decide +kernel
theorem dd_lay_33 : decode mm_lay.2.1 33 = .ok (.bipush 126, 2) := by decide +kernel
theorem dd_lay_35 : decode mm_lay.2.1 35 = .ok (.if_icmp .gt (34), 3) := by decide +kernel
theorem dd_lay_69 : decode mm_lay.2.1 69 = .ok (.iinc 3 (-8), 3) := by decide +kernel
theorem dd_lay_72 : decode mm_lay.2.1 72 = .ok (.goto (-69), 3) := by decide +kernel
theorem dd_feed_0 : decode mm_feed.2.1 0 = .ok (.aload_n 0, 1) := by decide +kernel
theorem dd_feed_1 : decode mm_feed.2.1 1 = .ok (.iconst 0, 1) := by decide +kernel
theorem dd_feed_2 : decode mm_feed.2.1 2 = .ok (.putfield 1, 3) := by decide +kernel
theorem dd_feed_5 : decode mm_feed.2.1 5 = .ok (.aload_n 0, 1) := by decide +kernel
theorem dd_feed_6 : decode mm_feed.2.1 6 = .ok (.lload_n 1, 1) := by decide +kernel
theorem dd_feed_7 : decode mm_feed.2.1 7 = .ok (.invokevirtual 7, 3) := by decide +kernel
theorem cw_12_7 : cwOk 12 7 0 156 2 5 12 = true := by decide +kernel
theorem mt_lay : MTB 156 = some mm_lay := rfl
theorem dd_feed_10 : decode mm_feed.2.1 10 = .ok (.aload_n 0, 1) := by decide +kernel
theorem dd_feed_11 : decode mm_feed.2.1 11 = .ok (.lload_n 3, 1) := by decide +kernel
theorem dd_feed_12 : decode mm_feed.2.1 12 = .ok (.invokevirtual 7, 3) := by decide +kernel
theorem dd_feed_15 : decode mm_feed.2.1 15 = .ok (.aload_n 0, 1) := by decide +kernel
theorem dd_feed_16 : decode mm_feed.2.1 16 = .ok (.lload 5, 2) := by decide +kernel
theorem dd_feed_18 : decode mm_feed.2.1 18 = .ok (.invokevirtual 7, 3) := by decide +kernel
theorem dd_feed_21 : decode mm_feed.2.1 21 = .ok (.aload_n 0, 1) := by decide +kernel
theorem dd_feed_22 : decode mm_feed.2.1 22 = .ok (.getfield 11, 3) := by decide +kernel
theorem dd_feed_25 : decode mm_feed.2.1 25 = .ok (.ireturn, 1) := by decide +kernel
theorem B_Reader_putBytes_0 {xs : Nat → Int} {xl e : Nat} {h : LH} {Q : Option LV → LH → Prop} {v1 : Int} (hF : RF h)
    (k : Rn xs xl e mm_Reader_putBytes 3 [some (.inr (.inr 2)), some (.inr (.inl v1)), none, some (.inl 56), none, none] [] h Q) :
    Rn xs xl e mm_Reader_putBytes 0 [some (.inr (.inr 2)), some (.inr (.inl v1)), none, none, none, none] [] h Q := by
  refine R_bi dd_Reader_putBytes_0 (by decide) rfl ?_
  refine R_st (ls' := [some (.inr (.inr 2)), some (.inr (.inl v1)), none, some (.inl 56), none, none]) dd_Reader_putBytes_2 rfl rfl rfl (Nat.le_of_ble_eq_true rfl) rfl rfl ?_
  exact k
theorem B_Reader_putBytes_3 {xs : Nat → Int} {xl e : Nat} {h : LH} {Q : Option LV → LH → Prop} {v1 v3 : Int} {o4 : Option LV} {o5 : Option LV} (hF : RF h) (r_v3 : -8 ≤ v3 ∧ v3 ≤ 56)
    (k : (v3 < 0 →
        Q none h) ∧
      (0 ≤ v3 →
        ((zand (w32 (lushr_ v1 v3)) 255) = 10 →
          (1000 ≤ (rd h 2 0) →
            Rn xs xl e mm_Reader_putBytes 82 [some (.inr (.inr 2)), some (.inr (.inl v1)), none, some (.inl v3), some (.inl (zand (w32 (lushr_ v1 v3)) 255)), some (.inl 1)] [] h Q) ∧
          ((rd h 2 0) < 1000 →
            (0 ≤ (rd h 2 0) ∧ (rd h 2 0) < 1000) ∧
            (-2147483648 ≤ (rd h 2 0) + 1 ∧ (rd h 2 0) + 1 ≤ 2147483647) ∧
            Rn xs xl e mm_Reader_putBytes 82 [some (.inr (.inr 2)), some (.inr (.inl v1)), none, some (.inl v3), some (.inl (zand (w32 (lushr_ v1 v3)) 255)), some (.inl 1)] [] (wr (wr h 3 (rd h 2 0) ((Int32.ofInt (zand (w32 (lushr_ v1 v3)) 255)).toInt8.toInt32.toInt)) 2 0 ((rd h 2 0) + 1)) Q)) ∧
        ((zand (w32 (lushr_ v1 v3)) 255) ≠ 10 →
          ((zand (w32 (lushr_ v1 v3)) 255) < 32 →
            Rn xs xl e mm_Reader_putBytes 82 [some (.inr (.inr 2)), some (.inr (.inl v1)), none, some (.inl v3), some (.inl (zand (w32 (lushr_ v1 v3)) 255)), some (.inl 0)] [] h Q) ∧
          (32 ≤ (zand (w32 (lushr_ v1 v3)) 255) →
            (126 < (zand (w32 (lushr_ v1 v3)) 255) →
              Rn xs xl e mm_Reader_putBytes 82 [some (.inr (.inr 2)), some (.inr (.inl v1)), none, some (.inl v3), some (.inl (zand (w32 (lushr_ v1 v3)) 255)), some (.inl 0)] [] h Q) ∧
            ((zand (w32 (lushr_ v1 v3)) 255) ≤ 126 →
              (1000 ≤ (rd h 2 0) →
                Rn xs xl e mm_Reader_putBytes 82 [some (.inr (.inr 2)), some (.inr (.inl v1)), none, some (.inl v3), some (.inl (zand (w32 (lushr_ v1 v3)) 255)), some (.inl 1)] [] h Q) ∧
              ((rd h 2 0) < 1000 →
                (0 ≤ (rd h 2 0) ∧ (rd h 2 0) < 1000) ∧
                (-2147483648 ≤ (rd h 2 0) + 1 ∧ (rd h 2 0) + 1 ≤ 2147483647) ∧
                Rn xs xl e mm_Reader_putBytes 82 [some (.inr (.inr 2)), some (.inr (.inl v1)), none, some (.inl v3), some (.inl (zand (w32 (lushr_ v1 v3)) 255)), some (.inl 1)] [] (wr (wr h 3 (rd h 2 0) ((Int32.ofInt (zand (w32 (lushr_ v1 v3)) 255)).toInt8.toInt32.toInt)) 2 0 ((rd h 2 0) + 1)) Q)))))) :
    Rn xs xl e mm_Reader_putBytes 3 [some (.inr (.inr 2)), some (.inr (.inl v1)), none, some (.inl v3), o4, o5] [] h Q := by
  refine R_ld (v := .inl v3) dd_Reader_putBytes_3 rfl rfl rfl rfl ?_
  refine R_if dd_Reader_putBytes_4 rfl rfl (fun (c5 : v3 < 0) => ?_) (fun (c5 : 0 ≤ v3) => ?_)
  · replace k := k.1 c5
    exact R_vret dd_Reader_putBytes_88 rfl k
  · replace k := k.2 c5
    refine R_ld (v := .inr (.inl v1)) dd_Reader_putBytes_7 rfl rfl rfl rfl ?_
    refine R_ld (v := .inl v3) dd_Reader_putBytes_8 rfl rfl rfl rfl ?_
    refine R_A dd_Reader_putBytes_9 rfl rfl rfl rfl ?_
    refine R_A dd_Reader_putBytes_10 rfl rfl rfl rfl ?_
    refine R_si dd_Reader_putBytes_11 (by decide) rfl ?_
    refine R_A dd_Reader_putBytes_14 rfl rfl rfl rfl ?_
    refine R_st (ls' := [some (.inr (.inr 2)), some (.inr (.inl v1)), none, some (.inl v3), some (.inl (zand (w32 (lushr_ v1 v3)) 255)), o5]) dd_Reader_putBytes_15 rfl rfl rfl (Nat.le_of_ble_eq_true rfl) rfl rfl ?_
    refine R_ld (v := .inl (zand (w32 (lushr_ v1 v3)) 255)) dd_Reader_putBytes_17 rfl rfl rfl rfl ?_
    refine R_bi dd_Reader_putBytes_19 (by decide) rfl ?_
    refine R_icmp dd_Reader_putBytes_21 rfl rfl (fun (c6 : (zand (w32 (lushr_ v1 v3)) 255) = 10) => ?_) (fun (c6 : (zand (w32 (lushr_ v1 v3)) 255) ≠ 10) => ?_)
    · replace k := k.1 c6
      refine R_ic dd_Reader_putBytes_38 (by decide) rfl ?_
      refine R_goto dd_Reader_putBytes_39 rfl ?_
      refine R_st (ls' := [some (.inr (.inr 2)), some (.inr (.inl v1)), none, some (.inl v3), some (.inl (zand (w32 (lushr_ v1 v3)) 255)), some (.inl 1)]) dd_Reader_putBytes_43 rfl rfl rfl (Nat.le_of_ble_eq_true rfl) rfl rfl ?_
      refine R_ld (v := .inl 1) dd_Reader_putBytes_45 rfl rfl rfl rfl ?_
      refine R_if dd_Reader_putBytes_47 rfl rfl (fun (c7 : 1 = 0) => ?_) (fun (c7 : 1 ≠ 0) => ?_)
      · exact absurd c7 (by omega)
      · skip
        refine R_ld (v := .inr (.inr 2)) dd_Reader_putBytes_50 rfl rfl rfl rfl ?_
        refine R_gf (v := .inl (rd h 2 0)) dd_Reader_putBytes_51 fd_7_35 io_2 (congrArg (fun z : Int => (Sum.inl z : LV)) (rfl)) rfl ?_
        refine R_si dd_Reader_putBytes_54 (by decide) rfl ?_
        refine R_icmp dd_Reader_putBytes_57 rfl rfl (fun (c8 : 1000 ≤ (rd h 2 0)) => ?_) (fun (c8 : (rd h 2 0) < 1000) => ?_)
        · replace k := k.1 c8
          exact k
        · replace k := k.2 c8
          refine R_ld (v := .inr (.inr 2)) dd_Reader_putBytes_60 rfl rfl rfl rfl ?_
          refine R_gf (v := .inr (.inr 3)) dd_Reader_putBytes_61 fd_7_9 io_2 (congrArg (fun z : Int => (Sum.inr (Sum.inr z) : LV)) (rf_2_1 hF)) rfl ?_
          refine R_ld (v := .inr (.inr 2)) dd_Reader_putBytes_64 rfl rfl rfl rfl ?_
          refine R_gf (v := .inl (rd h 2 0)) dd_Reader_putBytes_65 fd_7_35 io_2 (congrArg (fun z : Int => (Sum.inl z : LV)) (rfl)) rfl ?_
          refine R_ld (v := .inl (zand (w32 (lushr_ v1 v3)) 255)) dd_Reader_putBytes_68 rfl rfl rfl rfl ?_
          refine R_A dd_Reader_putBytes_70 rfl rfl rfl rfl ?_
          obtain ⟨s1, k⟩ := k
          refine R_bast (n := 1000) dd_Reader_putBytes_71 ia_3 la_3 s1 (i2b_in _) rfl ?_
          refine R_ld (v := .inr (.inr 2)) dd_Reader_putBytes_72 rfl rfl rfl rfl ?_
          refine R_A dd_Reader_putBytes_73 rfl rfl rfl rfl ?_
          refine R_gf (v := .inl (rd h 2 0)) dd_Reader_putBytes_74 fd_7_35 io_2 (congrArg (fun z : Int => (Sum.inl z : LV)) (rdw_ne (by decide))) rfl ?_
          refine R_ic dd_Reader_putBytes_77 (by decide) rfl ?_
          obtain ⟨s2, k⟩ := k
          refine R_iadd (c := (rd h 2 0) + 1) dd_Reader_putBytes_78 (by omega) s2 rfl ?_
          refine R_pf (z := ((rd h 2 0) + 1)) dd_Reader_putBytes_79 fd_7_35 io_2 fn_7_0 rfl rfl ?_
          exact k
    · replace k := k.2 c6
      refine R_ld (v := .inl (zand (w32 (lushr_ v1 v3)) 255)) dd_Reader_putBytes_24 rfl rfl rfl rfl ?_
      refine R_bi dd_Reader_putBytes_26 (by decide) rfl ?_
      refine R_icmp dd_Reader_putBytes_28 rfl rfl (fun (c9 : (zand (w32 (lushr_ v1 v3)) 255) < 32) => ?_) (fun (c9 : 32 ≤ (zand (w32 (lushr_ v1 v3)) 255)) => ?_)
      · replace k := k.1 c9
        refine R_ic dd_Reader_putBytes_42 (by decide) rfl ?_
        refine R_st (ls' := [some (.inr (.inr 2)), some (.inr (.inl v1)), none, some (.inl v3), some (.inl (zand (w32 (lushr_ v1 v3)) 255)), some (.inl 0)]) dd_Reader_putBytes_43 rfl rfl rfl (Nat.le_of_ble_eq_true rfl) rfl rfl ?_
        refine R_ld (v := .inl 0) dd_Reader_putBytes_45 rfl rfl rfl rfl ?_
        refine R_if dd_Reader_putBytes_47 rfl rfl (fun (c10 : 0 = 0) => ?_) (fun (c10 : 0 ≠ 0) => ?_)
        · skip
          exact k
        · exact absurd c10 (by omega)
      · replace k := k.2 c9
        refine R_ld (v := .inl (zand (w32 (lushr_ v1 v3)) 255)) dd_Reader_putBytes_31 rfl rfl rfl rfl ?_
        refine R_bi dd_Reader_putBytes_33 (by decide) rfl ?_
        refine R_icmp dd_Reader_putBytes_35 rfl rfl (fun (c11 : 126 < (zand (w32 (lushr_ v1 v3)) 255)) => ?_) (fun (c11 : (zand (w32 (lushr_ v1 v3)) 255) ≤ 126) => ?_)
        · replace k := k.1 c11
          refine R_ic dd_Reader_putBytes_42 (by decide) rfl ?_
          refine R_st (ls' := [some (.inr (.inr 2)), some (.inr (.inl v1)), none, some (.inl v3), some (.inl (zand (w32 (lushr_ v1 v3)) 255)), some (.inl 0)]) dd_Reader_putBytes_43 rfl rfl rfl (Nat.le_of_ble_eq_true rfl) rfl rfl ?_
          refine R_ld (v := .inl 0) dd_Reader_putBytes_45 rfl rfl rfl rfl ?_
          refine R_if dd_Reader_putBytes_47 rfl rfl (fun (c12 : 0 = 0) => ?_) (fun (c12 : 0 ≠ 0) => ?_)
          · skip
            exact k
          · exact absurd c12 (by omega)
        · replace k := k.2 c11
          refine R_ic dd_Reader_putBytes_38 (by decide) rfl ?_
          refine R_goto dd_Reader_putBytes_39 rfl ?_
          refine R_st (ls' := [some (.inr (.inr 2)), some (.inr (.inl v1)), none, some (.inl v3), some (.inl (zand (w32 (lushr_ v1 v3)) 255)), some (.inl 1)]) dd_Reader_putBytes_43 rfl rfl rfl (Nat.le_of_ble_eq_true rfl) rfl rfl ?_
          refine R_ld (v := .inl 1) dd_Reader_putBytes_45 rfl rfl rfl rfl ?_
          refine R_if dd_Reader_putBytes_47 rfl rfl (fun (c13 : 1 = 0) => ?_) (fun (c13 : 1 ≠ 0) => ?_)
          · exact absurd c13 (by omega)
          · skip
            refine R_ld (v := .inr (.inr 2)) dd_Reader_putBytes_50 rfl rfl rfl rfl ?_
            refine R_gf (v := .inl (rd h 2 0)) dd_Reader_putBytes_51 fd_7_35 io_2 (congrArg (fun z : Int => (Sum.inl z : LV)) (rfl)) rfl ?_
            refine R_si dd_Reader_putBytes_54 (by decide) rfl ?_
            refine R_icmp dd_Reader_putBytes_57 rfl rfl (fun (c14 : 1000 ≤ (rd h 2 0)) => ?_) (fun (c14 : (rd h 2 0) < 1000) => ?_)
            · replace k := k.1 c14
              exact k
            · replace k := k.2 c14
              refine R_ld (v := .inr (.inr 2)) dd_Reader_putBytes_60 rfl rfl rfl rfl ?_
              refine R_gf (v := .inr (.inr 3)) dd_Reader_putBytes_61 fd_7_9 io_2 (congrArg (fun z : Int => (Sum.inr (Sum.inr z) : LV)) (rf_2_1 hF)) rfl ?_
              refine R_ld (v := .inr (.inr 2)) dd_Reader_putBytes_64 rfl rfl rfl rfl ?_
              refine R_gf (v := .inl (rd h 2 0)) dd_Reader_putBytes_65 fd_7_35 io_2 (congrArg (fun z : Int => (Sum.inl z : LV)) (rfl)) rfl ?_
              refine R_ld (v := .inl (zand (w32 (lushr_ v1 v3)) 255)) dd_Reader_putBytes_68 rfl rfl rfl rfl ?_
              refine R_A dd_Reader_putBytes_70 rfl rfl rfl rfl ?_
              obtain ⟨s3, k⟩ := k
              refine R_bast (n := 1000) dd_Reader_putBytes_71 ia_3 la_3 s3 (i2b_in _) rfl ?_
              refine R_ld (v := .inr (.inr 2)) dd_Reader_putBytes_72 rfl rfl rfl rfl ?_
              refine R_A dd_Reader_putBytes_73 rfl rfl rfl rfl ?_
              refine R_gf (v := .inl (rd h 2 0)) dd_Reader_putBytes_74 fd_7_35 io_2 (congrArg (fun z : Int => (Sum.inl z : LV)) (rdw_ne (by decide))) rfl ?_
              refine R_ic dd_Reader_putBytes_77 (by decide) rfl ?_
              obtain ⟨s4, k⟩ := k
              refine R_iadd (c := (rd h 2 0) + 1) dd_Reader_putBytes_78 (by omega) s4 rfl ?_
              refine R_pf (z := ((rd h 2 0) + 1)) dd_Reader_putBytes_79 fd_7_35 io_2 fn_7_0 rfl rfl ?_
              exact k
theorem B_Reader_putBytes_82 {xs : Nat → Int} {xl e : Nat} {h : LH} {Q : Option LV → LH → Prop} {v1 v3 : Int} {o4 : Option LV} {o5 : Option LV} (hF : RF h) (r_v3 : 0 ≤ v3 ∧ v3 ≤ 56)
    (k : Rn xs xl e mm_Reader_putBytes 3 [some (.inr (.inr 2)), some (.inr (.inl v1)), none, some (.inl (v3 - 8)), o4, o5] [] h Q) :
    Rn xs xl e mm_Reader_putBytes 82 [some (.inr (.inr 2)), some (.inr (.inl v1)), none, some (.inl v3), o4, o5] [] h Q := by
  refine R_inc (y := v3 - 8) (ls' := [some (.inr (.inr 2)), some (.inr (.inl v1)), none, some (.inl (v3 - 8)), o4, o5]) dd_Reader_putBytes_82 rfl (by decide) (by omega) (by omega) rfl rfl ?_
  refine R_goto dd_Reader_putBytes_85 rfl ?_
  exact k
theorem B_OneSided_feed_0 {xs : Nat → Int} {xl e : Nat} {h : LH} {Q : Option LV → LH → Prop} {v1 v3 v5 : Int} (hF : RF h)
    (k : (∃ c, c < e ∧ Rn xs xl c mm_Reader_putBytes 0 [some (.inr (.inr 2)), some (.inr (.inl v1)), none, none, none, none] [] h (fun r h' => Rn xs xl e mm_OneSided_feed 8 [some (.inr (.inr 1)), some (.inr (.inl v1)), none, some (.inr (.inl v3)), none, some (.inr (.inl v5)), none] (r.toList ++ []) h' Q))) :
    Rn xs xl e mm_OneSided_feed 0 [some (.inr (.inr 1)), some (.inr (.inl v1)), none, some (.inr (.inl v3)), none, some (.inr (.inl v5)), none] [] h Q := by
  refine R_ld (v := .inr (.inr 1)) dd_OneSided_feed_0 rfl rfl rfl rfl ?_
  refine R_gf (v := .inr (.inr 2)) dd_OneSided_feed_1 fd_11_10 io_1 (congrArg (fun z : Int => (Sum.inr (Sum.inr z) : LV)) (rf_1_0 hF)) rfl ?_
  refine R_ld (v := .inr (.inl v1)) dd_OneSided_feed_4 rfl rfl rfl rfl ?_
  obtain ⟨c, hc, k⟩ := k
  exact R_call (as := [.inr (.inr 2), .inr (.inl v1)]) (rest := []) (M' := mm_Reader_putBytes) (ls0 := [some (.inr (.inr 2)), some (.inr (.inl v1)), none, none, none, none]) dd_OneSided_feed_5 rfl rfl (cw_v cw_11_82 io_2 rfl rfl (Nat.le_of_ble_eq_true rfl) (Nat.le_of_ble_eq_true rfl)) mt_Reader_putBytes rfl hc rfl k
theorem B_OneSided_feed_8 {xs : Nat → Int} {xl e : Nat} {h : LH} {Q : Option LV → LH → Prop} {v1 v3 v5 : Int} (hF : RF h)
    (k : (∃ c, c < e ∧ Rn xs xl c mm_Reader_putBytes 0 [some (.inr (.inr 2)), some (.inr (.inl v3)), none, none, none, none] [] h (fun r h' => Rn xs xl e mm_OneSided_feed 16 [some (.inr (.inr 1)), some (.inr (.inl v1)), none, some (.inr (.inl v3)), none, some (.inr (.inl v5)), none] (r.toList ++ []) h' Q))) :
    Rn xs xl e mm_OneSided_feed 8 [some (.inr (.inr 1)), some (.inr (.inl v1)), none, some (.inr (.inl v3)), none, some (.inr (.inl v5)), none] [] h Q := by
  refine R_ld (v := .inr (.inr 1)) dd_OneSided_feed_8 rfl rfl rfl rfl ?_
  refine R_gf (v := .inr (.inr 2)) dd_OneSided_feed_9 fd_11_10 io_1 (congrArg (fun z : Int => (Sum.inr (Sum.inr z) : LV)) (rf_1_0 hF)) rfl ?_
  refine R_ld (v := .inr (.inl v3)) dd_OneSided_feed_12 rfl rfl rfl rfl ?_
  obtain ⟨c, hc, k⟩ := k
  exact R_call (as := [.inr (.inr 2), .inr (.inl v3)]) (rest := []) (M' := mm_Reader_putBytes) (ls0 := [some (.inr (.inr 2)), some (.inr (.inl v3)), none, none, none, none]) dd_OneSided_feed_13 rfl rfl (cw_v cw_11_82 io_2 rfl rfl (Nat.le_of_ble_eq_true rfl) (Nat.le_of_ble_eq_true rfl)) mt_Reader_putBytes rfl hc rfl k
theorem B_OneSided_feed_16 {xs : Nat → Int} {xl e : Nat} {h : LH} {Q : Option LV → LH → Prop} {v1 v3 v5 : Int} (hF : RF h)
    (k : (∃ c, c < e ∧ Rn xs xl c mm_Reader_putBytes 0 [some (.inr (.inr 2)), some (.inr (.inl v5)), none, none, none, none] [] h (fun r h' => Rn xs xl e mm_OneSided_feed 25 [some (.inr (.inr 1)), some (.inr (.inl v1)), none, some (.inr (.inl v3)), none, some (.inr (.inl v5)), none] (r.toList ++ []) h' Q))) :
    Rn xs xl e mm_OneSided_feed 16 [some (.inr (.inr 1)), some (.inr (.inl v1)), none, some (.inr (.inl v3)), none, some (.inr (.inl v5)), none] [] h Q := by
  refine R_ld (v := .inr (.inr 1)) dd_OneSided_feed_16 rfl rfl rfl rfl ?_
  refine R_gf (v := .inr (.inr 2)) dd_OneSided_feed_17 fd_11_10 io_1 (congrArg (fun z : Int => (Sum.inr (Sum.inr z) : LV)) (rf_1_0 hF)) rfl ?_
  refine R_ld (v := .inr (.inl v5)) dd_OneSided_feed_20 rfl rfl rfl rfl ?_
  obtain ⟨c, hc, k⟩ := k
  exact R_call (as := [.inr (.inr 2), .inr (.inl v5)]) (rest := []) (M' := mm_Reader_putBytes) (ls0 := [some (.inr (.inr 2)), some (.inr (.inl v5)), none, none, none, none]) dd_OneSided_feed_22 rfl rfl (cw_v cw_11_82 io_2 rfl rfl (Nat.le_of_ble_eq_true rfl) (Nat.le_of_ble_eq_true rfl)) mt_Reader_putBytes rfl hc rfl k
theorem B_OneSided_feed_25 {xs : Nat → Int} {xl e : Nat} {h : LH} {Q : Option LV → LH → Prop} {v1 v3 v5 : Int} (hF : RF h)
    (k : Q (some (.inl (rd h 2 0))) h) :
    Rn xs xl e mm_OneSided_feed 25 [some (.inr (.inr 1)), some (.inr (.inl v1)), none, some (.inr (.inl v3)), none, some (.inr (.inl v5)), none] [] h Q := by
  refine R_ld (v := .inr (.inr 1)) dd_OneSided_feed_25 rfl rfl rfl rfl ?_
  refine R_gf (v := .inr (.inr 2)) dd_OneSided_feed_26 fd_11_10 io_1 (congrArg (fun z : Int => (Sum.inr (Sum.inr z) : LV)) (rf_1_0 hF)) rfl ?_
  refine R_gf (v := .inl (rd h 2 0)) dd_OneSided_feed_29 fd_11_86 io_2 (congrArg (fun z : Int => (Sum.inl z : LV)) (rfl)) rfl ?_
  exact R_iret dd_OneSided_feed_32 rfl k
theorem B_lay_0 {xs : Nat → Int} {xl e : Nat} {h : LH} {Q : Option LV → LH → Prop} {v1 : Int} (hF : RF h)
    (k : Rn xs xl e mm_lay 3 [some (.inr (.inr 182)), some (.inr (.inl v1)), none, some (.inl 56), none] [] h Q) :
    Rn xs xl e mm_lay 0 [some (.inr (.inr 182)), some (.inr (.inl v1)), none, none, none] [] h Q := by
  refine R_bi dd_lay_0 (by decide) rfl ?_
  refine R_st (ls' := [some (.inr (.inr 182)), some (.inr (.inl v1)), none, some (.inl 56), none]) dd_lay_2 rfl rfl rfl (Nat.le_of_ble_eq_true rfl) rfl rfl ?_
  exact k
theorem B_lay_3 {xs : Nat → Int} {xl e : Nat} {h : LH} {Q : Option LV → LH → Prop} {v1 v3 : Int} {o4 : Option LV} (hF : RF h) (r_v3 : -8 ≤ v3 ∧ v3 ≤ 56)
    (k : (v3 < 0 →
        Q none h) ∧
      (0 ≤ v3 →
        ((zand (w32 (lshr_ v1 v3)) 255) = 10 →
          (1000 ≤ (rd h 182 2) →
            Rn xs xl e mm_lay 69 [some (.inr (.inr 182)), some (.inr (.inl v1)), none, some (.inl v3), some (.inl (zand (w32 (lshr_ v1 v3)) 255))] [] h Q) ∧
          ((rd h 182 2) < 1000 →
            (0 ≤ (rd h 182 2) ∧ (rd h 182 2) < 1000) ∧
            (-2147483648 ≤ (rd h 182 2) + 1 ∧ (rd h 182 2) + 1 ≤ 2147483647) ∧
            Rn xs xl e mm_lay 69 [some (.inr (.inr 182)), some (.inr (.inl v1)), none, some (.inl v3), some (.inl (zand (w32 (lshr_ v1 v3)) 255))] [] (wr (wr h 183 (rd h 182 2) (zand (w32 (lshr_ v1 v3)) 255)) 182 2 ((rd h 182 2) + 1)) Q)) ∧
        ((zand (w32 (lshr_ v1 v3)) 255) ≠ 10 →
          ((zand (w32 (lshr_ v1 v3)) 255) < 32 →
            Rn xs xl e mm_lay 69 [some (.inr (.inr 182)), some (.inr (.inl v1)), none, some (.inl v3), some (.inl (zand (w32 (lshr_ v1 v3)) 255))] [] h Q) ∧
          (32 ≤ (zand (w32 (lshr_ v1 v3)) 255) →
            (126 < (zand (w32 (lshr_ v1 v3)) 255) →
              Rn xs xl e mm_lay 69 [some (.inr (.inr 182)), some (.inr (.inl v1)), none, some (.inl v3), some (.inl (zand (w32 (lshr_ v1 v3)) 255))] [] h Q) ∧
            ((zand (w32 (lshr_ v1 v3)) 255) ≤ 126 →
              (1000 ≤ (rd h 182 2) →
                Rn xs xl e mm_lay 69 [some (.inr (.inr 182)), some (.inr (.inl v1)), none, some (.inl v3), some (.inl (zand (w32 (lshr_ v1 v3)) 255))] [] h Q) ∧
              ((rd h 182 2) < 1000 →
                (0 ≤ (rd h 182 2) ∧ (rd h 182 2) < 1000) ∧
                (-2147483648 ≤ (rd h 182 2) + 1 ∧ (rd h 182 2) + 1 ≤ 2147483647) ∧
                Rn xs xl e mm_lay 69 [some (.inr (.inr 182)), some (.inr (.inl v1)), none, some (.inl v3), some (.inl (zand (w32 (lshr_ v1 v3)) 255))] [] (wr (wr h 183 (rd h 182 2) (zand (w32 (lshr_ v1 v3)) 255)) 182 2 ((rd h 182 2) + 1)) Q)))))) :
    Rn xs xl e mm_lay 3 [some (.inr (.inr 182)), some (.inr (.inl v1)), none, some (.inl v3), o4] [] h Q := by
  refine R_ld (v := .inl v3) dd_lay_3 rfl rfl rfl rfl ?_
  refine R_if dd_lay_4 rfl rfl (fun (c5 : v3 < 0) => ?_) (fun (c5 : 0 ≤ v3) => ?_)
  · replace k := k.1 c5
    exact R_vret dd_lay_75 rfl k
  · replace k := k.2 c5
    refine R_ld (v := .inr (.inl v1)) dd_lay_7 rfl rfl rfl rfl ?_
    refine R_ld (v := .inl v3) dd_lay_8 rfl rfl rfl rfl ?_
    refine R_A dd_lay_9 rfl rfl rfl rfl ?_
    refine R_A dd_lay_10 rfl rfl rfl rfl ?_
    refine R_si dd_lay_11 (by decide) rfl ?_
    refine R_A dd_lay_14 rfl rfl rfl rfl ?_
    refine R_st (ls' := [some (.inr (.inr 182)), some (.inr (.inl v1)), none, some (.inl v3), some (.inl (zand (w32 (lshr_ v1 v3)) 255))]) dd_lay_15 rfl rfl rfl (Nat.le_of_ble_eq_true rfl) rfl rfl ?_
    refine R_ld (v := .inl (zand (w32 (lshr_ v1 v3)) 255)) dd_lay_17 rfl rfl rfl rfl ?_
    refine R_bi dd_lay_19 (by decide) rfl ?_
    refine R_icmp dd_lay_21 rfl rfl (fun (c6 : (zand (w32 (lshr_ v1 v3)) 255) = 10) => ?_) (fun (c6 : (zand (w32 (lshr_ v1 v3)) 255) ≠ 10) => ?_)
    · replace k := k.1 c6
      refine R_ld (v := .inr (.inr 182)) dd_lay_38 rfl rfl rfl rfl ?_
      refine R_gf (v := .inl (rd h 182 2)) dd_lay_39 fd_12_11 io_182 (congrArg (fun z : Int => (Sum.inl z : LV)) (rfl)) rfl ?_
      refine R_si dd_lay_42 (by decide) rfl ?_
      refine R_icmp dd_lay_45 rfl rfl (fun (c7 : 1000 ≤ (rd h 182 2)) => ?_) (fun (c7 : (rd h 182 2) < 1000) => ?_)
      · replace k := k.1 c7
        exact k
      · replace k := k.2 c7
        refine R_ld (v := .inr (.inr 182)) dd_lay_48 rfl rfl rfl rfl ?_
        refine R_gf (v := .inr (.inr 183)) dd_lay_49 fd_12_14 io_182 (congrArg (fun z : Int => (Sum.inr (Sum.inr z) : LV)) (rf_182_1 hF)) rfl ?_
        refine R_ld (v := .inr (.inr 182)) dd_lay_52 rfl rfl rfl rfl ?_
        refine R_gf (v := .inl (rd h 182 2)) dd_lay_53 fd_12_11 io_182 (congrArg (fun z : Int => (Sum.inl z : LV)) (rfl)) rfl ?_
        refine R_ld (v := .inl (zand (w32 (lshr_ v1 v3)) 255)) dd_lay_56 rfl rfl rfl rfl ?_
        obtain ⟨s1, k⟩ := k
        refine R_iast (n := 1000) dd_lay_58 ia_183 la_183 s1 rfl ?_
        refine R_ld (v := .inr (.inr 182)) dd_lay_59 rfl rfl rfl rfl ?_
        refine R_A dd_lay_60 rfl rfl rfl rfl ?_
        refine R_gf (v := .inl (rd h 182 2)) dd_lay_61 fd_12_11 io_182 (congrArg (fun z : Int => (Sum.inl z : LV)) (rdw_ne (by decide))) rfl ?_
        refine R_ic dd_lay_64 (by decide) rfl ?_
        obtain ⟨s2, k⟩ := k
        refine R_iadd (c := (rd h 182 2) + 1) dd_lay_65 (by omega) s2 rfl ?_
        refine R_pf (z := ((rd h 182 2) + 1)) dd_lay_66 fd_12_11 io_182 fn_12_2 rfl rfl ?_
        exact k
    · replace k := k.2 c6
      refine R_ld (v := .inl (zand (w32 (lshr_ v1 v3)) 255)) dd_lay_24 rfl rfl rfl rfl ?_
      refine R_bi dd_lay_26 (by decide) rfl ?_
      refine R_icmp dd_lay_28 rfl rfl (fun (c8 : (zand (w32 (lshr_ v1 v3)) 255) < 32) => ?_) (fun (c8 : 32 ≤ (zand (w32 (lshr_ v1 v3)) 255)) => ?_)
      · replace k := k.1 c8
        exact k
      · replace k := k.2 c8
        refine R_ld (v := .inl (zand (w32 (lshr_ v1 v3)) 255)) dd_lay_31 rfl rfl rfl rfl ?_
        refine R_bi dd_lay_33 (by decide) rfl ?_
        refine R_icmp dd_lay_35 rfl rfl (fun (c9 : 126 < (zand (w32 (lshr_ v1 v3)) 255)) => ?_) (fun (c9 : (zand (w32 (lshr_ v1 v3)) 255) ≤ 126) => ?_)
        · replace k := k.1 c9
          exact k
        · replace k := k.2 c9
          refine R_ld (v := .inr (.inr 182)) dd_lay_38 rfl rfl rfl rfl ?_
          refine R_gf (v := .inl (rd h 182 2)) dd_lay_39 fd_12_11 io_182 (congrArg (fun z : Int => (Sum.inl z : LV)) (rfl)) rfl ?_
          refine R_si dd_lay_42 (by decide) rfl ?_
          refine R_icmp dd_lay_45 rfl rfl (fun (c10 : 1000 ≤ (rd h 182 2)) => ?_) (fun (c10 : (rd h 182 2) < 1000) => ?_)
          · replace k := k.1 c10
            exact k
          · replace k := k.2 c10
            refine R_ld (v := .inr (.inr 182)) dd_lay_48 rfl rfl rfl rfl ?_
            refine R_gf (v := .inr (.inr 183)) dd_lay_49 fd_12_14 io_182 (congrArg (fun z : Int => (Sum.inr (Sum.inr z) : LV)) (rf_182_1 hF)) rfl ?_
            refine R_ld (v := .inr (.inr 182)) dd_lay_52 rfl rfl rfl rfl ?_
            refine R_gf (v := .inl (rd h 182 2)) dd_lay_53 fd_12_11 io_182 (congrArg (fun z : Int => (Sum.inl z : LV)) (rfl)) rfl ?_
            refine R_ld (v := .inl (zand (w32 (lshr_ v1 v3)) 255)) dd_lay_56 rfl rfl rfl rfl ?_
            obtain ⟨s3, k⟩ := k
            refine R_iast (n := 1000) dd_lay_58 ia_183 la_183 s3 rfl ?_
            refine R_ld (v := .inr (.inr 182)) dd_lay_59 rfl rfl rfl rfl ?_
            refine R_A dd_lay_60 rfl rfl rfl rfl ?_
            refine R_gf (v := .inl (rd h 182 2)) dd_lay_61 fd_12_11 io_182 (congrArg (fun z : Int => (Sum.inl z : LV)) (rdw_ne (by decide))) rfl ?_
            refine R_ic dd_lay_64 (by decide) rfl ?_
            obtain ⟨s4, k⟩ := k
            refine R_iadd (c := (rd h 182 2) + 1) dd_lay_65 (by omega) s4 rfl ?_
            refine R_pf (z := ((rd h 182 2) + 1)) dd_lay_66 fd_12_11 io_182 fn_12_2 rfl rfl ?_
            exact k
theorem B_lay_69 {xs : Nat → Int} {xl e : Nat} {h : LH} {Q : Option LV → LH → Prop} {v1 v3 : Int} {o4 : Option LV} (hF : RF h) (r_v3 : 0 ≤ v3 ∧ v3 ≤ 56)
    (k : Rn xs xl e mm_lay 3 [some (.inr (.inr 182)), some (.inr (.inl v1)), none, some (.inl (v3 - 8)), o4] [] h Q) :
    Rn xs xl e mm_lay 69 [some (.inr (.inr 182)), some (.inr (.inl v1)), none, some (.inl v3), o4] [] h Q := by
  refine R_inc (y := v3 - 8) (ls' := [some (.inr (.inr 182)), some (.inr (.inl v1)), none, some (.inl (v3 - 8)), o4]) dd_lay_69 rfl (by decide) (by omega) (by omega) rfl rfl ?_
  refine R_goto dd_lay_72 rfl ?_
  exact k
theorem B_feed_0 {xs : Nat → Int} {xl e : Nat} {h : LH} {Q : Option LV → LH → Prop} {v1 v3 v5 : Int} (hF : RF h)
    (k : (∃ c, c < e ∧ Rn xs xl c mm_lay 0 [some (.inr (.inr 182)), some (.inr (.inl v1)), none, none, none] [] (wr h 182 0 0) (fun r h' => Rn xs xl e mm_feed 10 [some (.inr (.inr 182)), some (.inr (.inl v1)), none, some (.inr (.inl v3)), none, some (.inr (.inl v5)), none] (r.toList ++ []) h' Q))) :
    Rn xs xl e mm_feed 0 [some (.inr (.inr 182)), some (.inr (.inl v1)), none, some (.inr (.inl v3)), none, some (.inr (.inl v5)), none] [] h Q := by
  refine R_ld (v := .inr (.inr 182)) dd_feed_0 rfl rfl rfl rfl ?_
  refine R_ic dd_feed_1 (by decide) rfl ?_
  refine R_pf (z := 0) dd_feed_2 fd_12_1 io_182 fn_12_0 rfl rfl ?_
  refine R_ld (v := .inr (.inr 182)) dd_feed_5 rfl rfl rfl rfl ?_
  refine R_ld (v := .inr (.inl v1)) dd_feed_6 rfl rfl rfl rfl ?_
  obtain ⟨c, hc, k⟩ := k
  exact R_call (as := [.inr (.inr 182), .inr (.inl v1)]) (rest := []) (M' := mm_lay) (ls0 := [some (.inr (.inr 182)), some (.inr (.inl v1)), none, none, none]) dd_feed_7 rfl rfl (cw_v cw_12_7 io_182 rfl rfl (Nat.le_of_ble_eq_true rfl) (Nat.le_of_ble_eq_true rfl)) mt_lay rfl hc rfl k
theorem B_feed_10 {xs : Nat → Int} {xl e : Nat} {h : LH} {Q : Option LV → LH → Prop} {v1 v3 v5 : Int} (hF : RF h)
    (k : (∃ c, c < e ∧ Rn xs xl c mm_lay 0 [some (.inr (.inr 182)), some (.inr (.inl v3)), none, none, none] [] h (fun r h' => Rn xs xl e mm_feed 15 [some (.inr (.inr 182)), some (.inr (.inl v1)), none, some (.inr (.inl v3)), none, some (.inr (.inl v5)), none] (r.toList ++ []) h' Q))) :
    Rn xs xl e mm_feed 10 [some (.inr (.inr 182)), some (.inr (.inl v1)), none, some (.inr (.inl v3)), none, some (.inr (.inl v5)), none] [] h Q := by
  refine R_ld (v := .inr (.inr 182)) dd_feed_10 rfl rfl rfl rfl ?_
  refine R_ld (v := .inr (.inl v3)) dd_feed_11 rfl rfl rfl rfl ?_
  obtain ⟨c, hc, k⟩ := k
  exact R_call (as := [.inr (.inr 182), .inr (.inl v3)]) (rest := []) (M' := mm_lay) (ls0 := [some (.inr (.inr 182)), some (.inr (.inl v3)), none, none, none]) dd_feed_12 rfl rfl (cw_v cw_12_7 io_182 rfl rfl (Nat.le_of_ble_eq_true rfl) (Nat.le_of_ble_eq_true rfl)) mt_lay rfl hc rfl k
theorem B_feed_15 {xs : Nat → Int} {xl e : Nat} {h : LH} {Q : Option LV → LH → Prop} {v1 v3 v5 : Int} (hF : RF h)
    (k : (∃ c, c < e ∧ Rn xs xl c mm_lay 0 [some (.inr (.inr 182)), some (.inr (.inl v5)), none, none, none] [] h (fun r h' => Rn xs xl e mm_feed 21 [some (.inr (.inr 182)), some (.inr (.inl v1)), none, some (.inr (.inl v3)), none, some (.inr (.inl v5)), none] (r.toList ++ []) h' Q))) :
    Rn xs xl e mm_feed 15 [some (.inr (.inr 182)), some (.inr (.inl v1)), none, some (.inr (.inl v3)), none, some (.inr (.inl v5)), none] [] h Q := by
  refine R_ld (v := .inr (.inr 182)) dd_feed_15 rfl rfl rfl rfl ?_
  refine R_ld (v := .inr (.inl v5)) dd_feed_16 rfl rfl rfl rfl ?_
  obtain ⟨c, hc, k⟩ := k
  exact R_call (as := [.inr (.inr 182), .inr (.inl v5)]) (rest := []) (M' := mm_lay) (ls0 := [some (.inr (.inr 182)), some (.inr (.inl v5)), none, none, none]) dd_feed_18 rfl rfl (cw_v cw_12_7 io_182 rfl rfl (Nat.le_of_ble_eq_true rfl) (Nat.le_of_ble_eq_true rfl)) mt_lay rfl hc rfl k
theorem B_feed_21 {xs : Nat → Int} {xl e : Nat} {h : LH} {Q : Option LV → LH → Prop} {v1 v3 v5 : Int} (hF : RF h)
    (k : Q (some (.inl (rd h 182 2))) h) :
    Rn xs xl e mm_feed 21 [some (.inr (.inr 182)), some (.inr (.inl v1)), none, some (.inr (.inl v3)), none, some (.inr (.inl v5)), none] [] h Q := by
  refine R_ld (v := .inr (.inr 182)) dd_feed_21 rfl rfl rfl rfl ?_
  refine R_gf (v := .inl (rd h 182 2)) dd_feed_22 fd_12_11 io_182 (congrArg (fun z : Int => (Sum.inl z : LV)) (rfl)) rfl ?_
  exact R_iret dd_feed_25 rfl k
