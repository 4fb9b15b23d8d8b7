section
/-! LM, by program (wip/p2/hand.py): rows of feed -/
def mm_Reader_putBytes : LM_M := (⟨"OneSided$Reader", "putBytes", "(J)V"⟩, prog_9_method_2_code, 6, none, 7, 2, 0, 579, 577, 578)
def mm_OneSided_feed : LM_M := (⟨"OneSided", "feed", "(JJJ)I"⟩, prog_1_method_2_code, 7, (some .int), 11, 4, 0, 575, 573, 574)
def mm_lay : LM_M := (⟨"OneSidedModel", "lay", "(J)V"⟩, prog_14_method_3_code, 5, none, 12, 2, 0, 1196, 1194, 1000060)
def mm_feed : LM_M := (⟨"OneSidedModel", "feed", "(JJJ)I"⟩, prog_14_method_2_code, 7, (some .int), 12, 4, 0, 1191, 1189, 1190)
theorem dd_Reader_putBytes_0 : decode mm_Reader_putBytes.2.1 0 = .ok (.bipush 56, 2) := by decide +kernel
theorem dd_Reader_putBytes_2 : decode mm_Reader_putBytes.2.1 2 = .ok (.istore_n 3, 1) := by decide +kernel
theorem dd_Reader_putBytes_3 : decode mm_Reader_putBytes.2.1 3 = .ok (.iload_n 3, 1) := by decide +kernel
theorem dd_Reader_putBytes_4 : decode mm_Reader_putBytes.2.1 4 = .ok (.ifCond .lt (84), 3) := by decide +kernel
theorem dd_Reader_putBytes_88 : decode mm_Reader_putBytes.2.1 88 = .ok (.return_, 1) := by decide +kernel
theorem dd_Reader_putBytes_7 : decode mm_Reader_putBytes.2.1 7 = .ok (.lload_n 1, 1) := by decide +kernel
theorem dd_Reader_putBytes_8 : decode mm_Reader_putBytes.2.1 8 = .ok (.iload_n 3, 1) := by decide +kernel
theorem dd_Reader_putBytes_9 : decode mm_Reader_putBytes.2.1 9 = .ok (.lushr, 1) := by decide +kernel
theorem dd_Reader_putBytes_10 : decode mm_Reader_putBytes.2.1 10 = .ok (.l2i, 1) := by decide +kernel
theorem dd_Reader_putBytes_11 : decode mm_Reader_putBytes.2.1 11 = .ok (.sipush 255, 3) := by decide +kernel
theorem dd_Reader_putBytes_14 : decode mm_Reader_putBytes.2.1 14 = .ok (.iand, 1) := by decide +kernel
theorem dd_Reader_putBytes_15 : decode mm_Reader_putBytes.2.1 15 = .ok (.istore 4, 2) := by decide +kernel
theorem dd_Reader_putBytes_17 : decode mm_Reader_putBytes.2.1 17 = .ok (.iload 4, 2) := by decide +kernel
theorem dd_Reader_putBytes_19 : decode mm_Reader_putBytes.2.1 19 = .ok (.bipush 10, 2) := by decide +kernel
theorem dd_Reader_putBytes_21 : decode mm_Reader_putBytes.2.1 21 = .ok (.if_icmp .eq (17), 3) := by decide +kernel
theorem dd_Reader_putBytes_38 : decode mm_Reader_putBytes.2.1 38 = .ok (.iconst 1, 1) := by decide +kernel
theorem dd_Reader_putBytes_39 : decode mm_Reader_putBytes.2.1 39 = .ok (.goto 4, 3) := by decide +kernel
theorem dd_Reader_putBytes_43 : decode mm_Reader_putBytes.2.1 43 = .ok (.istore 5, 2) := by decide +kernel
theorem dd_Reader_putBytes_45 : decode mm_Reader_putBytes.2.1 45 = .ok (.iload 5, 2) := by decide +kernel
theorem dd_Reader_putBytes_47 : decode mm_Reader_putBytes.2.1 47 = .ok (.ifCond .eq (35), 3) := by decide +kernel
theorem dd_Reader_putBytes_50 : decode mm_Reader_putBytes.2.1 50 = .ok (.aload_n 0, 1) := by decide +kernel
theorem dd_Reader_putBytes_51 : decode mm_Reader_putBytes.2.1 51 = .ok (.getfield 35, 3) := by decide +kernel
theorem fd_7_35 : fld 7 35 = some (7, 0) := by decide +kernel
theorem dd_Reader_putBytes_54 : decode mm_Reader_putBytes.2.1 54 = .ok (.sipush 1000, 3) := by decide +kernel
theorem dd_Reader_putBytes_57 : decode mm_Reader_putBytes.2.1 57 = .ok (.if_icmp .ge (25), 3) := by decide +kernel
theorem dd_Reader_putBytes_60 : decode mm_Reader_putBytes.2.1 60 = .ok (.aload_n 0, 1) := by decide +kernel
theorem dd_Reader_putBytes_61 : decode mm_Reader_putBytes.2.1 61 = .ok (.getfield 9, 3) := by decide +kernel
theorem fd_7_9 : fld 7 9 = some (7, 1) := by decide +kernel
theorem rf_2_1 {h : LH} (hF : RF h) : rd h 2 1 = 3 := hF 2 1 3 (by decide +kernel) (by decide +kernel)
theorem dd_Reader_putBytes_64 : decode mm_Reader_putBytes.2.1 64 = .ok (.aload_n 0, 1) := by decide +kernel
theorem dd_Reader_putBytes_65 : decode mm_Reader_putBytes.2.1 65 = .ok (.getfield 35, 3) := by decide +kernel
theorem dd_Reader_putBytes_68 : decode mm_Reader_putBytes.2.1 68 = .ok (.iload 4, 2) := by decide +kernel
theorem dd_Reader_putBytes_70 : decode mm_Reader_putBytes.2.1 70 = .ok (.i2b, 1) := by decide +kernel
theorem dd_Reader_putBytes_71 : decode mm_Reader_putBytes.2.1 71 = .ok (.bastore, 1) := by decide +kernel
theorem ia_3 : isA NC 3 3 = true := by decide +kernel
theorem la_3 : (lay (3 : Int).toNat).2.2 = 1000 := by decide +kernel
theorem dd_Reader_putBytes_72 : decode mm_Reader_putBytes.2.1 72 = .ok (.aload_n 0, 1) := by decide +kernel
theorem dd_Reader_putBytes_73 : decode mm_Reader_putBytes.2.1 73 = .ok (.dup, 1) := by decide +kernel
theorem dd_Reader_putBytes_74 : decode mm_Reader_putBytes.2.1 74 = .ok (.getfield 35, 3) := by decide +kernel
theorem dd_Reader_putBytes_77 : decode mm_Reader_putBytes.2.1 77 = .ok (.iconst 1, 1) := by decide +kernel
theorem dd_Reader_putBytes_78 : decode mm_Reader_putBytes.2.1 78 = .ok (.iadd, 1) := by decide +kernel
theorem dd_Reader_putBytes_79 : decode mm_Reader_putBytes.2.1 79 = .ok (.putfield 35, 3) := by decide +kernel
theorem fn_7_0 : fin 7 0 = false := by decide +kernel
theorem dd_Reader_putBytes_24 : decode mm_Reader_putBytes.2.1 24 = .ok (.iload 4, 2) := by decide +kernel
theorem dd_Reader_putBytes_26 : decode mm_Reader_putBytes.2.1 26 = .ok (.bipush 32, 2) := by decide +kernel
theorem dd_Reader_putBytes_28 : decode mm_Reader_putBytes.2.1 28 = .ok (.if_icmp .lt (14), 3) := by decide +kernel
theorem dd_Reader_putBytes_42 : decode mm_Reader_putBytes.2.1 42 = .ok (.iconst 0, 1) := by decide +kernel
theorem dd_Reader_putBytes_31 : decode mm_Reader_putBytes.2.1 31 = .ok (.iload 4, 2) := by decide +kernel
theorem dd_Reader_putBytes_33 : decode mm_Reader_putBytes.2.1 33 = .ok (.bipush 126, 2) := by decide +kernel
theorem dd_Reader_putBytes_35 : decode mm_Reader_putBytes.2.1 35 = .ok (.if_icmp .gt (7), 3) := by decide +kernel
theorem dd_Reader_putBytes_82 : decode mm_Reader_putBytes.2.1 82 = .ok (.iinc 3 (-8), 3) := by decide +kernel
theorem dd_Reader_putBytes_85 : decode mm_Reader_putBytes.2.1 85 = .ok (.goto (-82), 3) := by decide +kernel
theorem dd_OneSided_feed_0 : decode mm_OneSided_feed.2.1 0 = .ok (.aload_n 0, 1) := by decide +kernel
theorem dd_OneSided_feed_1 : decode mm_OneSided_feed.2.1 1 = .ok (.getfield 10, 3) := by decide +kernel
theorem fd_11_10 : fld 11 10 = some (11, 0) := by decide +kernel
theorem rf_1_0 {h : LH} (hF : RF h) : rd h 1 0 = 2 := hF 1 0 2 (by decide +kernel) (by decide +kernel)
theorem dd_OneSided_feed_4 : decode mm_OneSided_feed.2.1 4 = .ok (.lload_n 1, 1) := by decide +kernel
theorem dd_OneSided_feed_5 : decode mm_OneSided_feed.2.1 5 = .ok (.invokevirtual 82, 3) := by decide +kernel
theorem cw_11_82 : cwOk 11 82 0 14 2 6 7 = true := by decide +kernel
theorem mt_Reader_putBytes : MTB 14 = some mm_Reader_putBytes := rfl
theorem dd_OneSided_feed_8 : decode mm_OneSided_feed.2.1 8 = .ok (.aload_n 0, 1) := by decide +kernel
theorem dd_OneSided_feed_9 : decode mm_OneSided_feed.2.1 9 = .ok (.getfield 10, 3) := by decide +kernel
theorem dd_OneSided_feed_12 : decode mm_OneSided_feed.2.1 12 = .ok (.lload_n 3, 1) := by decide +kernel
theorem dd_OneSided_feed_13 : decode mm_OneSided_feed.2.1 13 = .ok (.invokevirtual 82, 3) := by decide +kernel
theorem dd_OneSided_feed_16 : decode mm_OneSided_feed.2.1 16 = .ok (.aload_n 0, 1) := by decide +kernel
theorem dd_OneSided_feed_17 : decode mm_OneSided_feed.2.1 17 = .ok (.getfield 10, 3) := by decide +kernel
theorem dd_OneSided_feed_20 : decode mm_OneSided_feed.2.1 20 = .ok (.lload 5, 2) := by decide +kernel
theorem dd_OneSided_feed_22 : decode mm_OneSided_feed.2.1 22 = .ok (.invokevirtual 82, 3) := by decide +kernel
theorem dd_OneSided_feed_25 : decode mm_OneSided_feed.2.1 25 = .ok (.aload_n 0, 1) := by decide +kernel
theorem dd_OneSided_feed_26 : decode mm_OneSided_feed.2.1 26 = .ok (.getfield 10, 3) := by decide +kernel
theorem dd_OneSided_feed_29 : decode mm_OneSided_feed.2.1 29 = .ok (.getfield 86, 3) := by decide +kernel
theorem fd_11_86 : fld 11 86 = some (7, 0) := by decide +kernel
theorem dd_OneSided_feed_32 : decode mm_OneSided_feed.2.1 32 = .ok (.ireturn, 1) := by decide +kernel
theorem dd_lay_0 : decode mm_lay.2.1 0 = .ok (.bipush 56, 2) := by decide +kernel
theorem dd_lay_2 : decode mm_lay.2.1 2 = .ok (.istore_n 3, 1) := by decide +kernel
theorem dd_lay_3 : decode mm_lay.2.1 3 = .ok (.iload_n 3, 1) := by decide +kernel
theorem dd_lay_4 : decode mm_lay.2.1 4 = .ok (.ifCond .lt (71), 3) := by decide +kernel
theorem dd_lay_75 : decode mm_lay.2.1 75 = .ok (.return_, 1) := by decide +kernel
theorem dd_lay_7 : decode mm_lay.2.1 7 = .ok (.lload_n 1, 1) := by decide +kernel
theorem dd_lay_8 : decode mm_lay.2.1 8 = .ok (.iload_n 3, 1) := by decide +kernel
theorem dd_lay_9 : decode mm_lay.2.1 9 = .ok (.lshr, 1) := by decide +kernel
theorem dd_lay_10 : decode mm_lay.2.1 10 = .ok (.l2i, 1) := by decide +kernel
theorem dd_lay_11 : decode mm_lay.2.1 11 = .ok (.sipush 255, 3) := by decide +kernel
theorem dd_lay_14 : decode mm_lay.2.1 14 = .ok (.iand, 1) := by decide +kernel
theorem dd_lay_15 : decode mm_lay.2.1 15 = .ok (.istore 4, 2) := by decide +kernel
theorem dd_lay_17 : decode mm_lay.2.1 17 = .ok (.iload 4, 2) := by decide +kernel
theorem dd_lay_19 : decode mm_lay.2.1 19 = .ok (.bipush 10, 2) := by decide +kernel
theorem dd_lay_21 : decode mm_lay.2.1 21 = .ok (.if_icmp .eq (17), 3) := by decide +kernel
theorem dd_lay_38 : decode mm_lay.2.1 38 = .ok (.aload_n 0, 1) := by decide +kernel
theorem dd_lay_39 : decode mm_lay.2.1 39 = .ok (.getfield 11, 3) := by decide +kernel
theorem dd_lay_42 : decode mm_lay.2.1 42 = .ok (.sipush 1000, 3) := by decide +kernel
theorem dd_lay_45 : decode mm_lay.2.1 45 = .ok (.if_icmp .ge (24), 3) := by decide +kernel
theorem dd_lay_48 : decode mm_lay.2.1 48 = .ok (.aload_n 0, 1) := by decide +kernel
theorem dd_lay_49 : decode mm_lay.2.1 49 = .ok (.getfield 14, 3) := by decide +kernel
theorem dd_lay_52 : decode mm_lay.2.1 52 = .ok (.aload_n 0, 1) := by decide +kernel
theorem dd_lay_53 : decode mm_lay.2.1 53 = .ok (.getfield 11, 3) := by decide +kernel
theorem dd_lay_56 : decode mm_lay.2.1 56 = .ok (.iload 4, 2) := by decide +kernel
theorem dd_lay_58 : decode mm_lay.2.1 58 = .ok (.iastore, 1) := by decide +kernel
theorem dd_lay_59 : decode mm_lay.2.1 59 = .ok (.aload_n 0, 1) := by decide +kernel
theorem dd_lay_60 : decode mm_lay.2.1 60 = .ok (.dup, 1) := by decide +kernel
theorem dd_lay_61 : decode mm_lay.2.1 61 = .ok (.getfield 11, 3) := by decide +kernel
theorem dd_lay_64 : decode mm_lay.2.1 64 = .ok (.iconst 1, 1) := by decide +kernel
theorem dd_lay_65 : decode mm_lay.2.1 65 = .ok (.iadd, 1) := by decide +kernel
theorem dd_lay_66 : decode mm_lay.2.1 66 = .ok (.putfield 11, 3) := by decide +kernel
theorem dd_lay_24 : decode mm_lay.2.1 24 = .ok (.iload 4, 2) := by decide +kernel
theorem dd_lay_26 : decode mm_lay.2.1 26 = .ok (.bipush 32, 2) := by decide +kernel
theorem dd_lay_28 : decode mm_lay.2.1 28 = .ok (.if_icmp .lt (41), 3) := by decide +kernel
theorem dd_lay_31 : decode mm_lay.2.1 31 = .ok (.iload 4, 2) := by decide +kernel
theorem dd_lay_33 : decode mm_lay.2.1 33 = .ok (.bipush 126, 2) := by decide +kernel
theorem dd_lay_35 : decode mm_lay.2.1 35 = .ok (.if_icmp .gt (34), 3) := by decide +kernel
theorem dd_lay_69 : decode mm_lay.2.1 69 = .ok (.iinc 3 (-8), 3) := by decide +kernel
theorem dd_lay_72 : decode mm_lay.2.1 72 = .ok (.goto (-69), 3) := by decide +kernel
theorem dd_feed_0 : decode mm_feed.2.1 0 = .ok (.aload_n 0, 1) := by decide +kernel
theorem dd_feed_1 : decode mm_feed.2.1 1 = .ok (.iconst 0, 1) := by decide +kernel
theorem dd_feed_2 : decode mm_feed.2.1 2 = .ok (.putfield 1, 3) := by decide +kernel
theorem dd_feed_5 : decode mm_feed.2.1 5 = .ok (.aload_n 0, 1) := by decide +kernel
theorem dd_feed_6 : decode mm_feed.2.1 6 = .ok (.lload_n 1, 1) := by decide +kernel
theorem dd_feed_7 : decode mm_feed.2.1 7 = .ok (.invokevirtual 7, 3) := by decide +kernel
theorem cw_12_7 : cwOk 12 7 0 156 2 5 12 = true := by decide +kernel
theorem mt_lay : MTB 156 = some mm_lay := rfl
theorem dd_feed_10 : decode mm_feed.2.1 10 = .ok (.aload_n 0, 1) := by decide +kernel
theorem dd_feed_11 : decode mm_feed.2.1 11 = .ok (.lload_n 3, 1) := by decide +kernel
theorem dd_feed_12 : decode mm_feed.2.1 12 = .ok (.invokevirtual 7, 3) := by decide +kernel
theorem dd_feed_15 : decode mm_feed.2.1 15 = .ok (.aload_n 0, 1) := by decide +kernel
theorem dd_feed_16 : decode mm_feed.2.1 16 = .ok (.lload 5, 2) := by decide +kernel
theorem dd_feed_18 : decode mm_feed.2.1 18 = .ok (.invokevirtual 7, 3) := by decide +kernel
theorem dd_feed_21 : decode mm_feed.2.1 21 = .ok (.aload_n 0, 1) := by decide +kernel
theorem dd_feed_22 : decode mm_feed.2.1 22 = .ok (.getfield 11, 3) := by decide +kernel
theorem dd_feed_25 : decode mm_feed.2.1 25 = .ok (.ireturn, 1) := by decide +kernel
theorem B_Reader_putBytes_0 {xs : Nat → Int} {xl e : Nat} {h : LH} {Q : Option LV → LH → Prop} {v1 : Int} (hF : RF h)
    (k : Rn xs xl e mm_Reader_putBytes 3 [some (.inr (.inr 2)), some (.inr (.inl v1)), none, some (.inl 56), none, none] [] h Q) :
    Rn xs xl e mm_Reader_putBytes 0 [some (.inr (.inr 2)), some (.inr (.inl v1)), none, none, none, none] [] h Q := by
  refine R_bi dd_Reader_putBytes_0 (by decide) rfl ?_
  refine R_st (ls' := [some (.inr (.inr 2)), some (.inr (.inl v1)), none, some (.inl 56), none, none]) dd_Reader_putBytes_2 rfl rfl rfl (Nat.le_of_ble_eq_true rfl) rfl rfl ?_
  exact k
theorem B_Reader_putBytes_3 {xs : Nat → Int} {xl e : Nat} {h : LH} {Q : Option LV → LH → Prop} {v1 v3 : Int} {o4 : Option LV} {o5 : Option LV} (hF : RF h) (r_v3 : -8 ≤ v3 ∧ v3 ≤ 56)
    (k : (v3 < 0 →
        Q none h) ∧
      (0 ≤ v3 →
        ((zand (w32 (lushr_ v1 v3)) 255) = 10 →
          (1000 ≤ (rd h 2 0) →
            Rn xs xl e mm_Reader_putBytes 82 [some (.inr (.inr 2)), some (.inr (.inl v1)), none, some (.inl v3), some (.inl (zand (w32 (lushr_ v1 v3)) 255)), some (.inl 1)] [] h Q) ∧
          ((rd h 2 0) < 1000 →
            (0 ≤ (rd h 2 0) ∧ (rd h 2 0) < 1000) ∧
            (-2147483648 ≤ (rd h 2 0) + 1 ∧ (rd h 2 0) + 1 ≤ 2147483647) ∧
            Rn xs xl e mm_Reader_putBytes 82 [some (.inr (.inr 2)), some (.inr (.inl v1)), none, some (.inl v3), some (.inl (zand (w32 (lushr_ v1 v3)) 255)), some (.inl 1)] [] (wr (wr h 3 (rd h 2 0) ((Int32.ofInt (zand (w32 (lushr_ v1 v3)) 255)).toInt8.toInt32.toInt)) 2 0 ((rd h 2 0) + 1)) Q)) ∧
        ((zand (w32 (lushr_ v1 v3)) 255) ≠ 10 →
          ((zand (w32 (lushr_ v1 v3)) 255) < 32 →
            Rn xs xl e mm_Reader_putBytes 82 [some (.inr (.inr 2)), some (.inr (.inl v1)), none, some (.inl v3), some (.inl (zand (w32 (lushr_ v1 v3)) 255)), some (.inl 0)] [] h Q) ∧
          (32 ≤ (zand (w32 (lushr_ v1 v3)) 255) →
            (126 < (zand (w32 (lushr_ v1 v3)) 255) →
              Rn xs xl e mm_Reader_putBytes 82 [some (.inr (.inr 2)), some (.inr (.inl v1)), none, some (.inl v3), some (.inl (zand (w32 (lushr_ v1 v3)) 255)), some (.inl 0)] [] h Q) ∧
            ((zand (w32 (lushr_ v1 v3)) 255) ≤ 126 →
              (1000 ≤ (rd h 2 0) →
                Rn xs xl e mm_Reader_putBytes 82 [some (.inr (.inr 2)), some (.inr (.inl v1)), none, some (.inl v3), some (.inl (zand (w32 (lushr_ v1 v3)) 255)), some (.inl 1)] [] h Q) ∧
              ((rd h 2 0) < 1000 →
                (0 ≤ (rd h 2 0) ∧ (rd h 2 0) < 1000) ∧
                (-2147483648 ≤ (rd h 2 0) + 1 ∧ (rd h 2 0) + 1 ≤ 2147483647) ∧
                Rn xs xl e mm_Reader_putBytes 82 [some (.inr (.inr 2)), some (.inr (.inl v1)), none, some (.inl v3), some (.inl (zand (w32 (lushr_ v1 v3)) 255)), some (.inl 1)] [] (wr (wr h 3 (rd h 2 0) ((Int32.ofInt (zand (w32 (lushr_ v1 v3)) 255)).toInt8.toInt32.toInt)) 2 0 ((rd h 2 0) + 1)) Q)))))) :
    Rn xs xl e mm_Reader_putBytes 3 [some (.inr (.inr 2)), some (.inr (.inl v1)), none, some (.inl v3), o4, o5] [] h Q := by
  refine R_ld (v := .inl v3) dd_Reader_putBytes_3 rfl rfl rfl rfl ?_
  refine R_if dd_Reader_putBytes_4 rfl rfl (fun (c5 : v3 < 0) => ?_) (fun (c5 : 0 ≤ v3) => ?_)
  · replace k := k.1 c5
    exact R_vret dd_Reader_putBytes_88 rfl k
  · replace k := k.2 c5
    refine R_ld (v := .inr (.inl v1)) dd_Reader_putBytes_7 rfl rfl rfl rfl ?_
    refine R_ld (v := .inl v3) dd_Reader_putBytes_8 rfl rfl rfl rfl ?_
    refine R_A dd_Reader_putBytes_9 rfl rfl rfl rfl ?_
    refine R_A dd_Reader_putBytes_10 rfl rfl rfl rfl ?_
    refine R_si dd_Reader_putBytes_11 (by decide) rfl ?_
    refine R_A dd_Reader_putBytes_14 rfl rfl rfl rfl ?_
    refine R_st (ls' := [some (.inr (.inr 2)), some (.inr (.inl v1)), none, some (.inl v3), some (.inl (zand (w32 (lushr_ v1 v3)) 255)), o5]) dd_Reader_putBytes_15 rfl rfl rfl (Nat.le_of_ble_eq_true rfl) rfl rfl ?_
    refine R_ld (v := .inl (zand (w32 (lushr_ v1 v3)) 255)) dd_Reader_putBytes_17 rfl rfl rfl rfl ?_
    refine R_bi dd_Reader_putBytes_19 (by decide) rfl ?_
    refine R_icmp dd_Reader_putBytes_21 rfl rfl (fun (c6 : (zand (w32 (lushr_ v1 v3)) 255) = 10) => ?_) (fun (c6 : (zand (w32 (lushr_ v1 v3)) 255) ≠ 10) => ?_)
    · replace k := k.1 c6
      refine R_ic dd_Reader_putBytes_38 (by decide) rfl ?_
      refine R_goto dd_Reader_putBytes_39 rfl ?_
      refine R_st (ls' := [some (.inr (.inr 2)), some (.inr (.inl v1)), none, some (.inl v3), some (.inl (zand (w32 (lushr_ v1 v3)) 255)), some (.inl 1)]) dd_Reader_putBytes_43 rfl rfl rfl (Nat.le_of_ble_eq_true rfl) rfl rfl ?_
      refine R_ld (v := .inl 1) dd_Reader_putBytes_45 rfl rfl rfl rfl ?_
      refine R_if dd_Reader_putBytes_47 rfl rfl (fun (c7 : 1 = 0) => ?_) (fun (c7 : 1 ≠ 0) => ?_)
      · exact absurd c7 (by omega)
      · skip
        refine R_ld (v := .inr (.inr 2)) dd_Reader_putBytes_50 rfl rfl rfl rfl ?_
        refine R_gf (v := .inl (rd h 2 0)) dd_Reader_putBytes_51 fd_7_35 io_2 (congrArg (fun z : Int => (Sum.inl z : LV)) (rfl)) rfl ?_
        refine R_si dd_Reader_putBytes_54 (by decide) rfl ?_
        refine R_icmp dd_Reader_putBytes_57 rfl rfl (fun (c8 : 1000 ≤ (rd h 2 0)) => ?_) (fun (c8 : (rd h 2 0) < 1000) => ?_)
        · replace k := k.1 c8
          exact k
        · replace k := k.2 c8
          refine R_ld (v := .inr (.inr 2)) dd_Reader_putBytes_60 rfl rfl rfl rfl ?_
          refine R_gf (v := .inr (.inr 3)) dd_Reader_putBytes_61 fd_7_9 io_2 (congrArg (fun z : Int => (Sum.inr (Sum.inr z) : LV)) (rf_2_1 hF)) rfl ?_
          refine R_ld (v := .inr (.inr 2)) dd_Reader_putBytes_64 rfl rfl rfl rfl ?_
          refine R_gf (v := .inl (rd h 2 0)) dd_Reader_putBytes_65 fd_7_35 io_2 (congrArg (fun z : Int => (Sum.inl z : LV)) (rfl)) rfl ?_
          refine R_ld (v := .inl (zand (w32 (lushr_ v1 v3)) 255)) dd_Reader_putBytes_68 rfl rfl rfl rfl ?_
          refine R_A dd_Reader_putBytes_70 rfl rfl rfl rfl ?_
          obtain ⟨s1, k⟩ := k
          refine R_bast (n := 1000) dd_Reader_putBytes_71 ia_3 la_3 s1 (i2b_in _) rfl ?_
          refine R_ld (v := .inr (.inr 2)) dd_Reader_putBytes_72 rfl rfl rfl rfl ?_
          refine R_A dd_Reader_putBytes_73 rfl rfl rfl rfl ?_
          refine R_gf (v := .inl (rd h 2 0)) dd_Reader_putBytes_74 fd_7_35 io_2 (congrArg (fun z : Int => (Sum.inl z : LV)) (rdw_ne (by decide))) rfl ?_
          refine R_ic dd_Reader_putBytes_77 (by decide) rfl ?_
          obtain ⟨s2, k⟩ := k
          refine R_iadd (c := (rd h 2 0) + 1) dd_Reader_putBytes_78 (by omega) s2 rfl ?_
          refine R_pf (z := ((rd h 2 0) + 1)) dd_Reader_putBytes_79 fd_7_35 io_2 fn_7_0 rfl rfl ?_
          exact k
    · replace k := k.2 c6
      refine R_ld (v := .inl (zand (w32 (lushr_ v1 v3)) 255)) dd_Reader_putBytes_24 rfl rfl rfl rfl ?_
      refine R_bi dd_Reader_putBytes_26 (by decide) rfl ?_
      refine R_icmp dd_Reader_putBytes_28 rfl rfl (fun (c9 : (zand (w32 (lushr_ v1 v3)) 255) < 32) => ?_) (fun (c9 : 32 ≤ (zand (w32 (lushr_ v1 v3)) 255)) => ?_)
      · replace k := k.1 c9
        refine R_ic dd_Reader_putBytes_42 (by decide) rfl ?_
        refine R_st (ls' := [some (.inr (.inr 2)), some (.inr (.inl v1)), none, some (.inl v3), some (.inl (zand (w32 (lushr_ v1 v3)) 255)), some (.inl 0)]) dd_Reader_putBytes_43 rfl rfl rfl (Nat.le_of_ble_eq_true rfl) rfl rfl ?_
        refine R_ld (v := .inl 0) dd_Reader_putBytes_45 rfl rfl rfl rfl ?_
        refine R_if dd_Reader_putBytes_47 rfl rfl (fun (c10 : 0 = 0) => ?_) (fun (c10 : 0 ≠ 0) => ?_)
        · skip
          exact k
        · exact absurd c10 (by omega)
      · replace k := k.2 c9
        refine R_ld (v := .inl (zand (w32 (lushr_ v1 v3)) 255)) dd_Reader_putBytes_31 rfl rfl rfl rfl ?_
        refine R_bi dd_Reader_putBytes_33 (by decide) rfl ?_
        refine R_icmp dd_Reader_putBytes_35 rfl rfl (fun (c11 : 126 < (zand (w32 (lushr_ v1 v3)) 255)) => ?_) (fun (c11 : (zand (w32 (lushr_ v1 v3)) 255) ≤ 126) => ?_)
        · replace k := k.1 c11
          refine R_ic dd_Reader_putBytes_42 (by decide) rfl ?_
          refine R_st (ls' := [some (.inr (.inr 2)), some (.inr (.inl v1)), none, some (.inl v3), some (.inl (zand (w32 (lushr_ v1 v3)) 255)), some (.inl 0)]) dd_Reader_putBytes_43 rfl rfl rfl (Nat.le_of_ble_eq_true rfl) rfl rfl ?_
          refine R_ld (v := .inl 0) dd_Reader_putBytes_45 rfl rfl rfl rfl ?_
          refine R_if dd_Reader_putBytes_47 rfl rfl (fun (c12 : 0 = 0) => ?_) (fun (c12 : 0 ≠ 0) => ?_)
          · skip
            exact k
          · exact absurd c12 (by omega)
        · replace k := k.2 c11
          refine R_ic dd_Reader_putBytes_38 (by decide) rfl ?_
          refine R_goto dd_Reader_putBytes_39 rfl ?_
          refine R_st (ls' := [some (.inr (.inr 2)), some (.inr (.inl v1)), none, some (.inl v3), some (.inl (zand (w32 (lushr_ v1 v3)) 255)), some (.inl 1)]) dd_Reader_putBytes_43 rfl rfl rfl (Nat.le_of_ble_eq_true rfl) rfl rfl ?_
          refine R_ld (v := .inl 1) dd_Reader_putBytes_45 rfl rfl rfl rfl ?_
          refine R_if dd_Reader_putBytes_47 rfl rfl (fun (c13 : 1 = 0) => ?_) (fun (c13 : 1 ≠ 0) => ?_)
          · exact absurd c13 (by omega)
          · skip
            refine R_ld (v := .inr (.inr 2)) dd_Reader_putBytes_50 rfl rfl rfl rfl ?_
            refine R_gf (v := .inl (rd h 2 0)) dd_Reader_putBytes_51 fd_7_35 io_2 (congrArg (fun z : Int => (Sum.inl z : LV)) (rfl)) rfl ?_
            refine R_si dd_Reader_putBytes_54 (by decide) rfl ?_
            refine R_icmp dd_Reader_putBytes_57 rfl rfl (fun (c14 : 1000 ≤ (rd h 2 0)) => ?_) (fun (c14 : (rd h 2 0) < 1000) => ?_)
            · replace k := k.1 c14
              exact k
            · replace k := k.2 c14
              refine R_ld (v := .inr (.inr 2)) dd_Reader_putBytes_60 rfl rfl rfl rfl ?_
              refine R_gf (v := .inr (.inr 3)) dd_Reader_putBytes_61 fd_7_9 io_2 (congrArg (fun z : Int => (Sum.inr (Sum.inr z) : LV)) (rf_2_1 hF)) rfl ?_
              refine R_ld (v := .inr (.inr 2)) dd_Reader_putBytes_64 rfl rfl rfl rfl ?_
              refine R_gf (v := .inl (rd h 2 0)) dd_Reader_putBytes_65 fd_7_35 io_2 (congrArg (fun z : Int => (Sum.inl z : LV)) (rfl)) rfl ?_
              refine R_ld (v := .inl (zand (w32 (lushr_ v1 v3)) 255)) dd_Reader_putBytes_68 rfl rfl rfl rfl ?_
              refine R_A dd_Reader_putBytes_70 rfl rfl rfl rfl ?_
              obtain ⟨s3, k⟩ := k
              refine R_bast (n := 1000) dd_Reader_putBytes_71 ia_3 la_3 s3 (i2b_in _) rfl ?_
              refine R_ld (v := .inr (.inr 2)) dd_Reader_putBytes_72 rfl rfl rfl rfl ?_
              refine R_A dd_Reader_putBytes_73 rfl rfl rfl rfl ?_
              refine R_gf (v := .inl (rd h 2 0)) dd_Reader_putBytes_74 fd_7_35 io_2 (congrArg (fun z : Int => (Sum.inl z : LV)) (rdw_ne (by decide))) rfl ?_
              refine R_ic dd_Reader_putBytes_77 (by decide) rfl ?_
              obtain ⟨s4, k⟩ := k
              refine R_iadd (c := (rd h 2 0) + 1) dd_Reader_putBytes_78 (by omega) s4 rfl ?_
              refine R_pf (z := ((rd h 2 0) + 1)) dd_Reader_putBytes_79 fd_7_35 io_2 fn_7_0 rfl rfl ?_
              exact k
theorem B_Reader_putBytes_82 {xs : Nat → Int} {xl e : Nat} {h : LH} {Q : Option LV → LH → Prop} {v1 v3 : Int} {o4 : Option LV} {o5 : Option LV} (hF : RF h) (r_v3 : 0 ≤ v3 ∧ v3 ≤ 56)
    (k : Rn xs xl e mm_Reader_putBytes 3 [some (.inr (.inr 2)), some (.inr (.inl v1)), none, some (.inl (v3 - 8)), o4, o5] [] h Q) :
    Rn xs xl e mm_Reader_putBytes 82 [some (.inr (.inr 2)), some (.inr (.inl v1)), none, some (.inl v3), o4, o5] [] h Q := by
  refine R_inc (y := v3 - 8) (ls' := [some (.inr (.inr 2)), some (.inr (.inl v1)), none, some (.inl (v3 - 8)), o4, o5]) dd_Reader_putBytes_82 rfl (by decide) (by omega) (by omega) rfl rfl ?_
  refine R_goto dd_Reader_putBytes_85 rfl ?_
  exact k
theorem B_OneSided_feed_0 {xs : Nat → Int} {xl e : Nat} {h : LH} {Q : Option LV → LH → Prop} {v1 v3 v5 : Int} (hF : RF h)
    (k : (∃ c, c < e ∧ Rn xs xl c mm_Reader_putBytes 0 [some (.inr (.inr 2)), some (.inr (.inl v1)), none, none, none, none] [] h (fun r h' => Rn xs xl e mm_OneSided_feed 8 [some (.inr (.inr 1)), some (.inr (.inl v1)), none, some (.inr (.inl v3)), none, some (.inr (.inl v5)), none] (r.toList ++ []) h' Q))) :
    Rn xs xl e mm_OneSided_feed 0 [some (.inr (.inr 1)), some (.inr (.inl v1)), none, some (.inr (.inl v3)), none, some (.inr (.inl v5)), none] [] h Q := by
  refine R_ld (v := .inr (.inr 1)) dd_OneSided_feed_0 rfl rfl rfl rfl ?_
  refine R_gf (v := .inr (.inr 2)) dd_OneSided_feed_1 fd_11_10 io_1 (congrArg (fun z : Int => (Sum.inr (Sum.inr z) : LV)) (rf_1_0 hF)) rfl ?_
  refine R_ld (v := .inr (.inl v1)) dd_OneSided_feed_4 rfl rfl rfl rfl ?_
  obtain ⟨c, hc, k⟩ := k
  exact R_call (as := [.inr (.inr 2), .inr (.inl v1)]) (rest := []) (M' := mm_Reader_putBytes) (ls0 := [some (.inr (.inr 2)), some (.inr (.inl v1)), none, none, none, none]) dd_OneSided_feed_5 rfl rfl (cw_v cw_11_82 io_2 rfl rfl (Nat.le_of_ble_eq_true rfl) (Nat.le_of_ble_eq_true rfl)) mt_Reader_putBytes rfl hc rfl k
theorem B_OneSided_feed_8 {xs : Nat → Int} {xl e : Nat} {h : LH} {Q : Option LV → LH → Prop} {v1 v3 v5 : Int} (hF : RF h)
    (k : (∃ c, c < e ∧ Rn xs xl c mm_Reader_putBytes 0 [some (.inr (.inr 2)), some (.inr (.inl v3)), none, none, none, none] [] h (fun r h' => Rn xs xl e mm_OneSided_feed 16 [some (.inr (.inr 1)), some (.inr (.inl v1)), none, some (.inr (.inl v3)), none, some (.inr (.inl v5)), none] (r.toList ++ []) h' Q))) :
    Rn xs xl e mm_OneSided_feed 8 [some (.inr (.inr 1)), some (.inr (.inl v1)), none, some (.inr (.inl v3)), none, some (.inr (.inl v5)), none] [] h Q := by
  refine R_ld (v := .inr (.inr 1)) dd_OneSided_feed_8 rfl rfl rfl rfl ?_
  refine R_gf (v := .inr (.inr 2)) dd_OneSided_feed_9 fd_11_10 io_1 (congrArg (fun z : Int => (Sum.inr (Sum.inr z) : LV)) (rf_1_0 hF)) rfl ?_
  refine R_ld (v := .inr (.inl v3)) dd_OneSided_feed_12 rfl rfl rfl rfl ?_
  obtain ⟨c, hc, k⟩ := k
  exact R_call (as := [.inr (.inr 2), .inr (.inl v3)]) (rest := []) (M' := mm_Reader_putBytes) (ls0 := [some (.inr (.inr 2)), some (.inr (.inl v3)), none, none, none, none]) dd_OneSided_feed_13 rfl rfl (cw_v cw_11_82 io_2 rfl rfl (Nat.le_of_ble_eq_true rfl) (Nat.le_of_ble_eq_true rfl)) mt_Reader_putBytes rfl hc rfl k
theorem B_OneSided_feed_16 {xs : Nat → Int} {xl e : Nat} {h : LH} {Q : Option LV → LH → Prop} {v1 v3 v5 : Int} (hF : RF h)
    (k : (∃ c, c < e ∧ Rn xs xl c mm_Reader_putBytes 0 [some (.inr (.inr 2)), some (.inr (.inl v5)), none, none, none, none] [] h (fun r h' => Rn xs xl e mm_OneSided_feed 25 [some (.inr (.inr 1)), some (.inr (.inl v1)), none, some (.inr (.inl v3)), none, some (.inr (.inl v5)), none] (r.toList ++ []) h' Q))) :
    Rn xs xl e mm_OneSided_feed 16 [some (.inr (.inr 1)), some (.inr (.inl v1)), none, some (.inr (.inl v3)), none, some (.inr (.inl v5)), none] [] h Q := by
  refine R_ld (v := .inr (.inr 1)) dd_OneSided_feed_16 rfl rfl rfl rfl ?_
  refine R_gf (v := .inr (.inr 2)) dd_OneSided_feed_17 fd_11_10 io_1 (congrArg (fun z : Int => (Sum.inr (Sum.inr z) : LV)) (rf_1_0 hF)) rfl ?_
  refine R_ld (v := .inr (.inl v5)) dd_OneSided_feed_20 rfl rfl rfl rfl ?_
  obtain ⟨c, hc, k⟩ := k
  exact R_call (as := [.inr (.inr 2), .inr (.inl v5)]) (rest := []) (M' := mm_Reader_putBytes) (ls0 := [some (.inr (.inr 2)), some (.inr (.inl v5)), none, none, none, none]) dd_OneSided_feed_22 rfl rfl (cw_v cw_11_82 io_2 rfl rfl (Nat.le_of_ble_eq_true rfl) (Nat.le_of_ble_eq_true rfl)) mt_Reader_putBytes rfl hc rfl k
theorem B_OneSided_feed_25 {xs : Nat → Int} {xl e : Nat} {h : LH} {Q : Option LV → LH → Prop} {v1 v3 v5 : Int} (hF : RF h)
    (k : Q (some (.inl (rd h 2 0))) h) :
    Rn xs xl e mm_OneSided_feed 25 [some (.inr (.inr 1)), some (.inr (.inl v1)), none, some (.inr (.inl v3)), none, some (.inr (.inl v5)), none] [] h Q := by
  refine R_ld (v := .inr (.inr 1)) dd_OneSided_feed_25 rfl rfl rfl rfl ?_
  refine R_gf (v := .inr (.inr 2)) dd_OneSided_feed_26 fd_11_10 io_1 (congrArg (fun z : Int => (Sum.inr (Sum.inr z) : LV)) (rf_1_0 hF)) rfl ?_
  refine R_gf (v := .inl (rd h 2 0)) dd_OneSided_feed_29 fd_11_86 io_2 (congrArg (fun z : Int => (Sum.inl z : LV)) (rfl)) rfl ?_
  exact R_iret dd_OneSided_feed_32 rfl k
theorem B_lay_0 {xs : Nat → Int} {xl e : Nat} {h : LH} {Q : Option LV → LH → Prop} {v1 : Int} (hF : RF h)
    (k : Rn xs xl e mm_lay 3 [some (.inr (.inr 182)), some (.inr (.inl v1)), none, some (.inl 56), none] [] h Q) :
    Rn xs xl e mm_lay 0 [some (.inr (.inr 182)), some (.inr (.inl v1)), none, none, none] [] h Q := by
  refine R_bi dd_lay_0 (by decide) rfl ?_
  refine R_st (ls' := [some (.inr (.inr 182)), some (.inr (.inl v1)), none, some (.inl 56), none]) dd_lay_2 rfl rfl rfl (Nat.le_of_ble_eq_true rfl) rfl rfl ?_
  exact k
theorem B_lay_3 {xs : Nat → Int} {xl e : Nat} {h : LH} {Q : Option LV → LH → Prop} {v1 v3 : Int} {o4 : Option LV} (hF : RF h) (r_v3 : -8 ≤ v3 ∧ v3 ≤ 56)
    (k : (v3 < 0 →
        Q none h) ∧
      (0 ≤ v3 →
        ((zand (w32 (lshr_ v1 v3)) 255) = 10 →
          (1000 ≤ (rd h 182 2) →
            Rn xs xl e mm_lay 69 [some (.inr (.inr 182)), some (.inr (.inl v1)), none, some (.inl v3), some (.inl (zand (w32 (lshr_ v1 v3)) 255))] [] h Q) ∧
          ((rd h 182 2) < 1000 →
            (0 ≤ (rd h 182 2) ∧ (rd h 182 2) < 1000) ∧
            (-2147483648 ≤ (rd h 182 2) + 1 ∧ (rd h 182 2) + 1 ≤ 2147483647) ∧
            Rn xs xl e mm_lay 69 [some (.inr (.inr 182)), some (.inr (.inl v1)), none, some (.inl v3), some (.inl (zand (w32 (lshr_ v1 v3)) 255))] [] (wr (wr h 183 (rd h 182 2) (zand (w32 (lshr_ v1 v3)) 255)) 182 2 ((rd h 182 2) + 1)) Q)) ∧
        ((zand (w32 (lshr_ v1 v3)) 255) ≠ 10 →
          ((zand (w32 (lshr_ v1 v3)) 255) < 32 →
            Rn xs xl e mm_lay 69 [some (.inr (.inr 182)), some (.inr (.inl v1)), none, some (.inl v3), some (.inl (zand (w32 (lshr_ v1 v3)) 255))] [] h Q) ∧
          (32 ≤ (zand (w32 (lshr_ v1 v3)) 255) →
            (126 < (zand (w32 (lshr_ v1 v3)) 255) →
              Rn xs xl e mm_lay 69 [some (.inr (.inr 182)), some (.inr (.inl v1)), none, some (.inl v3), some (.inl (zand (w32 (lshr_ v1 v3)) 255))] [] h Q) ∧
            ((zand (w32 (lshr_ v1 v3)) 255) ≤ 126 →
              (1000 ≤ (rd h 182 2) →
                Rn xs xl e mm_lay 69 [some (.inr (.inr 182)), some (.inr (.inl v1)), none, some (.inl v3), some (.inl (zand (w32 (lshr_ v1 v3)) 255))] [] h Q) ∧
              ((rd h 182 2) < 1000 →
                (0 ≤ (rd h 182 2) ∧ (rd h 182 2) < 1000) ∧
                (-2147483648 ≤ (rd h 182 2) + 1 ∧ (rd h 182 2) + 1 ≤ 2147483647) ∧
                Rn xs xl e mm_lay 69 [some (.inr (.inr 182)), some (.inr (.inl v1)), none, some (.inl v3), some (.inl (zand (w32 (lshr_ v1 v3)) 255))] [] (wr (wr h 183 (rd h 182 2) (zand (w32 (lshr_ v1 v3)) 255)) 182 2 ((rd h 182 2) + 1)) Q)))))) :
    Rn xs xl e mm_lay 3 [some (.inr (.inr 182)), some (.inr (.inl v1)), none, some (.inl v3), o4] [] h Q := by
  refine R_ld (v := .inl v3) dd_lay_3 rfl rfl rfl rfl ?_
  refine R_if dd_lay_4 rfl rfl (fun (c5 : v3 < 0) => ?_) (fun (c5 : 0 ≤ v3) => ?_)
  · replace k := k.1 c5
    exact R_vret dd_lay_75 rfl k
  · replace k := k.2 c5
    refine R_ld (v := .inr (.inl v1)) dd_lay_7 rfl rfl rfl rfl ?_
    refine R_ld (v := .inl v3) dd_lay_8 rfl rfl rfl rfl ?_
    refine R_A dd_lay_9 rfl rfl rfl rfl ?_
    refine R_A dd_lay_10 rfl rfl rfl rfl ?_
    refine R_si dd_lay_11 (by decide) rfl ?_
    refine R_A dd_lay_14 rfl rfl rfl rfl ?_
    refine R_st (ls' := [some (.inr (.inr 182)), some (.inr (.inl v1)), none, some (.inl v3), some (.inl (zand (w32 (lshr_ v1 v3)) 255))]) dd_lay_15 rfl rfl rfl (Nat.le_of_ble_eq_true rfl) rfl rfl ?_
    refine R_ld (v := .inl (zand (w32 (lshr_ v1 v3)) 255)) dd_lay_17 rfl rfl rfl rfl ?_
    refine R_bi dd_lay_19 (by decide) rfl ?_
    refine R_icmp dd_lay_21 rfl rfl (fun (c6 : (zand (w32 (lshr_ v1 v3)) 255) = 10) => ?_) (fun (c6 : (zand (w32 (lshr_ v1 v3)) 255) ≠ 10) => ?_)
    · replace k := k.1 c6
      refine R_ld (v := .inr (.inr 182)) dd_lay_38 rfl rfl rfl rfl ?_
      refine R_gf (v := .inl (rd h 182 2)) dd_lay_39 fd_12_11 io_182 (congrArg (fun z : Int => (Sum.inl z : LV)) (rfl)) rfl ?_
      refine R_si dd_lay_42 (by decide) rfl ?_
      refine R_icmp dd_lay_45 rfl rfl (fun (c7 : 1000 ≤ (rd h 182 2)) => ?_) (fun (c7 : (rd h 182 2) < 1000) => ?_)
      · replace k := k.1 c7
        exact k
      · replace k := k.2 c7
        refine R_ld (v := .inr (.inr 182)) dd_lay_48 rfl rfl rfl rfl ?_
        refine R_gf (v := .inr (.inr 183)) dd_lay_49 fd_12_14 io_182 (congrArg (fun z : Int => (Sum.inr (Sum.inr z) : LV)) (rf_182_1 hF)) rfl ?_
        refine R_ld (v := .inr (.inr 182)) dd_lay_52 rfl rfl rfl rfl ?_
        refine R_gf (v := .inl (rd h 182 2)) dd_lay_53 fd_12_11 io_182 (congrArg (fun z : Int => (Sum.inl z : LV)) (rfl)) rfl ?_
        refine R_ld (v := .inl (zand (w32 (lshr_ v1 v3)) 255)) dd_lay_56 rfl rfl rfl rfl ?_
        obtain ⟨s1, k⟩ := k
        refine R_iast (n := 1000) dd_lay_58 ia_183 la_183 s1 rfl ?_
        refine R_ld (v := .inr (.inr 182)) dd_lay_59 rfl rfl rfl rfl ?_
        refine R_A dd_lay_60 rfl rfl rfl rfl ?_
        refine R_gf (v := .inl (rd h 182 2)) dd_lay_61 fd_12_11 io_182 (congrArg (fun z : Int => (Sum.inl z : LV)) (rdw_ne (by decide))) rfl ?_
        refine R_ic dd_lay_64 (by decide) rfl ?_
        obtain ⟨s2, k⟩ := k
        refine R_iadd (c := (rd h 182 2) + 1) dd_lay_65 (by omega) s2 rfl ?_
        refine R_pf (z := ((rd h 182 2) + 1)) dd_lay_66 fd_12_11 io_182 fn_12_2 rfl rfl ?_
        exact k
    · replace k := k.2 c6
      refine R_ld (v := .inl (zand (w32 (lshr_ v1 v3)) 255)) dd_lay_24 rfl rfl rfl rfl ?_
      refine R_bi dd_lay_26 (by decide) rfl ?_
      refine R_icmp dd_lay_28 rfl rfl (fun (c8 : (zand (w32 (lshr_ v1 v3)) 255) < 32) => ?_) (fun (c8 : 32 ≤ (zand (w32 (lshr_ v1 v3)) 255)) => ?_)
      · replace k := k.1 c8
        exact k
      · replace k := k.2 c8
        refine R_ld (v := .inl (zand (w32 (lshr_ v1 v3)) 255)) dd_lay_31 rfl rfl rfl rfl ?_
        refine R_bi dd_lay_33 (by decide) rfl ?_
        refine R_icmp dd_lay_35 rfl rfl (fun (c9 : 126 < (zand (w32 (lshr_ v1 v3)) 255)) => ?_) (fun (c9 : (zand (w32 (lshr_ v1 v3)) 255) ≤ 126) => ?_)
        · replace k := k.1 c9
          exact k
        · replace k := k.2 c9
          refine R_ld (v := .inr (.inr 182)) dd_lay_38 rfl rfl rfl rfl ?_
          refine R_gf (v := .inl (rd h 182 2)) dd_lay_39 fd_12_11 io_182 (congrArg (fun z : Int => (Sum.inl z : LV)) (rfl)) rfl ?_
          refine R_si dd_lay_42 (by decide) rfl ?_
          refine R_icmp dd_lay_45 rfl rfl (fun (c10 : 1000 ≤ (rd h 182 2)) => ?_) (fun (c10 : (rd h 182 2) < 1000) => ?_)
          · replace k := k.1 c10
            exact k
          · replace k := k.2 c10
            refine R_ld (v := .inr (.inr 182)) dd_lay_48 rfl rfl rfl rfl ?_
            refine R_gf (v := .inr (.inr 183)) dd_lay_49 fd_12_14 io_182 (congrArg (fun z : Int => (Sum.inr (Sum.inr z) : LV)) (rf_182_1 hF)) rfl ?_
            refine R_ld (v := .inr (.inr 182)) dd_lay_52 rfl rfl rfl rfl ?_
            refine R_gf (v := .inl (rd h 182 2)) dd_lay_53 fd_12_11 io_182 (congrArg (fun z : Int => (Sum.inl z : LV)) (rfl)) rfl ?_
            refine R_ld (v := .inl (zand (w32 (lshr_ v1 v3)) 255)) dd_lay_56 rfl rfl rfl rfl ?_
            obtain ⟨s3, k⟩ := k
            refine R_iast (n := 1000) dd_lay_58 ia_183 la_183 s3 rfl ?_
            refine R_ld (v := .inr (.inr 182)) dd_lay_59 rfl rfl rfl rfl ?_
            refine R_A dd_lay_60 rfl rfl rfl rfl ?_
            refine R_gf (v := .inl (rd h 182 2)) dd_lay_61 fd_12_11 io_182 (congrArg (fun z : Int => (Sum.inl z : LV)) (rdw_ne (by decide))) rfl ?_
            refine R_ic dd_lay_64 (by decide) rfl ?_
            obtain ⟨s4, k⟩ := k
            refine R_iadd (c := (rd h 182 2) + 1) dd_lay_65 (by omega) s4 rfl ?_
            refine R_pf (z := ((rd h 182 2) + 1)) dd_lay_66 fd_12_11 io_182 fn_12_2 rfl rfl ?_
            exact k
theorem B_lay_69 {xs : Nat → Int} {xl e : Nat} {h : LH} {Q : Option LV → LH → Prop} {v1 v3 : Int} {o4 : Option LV} (hF : RF h) (r_v3 : 0 ≤ v3 ∧ v3 ≤ 56)
    (k : Rn xs xl e mm_lay 3 [some (.inr (.inr 182)), some (.inr (.inl v1)), none, some (.inl (v3 - 8)), o4] [] h Q) :
    Rn xs xl e mm_lay 69 [some (.inr (.inr 182)), some (.inr (.inl v1)), none, some (.inl v3), o4] [] h Q := by
  refine R_inc (y := v3 - 8) (ls' := [some (.inr (.inr 182)), some (.inr (.inl v1)), none, some (.inl (v3 - 8)), o4]) dd_lay_69 rfl (by decide) (by omega) (by omega) rfl rfl ?_
  refine R_goto dd_lay_72 rfl ?_
  exact k
theorem B_feed_0 {xs : Nat → Int} {xl e : Nat} {h : LH} {Q : Option LV → LH → Prop} {v1 v3 v5 : Int} (hF : RF h)
    (k : (∃ c, c < e ∧ Rn xs xl c mm_lay 0 [some (.inr (.inr 182)), some (.inr (.inl v1)), none, none, none] [] (wr h 182 0 0) (fun r h' => Rn xs xl e mm_feed 10 [some (.inr (.inr 182)), some (.inr (.inl v1)), none, some (.inr (.inl v3)), none, some (.inr (.inl v5)), none] (r.toList ++ []) h' Q))) :
    Rn xs xl e mm_feed 0 [some (.inr (.inr 182)), some (.inr (.inl v1)), none, some (.inr (.inl v3)), none, some (.inr (.inl v5)), none] [] h Q := by
  refine R_ld (v := .inr (.inr 182)) dd_feed_0 rfl rfl rfl rfl ?_
  refine R_ic dd_feed_1 (by decide) rfl ?_
  refine R_pf (z := 0) dd_feed_2 fd_12_1 io_182 fn_12_0 rfl rfl ?_
  refine R_ld (v := .inr (.inr 182)) dd_feed_5 rfl rfl rfl rfl ?_
  refine R_ld (v := .inr (.inl v1)) dd_feed_6 rfl rfl rfl rfl ?_
  obtain ⟨c, hc, k⟩ := k
  exact R_call (as := [.inr (.inr 182), .inr (.inl v1)]) (rest := []) (M' := mm_lay) (ls0 := [some (.inr (.inr 182)), some (.inr (.inl v1)), none, none, none]) dd_feed_7 rfl rfl (cw_v cw_12_7 io_182 rfl rfl (Nat.le_of_ble_eq_true rfl) (Nat.le_of_ble_eq_true rfl)) mt_lay rfl hc rfl k
theorem B_feed_10 {xs : Nat → Int} {xl e : Nat} {h : LH} {Q : Option LV → LH → Prop} {v1 v3 v5 : Int} (hF : RF h)
    (k : (∃ c, c < e ∧ Rn xs xl c mm_lay 0 [some (.inr (.inr 182)), some (.inr (.inl v3)), none, none, none] [] h (fun r h' => Rn xs xl e mm_feed 15 [some (.inr (.inr 182)), some (.inr (.inl v1)), none, some (.inr (.inl v3)), none, some (.inr (.inl v5)), none] (r.toList ++ []) h' Q))) :
    Rn xs xl e mm_feed 10 [some (.inr (.inr 182)), some (.inr (.inl v1)), none, some (.inr (.inl v3)), none, some (.inr (.inl v5)), none] [] h Q := by
  refine R_ld (v := .inr (.inr 182)) dd_feed_10 rfl rfl rfl rfl ?_
  refine R_ld (v := .inr (.inl v3)) dd_feed_11 rfl rfl rfl rfl ?_
  obtain ⟨c, hc, k⟩ := k
  exact R_call (as := [.inr (.inr 182), .inr (.inl v3)]) (rest := []) (M' := mm_lay) (ls0 := [some (.inr (.inr 182)), some (.inr (.inl v3)), none, none, none]) dd_feed_12 rfl rfl (cw_v cw_12_7 io_182 rfl rfl (Nat.le_of_ble_eq_true rfl) (Nat.le_of_ble_eq_true rfl)) mt_lay rfl hc rfl k
theorem B_feed_15 {xs : Nat → Int} {xl e : Nat} {h : LH} {Q : Option LV → LH → Prop} {v1 v3 v5 : Int} (hF : RF h)
    (k : (∃ c, c < e ∧ Rn xs xl c mm_lay 0 [some (.inr (.inr 182)), some (.inr (.inl v5)), none, none, none] [] h (fun r h' => Rn xs xl e mm_feed 21 [some (.inr (.inr 182)), some (.inr (.inl v1)), none, some (.inr (.inl v3)), none, some (.inr (.inl v5)), none] (r.toList ++ []) h' Q))) :
    Rn xs xl e mm_feed 15 [some (.inr (.inr 182)), some (.inr (.inl v1)), none, some (.inr (.inl v3)), none, some (.inr (.inl v5)), none] [] h Q := by
  refine R_ld (v := .inr (.inr 182)) dd_feed_15 rfl rfl rfl rfl ?_
  refine R_ld (v := .inr (.inl v5)) dd_feed_16 rfl rfl rfl rfl ?_
  obtain ⟨c, hc, k⟩ := k
  exact R_call (as := [.inr (.inr 182), .inr (.inl v5)]) (rest := []) (M' := mm_lay) (ls0 := [some (.inr (.inr 182)), some (.inr (.inl v5)), none, none, none]) dd_feed_18 rfl rfl (cw_v cw_12_7 io_182 rfl rfl (Nat.le_of_ble_eq_true rfl) (Nat.le_of_ble_eq_true rfl)) mt_lay rfl hc rfl k
theorem B_feed_21 {xs : Nat → Int} {xl e : Nat} {h : LH} {Q : Option LV → LH → Prop} {v1 v3 v5 : Int} (hF : RF h)
    (k : Q (some (.inl (rd h 182 2))) h) :
    Rn xs xl e mm_feed 21 [some (.inr (.inr 182)), some (.inr (.inl v1)), none, some (.inr (.inl v3)), none, some (.inr (.inl v5)), none] [] h Q := by
  refine R_ld (v := .inr (.inr 182)) dd_feed_21 rfl rfl rfl rfl ?_
  refine R_gf (v := .inl (rd h 182 2)) dd_feed_22 fd_12_11 io_182 (congrArg (fun z : Int => (Sum.inl z : LV)) (rfl)) rfl ?_
  exact R_iret dd_feed_25 rfl k
end
section
/-! LM, part 89: contracts of the table in the form of the methods by hand -/
section US
variable {xs : Nat → Int} {xl e : Nat} {h : LH} {Q : Option LV → LH → Prop}
theorem use_sm {S : SM} (ok : SMok xs xl INV S) {M : LM_M} {as : List LV} {ls0 : LL} (hM : MTB S.1 = some M) (he : S.2.1 ≤ e) (hI : INV h) (ha : gAr S.2.2.1 as) (hf : S.2.2.2.2.2 = []) (hl : (lent as).length ≤ M.2.2.1) (hp : lpad M.2.2.1 (lent as) = ls0) (k : ∀ r h', INV h' → frm S.2.2.2.2.1 h h' → (∃ c ∈ S.2.2.2.1, resOk c r h' as) → Q r h') : Rn xs xl e M 0 ls0 [] h Q := by
  subst hp
  exact ((ok M as h hM hI ha (by rw [hf]; exact fun q hq => absurd hq (List.not_mem_nil)) hl).deep he).mono (fun r h' q => k r h' q.1 q.2.1 q.2.2)
theorem res_int {a : AV} {p : PV} {l : List (Nat × AV)} {f : FA} {r : Option LV} {as : List LV} (hq : ∃ c ∈ ([(some a, p, l, f)] : List CS), resOk c r h as) (hk : a.1 = 0) : ∃ x, r = some (.inl x) ∧ a.2.1 ≤ x ∧ x ≤ a.2.2.1 ∧ i32 x := by
  obtain ⟨c, hc, q1, q2, q3⟩ := hq
  rw [List.mem_singleton] at hc
  subst hc
  cases r with
  | none => exact absurd q1 id
  | some v =>
    obtain ⟨x, rfl, x1, x2⟩ := gV_i q1.1 hk
    exact ⟨x, rfl, x2.1, x2.2.1, x1⟩
theorem res_none {p : PV} {l : List (Nat × AV)} {f : FA} {r : Option LV} {as : List LV} (hq : ∃ c ∈ ([(none, p, l, f)] : List CS), resOk c r h as) : r = none := by
  obtain ⟨c, hc, q1, q2, q3⟩ := hq
  rw [List.mem_singleton] at hc
  subst hc
  cases r with
  | none => rfl
  | some v => exact absurd q1 id
theorem res_bool {a b : AV} {p p' : PV} {l l' : List (Nat × AV)} {f f' : FA} {r : Option LV} {as : List LV} (hq : ∃ c ∈ ([(some a, p, l, f), (some b, p', l', f')] : List CS), resOk c r h as) (hk : a.1 = 0) (hk' : b.1 = 0) : ∃ x, r = some (.inl x) := by
  obtain ⟨c, hc, q1, q2, q3⟩ := hq
  rw [List.mem_cons, List.mem_singleton] at hc
  rcases hc with hc | hc
  · subst hc
    cases r with
    | none => exact absurd q1 id
    | some v =>
      obtain ⟨x, rfl, x1, x2⟩ := gV_i q1.1 hk
      exact ⟨x, rfl⟩
  · subst hc
    cases r with
    | none => exact absurd q1 id
    | some v =>
      obtain ⟨x, rfl, x1, x2⟩ := gV_i q1.1 hk'
      exact ⟨x, rfl⟩
theorem g_ref (n : Int) : gV (2, n, n, 0) (.inr (.inr n)) := ⟨rfl, Int.le_refl _, Int.le_refl _, by show ((0 : Nat) : Int) ∣ n - n; rw [Int.sub_self]; exact Int.dvd_refl _⟩
theorem g_pt (n : Int) (hi : i32 n) : gV (0, n, n, 0) (.inl n) := ⟨rfl, hi, Int.le_refl _, Int.le_refl _, by show ((0 : Nat) : Int) ∣ n - n; rw [Int.sub_self]; exact Int.dvd_refl _⟩
theorem g_lng {n : Int} (hi : i64 n) : gV (1, -9223372036854775808, 9223372036854775807, 1) (.inr (.inl n)) := ⟨rfl, hi, hi.1, hi.2, Int.one_dvd _⟩
theorem ar_q {l : List AV} {as : List LV} (h : gAr ((2, 5, 32, 27) :: l) as) : ∃ q bs, as = .inr (.inr q) :: bs ∧ (q = 5 ∨ q = 32) ∧ gAr l bs := by
  cases as with
  | nil => exact absurd h id
  | cons v vs =>
    obtain ⟨h1, h2⟩ := h
    rcases v with x | x | x
    · exact absurd h1.1 (fun q => by cases q)
    · exact absurd h1.1 (fun q => by cases q)
    · have a : 5 ≤ x := h1.2.1
      have b : x ≤ 32 := h1.2.2.1
      have c : (27 : Int) ∣ (x - 5) := h1.2.2.2
      exact ⟨x, vs, rfl, by omega, h2⟩
theorem rJ {h : LH} (hr : RNG h) {a i : Int} (hv : valid a i) (hk : lkd a i = 1) (hh : (hav a i).1 = 1) : i64 (rd h a i) := by
  have g := hr a i hv
  obtain ⟨x, x1, x2, x3⟩ := gV_l g hh
  have e : hval h a i = .inr (.inl (rd h a i)) := by
    unfold hval
    rw [hk]
    rfl
  rw [e] at x1
  cases x1
  exact x2
theorem rQf {h : LH} (hr : RNG h) : rd h 1 ((1 : Nat) : Int) = 5 ∨ rd h 1 ((1 : Nat) : Int) = 32 := by
  have g := hr 1 1 (vB_ok (by decide +kernel))
  have e : hval h 1 1 = .inr (.inr (rd h 1 1)) := by
    unfold hval
    rw [show lkd 1 1 = 2 by decide +kernel]
    rfl
  rw [e, show hav 1 1 = (2, 5, 32, 27) by decide +kernel] at g
  have a : 5 ≤ rd h 1 1 := g.2.1
  have b : rd h 1 1 ≤ 32 := g.2.2.1
  have c : (27 : Int) ∣ (rd h 1 1 - 5) := g.2.2.2
  show rd h 1 1 = 5 ∨ rd h 1 1 = 32
  omega
end US
end
section
/-! LM, part 95: feed: both lay the same signs -/
theorem zand_255 {x : Int} (h : i32 x) : zand x 255 = x % 256 := by
  have h1 := x_of h
  have h2 : (Int32.ofInt x).toBitVec.toInt = x := h1
  have h4 := (Int32.ofInt x).toBitVec.isLt
  rw [BitVec.toInt_eq_toNat_cond] at h2
  have h3 : (Int32.ofInt x &&& Int32.ofInt 255).toBitVec.toNat = (Int32.ofInt x).toBitVec.toNat % 256 := by
    rw [Int32.toBitVec_and, BitVec.toNat_and]
    rw [show (Int32.ofInt 255).toBitVec.toNat = 2 ^ 8 - 1 by decide +kernel, Nat.and_two_pow_sub_one_eq_mod]
  unfold zand
  rw [small h3 (by omega)]
  unfold i32 at h
  split at h2 <;> omega
theorem l64 (a : Int) (h : i64 a) : (a = ((Int64.ofInt a).toBitVec.toNat : Int) ∨ a = ((Int64.ofInt a).toBitVec.toNat : Int) - 18446744073709551616) ∧ (Int64.ofInt a).toBitVec.toNat < 18446744073709551616 := by
  have h1 : (Int64.ofInt a).toBitVec.toInt = a := y_of h
  have h4 := (Int64.ofInt a).toBitVec.isLt
  rw [BitVec.toInt_eq_toNat_cond] at h1
  split at h1 <;> omega
theorem lsh_0 {a : Int} (h : i64 a) : lshr_ a 0 = a / 1 := by
  unfold lshr_
  have h2 : (Int64.ofInt a >>> ((Int32.ofInt 0).toInt64 &&& 63)).toInt = (Int64.ofInt a).toInt >>> (((Int32.ofInt 0).toInt64 &&& 63).toBitVec.smod 64).toNat := by
    show ((Int64.ofInt a).toBitVec.sshiftRight (((Int32.ofInt 0).toInt64 &&& 63).toBitVec.smod 64).toNat).toInt = _
    rw [BitVec.toInt_sshiftRight]
    rfl
  rw [h2, y_of h, Int.shiftRight_eq_div_pow, show (((Int32.ofInt 0).toInt64 &&& 63).toBitVec.smod 64).toNat = 0 by decide +kernel]
  rfl
theorem ush_0 {a : Int} : ∃ y : Int, lushr_ a 0 = y ∧ (y = (((Int64.ofInt a).toBitVec.toNat / 1 : Nat) : Int) ∨ y = (((Int64.ofInt a).toBitVec.toNat / 1 : Nat) : Int) - 18446744073709551616) := by
  refine ⟨_, rfl, ?_⟩
  unfold lushr_
  have h2 : (((Int64.ofInt a).toUInt64 >>> ((Int32.ofInt 0).toInt64.toUInt64 &&& Int64.toUInt64 63)).toInt64).toBitVec.toNat = (Int64.ofInt a).toBitVec.toNat / 1 := by
    show ((Int64.ofInt a).toBitVec >>> (((Int32.ofInt 0).toInt64.toUInt64 &&& Int64.toUInt64 63).toBitVec % 64)).toNat = _
    rw [show (((Int32.ofInt 0).toInt64.toUInt64 &&& Int64.toUInt64 63).toBitVec % 64) = 0#64 by decide +kernel]
    show ((Int64.ofInt a).toBitVec.toNat >>> 0) = _
    rw [Nat.shiftRight_eq_div_pow]
  show (((Int64.ofInt a).toUInt64 >>> ((Int32.ofInt 0).toInt64.toUInt64 &&& Int64.toUInt64 63)).toInt64).toBitVec.toInt = _ ∨ (((Int64.ofInt a).toUInt64 >>> ((Int32.ofInt 0).toInt64.toUInt64 &&& Int64.toUInt64 63)).toInt64).toBitVec.toInt = _
  rw [BitVec.toInt_eq_toNat_cond, h2]
  split
  · exact Or.inl rfl
  · exact Or.inr rfl
theorem byt_0 {a : Int} (h : i64 a) : zand (w32 (lshr_ a 0)) 255 = zand (w32 (lushr_ a 0)) 255 := by
  obtain ⟨y, y1, y2⟩ := ush_0 (a := a)
  obtain ⟨l1, l2⟩ := l64 a h
  rw [zand_255 (w32_in _), zand_255 (w32_in _), lsh_0 h, y1]
  generalize (Int64.ofInt a).toBitVec.toNat = n at *
  unfold w32
  omega
theorem lsh_8 {a : Int} (h : i64 a) : lshr_ a 8 = a / 256 := by
  unfold lshr_
  have h2 : (Int64.ofInt a >>> ((Int32.ofInt 8).toInt64 &&& 63)).toInt = (Int64.ofInt a).toInt >>> (((Int32.ofInt 8).toInt64 &&& 63).toBitVec.smod 64).toNat := by
    show ((Int64.ofInt a).toBitVec.sshiftRight (((Int32.ofInt 8).toInt64 &&& 63).toBitVec.smod 64).toNat).toInt = _
    rw [BitVec.toInt_sshiftRight]
    rfl
  rw [h2, y_of h, Int.shiftRight_eq_div_pow, show (((Int32.ofInt 8).toInt64 &&& 63).toBitVec.smod 64).toNat = 8 by decide +kernel]
  rfl
theorem ush_8 {a : Int} : ∃ y : Int, lushr_ a 8 = y ∧ (y = (((Int64.ofInt a).toBitVec.toNat / 256 : Nat) : Int) ∨ y = (((Int64.ofInt a).toBitVec.toNat / 256 : Nat) : Int) - 18446744073709551616) := by
  refine ⟨_, rfl, ?_⟩
  unfold lushr_
  have h2 : (((Int64.ofInt a).toUInt64 >>> ((Int32.ofInt 8).toInt64.toUInt64 &&& Int64.toUInt64 63)).toInt64).toBitVec.toNat = (Int64.ofInt a).toBitVec.toNat / 256 := by
    show ((Int64.ofInt a).toBitVec >>> (((Int32.ofInt 8).toInt64.toUInt64 &&& Int64.toUInt64 63).toBitVec % 64)).toNat = _
    rw [show (((Int32.ofInt 8).toInt64.toUInt64 &&& Int64.toUInt64 63).toBitVec % 64) = 8#64 by decide +kernel]
    show ((Int64.ofInt a).toBitVec.toNat >>> 8) = _
    rw [Nat.shiftRight_eq_div_pow]
  show (((Int64.ofInt a).toUInt64 >>> ((Int32.ofInt 8).toInt64.toUInt64 &&& Int64.toUInt64 63)).toInt64).toBitVec.toInt = _ ∨ (((Int64.ofInt a).toUInt64 >>> ((Int32.ofInt 8).toInt64.toUInt64 &&& Int64.toUInt64 63)).toInt64).toBitVec.toInt = _
  rw [BitVec.toInt_eq_toNat_cond, h2]
  split
  · exact Or.inl rfl
  · exact Or.inr rfl
theorem byt_8 {a : Int} (h : i64 a) : zand (w32 (lshr_ a 8)) 255 = zand (w32 (lushr_ a 8)) 255 := by
  obtain ⟨y, y1, y2⟩ := ush_8 (a := a)
  obtain ⟨l1, l2⟩ := l64 a h
  rw [zand_255 (w32_in _), zand_255 (w32_in _), lsh_8 h, y1]
  generalize (Int64.ofInt a).toBitVec.toNat = n at *
  unfold w32
  omega
theorem lsh_16 {a : Int} (h : i64 a) : lshr_ a 16 = a / 65536 := by
  unfold lshr_
  have h2 : (Int64.ofInt a >>> ((Int32.ofInt 16).toInt64 &&& 63)).toInt = (Int64.ofInt a).toInt >>> (((Int32.ofInt 16).toInt64 &&& 63).toBitVec.smod 64).toNat := by
    show ((Int64.ofInt a).toBitVec.sshiftRight (((Int32.ofInt 16).toInt64 &&& 63).toBitVec.smod 64).toNat).toInt = _
    rw [BitVec.toInt_sshiftRight]
    rfl
  rw [h2, y_of h, Int.shiftRight_eq_div_pow, show (((Int32.ofInt 16).toInt64 &&& 63).toBitVec.smod 64).toNat = 16 by decide +kernel]
  rfl
theorem ush_16 {a : Int} : ∃ y : Int, lushr_ a 16 = y ∧ (y = (((Int64.ofInt a).toBitVec.toNat / 65536 : Nat) : Int) ∨ y = (((Int64.ofInt a).toBitVec.toNat / 65536 : Nat) : Int) - 18446744073709551616) := by
  refine ⟨_, rfl, ?_⟩
  unfold lushr_
  have h2 : (((Int64.ofInt a).toUInt64 >>> ((Int32.ofInt 16).toInt64.toUInt64 &&& Int64.toUInt64 63)).toInt64).toBitVec.toNat = (Int64.ofInt a).toBitVec.toNat / 65536 := by
    show ((Int64.ofInt a).toBitVec >>> (((Int32.ofInt 16).toInt64.toUInt64 &&& Int64.toUInt64 63).toBitVec % 64)).toNat = _
    rw [show (((Int32.ofInt 16).toInt64.toUInt64 &&& Int64.toUInt64 63).toBitVec % 64) = 16#64 by decide +kernel]
    show ((Int64.ofInt a).toBitVec.toNat >>> 16) = _
    rw [Nat.shiftRight_eq_div_pow]
  show (((Int64.ofInt a).toUInt64 >>> ((Int32.ofInt 16).toInt64.toUInt64 &&& Int64.toUInt64 63)).toInt64).toBitVec.toInt = _ ∨ (((Int64.ofInt a).toUInt64 >>> ((Int32.ofInt 16).toInt64.toUInt64 &&& Int64.toUInt64 63)).toInt64).toBitVec.toInt = _
  rw [BitVec.toInt_eq_toNat_cond, h2]
  split
  · exact Or.inl rfl
  · exact Or.inr rfl
theorem byt_16 {a : Int} (h : i64 a) : zand (w32 (lshr_ a 16)) 255 = zand (w32 (lushr_ a 16)) 255 := by
  obtain ⟨y, y1, y2⟩ := ush_16 (a := a)
  obtain ⟨l1, l2⟩ := l64 a h
  rw [zand_255 (w32_in _), zand_255 (w32_in _), lsh_16 h, y1]
  generalize (Int64.ofInt a).toBitVec.toNat = n at *
  unfold w32
  omega
theorem lsh_24 {a : Int} (h : i64 a) : lshr_ a 24 = a / 16777216 := by
  unfold lshr_
  have h2 : (Int64.ofInt a >>> ((Int32.ofInt 24).toInt64 &&& 63)).toInt = (Int64.ofInt a).toInt >>> (((Int32.ofInt 24).toInt64 &&& 63).toBitVec.smod 64).toNat := by
    show ((Int64.ofInt a).toBitVec.sshiftRight (((Int32.ofInt 24).toInt64 &&& 63).toBitVec.smod 64).toNat).toInt = _
    rw [BitVec.toInt_sshiftRight]
    rfl
  rw [h2, y_of h, Int.shiftRight_eq_div_pow, show (((Int32.ofInt 24).toInt64 &&& 63).toBitVec.smod 64).toNat = 24 by decide +kernel]
  rfl
theorem ush_24 {a : Int} : ∃ y : Int, lushr_ a 24 = y ∧ (y = (((Int64.ofInt a).toBitVec.toNat / 16777216 : Nat) : Int) ∨ y = (((Int64.ofInt a).toBitVec.toNat / 16777216 : Nat) : Int) - 18446744073709551616) := by
  refine ⟨_, rfl, ?_⟩
  unfold lushr_
  have h2 : (((Int64.ofInt a).toUInt64 >>> ((Int32.ofInt 24).toInt64.toUInt64 &&& Int64.toUInt64 63)).toInt64).toBitVec.toNat = (Int64.ofInt a).toBitVec.toNat / 16777216 := by
    show ((Int64.ofInt a).toBitVec >>> (((Int32.ofInt 24).toInt64.toUInt64 &&& Int64.toUInt64 63).toBitVec % 64)).toNat = _
    rw [show (((Int32.ofInt 24).toInt64.toUInt64 &&& Int64.toUInt64 63).toBitVec % 64) = 24#64 by decide +kernel]
    show ((Int64.ofInt a).toBitVec.toNat >>> 24) = _
    rw [Nat.shiftRight_eq_div_pow]
  show (((Int64.ofInt a).toUInt64 >>> ((Int32.ofInt 24).toInt64.toUInt64 &&& Int64.toUInt64 63)).toInt64).toBitVec.toInt = _ ∨ (((Int64.ofInt a).toUInt64 >>> ((Int32.ofInt 24).toInt64.toUInt64 &&& Int64.toUInt64 63)).toInt64).toBitVec.toInt = _
  rw [BitVec.toInt_eq_toNat_cond, h2]
  split
  · exact Or.inl rfl
  · exact Or.inr rfl
theorem byt_24 {a : Int} (h : i64 a) : zand (w32 (lshr_ a 24)) 255 = zand (w32 (lushr_ a 24)) 255 := by
  obtain ⟨y, y1, y2⟩ := ush_24 (a := a)
  obtain ⟨l1, l2⟩ := l64 a h
  rw [zand_255 (w32_in _), zand_255 (w32_in _), lsh_24 h, y1]
  generalize (Int64.ofInt a).toBitVec.toNat = n at *
  unfold w32
  omega
theorem lsh_32 {a : Int} (h : i64 a) : lshr_ a 32 = a / 4294967296 := by
  unfold lshr_
  have h2 : (Int64.ofInt a >>> ((Int32.ofInt 32).toInt64 &&& 63)).toInt = (Int64.ofInt a).toInt >>> (((Int32.ofInt 32).toInt64 &&& 63).toBitVec.smod 64).toNat := by
    show ((Int64.ofInt a).toBitVec.sshiftRight (((Int32.ofInt 32).toInt64 &&& 63).toBitVec.smod 64).toNat).toInt = _
    rw [BitVec.toInt_sshiftRight]
    rfl
  rw [h2, y_of h, Int.shiftRight_eq_div_pow, show (((Int32.ofInt 32).toInt64 &&& 63).toBitVec.smod 64).toNat = 32 by decide +kernel]
  rfl
theorem ush_32 {a : Int} : ∃ y : Int, lushr_ a 32 = y ∧ (y = (((Int64.ofInt a).toBitVec.toNat / 4294967296 : Nat) : Int) ∨ y = (((Int64.ofInt a).toBitVec.toNat / 4294967296 : Nat) : Int) - 18446744073709551616) := by
  refine ⟨_, rfl, ?_⟩
  unfold lushr_
  have h2 : (((Int64.ofInt a).toUInt64 >>> ((Int32.ofInt 32).toInt64.toUInt64 &&& Int64.toUInt64 63)).toInt64).toBitVec.toNat = (Int64.ofInt a).toBitVec.toNat / 4294967296 := by
    show ((Int64.ofInt a).toBitVec >>> (((Int32.ofInt 32).toInt64.toUInt64 &&& Int64.toUInt64 63).toBitVec % 64)).toNat = _
    rw [show (((Int32.ofInt 32).toInt64.toUInt64 &&& Int64.toUInt64 63).toBitVec % 64) = 32#64 by decide +kernel]
    show ((Int64.ofInt a).toBitVec.toNat >>> 32) = _
    rw [Nat.shiftRight_eq_div_pow]
  show (((Int64.ofInt a).toUInt64 >>> ((Int32.ofInt 32).toInt64.toUInt64 &&& Int64.toUInt64 63)).toInt64).toBitVec.toInt = _ ∨ (((Int64.ofInt a).toUInt64 >>> ((Int32.ofInt 32).toInt64.toUInt64 &&& Int64.toUInt64 63)).toInt64).toBitVec.toInt = _
  rw [BitVec.toInt_eq_toNat_cond, h2]
  split
  · exact Or.inl rfl
  · exact Or.inr rfl
theorem byt_32 {a : Int} (h : i64 a) : zand (w32 (lshr_ a 32)) 255 = zand (w32 (lushr_ a 32)) 255 := by
  obtain ⟨y, y1, y2⟩ := ush_32 (a := a)
  obtain ⟨l1, l2⟩ := l64 a h
  rw [zand_255 (w32_in _), zand_255 (w32_in _), lsh_32 h, y1]
  generalize (Int64.ofInt a).toBitVec.toNat = n at *
  unfold w32
  omega
theorem lsh_40 {a : Int} (h : i64 a) : lshr_ a 40 = a / 1099511627776 := by
  unfold lshr_
  have h2 : (Int64.ofInt a >>> ((Int32.ofInt 40).toInt64 &&& 63)).toInt = (Int64.ofInt a).toInt >>> (((Int32.ofInt 40).toInt64 &&& 63).toBitVec.smod 64).toNat := by
    show ((Int64.ofInt a).toBitVec.sshiftRight (((Int32.ofInt 40).toInt64 &&& 63).toBitVec.smod 64).toNat).toInt = _
    rw [BitVec.toInt_sshiftRight]
    rfl
  rw [h2, y_of h, Int.shiftRight_eq_div_pow, show (((Int32.ofInt 40).toInt64 &&& 63).toBitVec.smod 64).toNat = 40 by decide +kernel]
  rfl
theorem ush_40 {a : Int} : ∃ y : Int, lushr_ a 40 = y ∧ (y = (((Int64.ofInt a).toBitVec.toNat / 1099511627776 : Nat) : Int) ∨ y = (((Int64.ofInt a).toBitVec.toNat / 1099511627776 : Nat) : Int) - 18446744073709551616) := by
  refine ⟨_, rfl, ?_⟩
  unfold lushr_
  have h2 : (((Int64.ofInt a).toUInt64 >>> ((Int32.ofInt 40).toInt64.toUInt64 &&& Int64.toUInt64 63)).toInt64).toBitVec.toNat = (Int64.ofInt a).toBitVec.toNat / 1099511627776 := by
    show ((Int64.ofInt a).toBitVec >>> (((Int32.ofInt 40).toInt64.toUInt64 &&& Int64.toUInt64 63).toBitVec % 64)).toNat = _
    rw [show (((Int32.ofInt 40).toInt64.toUInt64 &&& Int64.toUInt64 63).toBitVec % 64) = 40#64 by decide +kernel]
    show ((Int64.ofInt a).toBitVec.toNat >>> 40) = _
    rw [Nat.shiftRight_eq_div_pow]
  show (((Int64.ofInt a).toUInt64 >>> ((Int32.ofInt 40).toInt64.toUInt64 &&& Int64.toUInt64 63)).toInt64).toBitVec.toInt = _ ∨ (((Int64.ofInt a).toUInt64 >>> ((Int32.ofInt 40).toInt64.toUInt64 &&& Int64.toUInt64 63)).toInt64).toBitVec.toInt = _
  rw [BitVec.toInt_eq_toNat_cond, h2]
  split
  · exact Or.inl rfl
  · exact Or.inr rfl
theorem byt_40 {a : Int} (h : i64 a) : zand (w32 (lshr_ a 40)) 255 = zand (w32 (lushr_ a 40)) 255 := by
  obtain ⟨y, y1, y2⟩ := ush_40 (a := a)
  obtain ⟨l1, l2⟩ := l64 a h
  rw [zand_255 (w32_in _), zand_255 (w32_in _), lsh_40 h, y1]
  generalize (Int64.ofInt a).toBitVec.toNat = n at *
  unfold w32
  omega
theorem lsh_48 {a : Int} (h : i64 a) : lshr_ a 48 = a / 281474976710656 := by
  unfold lshr_
  have h2 : (Int64.ofInt a >>> ((Int32.ofInt 48).toInt64 &&& 63)).toInt = (Int64.ofInt a).toInt >>> (((Int32.ofInt 48).toInt64 &&& 63).toBitVec.smod 64).toNat := by
    show ((Int64.ofInt a).toBitVec.sshiftRight (((Int32.ofInt 48).toInt64 &&& 63).toBitVec.smod 64).toNat).toInt = _
    rw [BitVec.toInt_sshiftRight]
    rfl
  rw [h2, y_of h, Int.shiftRight_eq_div_pow, show (((Int32.ofInt 48).toInt64 &&& 63).toBitVec.smod 64).toNat = 48 by decide +kernel]
  rfl
theorem ush_48 {a : Int} : ∃ y : Int, lushr_ a 48 = y ∧ (y = (((Int64.ofInt a).toBitVec.toNat / 281474976710656 : Nat) : Int) ∨ y = (((Int64.ofInt a).toBitVec.toNat / 281474976710656 : Nat) : Int) - 18446744073709551616) := by
  refine ⟨_, rfl, ?_⟩
  unfold lushr_
  have h2 : (((Int64.ofInt a).toUInt64 >>> ((Int32.ofInt 48).toInt64.toUInt64 &&& Int64.toUInt64 63)).toInt64).toBitVec.toNat = (Int64.ofInt a).toBitVec.toNat / 281474976710656 := by
    show ((Int64.ofInt a).toBitVec >>> (((Int32.ofInt 48).toInt64.toUInt64 &&& Int64.toUInt64 63).toBitVec % 64)).toNat = _
    rw [show (((Int32.ofInt 48).toInt64.toUInt64 &&& Int64.toUInt64 63).toBitVec % 64) = 48#64 by decide +kernel]
    show ((Int64.ofInt a).toBitVec.toNat >>> 48) = _
    rw [Nat.shiftRight_eq_div_pow]
  show (((Int64.ofInt a).toUInt64 >>> ((Int32.ofInt 48).toInt64.toUInt64 &&& Int64.toUInt64 63)).toInt64).toBitVec.toInt = _ ∨ (((Int64.ofInt a).toUInt64 >>> ((Int32.ofInt 48).toInt64.toUInt64 &&& Int64.toUInt64 63)).toInt64).toBitVec.toInt = _
  rw [BitVec.toInt_eq_toNat_cond, h2]
  split
  · exact Or.inl rfl
  · exact Or.inr rfl
theorem byt_48 {a : Int} (h : i64 a) : zand (w32 (lshr_ a 48)) 255 = zand (w32 (lushr_ a 48)) 255 := by
  obtain ⟨y, y1, y2⟩ := ush_48 (a := a)
  obtain ⟨l1, l2⟩ := l64 a h
  rw [zand_255 (w32_in _), zand_255 (w32_in _), lsh_48 h, y1]
  generalize (Int64.ofInt a).toBitVec.toNat = n at *
  unfold w32
  omega
theorem lsh_56 {a : Int} (h : i64 a) : lshr_ a 56 = a / 72057594037927936 := by
  unfold lshr_
  have h2 : (Int64.ofInt a >>> ((Int32.ofInt 56).toInt64 &&& 63)).toInt = (Int64.ofInt a).toInt >>> (((Int32.ofInt 56).toInt64 &&& 63).toBitVec.smod 64).toNat := by
    show ((Int64.ofInt a).toBitVec.sshiftRight (((Int32.ofInt 56).toInt64 &&& 63).toBitVec.smod 64).toNat).toInt = _
    rw [BitVec.toInt_sshiftRight]
    rfl
  rw [h2, y_of h, Int.shiftRight_eq_div_pow, show (((Int32.ofInt 56).toInt64 &&& 63).toBitVec.smod 64).toNat = 56 by decide +kernel]
  rfl
theorem ush_56 {a : Int} : ∃ y : Int, lushr_ a 56 = y ∧ (y = (((Int64.ofInt a).toBitVec.toNat / 72057594037927936 : Nat) : Int) ∨ y = (((Int64.ofInt a).toBitVec.toNat / 72057594037927936 : Nat) : Int) - 18446744073709551616) := by
  refine ⟨_, rfl, ?_⟩
  unfold lushr_
  have h2 : (((Int64.ofInt a).toUInt64 >>> ((Int32.ofInt 56).toInt64.toUInt64 &&& Int64.toUInt64 63)).toInt64).toBitVec.toNat = (Int64.ofInt a).toBitVec.toNat / 72057594037927936 := by
    show ((Int64.ofInt a).toBitVec >>> (((Int32.ofInt 56).toInt64.toUInt64 &&& Int64.toUInt64 63).toBitVec % 64)).toNat = _
    rw [show (((Int32.ofInt 56).toInt64.toUInt64 &&& Int64.toUInt64 63).toBitVec % 64) = 56#64 by decide +kernel]
    show ((Int64.ofInt a).toBitVec.toNat >>> 56) = _
    rw [Nat.shiftRight_eq_div_pow]
  show (((Int64.ofInt a).toUInt64 >>> ((Int32.ofInt 56).toInt64.toUInt64 &&& Int64.toUInt64 63)).toInt64).toBitVec.toInt = _ ∨ (((Int64.ofInt a).toUInt64 >>> ((Int32.ofInt 56).toInt64.toUInt64 &&& Int64.toUInt64 63)).toInt64).toBitVec.toInt = _
  rw [BitVec.toInt_eq_toNat_cond, h2]
  split
  · exact Or.inl rfl
  · exact Or.inr rfl
theorem byt_56 {a : Int} (h : i64 a) : zand (w32 (lshr_ a 56)) 255 = zand (w32 (lushr_ a 56)) 255 := by
  obtain ⟨y, y1, y2⟩ := ush_56 (a := a)
  obtain ⟨l1, l2⟩ := l64 a h
  rw [zand_255 (w32_in _), zand_255 (w32_in _), lsh_56 h, y1]
  generalize (Int64.ofInt a).toBitVec.toNat = n at *
  unfold w32
  omega
theorem byt {a : Int} (h : i64 a) {j : Nat} (hj : j < 8) : zand (w32 (lshr_ a (8 * (j : Int)))) 255 = zand (w32 (lushr_ a (8 * (j : Int)))) 255 := by
  match j, hj with
  | 0, _ => exact byt_0 h
  | 1, _ => exact byt_8 h
  | 2, _ => exact byt_16 h
  | 3, _ => exact byt_24 h
  | 4, _ => exact byt_32 h
  | 5, _ => exact byt_40 h
  | 6, _ => exact byt_48 h
  | 7, _ => exact byt_56 h
  | j + 8, q => omega
/-- one sign more, if it counts -/
def sgn (c n : Int) : Int := if (c = 10 ∨ (32 ≤ c ∧ c ≤ 126)) ∧ n < 1000 then n + 1 else n
def fed : Nat → Int → Int → Int
  | 0, _, n => n
  | j + 1, v, n => fed j v (sgn (zand (w32 (lushr_ v (8 * (j : Int)))) 255) n)
section FE
variable {xs : Nat → Int} {xl e : Nat} {h : LH} {Q : Option LV → LH → Prop}
theorem L_put {v : Int} : ∀ (j : Nat) (o4 o5 : Option LV) (h : LH), j ≤ 8 → INV h → (∀ g, INV g → rd g 2 0 = fed j v (rd h 2 0) → (∀ a i, ¬ (a = 2 ∧ i = 0) → a ≠ 3 → rd g a i = rd h a i) → Q none g) → Rn xs xl e mm_Reader_putBytes 3 [some (.inr (.inr 2)), some (.inr (.inl v)), none, some (.inl (8 * (j : Int) - 8)), o4, o5] [] h Q := by
  intro j
  induction j with
  | zero =>
    intro o4 o5 h hj hI k
    exact B_Reader_putBytes_3 (RF_of hI.1) (by omega) ⟨fun _ => k h hI rfl (fun _ _ _ _ => rfl), fun z => absurd z (by omega)⟩
  | succ j ih =>
    intro o4 o5 h hj hI k
    rw [show 8 * ((j + 1 : Nat) : Int) - 8 = 8 * (j : Int) by omega]
    have n0 := rG_2_0 hI.1
    have cin := zand_r (a := w32 (lushr_ v (8 * (j : Int)))) (b := 255) (by decide) (by unfold i32; omega)
    have fe : fed (j + 1) v (rd h 2 0) = fed j v (sgn (zand (w32 (lushr_ v (8 * (j : Int)))) 255) (rd h 2 0)) := rfl
    rw [fe] at k
    have st : ∀ o4 o5 : Option LV, ¬ ((zand (w32 (lushr_ v (8 * (j : Int)))) 255 = 10 ∨ (32 ≤ zand (w32 (lushr_ v (8 * (j : Int)))) 255 ∧ zand (w32 (lushr_ v (8 * (j : Int)))) 255 ≤ 126)) ∧ rd h 2 0 < 1000) → Rn xs xl e mm_Reader_putBytes 82 [some (.inr (.inr 2)), some (.inr (.inl v)), none, some (.inl (8 * (j : Int))), o4, o5] [] h Q := by
      intro o4 o5 hn
      rw [show sgn (zand (w32 (lushr_ v (8 * (j : Int)))) 255) (rd h 2 0) = rd h 2 0 by unfold sgn; rw [if_neg hn]] at k
      exact B_Reader_putBytes_82 (RF_of hI.1) (by omega) (ih _ _ h (by omega) hI k)
    have up : ∀ (o4 o5 : Option LV) (z : Int), -128 ≤ z ∧ z ≤ 127 → ((zand (w32 (lushr_ v (8 * (j : Int)))) 255 = 10 ∨ (32 ≤ zand (w32 (lushr_ v (8 * (j : Int)))) 255 ∧ zand (w32 (lushr_ v (8 * (j : Int)))) 255 ≤ 126)) ∧ rd h 2 0 < 1000) → Rn xs xl e mm_Reader_putBytes 82 [some (.inr (.inr 2)), some (.inr (.inl v)), none, some (.inl (8 * (j : Int))), o4, o5] [] (wr (wr h 3 (rd h 2 0) z) 2 0 ((rd h 2 0) + 1)) Q := by
      intro o4 o5 z hz hp
      rw [show sgn (zand (w32 (lushr_ v (8 * (j : Int)))) 255) (rd h 2 0) = rd h 2 0 + 1 by unfold sgn; rw [if_pos hp]] at k
      have i2 := wG_2_0 (wB_3 hI (i := rd h 2 0) (v := z) hz.1 hz.2) (v := rd h 2 0 + 1) (by omega) (by omega)
      refine B_Reader_putBytes_82 (RF_of i2.1) (by omega) (ih _ _ _ (by omega) i2 (fun g gI ge gf => k g gI (by rw [ge, rdw_eq]) (fun a i n1 n2 => ?_)))
      rw [gf a i n1 n2, rd_wr, if_neg (fun q => n1 ⟨q.1.symm, q.2.symm⟩), rdw_ne (fun q => n2 q.symm)]
    generalize hc : zand (w32 (lushr_ v (8 * (j : Int)))) 255 = c at *
    have bb := i2b_in c
    refine B_Reader_putBytes_3 (RF_of hI.1) (by omega) ⟨fun z => absurd z (by omega), fun _ => ?_⟩
    rw [hc]
    exact ⟨fun z => ⟨fun z1 => st _ _ (by omega), fun z1 => ⟨by omega, by omega, up _ _ _ bb (by omega)⟩⟩, fun z => ⟨fun z1 => st _ _ (by omega), fun z1 => ⟨fun z2 => st _ _ (by omega), fun z2 => ⟨fun z3 => st _ _ (by omega), fun z3 => ⟨by omega, by omega, up _ _ _ bb (by omega)⟩⟩⟩⟩⟩
theorem L_lay {v : Int} (hv : i64 v) : ∀ (j : Nat) (o4 : Option LV) (h : LH), j ≤ 8 → INV h → (∀ g, INV g → rd g 182 2 = fed j v (rd h 182 2) → (∀ a i, ¬ (a = 182 ∧ i = 2) → a ≠ 183 → rd g a i = rd h a i) → Q none g) → Rn xs xl e mm_lay 3 [some (.inr (.inr 182)), some (.inr (.inl v)), none, some (.inl (8 * (j : Int) - 8)), o4] [] h Q := by
  intro j
  induction j with
  | zero =>
    intro o4 h hj hI k
    exact B_lay_3 (RF_of hI.1) (by omega) ⟨fun _ => k h hI rfl (fun _ _ _ _ => rfl), fun z => absurd z (by omega)⟩
  | succ j ih =>
    intro o4 h hj hI k
    rw [show 8 * ((j + 1 : Nat) : Int) - 8 = 8 * (j : Int) by omega]
    have n0 := rF_taped hI.1
    have cin := zand_r (a := w32 (lushr_ v (8 * (j : Int)))) (b := 255) (by decide) (by unfold i32; omega)
    have fe : fed (j + 1) v (rd h 182 2) = fed j v (sgn (zand (w32 (lushr_ v (8 * (j : Int)))) 255) (rd h 182 2)) := rfl
    rw [fe, ← byt hv (by omega)] at k
    rw [← byt hv (by omega)] at cin
    have st : ∀ o4 : Option LV, ¬ ((zand (w32 (lshr_ v (8 * (j : Int)))) 255 = 10 ∨ (32 ≤ zand (w32 (lshr_ v (8 * (j : Int)))) 255 ∧ zand (w32 (lshr_ v (8 * (j : Int)))) 255 ≤ 126)) ∧ rd h 182 2 < 1000) → Rn xs xl e mm_lay 69 [some (.inr (.inr 182)), some (.inr (.inl v)), none, some (.inl (8 * (j : Int))), o4] [] h Q := by
      intro o4 hn
      rw [show sgn (zand (w32 (lshr_ v (8 * (j : Int)))) 255) (rd h 182 2) = rd h 182 2 by unfold sgn; rw [if_neg hn]] at k
      exact B_lay_69 (RF_of hI.1) (by omega) (ih _ h (by omega) hI k)
    have up : ∀ (o4 : Option LV) (z : Int), 0 ≤ z ∧ z ≤ 126 → ((zand (w32 (lshr_ v (8 * (j : Int)))) 255 = 10 ∨ (32 ≤ zand (w32 (lshr_ v (8 * (j : Int)))) 255 ∧ zand (w32 (lshr_ v (8 * (j : Int)))) 255 ≤ 126)) ∧ rd h 182 2 < 1000) → Rn xs xl e mm_lay 69 [some (.inr (.inr 182)), some (.inr (.inl v)), none, some (.inl (8 * (j : Int))), o4] [] (wr (wr h 183 (rd h 182 2) z) 182 2 ((rd h 182 2) + 1)) Q := by
      intro o4 z hz hp
      rw [show sgn (zand (w32 (lshr_ v (8 * (j : Int)))) 255) (rd h 182 2) = rd h 182 2 + 1 by unfold sgn; rw [if_pos hp]] at k
      have i2 := wF_taped (wA_tape hI (i := rd h 182 2) (v := z) (by omega) hz.1 hz.2) (v := rd h 182 2 + 1) (by omega) (by omega)
      refine B_lay_69 (RF_of i2.1) (by omega) (ih _ _ (by omega) i2 (fun g gI ge gf => k g gI (by rw [ge, rdw_eq]) (fun a i n1 n2 => ?_)))
      rw [gf a i n1 n2, rd_wr, if_neg (fun q => n1 ⟨q.1.symm, q.2.symm⟩), rdw_ne (fun q => n2 q.symm)]
    generalize hc : zand (w32 (lshr_ v (8 * (j : Int)))) 255 = c at *
    refine B_lay_3 (RF_of hI.1) (by omega) ⟨fun z => absurd z (by omega), fun _ => ?_⟩
    rw [hc]
    exact ⟨fun z => ⟨fun z1 => st _ (by omega), fun z1 => ⟨by omega, by omega, up _ _ (by omega) (by omega)⟩⟩, fun z => ⟨fun z1 => st _ (by omega), fun z1 => ⟨fun z2 => st _ (by omega), fun z2 => ⟨fun z3 => st _ (by omega), fun z3 => ⟨by omega, by omega, up _ _ (by omega) (by omega)⟩⟩⟩⟩⟩
theorem D_put {v : Int} (hI : INV h) (k : ∀ g, INV g → rd g 2 0 = fed 8 v (rd h 2 0) → (∀ a i, ¬ (a = 2 ∧ i = 0) → a ≠ 3 → rd g a i = rd h a i) → Q none g) : Rn xs xl e mm_Reader_putBytes 0 [some (.inr (.inr 2)), some (.inr (.inl v)), none, none, none, none] [] h Q :=
  B_Reader_putBytes_0 (RF_of hI.1) (L_put 8 none none h (Nat.le_refl 8) hI k)
theorem D_lay {v : Int} (hv : i64 v) (hI : INV h) (k : ∀ g, INV g → rd g 182 2 = fed 8 v (rd h 182 2) → (∀ a i, ¬ (a = 182 ∧ i = 2) → a ≠ 183 → rd g a i = rd h a i) → Q none g) : Rn xs xl e mm_lay 0 [some (.inr (.inr 182)), some (.inr (.inl v)), none, none, none] [] h Q :=
  B_lay_0 (RF_of hI.1) (L_lay hv 8 none h (Nat.le_refl 8) hI k)
def fed3 (a b c n : Int) : Int := fed 8 c (fed 8 b (fed 8 a n))
theorem E_feed {a b c : Int} (he : 1 ≤ e) (hI : INV h) (k : ∀ g, INV g → rd g 2 0 = fed3 a b c (rd h 2 0) → (∀ x i, ¬ (x = 2 ∧ i = 0) → x ≠ 3 → rd g x i = rd h x i) → Q (some (.inl (fed3 a b c (rd h 2 0)))) g) : Rn xs xl e mm_OneSided_feed 0 [some (.inr (.inr 1)), some (.inr (.inl a)), none, some (.inr (.inl b)), none, some (.inr (.inl c)), none] [] h Q := by
  refine B_OneSided_feed_0 (RF_of hI.1) ⟨0, by omega, D_put hI (fun h1 i1 e1 f1 => ?_)⟩
  refine B_OneSided_feed_8 (RF_of i1.1) ⟨0, by omega, D_put i1 (fun h2 i2 e2 f2 => ?_)⟩
  refine B_OneSided_feed_16 (RF_of i2.1) ⟨0, by omega, D_put i2 (fun h3 i3 e3 f3 => ?_)⟩
  have ee : rd h3 2 0 = fed3 a b c (rd h 2 0) := by
    rw [e3, e2, e1]
    rfl
  refine B_OneSided_feed_25 (RF_of i3.1) ?_
  rw [ee]
  exact k h3 i3 ee (fun x i n1 n2 => (f3 x i n1 n2).trans ((f2 x i n1 n2).trans (f1 x i n1 n2)))
theorem D_feed {a b c : Int} (ha : i64 a) (hb : i64 b) (hc : i64 c) (he : 1 ≤ e) (hI : INV h) (k : ∀ g, INV g → rd g 182 2 = fed3 a b c (rd h 182 2) → (∀ x i, ¬ (x = 182 ∧ (i = 0 ∨ i = 2)) → x ≠ 183 → rd g x i = rd h x i) → Q (some (.inl (fed3 a b c (rd h 182 2)))) g) : Rn xs xl e mm_feed 0 [some (.inr (.inr 182)), some (.inr (.inl a)), none, some (.inr (.inl b)), none, some (.inr (.inl c)), none] [] h Q := by
  have i0 := wF_thrown hI (v := 0) (by omega) (by omega)
  refine B_feed_0 (RF_of hI.1) ⟨0, by omega, D_lay ha i0 (fun h1 i1 e1 f1 => ?_)⟩
  refine B_feed_10 (RF_of i1.1) ⟨0, by omega, D_lay hb i1 (fun h2 i2 e2 f2 => ?_)⟩
  refine B_feed_15 (RF_of i2.1) ⟨0, by omega, D_lay hc i2 (fun h3 i3 e3 f3 => ?_)⟩
  have ee : rd h3 182 2 = fed3 a b c (rd h 182 2) := by
    rw [e3, e2, e1, rdw_nei (by decide)]
    rfl
  refine B_feed_21 (RF_of i3.1) ?_
  rw [ee]
  refine k h3 i3 ee (fun x i n1 n2 => ?_)
  rw [f3 x i (by omega) n2, f2 x i (by omega) n2, f1 x i (by omega) n2, rd_wr, if_neg (by omega)]
end FE
end
section
/-! LM, part 98: the JDK's methods that the class calls beside its own: the text's length and signs, Math.floorMod -/
def TXT : String := "rooms door to open for holds price person at errand by let go hour plain turning hinge blank tenant soldier child cat not and or time sort cost room "
def SN_ : String := "java/lang/String"
def nLen : MethodName := ⟨"java/lang/String", "length", "()I"⟩
def nCod : MethodName := ⟨"java/lang/String", "coder", "()B"⟩
def nChr : MethodName := ⟨"java/lang/String", "charAt", "(I)C"⟩
def nLat : MethodName := ⟨"java/lang/String", "isLatin1", "()Z"⟩
def nLch : MethodName := ⟨"java/lang/StringLatin1", "charAt", "([BI)C"⟩
def nChk : MethodName := ⟨"java/lang/String", "checkIndex", "(II)V"⟩
def nPre : MethodName := ⟨"jdk/internal/util/Preconditions", "checkIndex", "(IILjava/util/function/BiFunction;)I"⟩
def nFlo : MethodName := ⟨"java/lang/Math", "floorMod", "(II)I"⟩
def jw (y : MethodName) (cd : ByteArray) (ml : Nat) (ret : Option FieldType) : List Cond := Cond.code y cd ml ret :: ZB
def jr (f L : Nat) : Room := { frames := f, cells := 0, slots := 0, locals := L }
/-- a pure answer: the heap is as it was -/
def jq (v : Option Value) : Array Value → State → Outcome → State → Prop := fun _ st oc t => oc = .returned v ∧ t.heap = st.heap
theorem k_len : inT 40 (Cond.code nLen prog_17_method_54_code 1 (some .int)) = true ∧ inT 39 (.selects "java/lang/String" nLen nLen) = true ∧ inT 38 (.instanceMethod nLen) = true := ⟨by decide +kernel, by decide +kernel, by decide +kernel⟩
theorem k_cod : inT 44 (Cond.code nCod prog_17_method_152_code 1 (some .byte)) = true ∧ inT 43 (.selects "java/lang/String" nCod nCod) = true ∧ inT 42 (.instanceMethod nCod) = true ∧ inT 41 (.methodLink "java/lang/String" 335 nCod) = true := ⟨by decide +kernel, by decide +kernel, by decide +kernel, by decide +kernel⟩
theorem k_chr : inT 50 (Cond.code nChr prog_17_method_56_code 2 (some .char)) = true ∧ inT 49 (.selects "java/lang/String" nChr nChr) = true ∧ inT 48 (.instanceMethod nChr) = true := ⟨by decide +kernel, by decide +kernel, by decide +kernel⟩
theorem k_lat : inT 54 (Cond.code nLat prog_17_method_154_code 1 (some .boolean)) = true ∧ inT 53 (.selects "java/lang/String" nLat nLat) = true ∧ inT 52 (.instanceMethod nLat) = true ∧ inT 51 (.methodLink "java/lang/String" 492 nLat) = true := ⟨by decide +kernel, by decide +kernel, by decide +kernel, by decide +kernel⟩
theorem k_lch : inT 57 (Cond.code nLch prog_18_method_2_code 2 (some .char)) = true ∧ inT 56 (.static nLch) = true ∧ inT 55 (.methodLink "java/lang/String" 495 nLch) = true ∧ inT 4 (.initialized "java/lang/StringLatin1") = true := ⟨by decide +kernel, by decide +kernel, by decide +kernel, by decide +kernel⟩
theorem k_chk : inT 60 (Cond.code nChk prog_17_method_155_code 2 none) = true ∧ inT 59 (.static nChk) = true ∧ inT 58 (.methodLink "java/lang/StringLatin1" 9 nChk) = true ∧ inT 3 (.initialized "java/lang/String") = true := ⟨by decide +kernel, by decide +kernel, by decide +kernel, by decide +kernel⟩
theorem k_pre : inT 65 (Cond.code nPre prog_22_method_11_code 3 (some .int)) = true ∧ inT 64 (.static nPre) = true ∧ inT 63 (.methodLink "java/lang/String" 1059 nPre) = true ∧ inT 5 (.initialized "jdk/internal/util/Preconditions") = true := ⟨by decide +kernel, by decide +kernel, by decide +kernel, by decide +kernel⟩
theorem k_flo : inT 821 (Cond.code nFlo prog_16_method_50_code 3 (some .int)) = true ∧ inT 820 (.static nFlo) = true ∧ inT 20 (.initialized "java/lang/Math") = true := ⟨by decide +kernel, by decide +kernel, by decide +kernel⟩
theorem k_fld : inT 45 (.fieldLink "java/lang/String" 38 "java/lang/String" "COMPACT_STRINGS" "Z") = true ∧ inT 61 (.fieldLink "java/lang/String" 1053 "jdk/internal/util/Preconditions" "SIOOBE_FORMATTER" "Ljava/util/function/BiFunction;") = true ∧ inT 1823 (.fieldLink "java/lang/String" 9 "java/lang/String" "value" "[B") = true ∧ inT 1824 (.fieldLink "java/lang/String" 15 "java/lang/String" "coder" "B") = true := ⟨by decide +kernel, by decide +kernel, by decide +kernel, by decide +kernel⟩
theorem jg {y : MethodName} {cd : ByteArray} {ml : Nat} {ret : Option FieldType} {p : Nat} (h : inT p (Cond.code y cd ml ret) = true) : GoodIn ZB (jw y cd ml ret) := good_ZB (fun w hw => (List.mem_cons.mp hw).elim (fun z => z ▸ inT_in h) id)
/-- the text in the heap, and two constants of the JDK's classes -/
def XT (B sA sV : Nat) (f0 : Value) (U : State) : Prop := vk_R "OneSided$Reader" 19 TXT sA U ∧ va_O "java/lang/String" sA (zA B) U U.heap ∧ va_OF "java/lang/String" "coder" "B" (.int 0) sA (zA B) U U.heap ∧ va_OF "java/lang/String" "value" "[B" (.ref sV) sA (zA B) U U.heap ∧ va_T .byte sV 149 (fun j => .int (Int32.ofInt (STRL.getD j 0))) (zA B) U U.heap ∧ va_Z "java/lang/String" "COMPACT_STRINGS" "Z" (.int 1) (zA B) U U.heap ∧ va_Z "jdk/internal/util/Preconditions" "SIOOBE_FORMATTER" "Ljava/util/function/BiFunction;" f0 (zA B) U U.heap ∧ (f0 = .null ∨ ∃ a, f0 = .ref a)
theorem XT_keep {B sA sV : Nat} {f0 : Value} : keepX B (XT B sA sV f0) := by
  intro s U h hv hz hk
  obtain ⟨x1, x2, x3, x4, x5, x6, x7, x8⟩ := h
  have al : s.vm.Alike U.vm := hv.elim (fun e => by rw [e]; exact Vm.Alike.refl _) (fun w => w.alike)
  exact ⟨hv.elim (fun e => vk_R.same e.symm x1) (fun w => vk_R.warm w x1), (va_O.moved al x2).kept hk, (va_OF.moved al x3).kept hk, (va_OF.moved al x4).kept hk, (va_T.moved al x5).kept hk, (va_Z.moved al x6).kept hk, (va_Z.moved al x7).kept hk, x8⟩
section JC
variable {p : Program} {l : Launch} {e : Env} {R : Room} {s : State} {m : MethodId} {args : Array Value} {below : List Frame} {meth : Method} {c : Code} {H : Heap} {locs : List Loc} {cells slots : Nat} {Q : State → Prop}
variable {cc : ByteArray} {pc : Nat} {sl : Array Slot} {B sA sV : Nat} {f0 : Value}
theorem XT_blind {av : List Value} : FrameBlind (va_Pc av (XT B sA sV f0)) := fun a U g mk h => ⟨h.1, XT_keep U (U.calling g mk a) h.2 (Or.inl rfl) (Nat.le_refl _) (fun _ _ _ => rfl)⟩
theorem XT_at {U : State} (hX : XT B sA sV f0 s) (hS : va_S (zA B) s.heap H locs) (hU : U.heap = H) (hW : s.WarmedH U.vm) : XT B sA sV f0 U := XT_keep s U hX (Or.inr hW) (by rw [hU]; exact hS.1) (fun q h1 h2 => by rw [hU]; exact hS.2.1 q h1 h2)
/-- behind a pure call -/
theorem j_call {st0 rest : List Value} {Qa : State → Outcome → State → Prop} (hr : va_Run p l e R s m args below meth c H locs cells slots 0 0 (F0 m pc sl st0) rest Qa (fun _ => False)) {rv : Option Value} (hQ : ∀ st v t, Qa st (.returned v) t → v = rv ∧ t.heap = st.heap)
    (kk : W p l e R s m args below meth c H locs cells slots Q (F0 m (pc + 3) sl (rv.toList ++ rest))) : W p l e R s m args below meth c H locs cells slots Q (F0 m pc sl st0) := by
  intro T hT X
  obtain ⟨v, st₀, t, T', L, h0, X', hL, e1, e2, hq, st⟩ := hr T hT X
  obtain ⟨rfl, hh⟩ := hQ _ _ _ hq
  obtain ⟨t2, a1, b1⟩ := kk T' (by rw [e1, hh, h0]) (Stand.forget X' (fun q h => (hL q h).elim))
  exact ⟨t2, st t2 a1, b1⟩
theorem jqQ {a : Array Value} {v : Option Value} : ∀ (st : State) (w : Option Value) (t : State), jq v a st (.returned w) t → w = v ∧ t.heap = st.heap := fun st w t h => ⟨Outcome.returned.inj h.1, h.2⟩
theorem d_p0 : decode prog_22_method_11_code 0 = .ok (.iload_n 0, 1) := by decide +kernel
theorem d_p1 : decode prog_22_method_11_code 1 = .ok (.ifCond .lt 8, 3) := by decide +kernel
theorem d_p4 : decode prog_22_method_11_code 4 = .ok (.iload_n 0, 1) := by decide +kernel
theorem d_p5 : decode prog_22_method_11_code 5 = .ok (.iload_n 1, 1) := by decide +kernel
theorem d_p6 : decode prog_22_method_11_code 6 = .ok (.if_icmp .lt 10, 3) := by decide +kernel
theorem d_p16 : decode prog_22_method_11_code 16 = .ok (.iload_n 0, 1) := by decide +kernel
theorem d_p17 : decode prog_22_method_11_code 17 = .ok (.ireturn, 1) := by decide +kernel
theorem c_preR {a : Nat} {i n : Int32} (h0 : ¬ i < 0) (h1 : i < n) : Met l nPre (jw nPre prog_22_method_11_code 3 (some .int)) (jr 0 0) (va_Pc [.int i, .int n, .ref a] (XT B sA sV f0)) (jq (some (.int i))) 0 0 (fun _ => False) := by
  refine Met.ofW (cc := prog_22_method_11_code) (maxL := 3) (ret := some .int) (by decide) rfl ?_
  intro p e s m args below meth c s₁ Bd hml hv
  obtain ⟨rfl, -⟩ := hv
  have hx := Bd.exec
  have hb := Bd.bytes
  have hr := Bd.returns
  have hlocks := Bd.notSynchronized
  have hl := lv_entry ([.int i, .int n, .ref a]) (n := 3) (Nat.le_of_ble_eq_true rfl)
  rw [lg_entry_eq]
  generalize (lg_sl ([.int i, .int n, .ref a]) ++ List.replicate (3 - (lg_sl ([.int i, .int n, .ref a])).length) Slot.unset).toArray = ls at hl ⊢
  refine lv_iload_n hx hb d_p0 rfl (lv_at hl 0 rfl) ?_
  refine lv_if_lt hx hb d_p1 (tgt := 9) rfl (fun z => absurd z h0) (fun _ => ?_)
  refine lv_iload_n hx hb d_p4 rfl (lv_at hl 0 rfl) ?_
  refine lv_iload_n hx hb d_p5 rfl (lv_at hl 1 rfl) ?_
  refine lv_icmp_lt hx hb d_p6 (tgt := 16) rfl (fun _ => ?_) (fun z => absurd h1 z)
  refine lv_iload_n hx hb d_p16 rfl (lv_at hl 0 rfl) ?_
  exact W.iret hx hb hr (fun t ht hW => ⟨rfl, ht⟩) (fun q h => by cases h) d_p17
theorem c_preN {i n : Int32} (h0 : ¬ i < 0) (h1 : i < n) : Met l nPre (jw nPre prog_22_method_11_code 3 (some .int)) (jr 0 0) (va_Pc [.int i, .int n, .null] (XT B sA sV f0)) (jq (some (.int i))) 0 0 (fun _ => False) := by
  refine Met.ofW (cc := prog_22_method_11_code) (maxL := 3) (ret := some .int) (by decide) rfl ?_
  intro p e s m args below meth c s₁ Bd hml hv
  obtain ⟨rfl, -⟩ := hv
  have hx := Bd.exec
  have hb := Bd.bytes
  have hr := Bd.returns
  have hlocks := Bd.notSynchronized
  have hl := lv_entry ([.int i, .int n, .null]) (n := 3) (Nat.le_of_ble_eq_true rfl)
  rw [lg_entry_eq]
  generalize (lg_sl ([.int i, .int n, .null]) ++ List.replicate (3 - (lg_sl ([.int i, .int n, .null])).length) Slot.unset).toArray = ls at hl ⊢
  refine lv_iload_n hx hb d_p0 rfl (lv_at hl 0 rfl) ?_
  refine lv_if_lt hx hb d_p1 (tgt := 9) rfl (fun z => absurd z h0) (fun _ => ?_)
  refine lv_iload_n hx hb d_p4 rfl (lv_at hl 0 rfl) ?_
  refine lv_iload_n hx hb d_p5 rfl (lv_at hl 1 rfl) ?_
  refine lv_icmp_lt hx hb d_p6 (tgt := 16) rfl (fun _ => ?_) (fun z => absurd h1 z)
  refine lv_iload_n hx hb d_p16 rfl (lv_at hl 0 rfl) ?_
  exact W.iret hx hb hr (fun t ht hW => ⟨rfl, ht⟩) (fun q h => by cases h) d_p17
theorem c_pre {i n : Int32} (h0 : ¬ i < 0) (h1 : i < n) (hf : f0 = .null ∨ ∃ a, f0 = .ref a) : Met l nPre (jw nPre prog_22_method_11_code 3 (some .int)) (jr 0 0) (va_Pc [.int i, .int n, f0] (XT B sA sV f0)) (jq (some (.int i))) 0 0 (fun _ => False) := by
  rcases hf with rfl | ⟨a, rfl⟩
  · exact c_preN h0 h1
  · exact c_preR h0 h1
theorem d_k0 : decode prog_17_method_155_code 0 = .ok (.iload_n 0, 1) := by decide +kernel
theorem d_k1 : decode prog_17_method_155_code 1 = .ok (.iload_n 1, 1) := by decide +kernel
theorem d_k2 : decode prog_17_method_155_code 2 = .ok (.getstatic 1053, 3) := by decide +kernel
theorem d_k5 : decode prog_17_method_155_code 5 = .ok (.invokestatic 1059, 3) := by decide +kernel
theorem d_k8 : decode prog_17_method_155_code 8 = .ok (.pop, 1) := by decide +kernel
theorem d_k9 : decode prog_17_method_155_code 9 = .ok (.return_, 1) := by decide +kernel
theorem c_chk {i n : Int32} (h0 : ¬ i < 0) (h1 : i < n) : Met l nChk (jw nChk prog_17_method_155_code 2 none) (jr 1 32) (va_Pc [.int i, .int n] (XT B sA sV f0)) (jq none) 0 0 (fun _ => False) := by
  refine Met.ofW (cc := prog_17_method_155_code) (maxL := 2) (ret := none) (by decide) rfl ?_
  intro p e s m args below meth c s₁ Bd hml hv
  obtain ⟨rfl, hX⟩ := hv
  have hx := Bd.exec
  have hb := Bd.bytes
  have hr := Bd.returns
  have hlocks := Bd.notSynchronized
  have hts0 := atoms_spec (ws := jw nChk prog_17_method_155_code 2 none) Bd.pre
  have hts : ∀ w ∈ ZB, w.before ([.int i, .int n] : List Value).toArray s = true := fun w hw => hts0 w (List.mem_cons_of_mem _ hw)
  have hown : s.vm.findClass "java/lang/String" = some m.cls := findClass_of_methodNamed Bd.named
  have hS : va_S (zA B) s.heap s.heap [] := va_S.rf
  have hl := lv_entry ([.int i, .int n]) (n := 2) (Nat.le_of_ble_eq_true rfl)
  rw [lg_entry_eq]
  generalize (lg_sl ([.int i, .int n]) ++ List.replicate (2 - (lg_sl ([.int i, .int n])).length) Slot.unset).toArray = ls at hl ⊢
  refine lv_iload_n hx hb d_k0 rfl (lv_at hl 0 rfl) ?_
  refine lv_iload_n hx hb d_k1 rfl (lv_at hl 1 rfl) ?_
  refine va_gets hx hb hX.2.2.2.2.2.2.1 hS hown (hts _ (inT_in k_fld.2.1)) (fun _ z => z) d_k2 ?_
  refine j_call (rv := some (.int i)) (va_runS (n := 3) (As := [.int i, .int n, f0]) (rest := []) ⟨hx, hb, hml, hown, hts⟩ (c_pre (B := B) (sA := sA) (sV := sV) (f0 := f0) h0 h1 hX.2.2.2.2.2.2.2) ⟨callB_of 3 hts (jg k_pre.1) rfl rfl rfl (hts _ (inT_in k_pre.2.2.2)) (hts _ (inT_in k_pre.2.2.1)) ⟨by decide, by decide, by decide +kernel⟩ ⟨Nat.le_of_ble_eq_true rfl, Nat.le_of_ble_eq_true rfl⟩, hts _ (inT_in k_pre.2.1)⟩ ⟨XT_blind, fun U hU hW => ⟨rfl, XT_at hX hS hU hW⟩⟩ rfl rfl hl.1 rfl (lv_room (Nat.le_of_ble_eq_true rfl)) d_k5 ⟨Nat.le_refl _, Nat.le_refl _⟩) jqQ ?_
  refine lv_pop hx hb d_k8 rfl ?_
  exact W.vret hx hb hr (fun t ht hW => ⟨rfl, ht⟩) (fun q h => by cases h) d_k9
theorem d_l0 : decode prog_18_method_2_code 0 = .ok (.iload_n 1, 1) := by decide +kernel
theorem d_l1 : decode prog_18_method_2_code 1 = .ok (.aload_n 0, 1) := by decide +kernel
theorem d_l2 : decode prog_18_method_2_code 2 = .ok (.arraylength, 1) := by decide +kernel
theorem d_l3 : decode prog_18_method_2_code 3 = .ok (.invokestatic 9, 3) := by decide +kernel
theorem d_l6 : decode prog_18_method_2_code 6 = .ok (.aload_n 0, 1) := by decide +kernel
theorem d_l7 : decode prog_18_method_2_code 7 = .ok (.iload_n 1, 1) := by decide +kernel
theorem d_l8 : decode prog_18_method_2_code 8 = .ok (.baload, 1) := by decide +kernel
theorem d_l9 : decode prog_18_method_2_code 9 = .ok (.sipush 255, 3) := by decide +kernel
theorem d_l12 : decode prog_18_method_2_code 12 = .ok (.iand, 1) := by decide +kernel
theorem d_l13 : decode prog_18_method_2_code 13 = .ok (.i2c, 1) := by decide +kernel
theorem d_l14 : decode prog_18_method_2_code 14 = .ok (.ireturn, 1) := by decide +kernel
theorem k_sgn : ∀ k : Nat, k < 149 → (((Int32.ofInt (STRL.getD k 0)) &&& (Int16.ofInt 255).toInt32).toUInt32 % 65536).toInt32 = Int32.ofInt (STRL.getD k 0) ∧ narrow .char (.int (Int32.ofInt (STRL.getD k 0))) = .int (Int32.ofInt (STRL.getD k 0)) ∧ ¬ Int32.ofInt (k : Int) < 0 ∧ Int32.ofInt (k : Int) < Int32.ofNat 149 ∧ (Int32.ofInt (k : Int)).toNatClampNeg = k := by decide +kernel
theorem k_vp : ∀ k : Nat, k < 149 → vp_in (Int32.ofInt (k : Int)) 149 := fun k hk => by
  obtain ⟨-, -, h3, -, h5⟩ := k_sgn k hk
  unfold vp_in
  rintro (q | q)
  · exact h3 q
  · rw [h5] at q
    omega
theorem c_lch {k : Nat} (hk : k < 149) : Met l nLch (jw nLch prog_18_method_2_code 2 (some .char)) (jr 2 64) (va_Pc [.ref sV, .int (Int32.ofInt (k : Int))] (XT B sA sV f0)) (jq (some (.int (Int32.ofInt (STRL.getD k 0))))) 0 0 (fun _ => False) := by
  obtain ⟨g1, g2, g3, g4, g5⟩ := k_sgn k hk
  have g6 := k_vp k hk
  generalize Int32.ofInt (k : Int) = i at *
  refine Met.ofW (cc := prog_18_method_2_code) (maxL := 2) (ret := some .char) (by decide) rfl ?_
  intro p e s m args below meth c s₁ Bd hml hv
  obtain ⟨rfl, hX⟩ := hv
  have hx := Bd.exec
  have hb := Bd.bytes
  have hr := Bd.returns
  have hlocks := Bd.notSynchronized
  have hts0 := atoms_spec (ws := jw nLch prog_18_method_2_code 2 (some .char)) Bd.pre
  have hts : ∀ w ∈ ZB, w.before ([.ref sV, .int i] : List Value).toArray s = true := fun w hw => hts0 w (List.mem_cons_of_mem _ hw)
  have hown : s.vm.findClass "java/lang/StringLatin1" = some m.cls := findClass_of_methodNamed Bd.named
  have hS : va_S (zA B) s.heap s.heap [] := va_S.rf
  have hl := lv_entry ([.ref sV, .int i]) (n := 2) (Nat.le_of_ble_eq_true rfl)
  rw [lg_entry_eq]
  generalize (lg_sl ([.ref sV, .int i]) ++ List.replicate (2 - (lg_sl ([.ref sV, .int i])).length) Slot.unset).toArray = ls at hl ⊢
  refine lv_iload_n hx hb d_l0 rfl (lv_at hl 1 rfl) ?_
  refine lv_aload_n hx hb d_l1 rfl (lv_at hl 0 rfl) ?_
  refine va_tlen hx hb hX.2.2.2.2.1 hS rfl d_l2 ?_
  refine j_call (rv := none) (va_runS (n := 2) (As := [.int i, .int (Int32.ofNat 149)]) (rest := []) ⟨hx, hb, hml, hown, hts⟩ (c_chk (B := B) (sA := sA) (sV := sV) (f0 := f0) g3 g4) ⟨callB_of 2 hts (jg k_chk.1) rfl rfl rfl (hts _ (inT_in k_chk.2.2.2)) (hts _ (inT_in k_chk.2.2.1)) ⟨by decide, by decide, by decide +kernel⟩ ⟨Nat.le_of_ble_eq_true rfl, Nat.le_of_ble_eq_true rfl⟩, hts _ (inT_in k_chk.2.1)⟩ ⟨XT_blind, fun U hU hW => ⟨rfl, XT_at hX hS hU hW⟩⟩ rfl rfl hl.1 rfl (lv_room (Nat.le_of_ble_eq_true rfl)) d_l3 ⟨Nat.le_refl _, Nat.le_refl _⟩) jqQ ?_
  refine lv_aload_n hx hb d_l6 rfl (lv_at hl 0 rfl) ?_
  refine lv_iload_n hx hb d_l7 rfl (lv_at hl 1 rfl) ?_
  refine va_tb hx hb hX.2.2.2.2.1 hS g6 rfl d_l8 ?_
  rw [g5]
  refine lv_sipush hx hb d_l9 rfl ?_
  refine lv_iand hx hb d_l12 ?_
  refine lv_i2c hx hb d_l13 g1 ?_
  exact W.zret hx hb hr g2 (fun t ht hW => ⟨rfl, ht⟩) (fun q h => by cases h) d_l14
theorem d_a0 : decode prog_17_method_154_code 0 = .ok (.getstatic 38, 3) := by decide +kernel
theorem d_a3 : decode prog_17_method_154_code 3 = .ok (.ifCond .eq 14, 3) := by decide +kernel
theorem d_a6 : decode prog_17_method_154_code 6 = .ok (.aload_n 0, 1) := by decide +kernel
theorem d_a7 : decode prog_17_method_154_code 7 = .ok (.getfield 15, 3) := by decide +kernel
theorem d_a10 : decode prog_17_method_154_code 10 = .ok (.ifCond .ne 7, 3) := by decide +kernel
theorem d_a13 : decode prog_17_method_154_code 13 = .ok (.iconst 1, 1) := by decide +kernel
theorem d_a14 : decode prog_17_method_154_code 14 = .ok (.goto 4, 3) := by decide +kernel
theorem d_a18 : decode prog_17_method_154_code 18 = .ok (.ireturn, 1) := by decide +kernel
theorem c_lat : Met l nLat (jw nLat prog_17_method_154_code 1 (some .boolean)) (jr 0 0) (va_Pc [.ref sA] (XT B sA sV f0)) (jq (some (.int 1))) 0 0 (fun _ => False) := by
  refine Met.ofW (cc := prog_17_method_154_code) (maxL := 1) (ret := some .boolean) (by decide) rfl ?_
  intro p e s m args below meth c s₁ Bd hml hv
  obtain ⟨rfl, hX⟩ := hv
  have hx := Bd.exec
  have hb := Bd.bytes
  have hr := Bd.returns
  have hlocks := Bd.notSynchronized
  have hts0 := atoms_spec (ws := jw nLat prog_17_method_154_code 1 (some .boolean)) Bd.pre
  have hts : ∀ w ∈ ZB, w.before ([.ref sA] : List Value).toArray s = true := fun w hw => hts0 w (List.mem_cons_of_mem _ hw)
  have hown : s.vm.findClass "java/lang/String" = some m.cls := findClass_of_methodNamed Bd.named
  have hS : va_S (zA B) s.heap s.heap [] := va_S.rf
  have hl := lv_entry ([.ref sA]) (n := 1) (Nat.le_of_ble_eq_true rfl)
  rw [lg_entry_eq]
  generalize (lg_sl ([.ref sA]) ++ List.replicate (1 - (lg_sl ([.ref sA])).length) Slot.unset).toArray = ls at hl ⊢
  refine va_gets hx hb hX.2.2.2.2.2.1 hS hown (hts _ (inT_in k_fld.1)) (fun _ z => z) d_a0 ?_
  refine lv_if_eq hx hb d_a3 (tgt := 17) rfl (fun z => absurd z (by decide)) (fun _ => ?_)
  refine lv_aload_n hx hb d_a6 rfl (lv_at hl 0 rfl) ?_
  refine vk_getf hx hb hX.2.2.1 hS hown (hts _ (inT_in k_fld.2.2.2)) (fun _ z => z) d_a7 ?_
  refine lv_if_ne hx hb d_a10 (tgt := 17) rfl (fun z => absurd rfl z) (fun _ => ?_)
  refine lv_iconst hx hb d_a13 (v := 1) rfl ?_
  refine lv_goto hx hb d_a14 (tgt := 18) rfl ?_
  exact W.zret hx hb hr rfl (fun t ht hW => ⟨rfl, ht⟩) (fun q h => by cases h) d_a18
theorem d_c0 : decode prog_17_method_152_code 0 = .ok (.getstatic 38, 3) := by decide +kernel
theorem d_c3 : decode prog_17_method_152_code 3 = .ok (.ifCond .eq 10, 3) := by decide +kernel
theorem d_c6 : decode prog_17_method_152_code 6 = .ok (.aload_n 0, 1) := by decide +kernel
theorem d_c7 : decode prog_17_method_152_code 7 = .ok (.getfield 15, 3) := by decide +kernel
theorem d_c10 : decode prog_17_method_152_code 10 = .ok (.goto 4, 3) := by decide +kernel
theorem d_c14 : decode prog_17_method_152_code 14 = .ok (.ireturn, 1) := by decide +kernel
theorem c_cod : Met l nCod (jw nCod prog_17_method_152_code 1 (some .byte)) (jr 0 0) (va_Pc [.ref sA] (XT B sA sV f0)) (jq (some (.int 0))) 0 0 (fun _ => False) := by
  refine Met.ofW (cc := prog_17_method_152_code) (maxL := 1) (ret := some .byte) (by decide) rfl ?_
  intro p e s m args below meth c s₁ Bd hml hv
  obtain ⟨rfl, hX⟩ := hv
  have hx := Bd.exec
  have hb := Bd.bytes
  have hr := Bd.returns
  have hlocks := Bd.notSynchronized
  have hts0 := atoms_spec (ws := jw nCod prog_17_method_152_code 1 (some .byte)) Bd.pre
  have hts : ∀ w ∈ ZB, w.before ([.ref sA] : List Value).toArray s = true := fun w hw => hts0 w (List.mem_cons_of_mem _ hw)
  have hown : s.vm.findClass "java/lang/String" = some m.cls := findClass_of_methodNamed Bd.named
  have hS : va_S (zA B) s.heap s.heap [] := va_S.rf
  have hl := lv_entry ([.ref sA]) (n := 1) (Nat.le_of_ble_eq_true rfl)
  rw [lg_entry_eq]
  generalize (lg_sl ([.ref sA]) ++ List.replicate (1 - (lg_sl ([.ref sA])).length) Slot.unset).toArray = ls at hl ⊢
  refine va_gets hx hb hX.2.2.2.2.2.1 hS hown (hts _ (inT_in k_fld.1)) (fun _ z => z) d_c0 ?_
  refine lv_if_eq hx hb d_c3 (tgt := 13) rfl (fun z => absurd z (by decide)) (fun _ => ?_)
  refine lv_aload_n hx hb d_c6 rfl (lv_at hl 0 rfl) ?_
  refine vk_getf hx hb hX.2.2.1 hS hown (hts _ (inT_in k_fld.2.2.2)) (fun _ z => z) d_c7 ?_
  refine lv_goto hx hb d_c10 (tgt := 14) rfl ?_
  exact W.zret hx hb hr rfl (fun t ht hW => ⟨rfl, ht⟩) (fun q h => by cases h) d_c14
theorem d_n0 : decode prog_17_method_54_code 0 = .ok (.aload_n 0, 1) := by decide +kernel
theorem d_n1 : decode prog_17_method_54_code 1 = .ok (.getfield 9, 3) := by decide +kernel
theorem d_n4 : decode prog_17_method_54_code 4 = .ok (.arraylength, 1) := by decide +kernel
theorem d_n5 : decode prog_17_method_54_code 5 = .ok (.aload_n 0, 1) := by decide +kernel
theorem d_n6 : decode prog_17_method_54_code 6 = .ok (.invokevirtual 335, 3) := by decide +kernel
theorem d_n9 : decode prog_17_method_54_code 9 = .ok (.ishr, 1) := by decide +kernel
theorem d_n10 : decode prog_17_method_54_code 10 = .ok (.ireturn, 1) := by decide +kernel
theorem XT_recv (hX : XT B sA sV f0 s) (hS : va_S (zA B) s.heap H locs) : ∃ cell : Cell, H[sA]? = some cell ∧ cell.vm.isStatics = false ∧ s.vm.findClass "java/lang/String" = some cell.cls := by
  obtain ⟨cell, h1, h2, h3, -⟩ := hX.2.1.kept hS.2.1
  exact ⟨cell, h1, h2, h3⟩
theorem c_len : Met l nLen (jw nLen prog_17_method_54_code 1 (some .int)) (jr 1 32) (va_Pc [.ref sA] (XT B sA sV f0)) (jq (some (.int 149))) 0 0 (fun _ => False) := by
  refine Met.ofW (cc := prog_17_method_54_code) (maxL := 1) (ret := some .int) (by decide) rfl ?_
  intro p e s m args below meth c s₁ Bd hml hv
  obtain ⟨rfl, hX⟩ := hv
  have hx := Bd.exec
  have hb := Bd.bytes
  have hr := Bd.returns
  have hlocks := Bd.notSynchronized
  have hts0 := atoms_spec (ws := jw nLen prog_17_method_54_code 1 (some .int)) Bd.pre
  have hts : ∀ w ∈ ZB, w.before ([.ref sA] : List Value).toArray s = true := fun w hw => hts0 w (List.mem_cons_of_mem _ hw)
  have hown : s.vm.findClass "java/lang/String" = some m.cls := findClass_of_methodNamed Bd.named
  have hS : va_S (zA B) s.heap s.heap [] := va_S.rf
  have hl := lv_entry ([.ref sA]) (n := 1) (Nat.le_of_ble_eq_true rfl)
  rw [lg_entry_eq]
  generalize (lg_sl ([.ref sA]) ++ List.replicate (1 - (lg_sl ([.ref sA])).length) Slot.unset).toArray = ls at hl ⊢
  refine lv_aload_n hx hb d_n0 rfl (lv_at hl 0 rfl) ?_
  refine vk_getf hx hb hX.2.2.2.1 hS hown (hts _ (inT_in k_fld.2.2.1)) (fun _ z => z) d_n1 ?_
  refine va_tlen hx hb hX.2.2.2.2.1 hS (v := 149) rfl d_n4 ?_
  refine lv_aload_n hx hb d_n5 rfl (lv_at hl 0 rfl) ?_
  refine j_call (rv := some (.int 0)) (va_runV (n := 0) (As := []) (rest := [.int 149]) ⟨hx, hb, hml, hown, hts⟩ (c_cod (B := B) (sA := sA) (sV := sV) (f0 := f0)) ⟨callB_of 0 hts (jg k_cod.1) rfl rfl rfl (hts _ (inT_in k_chk.2.2.2)) (hts _ (inT_in k_cod.2.2.2)) ⟨by decide, by decide, by decide +kernel⟩ ⟨Nat.le_of_ble_eq_true rfl, Nat.le_of_ble_eq_true rfl⟩, hts _ (inT_in k_cod.2.2.1), hts _ (inT_in k_cod.2.1)⟩ ⟨XT_blind, XT_recv hX hS, fun U hU hW => ⟨rfl, XT_at hX hS hU hW⟩⟩ rfl rfl hl.1 rfl (lv_room (Nat.le_of_ble_eq_true rfl)) d_n6 ⟨Nat.le_refl _, Nat.le_refl _⟩) jqQ ?_
  refine lv_ishr hx hb d_n9 ?_
  rw [show (149 : Int32) >>> ((0 : Int32) &&& 31) = 149 by decide +kernel]
  exact W.iret hx hb hr (fun t ht hW => ⟨rfl, ht⟩) (fun q h => by cases h) d_n10
theorem d_h0 : decode prog_17_method_56_code 0 = .ok (.aload_n 0, 1) := by decide +kernel
theorem d_h1 : decode prog_17_method_56_code 1 = .ok (.invokevirtual 492, 3) := by decide +kernel
theorem d_h4 : decode prog_17_method_56_code 4 = .ok (.ifCond .eq 12, 3) := by decide +kernel
theorem d_h7 : decode prog_17_method_56_code 7 = .ok (.aload_n 0, 1) := by decide +kernel
theorem d_h8 : decode prog_17_method_56_code 8 = .ok (.getfield 9, 3) := by decide +kernel
theorem d_h11 : decode prog_17_method_56_code 11 = .ok (.iload_n 1, 1) := by decide +kernel
theorem d_h12 : decode prog_17_method_56_code 12 = .ok (.invokestatic 495, 3) := by decide +kernel
theorem d_h15 : decode prog_17_method_56_code 15 = .ok (.ireturn, 1) := by decide +kernel
theorem c_chr {k : Nat} (hk : k < 149) : Met l nChr (jw nChr prog_17_method_56_code 2 (some .char)) (jr 3 96) (va_Pc [.ref sA, .int (Int32.ofInt (k : Int))] (XT B sA sV f0)) (jq (some (.int (Int32.ofInt (STRL.getD k 0))))) 0 0 (fun _ => False) := by
  refine Met.ofW (cc := prog_17_method_56_code) (maxL := 2) (ret := some .char) (by decide) rfl ?_
  intro p e s m args below meth c s₁ Bd hml hv
  obtain ⟨rfl, hX⟩ := hv
  have hx := Bd.exec
  have hb := Bd.bytes
  have hr := Bd.returns
  have hlocks := Bd.notSynchronized
  have hts0 := atoms_spec (ws := jw nChr prog_17_method_56_code 2 (some .char)) Bd.pre
  have hts : ∀ w ∈ ZB, w.before ([.ref sA, .int (Int32.ofInt (k : Int))] : List Value).toArray s = true := fun w hw => hts0 w (List.mem_cons_of_mem _ hw)
  have hown : s.vm.findClass "java/lang/String" = some m.cls := findClass_of_methodNamed Bd.named
  have hS : va_S (zA B) s.heap s.heap [] := va_S.rf
  have hl := lv_entry ([.ref sA, .int (Int32.ofInt (k : Int))]) (n := 2) (Nat.le_of_ble_eq_true rfl)
  rw [lg_entry_eq]
  generalize (lg_sl ([.ref sA, .int (Int32.ofInt (k : Int))]) ++ List.replicate (2 - (lg_sl ([.ref sA, .int (Int32.ofInt (k : Int))])).length) Slot.unset).toArray = ls at hl ⊢
  refine lv_aload_n hx hb d_h0 rfl (lv_at hl 0 rfl) ?_
  refine j_call (rv := some (.int 1)) (va_runV (n := 0) (As := []) (rest := []) ⟨hx, hb, hml, hown, hts⟩ (c_lat (B := B) (sA := sA) (sV := sV) (f0 := f0)) ⟨callB_of 0 hts (jg k_lat.1) rfl rfl rfl (hts _ (inT_in k_chk.2.2.2)) (hts _ (inT_in k_lat.2.2.2)) ⟨by decide, by decide, by decide +kernel⟩ ⟨Nat.le_of_ble_eq_true rfl, Nat.le_of_ble_eq_true rfl⟩, hts _ (inT_in k_lat.2.2.1), hts _ (inT_in k_lat.2.1)⟩ ⟨XT_blind, XT_recv hX hS, fun U hU hW => ⟨rfl, XT_at hX hS hU hW⟩⟩ rfl rfl hl.1 rfl (lv_room (Nat.le_of_ble_eq_true rfl)) d_h1 ⟨Nat.le_refl _, Nat.le_refl _⟩) jqQ ?_
  refine lv_if_eq hx hb d_h4 (tgt := 16) rfl (fun z => absurd z (by decide)) (fun _ => ?_)
  refine lv_aload_n hx hb d_h7 rfl (lv_at hl 0 rfl) ?_
  refine vk_getf hx hb hX.2.2.2.1 hS hown (hts _ (inT_in k_fld.2.2.1)) (fun _ z => z) d_h8 ?_
  refine lv_iload_n hx hb d_h11 rfl (lv_at hl 1 rfl) ?_
  refine j_call (rv := some (.int (Int32.ofInt (STRL.getD k 0)))) (va_runS (n := 2) (As := [.ref sV, .int (Int32.ofInt (k : Int))]) (rest := []) ⟨hx, hb, hml, hown, hts⟩ (c_lch (B := B) (sA := sA) (sV := sV) (f0 := f0) hk) ⟨callB_of 2 hts (jg k_lch.1) rfl rfl rfl (hts _ (inT_in k_lch.2.2.2)) (hts _ (inT_in k_lch.2.2.1)) ⟨by decide, by decide, by decide +kernel⟩ ⟨Nat.le_of_ble_eq_true rfl, Nat.le_of_ble_eq_true rfl⟩, hts _ (inT_in k_lch.2.1)⟩ ⟨XT_blind, fun U hU hW => ⟨rfl, XT_at hX hS hU hW⟩⟩ rfl rfl hl.1 rfl (lv_room (Nat.le_of_ble_eq_true rfl)) d_h12 ⟨Nat.le_refl _, Nat.le_refl _⟩) jqQ ?_
  exact W.zret hx hb hr (k_sgn k hk).2.1 (fun t ht hW => ⟨rfl, ht⟩) (fun q h => by cases h) d_h15
end JC
end
section
/-! LM, part 99: the calls of the JDK, all of them -/
theorem metF {l : Launch} {y : MethodName} {ws ws' : List Cond} {rm : Room} {Pc : Array Value → State → Prop} {Qc : Array Value → State → Outcome → State → Prop} {mc ms : Nat} {free : Addr → Prop} {cc : ByteArray} {maxL : Nat} {ret : Option FieldType}
    (hy : plainFor y = true) (hw : ws = Cond.code y cc maxL ret :: ws')
    (body : ∀ p e s m args below meth c s₁, BodyLoose p l y (headSpec ws rm) cc maxL ret e s m args below meth c s₁ → c.maxLocals = maxL → Pc args s →
      W p l e (headSpec ws rm).room s m args below meth c s.heap [] 0 0 (MQ below Qc args s mc ms free) (entryFrame m args maxL)) : Met l y ws rm Pc Qc mc ms free := by
  refine MetFree.of_bodySF (code := cc) (maxLocals := maxL) (ret := ret) hy ?_ ?_
  · intro args s m h hn
    obtain ⟨meth, c, h1, h2, h3, h4, h5, h6, -, -⟩ := Cond.code_spec hn (atoms_spec (ws := ws) h _ (by rw [hw]; exact List.mem_cons_self))
    exact ⟨meth, c, h1, h2, h3, h4, h5, h6⟩
  · intro p e s m args below meth c s₁ B hml hP _
    have hh0 : s₁.heap = s.heap := by rw [B.state]; rfl
    obtain ⟨t, a1, o, b1, b2, b3⟩ := body p e s m args below meth c s₁ B hml hP s₁ hh0 (Stand.of_body B)
    exact ⟨t, o, a1, b1, b2, ⟨b3.1, b3.2⟩⟩
def fmd (x y : Int32) : Int32 := if 0 ≤ x ^^^ y then x - x / y * y else if x - x / y * y = 0 then 0 else x - x / y * y + y
theorem d_f0 : decode prog_16_method_50_code 0 = .ok (.iload_n 0, 1) := by decide +kernel
theorem d_f1 : decode prog_16_method_50_code 1 = .ok (.iload_n 1, 1) := by decide +kernel
theorem d_f2 : decode prog_16_method_50_code 2 = .ok (.irem, 1) := by decide +kernel
theorem d_f3 : decode prog_16_method_50_code 3 = .ok (.istore_n 2, 1) := by decide +kernel
theorem d_f4 : decode prog_16_method_50_code 4 = .ok (.iload_n 0, 1) := by decide +kernel
theorem d_f5 : decode prog_16_method_50_code 5 = .ok (.iload_n 1, 1) := by decide +kernel
theorem d_f6 : decode prog_16_method_50_code 6 = .ok (.ixor, 1) := by decide +kernel
theorem d_f7 : decode prog_16_method_50_code 7 = .ok (.ifCond .ge 11, 3) := by decide +kernel
theorem d_f10 : decode prog_16_method_50_code 10 = .ok (.iload_n 2, 1) := by decide +kernel
theorem d_f11 : decode prog_16_method_50_code 11 = .ok (.ifCond .eq 7, 3) := by decide +kernel
theorem d_f14 : decode prog_16_method_50_code 14 = .ok (.iload_n 2, 1) := by decide +kernel
theorem d_f15 : decode prog_16_method_50_code 15 = .ok (.iload_n 1, 1) := by decide +kernel
theorem d_f16 : decode prog_16_method_50_code 16 = .ok (.iadd, 1) := by decide +kernel
theorem d_f17 : decode prog_16_method_50_code 17 = .ok (.ireturn, 1) := by decide +kernel
theorem d_f18 : decode prog_16_method_50_code 18 = .ok (.iload_n 2, 1) := by decide +kernel
theorem d_f19 : decode prog_16_method_50_code 19 = .ok (.ireturn, 1) := by decide +kernel
theorem c_flo {l : Launch} {x y : Int32} (hy : ¬ y = 0) : Met l nFlo (jw nFlo prog_16_method_50_code 3 (some .int)) (jr 0 0) (va_Pc [.int x, .int y] (fun _ => True)) (jq (some (.int (fmd x y)))) 0 0 (fun _ => False) := by
  refine metF (cc := prog_16_method_50_code) (maxL := 3) (ret := some .int) (by decide +kernel) rfl ?_
  intro p e s m args below meth c s₁ Bd hml hv
  obtain ⟨rfl, -⟩ := hv
  have hx := Bd.exec
  have hb := Bd.bytes
  have hr := Bd.returns
  have hlocks := Bd.notSynchronized
  have hl := lv_entry ([.int x, .int y]) (n := 3) (Nat.le_of_ble_eq_true rfl)
  rw [lg_entry_eq]
  generalize (lg_sl ([.int x, .int y]) ++ List.replicate (3 - (lg_sl ([.int x, .int y])).length) Slot.unset).toArray = ls at hl ⊢
  refine lv_iload_n hx hb d_f0 rfl (lv_at hl 0 rfl) ?_
  refine lv_iload_n hx hb d_f1 rfl (lv_at hl 1 rfl) ?_
  refine lv_irem hx hb d_f2 hy ?_
  refine lv_istore_n (lv' := [(2, .int (x - x / y * y)), (0, .int x), (1, .int y)]) hx hb d_f3 rfl hl (by decide) rfl (fun ls' hl' => ?_)
  refine lv_iload_n hx hb d_f4 rfl (lv_at hl' 1 rfl) ?_
  refine lv_iload_n hx hb d_f5 rfl (lv_at hl' 2 rfl) ?_
  refine lv_ixor hx hb d_f6 ?_
  refine lv_if_ge hx hb d_f7 (tgt := 18) rfl (fun z => ?_) (fun z => ?_)
  · refine lv_iload_n hx hb d_f18 rfl (lv_at hl' 0 rfl) ?_
    refine W.iret hx hb hr (fun t ht hW => ⟨?_, ht⟩) (fun q h => by cases h) d_f19
    rw [show fmd x y = x - x / y * y by unfold fmd; rw [if_pos z]]
  · refine lv_iload_n hx hb d_f10 rfl (lv_at hl' 0 rfl) ?_
    refine lv_if_eq hx hb d_f11 (tgt := 18) rfl (fun z2 => ?_) (fun z2 => ?_)
    · refine lv_iload_n hx hb d_f18 rfl (lv_at hl' 0 rfl) ?_
      refine W.iret hx hb hr (fun t ht hW => ⟨?_, ht⟩) (fun q h => by cases h) d_f19
      rw [show fmd x y = x - x / y * y by unfold fmd; rw [if_neg z, if_pos z2, z2]]
    · refine lv_iload_n hx hb d_f14 rfl (lv_at hl' 0 rfl) ?_
      refine lv_iload_n hx hb d_f15 rfl (lv_at hl' 2 rfl) ?_
      refine lv_iadd hx hb d_f16 ?_
      refine W.iret hx hb hr (fun t ht hW => ⟨?_, ht⟩) (fun q h => by cases h) d_f17
      rw [show fmd x y = x - x / y * y + y by unfold fmd; rw [if_neg z, if_neg z2]]
theorem fmd_zfm {a b : Int} (ha : i32 a) (hb : i32 b) : fmd (Int32.ofInt a) (Int32.ofInt b) = Int32.ofInt (zfm a b) := by
  have e : Int32.ofInt a - Int32.ofInt a / Int32.ofInt b * Int32.ofInt b = Int32.ofInt (w32 (a - w32 (w32 (a.tdiv b) * b))) := by rw [o_div ha hb, o_mul (w32_in _) hb, o_sub ha (w32_in _)]
  have c1 : (0 ≤ Int32.ofInt a ^^^ Int32.ofInt b) ↔ 0 ≤ zxor a b := by
    unfold zxor
    rw [Int32.le_iff_toInt_le]
    exact Iff.rfl
  have c2 : (Int32.ofInt (w32 (a - w32 (w32 (a.tdiv b) * b))) = 0) ↔ w32 (a - w32 (w32 (a.tdiv b) * b)) = 0 := by
    rw [o_0]
    exact o_eq (w32_in _) z32
  unfold fmd zfm
  rw [e]
  by_cases h : 0 ≤ zxor a b
  · rw [if_pos (c1.mpr h), if_pos h]
  · rw [if_neg (fun q => h (c1.mp q)), if_neg h]
    by_cases h2 : w32 (a - w32 (w32 (a.tdiv b) * b)) = 0
    · rw [if_pos (c2.mpr h2), if_pos h2]
      rfl
    · rw [if_neg (fun q => h2 (c2.mp q)), if_neg h2, o_add (w32_in _) hb]
theorem k_min : inT 832 (Cond.code Lib.Math.min.name Lib.Math.min.code 2 (some .int)) = true ∧ inT 831 (.static Lib.Math.min.name) = true := ⟨by decide +kernel, by decide +kernel⟩
theorem k_max : inT 956 (Cond.code Lib.Math.max.name Lib.Math.max.code 2 (some .int)) = true ∧ inT 955 (.static Lib.Math.max.name) = true := ⟨by decide +kernel, by decide +kernel⟩
theorem strl_len : (STRL.length : Int) = 149 := by decide +kernel
set_option maxHeartbeats 4000000 in
theorem simX_ok {B b sA sV : Nat} {f0 : Value} : SimX B b sA (XT B sA sV f0) := by
  intro p l e R s m args below meth c H locs cells slots Q cc pc sl o i len st st' hx hb hml hown hts hX hS hfr hlo hce hsl hcase hlen hd hok kk
  rcases hcase with hcase | ⟨rfl, rfl, rfl⟩
  · unfold lmX at hcase
    split at hcase
    · next x =>
      have e3 : len = 3 := by simpa [ilen] using hlen
      subst e3
      split at hcase
      · next q hq =>
        obtain ⟨q1, q2⟩ := find_of hq
        obtain ⟨-, w⟩ := all17 PTC chkP PTC_ok17 PTC_nil q1
        unfold chkP at w
        rw [q2] at w
        split at hcase
        · next h2 =>
          rw [h2] at w
          split at hcase
          · next a r =>
            split at hcase
            · next hc =>
              obtain ⟨rfl, hr⟩ := hc
              cases some_i hcase
              have k1 := kk (okS_i (by show i32 (STRL.length : Int); rw [strl_len]; unfold i32; omega) (okS_c hok).2)
              rw [List.map_cons, show cv B b sA (.inl (STRL.length : Int)) = .int 149 from congrArg Value.int (by decide +kernel)] at k1
              exact j_call (rv := some (.int 149)) (va_runV (n := 0) (As := []) (rest := r.map (cv B b sA)) (b := sA) ⟨hx, hb, hml, hown, hts⟩ (c_len (B := B) (sA := sA) (sV := sV) (f0 := f0)) ⟨callB_of 0 hts (jg k_len.1) rfl rfl rfl (hts _ (inT_in k_chk.2.2.2)) (hts _ (inT_in w)) ⟨by decide, by decide, by decide +kernel⟩ ⟨by show 1 + 1 ≤ R.frames; omega, by show 8 + (1 + 11) + 32 ≤ R.locals; omega⟩, hts _ (inT_in k_len.2.2), hts _ (inT_in k_len.2.1)⟩ ⟨XT_blind, XT_recv hX hS, fun U hU hW => ⟨rfl, XT_at hX hS hU hW⟩⟩ rfl rfl rfl rfl (lv_room (by rw [lcat_cv]; exact hr)) hd ⟨by omega, by omega⟩) jqQ k1
            · cases hcase
          · cases hcase
        · next h2 =>
          split at hcase
          · next h3 =>
            rw [h3] at w
            split at hcase
            · next i2 a r =>
              split at hcase
              · next hc =>
                obtain ⟨rfl, hr, i0, i1⟩ := hc
                have i1' : i2 < 149 := i1
                obtain ⟨k, rfl⟩ : ∃ k : Nat, i2 = (k : Int) := ⟨i2.toNat, by omega⟩
                cases some_i hcase
                have hk : k < 149 := by omega
                have hi : i32 (STRL.getD (k : Int).toNat 0) := by
                  rw [Int.toNat_natCast]
                  have := (show ∀ k : Nat, k < 149 → (-2147483648 ≤ STRL.getD k 0 ∧ STRL.getD k 0 ≤ 2147483647) by decide +kernel) k hk
                  exact this
                have k1 := kk (okS_i hi (okS_c (okS_c hok).2).2)
                rw [List.map_cons, Int.toNat_natCast] at k1
                exact j_call (rv := some (.int (Int32.ofInt (STRL.getD k 0)))) (va_runV (n := 1) (As := [.int (Int32.ofInt (k : Int))]) (rest := r.map (cv B b sA)) (b := sA) ⟨hx, hb, hml, hown, hts⟩ (c_chr (B := B) (sA := sA) (sV := sV) (f0 := f0) hk) ⟨callB_of 1 hts (jg k_chr.1) rfl rfl rfl (hts _ (inT_in k_chk.2.2.2)) (hts _ (inT_in w)) ⟨by decide, by decide, by decide +kernel⟩ ⟨by show 3 + 1 ≤ R.frames; omega, by show 8 + (2 + 11) + 96 ≤ R.locals; omega⟩, hts _ (inT_in k_chr.2.2), hts _ (inT_in k_chr.2.1)⟩ ⟨XT_blind, XT_recv hX hS, fun U hU hW => ⟨rfl, XT_at hX hS hU hW⟩⟩ rfl rfl rfl rfl (lv_room (by rw [lcat_cv]; exact hr)) hd ⟨by omega, by omega⟩) jqQ k1
              · cases hcase
            · cases hcase
          · cases hcase
      · cases hcase
    · next x =>
      have e3 : len = 3 := by simpa [ilen] using hlen
      subst e3
      split at hcase
      · next q hq =>
        obtain ⟨q1, q2⟩ := find_of hq
        obtain ⟨-, w⟩ := all17 PTC chkP PTC_ok17 PTC_nil q1
        unfold chkP at w
        rw [q2] at w
        split at hcase
        · next y a r =>
          have hy : i32 y := (okS_c hok).1
          have ha : i32 a := (okS_c (okS_c hok).2).1
          have hok2 := (okS_c (okS_c hok).2).2
          split at hcase
          · next hr =>
            have hrm : ((r.map (cv B b sA)).map fun v => v.category).sum ≤ 8 := by rw [lcat_cv]; exact hr
            split at hcase
            · next h4 =>
              cases some_i hcase
              rw [h4] at w
              have hv : i32 (if y < a then y else a) := by split <;> assumption
              have k1 := kk (okS_i hv hok2)
              rw [List.map_cons, show cv B b sA (.inl (if y < a then y else a)) = .int (if Int32.ofInt y < Int32.ofInt a then Int32.ofInt y else Int32.ofInt a) from congrArg Value.int (by
                by_cases z : y < a
                · rw [if_pos z, if_pos ((o_lt hy ha).mpr z)]
                · rw [if_neg z, if_neg (fun q => z ((o_lt hy ha).mp q))])] at k1
              exact va_mmin hx hb hml hown (hts _ (inT_in w)) (hts _ (inT_in k_min.2)) (hts _ (inT_in k_flo.2.2)) (hts _ (inT_in k_min.1)) (by omega) (by omega) hce hsl hd k1
            · next h4 =>
              split at hcase
              · next h5 =>
                cases some_i hcase
                rw [h5] at w
                have hv : i32 (if a < y then y else a) := by split <;> assumption
                have k1 := kk (okS_i hv hok2)
                rw [List.map_cons, show cv B b sA (.inl (if a < y then y else a)) = .int (if Int32.ofInt a < Int32.ofInt y then Int32.ofInt y else Int32.ofInt a) from congrArg Value.int (by
                  by_cases z : a < y
                  · rw [if_pos z, if_pos ((o_lt ha hy).mpr z)]
                  · rw [if_neg z, if_neg (fun q => z ((o_lt ha hy).mp q))])] at k1
                exact va_mmax hx hb hml hown (hts _ (inT_in w)) (hts _ (inT_in k_max.2)) (hts _ (inT_in k_flo.2.2)) (hts _ (inT_in k_max.1)) (by omega) (by omega) hce hsl hd k1
              · next h5 =>
                split at hcase
                · next h6 =>
                  obtain ⟨h6, hne⟩ := h6
                  cases some_i hcase
                  rw [h6] at w
                  have hv : i32 (zfm a y) := by
                    unfold zfm
                    split
                    · exact w32_in _
                    · split
                      · exact z32
                      · exact w32_in _
                  have k1 := kk (okS_i hv hok2)
                  rw [List.map_cons, show cv B b sA (.inl (zfm a y)) = .int (fmd (Int32.ofInt a) (Int32.ofInt y)) from congrArg Value.int (fmd_zfm ha hy).symm] at k1
                  have hn0 : ¬ Int32.ofInt y = 0 := fun z => hne ((o_eq hy z32).mp z)
                  exact j_call (rv := some (.int (fmd (Int32.ofInt a) (Int32.ofInt y)))) (va_runS (n := 2) (As := [.int (Int32.ofInt a), .int (Int32.ofInt y)]) (rest := r.map (cv B b sA)) ⟨hx, hb, hml, hown, hts⟩ (c_flo hn0) ⟨callB_of 2 hts (jg k_flo.1) rfl rfl rfl (hts _ (inT_in k_flo.2.2)) (hts _ (inT_in w)) ⟨by decide, by decide, by decide +kernel⟩ ⟨by show 0 + 1 ≤ R.frames; omega, by show 8 + (3 + 11) + 0 ≤ R.locals; omega⟩, hts _ (inT_in k_flo.2.1)⟩ ⟨fun a U g mk h => ⟨h.1, trivial⟩, fun U hU hW => ⟨rfl, trivial⟩⟩ rfl rfl rfl rfl (lv_room hrm) hd ⟨by omega, by omega⟩) jqQ k1
                · cases hcase
          · cases hcase
        · cases hcase
      · cases hcase
    · cases hcase
  · have e2 : len = 2 := by simpa [ilen] using hlen
    subst e2
    exact va_ldcS hx hb hown hX.1 hd (kk (okS_i trivial hok))
end
