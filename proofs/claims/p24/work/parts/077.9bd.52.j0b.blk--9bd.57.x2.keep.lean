section
/-! LM, by program (wip/p2/hand.py): rows of judged and count -/
theorem dd_OneSided_judged_0 : decode mm_OneSided_judged.2.1 0 = .ok (.iload_n 1, 1) := by decide +kernel
theorem dd_OneSided_judged_1 : decode mm_OneSided_judged.2.1 1 = .ok (.iconst (-1), 1) := by decide +kernel
theorem dd_OneSided_judged_2 : decode mm_OneSided_judged.2.1 2 = .ok (.if_icmp .eq (14), 3) := by decide +kernel
theorem dd_OneSided_judged_16 : decode mm_OneSided_judged.2.1 16 = .ok (.aload_n 0, 1) := by decide +kernel
theorem dd_OneSided_judged_17 : decode mm_OneSided_judged.2.1 17 = .ok (.getfield 33, 3) := by decide +kernel
theorem dd_OneSided_judged_20 : decode mm_OneSided_judged.2.1 20 = .ok (.getfield 149, 3) := by decide +kernel
theorem dd_OneSided_judged_23 : decode mm_OneSided_judged.2.1 23 = .ok (.astore_n 2, 1) := by decide +kernel
theorem dd_OneSided_judged_24 : decode mm_OneSided_judged.2.1 24 = .ok (.aload_n 2, 1) := by decide +kernel
theorem dd_OneSided_judged_25 : decode mm_OneSided_judged.2.1 25 = .ok (.aload_n 0, 1) := by decide +kernel
theorem dd_OneSided_judged_26 : decode mm_OneSided_judged.2.1 26 = .ok (.getfield 19, 3) := by decide +kernel
theorem dd_OneSided_judged_29 : decode mm_OneSided_judged.2.1 29 = .ok (.invokevirtual 228, 3) := by decide +kernel
theorem cw_11_228 : cwOk 11 228 0 52 2 4 9 = true := by decide +kernel
theorem dd_OneSided_judged_5 : decode mm_OneSided_judged.2.1 5 = .ok (.aload_n 0, 1) := by decide +kernel
theorem dd_OneSided_judged_6 : decode mm_OneSided_judged.2.1 6 = .ok (.iload_n 1, 1) := by decide +kernel
theorem dd_OneSided_judged_7 : decode mm_OneSided_judged.2.1 7 = .ok (.invokevirtual 160, 3) := by decide +kernel
theorem dd_OneSided_judged_10 : decode mm_OneSided_judged.2.1 10 = .ok (.ifCond .ne (6), 3) := by decide +kernel
theorem dd_OneSided_judged_13 : decode mm_OneSided_judged.2.1 13 = .ok (.bipush (-2), 2) := by decide +kernel
theorem dd_OneSided_judged_15 : decode mm_OneSided_judged.2.1 15 = .ok (.ireturn, 1) := by decide +kernel
theorem dd_OneSided_judged_32 : decode mm_OneSided_judged.2.1 32 = .ok (.aload_n 0, 1) := by decide +kernel
theorem dd_OneSided_judged_33 : decode mm_OneSided_judged.2.1 33 = .ok (.getfield 29, 3) := by decide +kernel
theorem dd_OneSided_judged_36 : decode mm_OneSided_judged.2.1 36 = .ok (.aload_n 0, 1) := by decide +kernel
theorem dd_OneSided_judged_37 : decode mm_OneSided_judged.2.1 37 = .ok (.getfield 19, 3) := by decide +kernel
theorem dd_OneSided_judged_40 : decode mm_OneSided_judged.2.1 40 = .ok (.aload_n 2, 1) := by decide +kernel
theorem dd_OneSided_judged_41 : decode mm_OneSided_judged.2.1 41 = .ok (.invokevirtual 229, 3) := by decide +kernel
theorem cw_11_229 : cwOk 11 229 0 79 3 5 3 = true := by decide +kernel
theorem mt_Memory_playDay : MTB 79 = some mm_Memory_playDay := rfl
theorem dd_OneSided_judged_44 : decode mm_OneSided_judged.2.1 44 = .ok (.istore_n 3, 1) := by decide +kernel
theorem dd_OneSided_judged_45 : decode mm_OneSided_judged.2.1 45 = .ok (.iload_n 1, 1) := by decide +kernel
theorem dd_OneSided_judged_46 : decode mm_OneSided_judged.2.1 46 = .ok (.iconst (-1), 1) := by decide +kernel
theorem dd_OneSided_judged_47 : decode mm_OneSided_judged.2.1 47 = .ok (.if_icmp .ne (7), 3) := by decide +kernel
theorem dd_OneSided_judged_54 : decode mm_OneSided_judged.2.1 54 = .ok (.aload_n 2, 1) := by decide +kernel
theorem dd_OneSided_judged_55 : decode mm_OneSided_judged.2.1 55 = .ok (.getfield 181, 3) := by decide +kernel
theorem rf_68_4 {h : LH} (hF : RF h) : rd h 68 4 = 69 := hF 68 4 69 (by decide +kernel) (by decide +kernel)
theorem dd_OneSided_judged_58 : decode mm_OneSided_judged.2.1 58 = .ok (.iload_n 1, 1) := by decide +kernel
theorem dd_OneSided_judged_59 : decode mm_OneSided_judged.2.1 59 = .ok (.iaload, 1) := by decide +kernel
theorem ia_69 : isA NC 69 1 = true := by decide +kernel
theorem la_69 : (lay (69 : Int).toNat).2.2 = 6 := by decide +kernel
theorem dd_OneSided_judged_60 : decode mm_OneSided_judged.2.1 60 = .ok (.ireturn, 1) := by decide +kernel
theorem dd_OneSided_judged_50 : decode mm_OneSided_judged.2.1 50 = .ok (.iload_n 3, 1) := by decide +kernel
theorem dd_OneSided_judged_51 : decode mm_OneSided_judged.2.1 51 = .ok (.goto 9, 3) := by decide +kernel
theorem dd_OneSided_count_0 : decode mm_OneSided_count.2.1 0 = .ok (.iload_n 1, 1) := by decide +kernel
theorem dd_OneSided_count_1 : decode mm_OneSided_count.2.1 1 = .ok (.tableswitch (147) (0) (9) #[55, 63, 71, 79, 90, 104, 118, 126, 134, 139], 55) := by decide +kernel
theorem dd_OneSided_count_56 : decode mm_OneSided_count.2.1 56 = .ok (.aload_n 0, 1) := by decide +kernel
theorem dd_OneSided_count_57 : decode mm_OneSided_count.2.1 57 = .ok (.getfield 19, 3) := by decide +kernel
theorem dd_OneSided_count_60 : decode mm_OneSided_count.2.1 60 = .ok (.getfield 267, 3) := by decide +kernel
theorem dd_OneSided_count_63 : decode mm_OneSided_count.2.1 63 = .ok (.ireturn, 1) := by decide +kernel
theorem dd_OneSided_count_64 : decode mm_OneSided_count.2.1 64 = .ok (.aload_n 0, 1) := by decide +kernel
theorem dd_OneSided_count_65 : decode mm_OneSided_count.2.1 65 = .ok (.getfield 19, 3) := by decide +kernel
theorem dd_OneSided_count_68 : decode mm_OneSided_count.2.1 68 = .ok (.getfield 345, 3) := by decide +kernel
theorem dd_OneSided_count_71 : decode mm_OneSided_count.2.1 71 = .ok (.ireturn, 1) := by decide +kernel
theorem dd_OneSided_count_72 : decode mm_OneSided_count.2.1 72 = .ok (.aload_n 0, 1) := by decide +kernel
theorem dd_OneSided_count_73 : decode mm_OneSided_count.2.1 73 = .ok (.getfield 19, 3) := by decide +kernel
theorem dd_OneSided_count_76 : decode mm_OneSided_count.2.1 76 = .ok (.getfield 254, 3) := by decide +kernel
theorem dd_OneSided_count_79 : decode mm_OneSided_count.2.1 79 = .ok (.ireturn, 1) := by decide +kernel
theorem dd_OneSided_count_80 : decode mm_OneSided_count.2.1 80 = .ok (.aload_n 0, 1) := by decide +kernel
theorem dd_OneSided_count_81 : decode mm_OneSided_count.2.1 81 = .ok (.getfield 29, 3) := by decide +kernel
theorem dd_OneSided_count_84 : decode mm_OneSided_count.2.1 84 = .ok (.getfield 149, 3) := by decide +kernel
theorem dd_OneSided_count_87 : decode mm_OneSided_count.2.1 87 = .ok (.getfield 216, 3) := by decide +kernel
theorem dd_OneSided_count_90 : decode mm_OneSided_count.2.1 90 = .ok (.ireturn, 1) := by decide +kernel
theorem dd_OneSided_count_91 : decode mm_OneSided_count.2.1 91 = .ok (.aload_n 0, 1) := by decide +kernel
theorem dd_OneSided_count_92 : decode mm_OneSided_count.2.1 92 = .ok (.getfield 29, 3) := by decide +kernel
theorem dd_OneSided_count_95 : decode mm_OneSided_count.2.1 95 = .ok (.getfield 149, 3) := by decide +kernel
theorem dd_OneSided_count_98 : decode mm_OneSided_count.2.1 98 = .ok (.getfield 153, 3) := by decide +kernel
theorem dd_OneSided_count_101 : decode mm_OneSided_count.2.1 101 = .ok (.invokestatic 340, 3) := by decide +kernel
theorem dd_OneSided_count_105 : decode mm_OneSided_count.2.1 105 = .ok (.aload_n 0, 1) := by decide +kernel
theorem dd_OneSided_count_106 : decode mm_OneSided_count.2.1 106 = .ok (.getfield 29, 3) := by decide +kernel
theorem dd_OneSided_count_109 : decode mm_OneSided_count.2.1 109 = .ok (.getfield 149, 3) := by decide +kernel
theorem dd_OneSided_count_112 : decode mm_OneSided_count.2.1 112 = .ok (.getfield 184, 3) := by decide +kernel
theorem dd_OneSided_count_115 : decode mm_OneSided_count.2.1 115 = .ok (.invokestatic 340, 3) := by decide +kernel
theorem dd_OneSided_count_119 : decode mm_OneSided_count.2.1 119 = .ok (.aload_n 0, 1) := by decide +kernel
theorem dd_OneSided_count_120 : decode mm_OneSided_count.2.1 120 = .ok (.getfield 29, 3) := by decide +kernel
theorem dd_OneSided_count_123 : decode mm_OneSided_count.2.1 123 = .ok (.getfield 354, 3) := by decide +kernel
theorem fd_11_354 : fld 11 354 = some (3, 1) := by decide +kernel
theorem dd_OneSided_count_126 : decode mm_OneSided_count.2.1 126 = .ok (.ireturn, 1) := by decide +kernel
theorem dd_OneSided_count_127 : decode mm_OneSided_count.2.1 127 = .ok (.aload_n 0, 1) := by decide +kernel
theorem dd_OneSided_count_128 : decode mm_OneSided_count.2.1 128 = .ok (.getfield 29, 3) := by decide +kernel
theorem dd_OneSided_count_131 : decode mm_OneSided_count.2.1 131 = .ok (.getfield 357, 3) := by decide +kernel
theorem fd_11_357 : fld 11 357 = some (3, 4) := by decide +kernel
theorem dd_OneSided_count_134 : decode mm_OneSided_count.2.1 134 = .ok (.ireturn, 1) := by decide +kernel
theorem dd_OneSided_count_135 : decode mm_OneSided_count.2.1 135 = .ok (.aload_n 0, 1) := by decide +kernel
theorem dd_OneSided_count_136 : decode mm_OneSided_count.2.1 136 = .ok (.getfield 104, 3) := by decide +kernel
theorem dd_OneSided_count_139 : decode mm_OneSided_count.2.1 139 = .ok (.ireturn, 1) := by decide +kernel
theorem dd_OneSided_count_140 : decode mm_OneSided_count.2.1 140 = .ok (.aload_n 0, 1) := by decide +kernel
theorem dd_OneSided_count_141 : decode mm_OneSided_count.2.1 141 = .ok (.getfield 10, 3) := by decide +kernel
theorem dd_OneSided_count_144 : decode mm_OneSided_count.2.1 144 = .ok (.getfield 86, 3) := by decide +kernel
theorem dd_OneSided_count_147 : decode mm_OneSided_count.2.1 147 = .ok (.ireturn, 1) := by decide +kernel
theorem dd_OneSided_count_148 : decode mm_OneSided_count.2.1 148 = .ok (.iconst (-1), 1) := by decide +kernel
theorem dd_OneSided_count_149 : decode mm_OneSided_count.2.1 149 = .ok (.ireturn, 1) := by decide +kernel
theorem dd_OneSided_count_104 : decode mm_OneSided_count.2.1 104 = .ok (.ireturn, 1) := by decide +kernel
theorem dd_OneSided_count_118 : decode mm_OneSided_count.2.1 118 = .ok (.ireturn, 1) := by decide +kernel
theorem dd_count_0 : decode mm_count.2.1 0 = .ok (.aload_n 0, 1) := by decide +kernel
theorem dd_count_1 : decode mm_count.2.1 1 = .ok (.iconst 0, 1) := by decide +kernel
theorem dd_count_2 : decode mm_count.2.1 2 = .ok (.putfield 1, 3) := by decide +kernel
theorem dd_count_5 : decode mm_count.2.1 5 = .ok (.iconst 0, 1) := by decide +kernel
theorem dd_count_6 : decode mm_count.2.1 6 = .ok (.istore_n 2, 1) := by decide +kernel
theorem dd_count_7 : decode mm_count.2.1 7 = .ok (.iconst 0, 1) := by decide +kernel
theorem dd_count_8 : decode mm_count.2.1 8 = .ok (.istore_n 3, 1) := by decide +kernel
theorem dd_count_9 : decode mm_count.2.1 9 = .ok (.iload_n 3, 1) := by decide +kernel
theorem dd_count_10 : decode mm_count.2.1 10 = .ok (.aload_n 0, 1) := by decide +kernel
theorem dd_count_11 : decode mm_count.2.1 11 = .ok (.invokevirtual 338, 3) := by decide +kernel
theorem dd_count_14 : decode mm_count.2.1 14 = .ok (.if_icmp .ge (21), 3) := by decide +kernel
theorem dd_count_35 : decode mm_count.2.1 35 = .ok (.iload_n 1, 1) := by decide +kernel
theorem dd_count_36 : decode mm_count.2.1 36 = .ok (.tableswitch (115) (0) (9) #[56, 61, 66, 71, 78, 88, 90, 97, 105, 110], 56) := by decide +kernel
theorem dd_count_92 : decode mm_count.2.1 92 = .ok (.aload_n 0, 1) := by decide +kernel
theorem dd_count_93 : decode mm_count.2.1 93 = .ok (.invokevirtual 332, 3) := by decide +kernel
theorem dd_count_96 : decode mm_count.2.1 96 = .ok (.ireturn, 1) := by decide +kernel
theorem dd_count_97 : decode mm_count.2.1 97 = .ok (.aload_n 0, 1) := by decide +kernel
theorem dd_count_98 : decode mm_count.2.1 98 = .ok (.invokevirtual 335, 3) := by decide +kernel
theorem dd_count_101 : decode mm_count.2.1 101 = .ok (.ireturn, 1) := by decide +kernel
theorem dd_count_102 : decode mm_count.2.1 102 = .ok (.aload_n 0, 1) := by decide +kernel
theorem dd_count_103 : decode mm_count.2.1 103 = .ok (.invokevirtual 338, 3) := by decide +kernel
theorem dd_count_106 : decode mm_count.2.1 106 = .ok (.ireturn, 1) := by decide +kernel
theorem dd_count_107 : decode mm_count.2.1 107 = .ok (.aload_n 0, 1) := by decide +kernel
theorem dd_count_108 : decode mm_count.2.1 108 = .ok (.getfield 125, 3) := by decide +kernel
theorem dd_count_111 : decode mm_count.2.1 111 = .ok (.iconst 0, 1) := by decide +kernel
theorem dd_count_112 : decode mm_count.2.1 112 = .ok (.iaload, 1) := by decide +kernel
theorem dd_count_113 : decode mm_count.2.1 113 = .ok (.ireturn, 1) := by decide +kernel
theorem dd_count_114 : decode mm_count.2.1 114 = .ok (.aload_n 0, 1) := by decide +kernel
theorem dd_count_115 : decode mm_count.2.1 115 = .ok (.getfield 125, 3) := by decide +kernel
theorem dd_count_118 : decode mm_count.2.1 118 = .ok (.iconst 1, 1) := by decide +kernel
theorem dd_count_119 : decode mm_count.2.1 119 = .ok (.iaload, 1) := by decide +kernel
theorem dd_count_120 : decode mm_count.2.1 120 = .ok (.invokestatic 435, 3) := by decide +kernel
theorem dd_count_124 : decode mm_count.2.1 124 = .ok (.iload_n 2, 1) := by decide +kernel
theorem dd_count_125 : decode mm_count.2.1 125 = .ok (.ireturn, 1) := by decide +kernel
theorem dd_count_126 : decode mm_count.2.1 126 = .ok (.aload_n 0, 1) := by decide +kernel
theorem dd_count_127 : decode mm_count.2.1 127 = .ok (.getfield 116, 3) := by decide +kernel
theorem dd_count_130 : decode mm_count.2.1 130 = .ok (.iconst 0, 1) := by decide +kernel
theorem dd_count_131 : decode mm_count.2.1 131 = .ok (.iaload, 1) := by decide +kernel
theorem dd_count_132 : decode mm_count.2.1 132 = .ok (.ireturn, 1) := by decide +kernel
theorem dd_count_133 : decode mm_count.2.1 133 = .ok (.aload_n 0, 1) := by decide +kernel
theorem dd_count_134 : decode mm_count.2.1 134 = .ok (.getfield 125, 3) := by decide +kernel
theorem dd_count_137 : decode mm_count.2.1 137 = .ok (.bipush 34, 2) := by decide +kernel
theorem dd_count_139 : decode mm_count.2.1 139 = .ok (.iaload, 1) := by decide +kernel
theorem dd_count_140 : decode mm_count.2.1 140 = .ok (.ireturn, 1) := by decide +kernel
theorem dd_count_141 : decode mm_count.2.1 141 = .ok (.aload_n 0, 1) := by decide +kernel
theorem dd_count_142 : decode mm_count.2.1 142 = .ok (.getfield 322, 3) := by decide +kernel
theorem dd_count_145 : decode mm_count.2.1 145 = .ok (.ireturn, 1) := by decide +kernel
theorem dd_count_146 : decode mm_count.2.1 146 = .ok (.aload_n 0, 1) := by decide +kernel
theorem dd_count_147 : decode mm_count.2.1 147 = .ok (.getfield 11, 3) := by decide +kernel
theorem dd_count_150 : decode mm_count.2.1 150 = .ok (.ireturn, 1) := by decide +kernel
theorem dd_count_151 : decode mm_count.2.1 151 = .ok (.iconst (-1), 1) := by decide +kernel
theorem dd_count_152 : decode mm_count.2.1 152 = .ok (.ireturn, 1) := by decide +kernel
theorem dd_count_17 : decode mm_count.2.1 17 = .ok (.iload_n 2, 1) := by decide +kernel
theorem dd_count_18 : decode mm_count.2.1 18 = .ok (.aload_n 0, 1) := by decide +kernel
theorem dd_count_19 : decode mm_count.2.1 19 = .ok (.getfield 125, 3) := by decide +kernel
theorem dd_count_22 : decode mm_count.2.1 22 = .ok (.bipush 8, 2) := by decide +kernel
theorem dd_count_24 : decode mm_count.2.1 24 = .ok (.iload_n 3, 1) := by decide +kernel
theorem dd_count_25 : decode mm_count.2.1 25 = .ok (.iadd, 1) := by decide +kernel
theorem dd_count_26 : decode mm_count.2.1 26 = .ok (.iaload, 1) := by decide +kernel
theorem dd_count_27 : decode mm_count.2.1 27 = .ok (.iadd, 1) := by decide +kernel
theorem dd_count_28 : decode mm_count.2.1 28 = .ok (.istore_n 2, 1) := by decide +kernel
theorem dd_count_29 : decode mm_count.2.1 29 = .ok (.iinc 3 1, 3) := by decide +kernel
theorem dd_count_32 : decode mm_count.2.1 32 = .ok (.goto (-23), 3) := by decide +kernel
theorem dd_count_123 : decode mm_count.2.1 123 = .ok (.ireturn, 1) := by decide +kernel
theorem B_OneSided_judged_0 {xs : Nat → Int} {xl e : Nat} {h : LH} {Q : Option LV → LH → Prop} {v1 : Int} {q : Int} (hq : q = 5 ∨ q = 32) (hQ : rd h 1 ((1 : Nat) : Int) = q) (hF : RF h) (he : 1 ≤ e)
    (k : (v1 = (-1) →
        (∃ c, c < e ∧ Rn xs xl c mm_Scene_begin 0 [some (.inr (.inr 68)), some (.inr (.inr q)), none, none] [] h (fun r h' => Rn xs xl e mm_OneSided_judged 32 [some (.inr (.inr 1)), some (.inl v1), some (.inr (.inr 68)), none] (r.toList ++ []) h' Q))) ∧
      (v1 ≠ (-1) →
        (v1 < 0 →
          Q (some (.inl (-2))) h) ∧
        (0 ≤ v1 →
          ((rd h q 4) ≤ v1 →
            Q (some (.inl (-2))) h) ∧
          (v1 < (rd h q 4) →
            (∃ c, c < e ∧ Rn xs xl c mm_Scene_begin 0 [some (.inr (.inr 68)), some (.inr (.inr q)), none, none] [] h (fun r h' => Rn xs xl e mm_OneSided_judged 32 [some (.inr (.inr 1)), some (.inl v1), some (.inr (.inr 68)), none] (r.toList ++ []) h' Q)))))) :
    Rn xs xl e mm_OneSided_judged 0 [some (.inr (.inr 1)), some (.inl v1), none, none] [] h Q := by
  refine R_ld (v := .inl v1) dd_OneSided_judged_0 rfl rfl rfl rfl ?_
  refine R_ic dd_OneSided_judged_1 (by decide) rfl ?_
  refine R_icmp dd_OneSided_judged_2 rfl rfl (fun (c3 : v1 = (-1)) => ?_) (fun (c3 : v1 ≠ (-1)) => ?_)
  · replace k := k.1 c3
    refine R_ld (v := .inr (.inr 1)) dd_OneSided_judged_16 rfl rfl rfl rfl ?_
    refine R_gf (v := .inr (.inr 67)) dd_OneSided_judged_17 fd_11_33 io_1 (congrArg (fun z : Int => (Sum.inr (Sum.inr z) : LV)) (rf_1_4 hF)) rfl ?_
    refine R_gf (v := .inr (.inr 68)) dd_OneSided_judged_20 fd_11_149 io_67 (congrArg (fun z : Int => (Sum.inr (Sum.inr z) : LV)) (rf_67_0 hF)) rfl ?_
    refine R_st (ls' := [some (.inr (.inr 1)), some (.inl v1), some (.inr (.inr 68)), none]) dd_OneSided_judged_23 rfl rfl rfl (Nat.le_of_ble_eq_true rfl) rfl rfl ?_
    refine R_ld (v := .inr (.inr 68)) dd_OneSided_judged_24 rfl rfl rfl rfl ?_
    refine R_ld (v := .inr (.inr 1)) dd_OneSided_judged_25 rfl rfl rfl rfl ?_
    refine R_gf (v := .inr (.inr q)) dd_OneSided_judged_26 fd_11_19 io_1 (congrArg (fun z : Int => (Sum.inr (Sum.inr z) : LV)) hQ) rfl ?_
    obtain ⟨c, hc, k⟩ := k
    exact R_call (as := [.inr (.inr 68), .inr (.inr q)]) (rest := []) (M' := mm_Scene_begin) (ls0 := [some (.inr (.inr 68)), some (.inr (.inr q)), none, none]) dd_OneSided_judged_29 rfl rfl (cw_v cw_11_228 io_68 rfl rfl (Nat.le_of_ble_eq_true rfl) (Nat.le_of_ble_eq_true rfl)) mt_Scene_begin rfl hc rfl k
  · replace k := k.2 c3
    refine R_ld (v := .inr (.inr 1)) dd_OneSided_judged_5 rfl rfl rfl rfl ?_
    refine R_ld (v := .inl v1) dd_OneSided_judged_6 rfl rfl rfl rfl ?_
    refine R_call (as := [.inr (.inr 1), .inl v1]) (rest := []) (M' := mm_OneSided_isPerson) (ls0 := [some (.inr (.inr 1)), some (.inl v1)]) dd_OneSided_judged_7 rfl rfl (cw_v cw_11_160 io_1 rfl rfl (Nat.le_of_ble_eq_true rfl) (Nat.le_of_ble_eq_true rfl)) mt_OneSided_isPerson rfl (c := e - 1) (by omega) rfl ?_
    refine R_ld (v := .inl v1) dd_OneSided_isPerson_0 rfl rfl rfl rfl ?_
    refine R_if dd_OneSided_isPerson_1 rfl rfl (fun (c4 : v1 < 0) => ?_) (fun (c4 : 0 ≤ v1) => ?_)
    · replace k := k.1 c4
      refine R_ic dd_OneSided_isPerson_19 (by decide) rfl ?_
      refine R_zret dd_OneSided_isPerson_20 rfl (by decide) ?_
      change Rn xs xl e mm_OneSided_judged 10 [some (.inr (.inr 1)), some (.inl v1), none, none] [.inl 0] h _
      refine R_if dd_OneSided_judged_10 rfl rfl (fun (c5 : 0 ≠ 0) => ?_) (fun (c5 : 0 = 0) => ?_)
      · exact absurd c5 (by omega)
      · skip
        refine R_bi dd_OneSided_judged_13 (by decide) rfl ?_
        exact R_iret dd_OneSided_judged_15 rfl k
    · replace k := k.2 c4
      refine R_ld (v := .inl v1) dd_OneSided_isPerson_4 rfl rfl rfl rfl ?_
      refine R_ld (v := .inr (.inr 1)) dd_OneSided_isPerson_5 rfl rfl rfl rfl ?_
      refine R_gf (v := .inr (.inr q)) dd_OneSided_isPerson_6 fd_11_19 io_1 (congrArg (fun z : Int => (Sum.inr (Sum.inr z) : LV)) hQ) rfl ?_
      refine R_gf (v := .inl (rd h q 4)) dd_OneSided_isPerson_9 fd_11_254 (io_q hq) (congrArg (fun z : Int => (Sum.inl z : LV)) (rfl)) rfl ?_
      refine R_icmp dd_OneSided_isPerson_12 rfl rfl (fun (c6 : (rd h q 4) ≤ v1) => ?_) (fun (c6 : v1 < (rd h q 4)) => ?_)
      · replace k := k.1 c6
        refine R_ic dd_OneSided_isPerson_19 (by decide) rfl ?_
        refine R_zret dd_OneSided_isPerson_20 rfl (by decide) ?_
        change Rn xs xl e mm_OneSided_judged 10 [some (.inr (.inr 1)), some (.inl v1), none, none] [.inl 0] h _
        refine R_if dd_OneSided_judged_10 rfl rfl (fun (c7 : 0 ≠ 0) => ?_) (fun (c7 : 0 = 0) => ?_)
        · exact absurd c7 (by omega)
        · skip
          refine R_bi dd_OneSided_judged_13 (by decide) rfl ?_
          exact R_iret dd_OneSided_judged_15 rfl k
      · replace k := k.2 c6
        refine R_ic dd_OneSided_isPerson_15 (by decide) rfl ?_
        refine R_goto dd_OneSided_isPerson_16 rfl ?_
        refine R_zret dd_OneSided_isPerson_20 rfl (by decide) ?_
        change Rn xs xl e mm_OneSided_judged 10 [some (.inr (.inr 1)), some (.inl v1), none, none] [.inl 1] h _
        refine R_if dd_OneSided_judged_10 rfl rfl (fun (c8 : 1 ≠ 0) => ?_) (fun (c8 : 1 = 0) => ?_)
        · skip
          refine R_ld (v := .inr (.inr 1)) dd_OneSided_judged_16 rfl rfl rfl rfl ?_
          refine R_gf (v := .inr (.inr 67)) dd_OneSided_judged_17 fd_11_33 io_1 (congrArg (fun z : Int => (Sum.inr (Sum.inr z) : LV)) (rf_1_4 hF)) rfl ?_
          refine R_gf (v := .inr (.inr 68)) dd_OneSided_judged_20 fd_11_149 io_67 (congrArg (fun z : Int => (Sum.inr (Sum.inr z) : LV)) (rf_67_0 hF)) rfl ?_
          refine R_st (ls' := [some (.inr (.inr 1)), some (.inl v1), some (.inr (.inr 68)), none]) dd_OneSided_judged_23 rfl rfl rfl (Nat.le_of_ble_eq_true rfl) rfl rfl ?_
          refine R_ld (v := .inr (.inr 68)) dd_OneSided_judged_24 rfl rfl rfl rfl ?_
          refine R_ld (v := .inr (.inr 1)) dd_OneSided_judged_25 rfl rfl rfl rfl ?_
          refine R_gf (v := .inr (.inr q)) dd_OneSided_judged_26 fd_11_19 io_1 (congrArg (fun z : Int => (Sum.inr (Sum.inr z) : LV)) hQ) rfl ?_
          obtain ⟨c, hc, k⟩ := k
          exact R_call (as := [.inr (.inr 68), .inr (.inr q)]) (rest := []) (M' := mm_Scene_begin) (ls0 := [some (.inr (.inr 68)), some (.inr (.inr q)), none, none]) dd_OneSided_judged_29 rfl rfl (cw_v cw_11_228 io_68 rfl rfl (Nat.le_of_ble_eq_true rfl) (Nat.le_of_ble_eq_true rfl)) mt_Scene_begin rfl hc rfl k
        · exact absurd c8 (by omega)
theorem B_OneSided_judged_32 {xs : Nat → Int} {xl e : Nat} {h : LH} {Q : Option LV → LH → Prop} {v1 : Int} {q : Int} (hq : q = 5 ∨ q = 32) (hQ : rd h 1 ((1 : Nat) : Int) = q) (hF : RF h)
    (k : (∃ c, c < e ∧ Rn xs xl c mm_Memory_playDay 0 [some (.inr (.inr 59)), some (.inr (.inr q)), some (.inr (.inr 68)), none, none] [] h (fun r h' => Rn xs xl e mm_OneSided_judged 44 [some (.inr (.inr 1)), some (.inl v1), some (.inr (.inr 68)), none] (r.toList ++ []) h' Q))) :
    Rn xs xl e mm_OneSided_judged 32 [some (.inr (.inr 1)), some (.inl v1), some (.inr (.inr 68)), none] [] h Q := by
  refine R_ld (v := .inr (.inr 1)) dd_OneSided_judged_32 rfl rfl rfl rfl ?_
  refine R_gf (v := .inr (.inr 59)) dd_OneSided_judged_33 fd_11_29 io_1 (congrArg (fun z : Int => (Sum.inr (Sum.inr z) : LV)) (rf_1_3 hF)) rfl ?_
  refine R_ld (v := .inr (.inr 1)) dd_OneSided_judged_36 rfl rfl rfl rfl ?_
  refine R_gf (v := .inr (.inr q)) dd_OneSided_judged_37 fd_11_19 io_1 (congrArg (fun z : Int => (Sum.inr (Sum.inr z) : LV)) hQ) rfl ?_
  refine R_ld (v := .inr (.inr 68)) dd_OneSided_judged_40 rfl rfl rfl rfl ?_
  obtain ⟨c, hc, k⟩ := k
  exact R_call (as := [.inr (.inr 59), .inr (.inr q), .inr (.inr 68)]) (rest := []) (M' := mm_Memory_playDay) (ls0 := [some (.inr (.inr 59)), some (.inr (.inr q)), some (.inr (.inr 68)), none, none]) dd_OneSided_judged_41 rfl rfl (cw_v cw_11_229 io_59 rfl rfl (Nat.le_of_ble_eq_true rfl) (Nat.le_of_ble_eq_true rfl)) mt_Memory_playDay rfl hc rfl k
theorem B_OneSided_judged_44 {xs : Nat → Int} {xl e : Nat} {h : LH} {Q : Option LV → LH → Prop} {v1 w0 : Int} {q : Int} (hq : q = 5 ∨ q = 32) (hQ : rd h 1 ((1 : Nat) : Int) = q) (hF : RF h)
    (k : (v1 ≠ (-1) →
        (0 ≤ v1 ∧ v1 < 6) ∧
        Q (some (.inl (rd h 69 v1))) h) ∧
      (v1 = (-1) →
        Q (some (.inl w0)) h)) :
    Rn xs xl e mm_OneSided_judged 44 [some (.inr (.inr 1)), some (.inl v1), some (.inr (.inr 68)), none] [.inl w0] h Q := by
  refine R_st (ls' := [some (.inr (.inr 1)), some (.inl v1), some (.inr (.inr 68)), some (.inl w0)]) dd_OneSided_judged_44 rfl rfl rfl (Nat.le_of_ble_eq_true rfl) rfl rfl ?_
  refine R_ld (v := .inl v1) dd_OneSided_judged_45 rfl rfl rfl rfl ?_
  refine R_ic dd_OneSided_judged_46 (by decide) rfl ?_
  refine R_icmp dd_OneSided_judged_47 rfl rfl (fun (c2 : v1 ≠ (-1)) => ?_) (fun (c2 : v1 = (-1)) => ?_)
  · replace k := k.1 c2
    refine R_ld (v := .inr (.inr 68)) dd_OneSided_judged_54 rfl rfl rfl rfl ?_
    refine R_gf (v := .inr (.inr 69)) dd_OneSided_judged_55 fd_11_181 io_68 (congrArg (fun z : Int => (Sum.inr (Sum.inr z) : LV)) (rf_68_4 hF)) rfl ?_
    refine R_ld (v := .inl v1) dd_OneSided_judged_58 rfl rfl rfl rfl ?_
    obtain ⟨s1, k⟩ := k
    refine R_iald (v := (rd h 69 v1)) (n := 6) dd_OneSided_judged_59 ia_69 la_69 s1 (rfl) rfl ?_
    exact R_iret dd_OneSided_judged_60 rfl k
  · replace k := k.2 c2
    refine R_ld (v := .inl w0) dd_OneSided_judged_50 rfl rfl rfl rfl ?_
    refine R_goto dd_OneSided_judged_51 rfl ?_
    exact R_iret dd_OneSided_judged_60 rfl k
theorem B_OneSided_count_0 {xs : Nat → Int} {xl e : Nat} {h : LH} {Q : Option LV → LH → Prop} {v1 : Int} {q : Int} (hq : q = 5 ∨ q = 32) (hQ : rd h 1 ((1 : Nat) : Int) = q) (hF : RF h)
    (k : (v1 = 0 →
        Q (some (.inl (rd h q 0))) h) ∧
      (v1 = 1 →
        Q (some (.inl (rd h q 2))) h) ∧
      (v1 = 2 →
        Q (some (.inl (rd h q 4))) h) ∧
      (v1 = 3 →
        Q (some (.inl (rd h 60 0))) h) ∧
      (v1 = 4 →
        (∃ c, c < e ∧ Rn xs xl c mm_java_lang_Integer_bitCount 0 [some (.inl (rd h 60 1))] [] h (fun r h' => Rn xs xl e mm_OneSided_count 104 [some (.inr (.inr 1)), some (.inl v1)] (r.toList ++ []) h' Q))) ∧
      (v1 = 5 →
        (∃ c, c < e ∧ Rn xs xl c mm_java_lang_Integer_bitCount 0 [some (.inl (rd h 60 3))] [] h (fun r h' => Rn xs xl e mm_OneSided_count 118 [some (.inr (.inr 1)), some (.inl v1)] (r.toList ++ []) h' Q))) ∧
      (v1 = 6 →
        Q (some (.inl (rd h 59 1))) h) ∧
      (v1 = 7 →
        Q (some (.inl (rd h 59 4))) h) ∧
      (v1 = 8 →
        Q (some (.inl (rd h 1 9))) h) ∧
      (v1 = 9 →
        Q (some (.inl (rd h 2 0))) h) ∧
      (v1 < 0 ∨ 9 < v1 →
        Q (some (.inl (-1))) h)) :
    Rn xs xl e mm_OneSided_count 0 [some (.inr (.inr 1)), some (.inl v1)] [] h Q := by
  refine R_ld (v := .inl v1) dd_OneSided_count_0 rfl rfl rfl rfl ?_
  rcases (show (v1 = 0) ∨ (v1 = 1) ∨ (v1 = 2) ∨ (v1 = 3) ∨ (v1 = 4) ∨ (v1 = 5) ∨ (v1 = 6) ∨ (v1 = 7) ∨ (v1 = 8) ∨ (v1 = 9) ∨ (v1 < 0 ∨ 9 < v1) by omega) with c3 | c3 | c3 | c3 | c3 | c3 | c3 | c3 | c3 | c3 | c3
  · replace k := k.1 c3
    refine R_swj (v := 0) dd_OneSided_count_1 c3 (by decide) rfl rfl ?_
    refine R_ld (v := .inr (.inr 1)) dd_OneSided_count_56 rfl rfl rfl rfl ?_
    refine R_gf (v := .inr (.inr q)) dd_OneSided_count_57 fd_11_19 io_1 (congrArg (fun z : Int => (Sum.inr (Sum.inr z) : LV)) hQ) rfl ?_
    refine R_gf (v := .inl (rd h q 0)) dd_OneSided_count_60 fd_11_267 (io_q hq) (congrArg (fun z : Int => (Sum.inl z : LV)) (rfl)) rfl ?_
    exact R_iret dd_OneSided_count_63 rfl k
  · replace k := k.2.1 c3
    refine R_swj (v := 1) dd_OneSided_count_1 c3 (by decide) rfl rfl ?_
    refine R_ld (v := .inr (.inr 1)) dd_OneSided_count_64 rfl rfl rfl rfl ?_
    refine R_gf (v := .inr (.inr q)) dd_OneSided_count_65 fd_11_19 io_1 (congrArg (fun z : Int => (Sum.inr (Sum.inr z) : LV)) hQ) rfl ?_
    refine R_gf (v := .inl (rd h q 2)) dd_OneSided_count_68 fd_11_345 (io_q hq) (congrArg (fun z : Int => (Sum.inl z : LV)) (rfl)) rfl ?_
    exact R_iret dd_OneSided_count_71 rfl k
  · replace k := k.2.2.1 c3
    refine R_swj (v := 2) dd_OneSided_count_1 c3 (by decide) rfl rfl ?_
    refine R_ld (v := .inr (.inr 1)) dd_OneSided_count_72 rfl rfl rfl rfl ?_
    refine R_gf (v := .inr (.inr q)) dd_OneSided_count_73 fd_11_19 io_1 (congrArg (fun z : Int => (Sum.inr (Sum.inr z) : LV)) hQ) rfl ?_
    refine R_gf (v := .inl (rd h q 4)) dd_OneSided_count_76 fd_11_254 (io_q hq) (congrArg (fun z : Int => (Sum.inl z : LV)) (rfl)) rfl ?_
    exact R_iret dd_OneSided_count_79 rfl k
  · replace k := k.2.2.2.1 c3
    refine R_swj (v := 3) dd_OneSided_count_1 c3 (by decide) rfl rfl ?_
    refine R_ld (v := .inr (.inr 1)) dd_OneSided_count_80 rfl rfl rfl rfl ?_
    refine R_gf (v := .inr (.inr 59)) dd_OneSided_count_81 fd_11_29 io_1 (congrArg (fun z : Int => (Sum.inr (Sum.inr z) : LV)) (rf_1_3 hF)) rfl ?_
    refine R_gf (v := .inr (.inr 60)) dd_OneSided_count_84 fd_11_149 io_59 (congrArg (fun z : Int => (Sum.inr (Sum.inr z) : LV)) (rf_59_0 hF)) rfl ?_
    refine R_gf (v := .inl (rd h 60 0)) dd_OneSided_count_87 fd_11_216 io_60 (congrArg (fun z : Int => (Sum.inl z : LV)) (rfl)) rfl ?_
    exact R_iret dd_OneSided_count_90 rfl k
  · replace k := k.2.2.2.2.1 c3
    refine R_swj (v := 4) dd_OneSided_count_1 c3 (by decide) rfl rfl ?_
    refine R_ld (v := .inr (.inr 1)) dd_OneSided_count_91 rfl rfl rfl rfl ?_
    refine R_gf (v := .inr (.inr 59)) dd_OneSided_count_92 fd_11_29 io_1 (congrArg (fun z : Int => (Sum.inr (Sum.inr z) : LV)) (rf_1_3 hF)) rfl ?_
    refine R_gf (v := .inr (.inr 60)) dd_OneSided_count_95 fd_11_149 io_59 (congrArg (fun z : Int => (Sum.inr (Sum.inr z) : LV)) (rf_59_0 hF)) rfl ?_
    refine R_gf (v := .inl (rd h 60 1)) dd_OneSided_count_98 fd_11_153 io_60 (congrArg (fun z : Int => (Sum.inl z : LV)) (rfl)) rfl ?_
    obtain ⟨c, hc, k⟩ := k
    exact R_call (as := [.inl (rd h 60 1)]) (rest := []) (M' := mm_java_lang_Integer_bitCount) (ls0 := [some (.inl (rd h 60 1))]) dd_OneSided_count_101 rfl rfl (cw_s cw_11_340 rfl rfl (Nat.le_of_ble_eq_true rfl) (Nat.le_of_ble_eq_true rfl)) mt_java_lang_Integer_bitCount rfl hc rfl k
  · replace k := k.2.2.2.2.2.1 c3
    refine R_swj (v := 5) dd_OneSided_count_1 c3 (by decide) rfl rfl ?_
    refine R_ld (v := .inr (.inr 1)) dd_OneSided_count_105 rfl rfl rfl rfl ?_
    refine R_gf (v := .inr (.inr 59)) dd_OneSided_count_106 fd_11_29 io_1 (congrArg (fun z : Int => (Sum.inr (Sum.inr z) : LV)) (rf_1_3 hF)) rfl ?_
    refine R_gf (v := .inr (.inr 60)) dd_OneSided_count_109 fd_11_149 io_59 (congrArg (fun z : Int => (Sum.inr (Sum.inr z) : LV)) (rf_59_0 hF)) rfl ?_
    refine R_gf (v := .inl (rd h 60 3)) dd_OneSided_count_112 fd_11_184 io_60 (congrArg (fun z : Int => (Sum.inl z : LV)) (rfl)) rfl ?_
    obtain ⟨c, hc, k⟩ := k
    exact R_call (as := [.inl (rd h 60 3)]) (rest := []) (M' := mm_java_lang_Integer_bitCount) (ls0 := [some (.inl (rd h 60 3))]) dd_OneSided_count_115 rfl rfl (cw_s cw_11_340 rfl rfl (Nat.le_of_ble_eq_true rfl) (Nat.le_of_ble_eq_true rfl)) mt_java_lang_Integer_bitCount rfl hc rfl k
  · replace k := k.2.2.2.2.2.2.1 c3
    refine R_swj (v := 6) dd_OneSided_count_1 c3 (by decide) rfl rfl ?_
    refine R_ld (v := .inr (.inr 1)) dd_OneSided_count_119 rfl rfl rfl rfl ?_
    refine R_gf (v := .inr (.inr 59)) dd_OneSided_count_120 fd_11_29 io_1 (congrArg (fun z : Int => (Sum.inr (Sum.inr z) : LV)) (rf_1_3 hF)) rfl ?_
    refine R_gf (v := .inl (rd h 59 1)) dd_OneSided_count_123 fd_11_354 io_59 (congrArg (fun z : Int => (Sum.inl z : LV)) (rfl)) rfl ?_
    exact R_iret dd_OneSided_count_126 rfl k
  · replace k := k.2.2.2.2.2.2.2.1 c3
    refine R_swj (v := 7) dd_OneSided_count_1 c3 (by decide) rfl rfl ?_
    refine R_ld (v := .inr (.inr 1)) dd_OneSided_count_127 rfl rfl rfl rfl ?_
    refine R_gf (v := .inr (.inr 59)) dd_OneSided_count_128 fd_11_29 io_1 (congrArg (fun z : Int => (Sum.inr (Sum.inr z) : LV)) (rf_1_3 hF)) rfl ?_
    refine R_gf (v := .inl (rd h 59 4)) dd_OneSided_count_131 fd_11_357 io_59 (congrArg (fun z : Int => (Sum.inl z : LV)) (rfl)) rfl ?_
    exact R_iret dd_OneSided_count_134 rfl k
  · replace k := k.2.2.2.2.2.2.2.2.1 c3
    refine R_swj (v := 8) dd_OneSided_count_1 c3 (by decide) rfl rfl ?_
    refine R_ld (v := .inr (.inr 1)) dd_OneSided_count_135 rfl rfl rfl rfl ?_
    refine R_gf (v := .inl (rd h 1 9)) dd_OneSided_count_136 fd_11_104 io_1 (congrArg (fun z : Int => (Sum.inl z : LV)) (rfl)) rfl ?_
    exact R_iret dd_OneSided_count_139 rfl k
  · replace k := k.2.2.2.2.2.2.2.2.2.1 c3
    refine R_swj (v := 9) dd_OneSided_count_1 c3 (by decide) rfl rfl ?_
    refine R_ld (v := .inr (.inr 1)) dd_OneSided_count_140 rfl rfl rfl rfl ?_
    refine R_gf (v := .inr (.inr 2)) dd_OneSided_count_141 fd_11_10 io_1 (congrArg (fun z : Int => (Sum.inr (Sum.inr z) : LV)) (rf_1_0 hF)) rfl ?_
    refine R_gf (v := .inl (rd h 2 0)) dd_OneSided_count_144 fd_11_86 io_2 (congrArg (fun z : Int => (Sum.inl z : LV)) (rfl)) rfl ?_
    exact R_iret dd_OneSided_count_147 rfl k
  · replace k := k.2.2.2.2.2.2.2.2.2.2 c3
    refine R_swd dd_OneSided_count_1 c3 rfl ?_
    refine R_ic dd_OneSided_count_148 (by decide) rfl ?_
    exact R_iret dd_OneSided_count_149 rfl k
theorem B_OneSided_count_104 {xs : Nat → Int} {xl e : Nat} {h : LH} {Q : Option LV → LH → Prop} {v1 w0 : Int} (hF : RF h)
    (k : Q (some (.inl w0)) h) :
    Rn xs xl e mm_OneSided_count 104 [some (.inr (.inr 1)), some (.inl v1)] [.inl w0] h Q := by
  exact R_iret dd_OneSided_count_104 rfl k
theorem B_OneSided_count_118 {xs : Nat → Int} {xl e : Nat} {h : LH} {Q : Option LV → LH → Prop} {v1 w0 : Int} (hF : RF h)
    (k : Q (some (.inl w0)) h) :
    Rn xs xl e mm_OneSided_count 118 [some (.inr (.inr 1)), some (.inl v1)] [.inl w0] h Q := by
  exact R_iret dd_OneSided_count_118 rfl k
theorem B_count_0 {xs : Nat → Int} {xl e : Nat} {h : LH} {Q : Option LV → LH → Prop} {v1 : Int} (hF : RF h)
    (k : Rn xs xl e mm_count 9 [some (.inr (.inr 182)), some (.inl v1), some (.inl 0), some (.inl 0)] [] (wr h 182 0 0) Q) :
    Rn xs xl e mm_count 0 [some (.inr (.inr 182)), some (.inl v1), none, none] [] h Q := by
  refine R_ld (v := .inr (.inr 182)) dd_count_0 rfl rfl rfl rfl ?_
  refine R_ic dd_count_1 (by decide) rfl ?_
  refine R_pf (z := 0) dd_count_2 fd_12_1 io_182 fn_12_0 rfl rfl ?_
  refine R_ic dd_count_5 (by decide) rfl ?_
  refine R_st (ls' := [some (.inr (.inr 182)), some (.inl v1), some (.inl 0), none]) dd_count_6 rfl rfl rfl (Nat.le_of_ble_eq_true rfl) rfl rfl ?_
  refine R_ic dd_count_7 (by decide) rfl ?_
  refine R_st (ls' := [some (.inr (.inr 182)), some (.inl v1), some (.inl 0), some (.inl 0)]) dd_count_8 rfl rfl rfl (Nat.le_of_ble_eq_true rfl) rfl rfl ?_
  exact k
theorem B_count_9 {xs : Nat → Int} {xl e : Nat} {h : LH} {Q : Option LV → LH → Prop} {v1 v2 v3 : Int} (hF : RF h) (r_v3 : 0 ≤ v3 ∧ v3 ≤ 6) (he : 1 ≤ e)
    (k : ((rd h 188 2) ≤ v3 →
        (v1 = 0 →
          Q (some (.inl (rd h 188 0))) h) ∧
        (v1 = 1 →
          Q (some (.inl (rd h 188 1))) h) ∧
        (v1 = 2 →
          Q (some (.inl (rd h 188 2))) h) ∧
        (v1 = 3 →
          Q (some (.inl (rd h 198 0))) h) ∧
        (v1 = 4 →
          (∃ c, c < e ∧ Rn xs xl c mm_bits 0 [some (.inl (rd h 198 1)), none, none] [] h (fun r h' => Rn xs xl e mm_count 123 [some (.inr (.inr 182)), some (.inl v1), some (.inl v2), some (.inl v3)] (r.toList ++ []) h' Q))) ∧
        (v1 = 5 →
          Q (some (.inl v2)) h) ∧
        (v1 = 6 →
          Q (some (.inl (rd h 195 0))) h) ∧
        (v1 = 7 →
          Q (some (.inl (rd h 198 34))) h) ∧
        (v1 = 8 →
          Q (some (.inl (rd h 182 25))) h) ∧
        (v1 = 9 →
          Q (some (.inl (rd h 182 2))) h) ∧
        (v1 < 0 ∨ 9 < v1 →
          Q (some (.inl (-1))) h)) ∧
      (v3 < (rd h 188 2) →
        (-2147483648 ≤ v2 + (rd h 198 (v3 + 8)) ∧ v2 + (rd h 198 (v3 + 8)) ≤ 2147483647) ∧
        Rn xs xl e mm_count 9 [some (.inr (.inr 182)), some (.inl v1), some (.inl (v2 + (rd h 198 (v3 + 8)))), some (.inl (v3 + 1))] [] h Q)) :
    Rn xs xl e mm_count 9 [some (.inr (.inr 182)), some (.inl v1), some (.inl v2), some (.inl v3)] [] h Q := by
  refine R_ld (v := .inl v3) dd_count_9 rfl rfl rfl rfl ?_
  refine R_ld (v := .inr (.inr 182)) dd_count_10 rfl rfl rfl rfl ?_
  refine R_call (as := [.inr (.inr 182)]) (rest := [.inl v3]) (M' := mm_people) (ls0 := [some (.inr (.inr 182))]) dd_count_11 rfl rfl (cw_v cw_12_338 io_182 rfl rfl (Nat.le_of_ble_eq_true rfl) (Nat.le_of_ble_eq_true rfl)) mt_people rfl (c := e - 1) (by omega) rfl ?_
  refine R_ld (v := .inr (.inr 182)) dd_people_0 rfl rfl rfl rfl ?_
  refine R_gf (v := .inr (.inr 188)) dd_people_1 fd_12_95 io_182 (congrArg (fun z : Int => (Sum.inr (Sum.inr z) : LV)) (rf_182_10 hF)) rfl ?_
  refine R_ic dd_people_4 (by decide) rfl ?_
  refine R_iald (v := (rd h 188 2)) (n := 300) dd_people_5 ia_188 la_188 (by decide) (rfl) rfl ?_
  refine R_iret dd_people_6 rfl ?_
  change Rn xs xl e mm_count 14 [some (.inr (.inr 182)), some (.inl v1), some (.inl v2), some (.inl v3)] [.inl (rd h 188 2), .inl v3] h _
  refine R_icmp dd_count_14 rfl rfl (fun (c3 : (rd h 188 2) ≤ v3) => ?_) (fun (c3 : v3 < (rd h 188 2)) => ?_)
  · replace k := k.1 c3
    refine R_ld (v := .inl v1) dd_count_35 rfl rfl rfl rfl ?_
    rcases (show (v1 = 0) ∨ (v1 = 1) ∨ (v1 = 2) ∨ (v1 = 3) ∨ (v1 = 4) ∨ (v1 = 5) ∨ (v1 = 6) ∨ (v1 = 7) ∨ (v1 = 8) ∨ (v1 = 9) ∨ (v1 < 0 ∨ 9 < v1) by omega) with c4 | c4 | c4 | c4 | c4 | c4 | c4 | c4 | c4 | c4 | c4
    · replace k := k.1 c4
      refine R_swj (v := 0) dd_count_36 c4 (by decide) rfl rfl ?_
      refine R_ld (v := .inr (.inr 182)) dd_count_92 rfl rfl rfl rfl ?_
      refine R_call (as := [.inr (.inr 182)]) (rest := []) (M' := mm_rooms) (ls0 := [some (.inr (.inr 182))]) dd_count_93 rfl rfl (cw_v cw_12_332 io_182 rfl rfl (Nat.le_of_ble_eq_true rfl) (Nat.le_of_ble_eq_true rfl)) mt_rooms rfl (c := e - 1) (by omega) rfl ?_
      refine R_ld (v := .inr (.inr 182)) dd_rooms_0 rfl rfl rfl rfl ?_
      refine R_gf (v := .inr (.inr 188)) dd_rooms_1 fd_12_95 io_182 (congrArg (fun z : Int => (Sum.inr (Sum.inr z) : LV)) (rf_182_10 hF)) rfl ?_
      refine R_ic dd_rooms_4 (by decide) rfl ?_
      refine R_iald (v := (rd h 188 0)) (n := 300) dd_rooms_5 ia_188 la_188 (by decide) (rfl) rfl ?_
      refine R_iret dd_rooms_6 rfl ?_
      change Rn xs xl e mm_count 96 [some (.inr (.inr 182)), some (.inl v1), some (.inl v2), some (.inl v3)] [.inl (rd h 188 0)] h _
      exact R_iret dd_count_96 rfl k
    · replace k := k.2.1 c4
      refine R_swj (v := 1) dd_count_36 c4 (by decide) rfl rfl ?_
      refine R_ld (v := .inr (.inr 182)) dd_count_97 rfl rfl rfl rfl ?_
      refine R_call (as := [.inr (.inr 182)]) (rest := []) (M' := mm_doors) (ls0 := [some (.inr (.inr 182))]) dd_count_98 rfl rfl (cw_v cw_12_335 io_182 rfl rfl (Nat.le_of_ble_eq_true rfl) (Nat.le_of_ble_eq_true rfl)) mt_doors rfl (c := e - 1) (by omega) rfl ?_
      refine R_ld (v := .inr (.inr 182)) dd_doors_0 rfl rfl rfl rfl ?_
      refine R_gf (v := .inr (.inr 188)) dd_doors_1 fd_12_95 io_182 (congrArg (fun z : Int => (Sum.inr (Sum.inr z) : LV)) (rf_182_10 hF)) rfl ?_
      refine R_ic dd_doors_4 (by decide) rfl ?_
      refine R_iald (v := (rd h 188 1)) (n := 300) dd_doors_5 ia_188 la_188 (by decide) (rfl) rfl ?_
      refine R_iret dd_doors_6 rfl ?_
      change Rn xs xl e mm_count 101 [some (.inr (.inr 182)), some (.inl v1), some (.inl v2), some (.inl v3)] [.inl (rd h 188 1)] h _
      exact R_iret dd_count_101 rfl k
    · replace k := k.2.2.1 c4
      refine R_swj (v := 2) dd_count_36 c4 (by decide) rfl rfl ?_
      refine R_ld (v := .inr (.inr 182)) dd_count_102 rfl rfl rfl rfl ?_
      refine R_call (as := [.inr (.inr 182)]) (rest := []) (M' := mm_people) (ls0 := [some (.inr (.inr 182))]) dd_count_103 rfl rfl (cw_v cw_12_338 io_182 rfl rfl (Nat.le_of_ble_eq_true rfl) (Nat.le_of_ble_eq_true rfl)) mt_people rfl (c := e - 1) (by omega) rfl ?_
      refine R_ld (v := .inr (.inr 182)) dd_people_0 rfl rfl rfl rfl ?_
      refine R_gf (v := .inr (.inr 188)) dd_people_1 fd_12_95 io_182 (congrArg (fun z : Int => (Sum.inr (Sum.inr z) : LV)) (rf_182_10 hF)) rfl ?_
      refine R_ic dd_people_4 (by decide) rfl ?_
      refine R_iald (v := (rd h 188 2)) (n := 300) dd_people_5 ia_188 la_188 (by decide) (rfl) rfl ?_
      refine R_iret dd_people_6 rfl ?_
      change Rn xs xl e mm_count 106 [some (.inr (.inr 182)), some (.inl v1), some (.inl v2), some (.inl v3)] [.inl (rd h 188 2)] h _
      exact R_iret dd_count_106 rfl k
    · replace k := k.2.2.2.1 c4
      refine R_swj (v := 3) dd_count_36 c4 (by decide) rfl rfl ?_
      refine R_ld (v := .inr (.inr 182)) dd_count_107 rfl rfl rfl rfl ?_
      refine R_gf (v := .inr (.inr 198)) dd_count_108 fd_12_125 io_182 (congrArg (fun z : Int => (Sum.inr (Sum.inr z) : LV)) (rf_182_24 hF)) rfl ?_
      refine R_ic dd_count_111 (by decide) rfl ?_
      refine R_iald (v := (rd h 198 0)) (n := 1610) dd_count_112 ia_198 la_198 (by decide) (rfl) rfl ?_
      exact R_iret dd_count_113 rfl k
    · replace k := k.2.2.2.2.1 c4
      refine R_swj (v := 4) dd_count_36 c4 (by decide) rfl rfl ?_
      refine R_ld (v := .inr (.inr 182)) dd_count_114 rfl rfl rfl rfl ?_
      refine R_gf (v := .inr (.inr 198)) dd_count_115 fd_12_125 io_182 (congrArg (fun z : Int => (Sum.inr (Sum.inr z) : LV)) (rf_182_24 hF)) rfl ?_
      refine R_ic dd_count_118 (by decide) rfl ?_
      refine R_iald (v := (rd h 198 1)) (n := 1610) dd_count_119 ia_198 la_198 (by decide) (rfl) rfl ?_
      obtain ⟨c, hc, k⟩ := k
      exact R_call (as := [.inl (rd h 198 1)]) (rest := []) (M' := mm_bits) (ls0 := [some (.inl (rd h 198 1)), none, none]) dd_count_120 rfl rfl (cw_s cw_12_435 rfl rfl (Nat.le_of_ble_eq_true rfl) (Nat.le_of_ble_eq_true rfl)) mt_bits rfl hc rfl k
    · replace k := k.2.2.2.2.2.1 c4
      refine R_swj (v := 5) dd_count_36 c4 (by decide) rfl rfl ?_
      refine R_ld (v := .inl v2) dd_count_124 rfl rfl rfl rfl ?_
      exact R_iret dd_count_125 rfl k
    · replace k := k.2.2.2.2.2.2.1 c4
      refine R_swj (v := 6) dd_count_36 c4 (by decide) rfl rfl ?_
      refine R_ld (v := .inr (.inr 182)) dd_count_126 rfl rfl rfl rfl ?_
      refine R_gf (v := .inr (.inr 195)) dd_count_127 fd_12_116 io_182 (congrArg (fun z : Int => (Sum.inr (Sum.inr z) : LV)) (rf_182_20 hF)) rfl ?_
      refine R_ic dd_count_130 (by decide) rfl ?_
      refine R_iald (v := (rd h 195 0)) (n := 100) dd_count_131 ia_195 la_195 (by decide) (rfl) rfl ?_
      exact R_iret dd_count_132 rfl k
    · replace k := k.2.2.2.2.2.2.2.1 c4
      refine R_swj (v := 7) dd_count_36 c4 (by decide) rfl rfl ?_
      refine R_ld (v := .inr (.inr 182)) dd_count_133 rfl rfl rfl rfl ?_
      refine R_gf (v := .inr (.inr 198)) dd_count_134 fd_12_125 io_182 (congrArg (fun z : Int => (Sum.inr (Sum.inr z) : LV)) (rf_182_24 hF)) rfl ?_
      refine R_bi dd_count_137 (by decide) rfl ?_
      refine R_iald (v := (rd h 198 34)) (n := 1610) dd_count_139 ia_198 la_198 (by decide) (rfl) rfl ?_
      exact R_iret dd_count_140 rfl k
    · replace k := k.2.2.2.2.2.2.2.2.1 c4
      refine R_swj (v := 8) dd_count_36 c4 (by decide) rfl rfl ?_
      refine R_ld (v := .inr (.inr 182)) dd_count_141 rfl rfl rfl rfl ?_
      refine R_gf (v := .inl (rd h 182 25)) dd_count_142 fd_12_322 io_182 (congrArg (fun z : Int => (Sum.inl z : LV)) (rfl)) rfl ?_
      exact R_iret dd_count_145 rfl k
    · replace k := k.2.2.2.2.2.2.2.2.2.1 c4
      refine R_swj (v := 9) dd_count_36 c4 (by decide) rfl rfl ?_
      refine R_ld (v := .inr (.inr 182)) dd_count_146 rfl rfl rfl rfl ?_
      refine R_gf (v := .inl (rd h 182 2)) dd_count_147 fd_12_11 io_182 (congrArg (fun z : Int => (Sum.inl z : LV)) (rfl)) rfl ?_
      exact R_iret dd_count_150 rfl k
    · replace k := k.2.2.2.2.2.2.2.2.2.2 c4
      refine R_swd dd_count_36 c4 rfl ?_
      refine R_ic dd_count_151 (by decide) rfl ?_
      exact R_iret dd_count_152 rfl k
  · replace k := k.2 c3
    refine R_ld (v := .inl v2) dd_count_17 rfl rfl rfl rfl ?_
    refine R_ld (v := .inr (.inr 182)) dd_count_18 rfl rfl rfl rfl ?_
    refine R_gf (v := .inr (.inr 198)) dd_count_19 fd_12_125 io_182 (congrArg (fun z : Int => (Sum.inr (Sum.inr z) : LV)) (rf_182_24 hF)) rfl ?_
    refine R_bi dd_count_22 (by decide) rfl ?_
    refine R_ld (v := .inl v3) dd_count_24 rfl rfl rfl rfl ?_
    refine R_iadd (c := v3 + 8) dd_count_25 (by omega) (by omega) rfl ?_
    refine R_iald (v := (rd h 198 (v3 + 8))) (n := 1610) dd_count_26 ia_198 la_198 (by omega) (rfl) rfl ?_
    obtain ⟨s2, k⟩ := k
    refine R_iadd (c := v2 + (rd h 198 (v3 + 8))) dd_count_27 (by omega) s2 rfl ?_
    refine R_st (ls' := [some (.inr (.inr 182)), some (.inl v1), some (.inl (v2 + (rd h 198 (v3 + 8)))), some (.inl v3)]) dd_count_28 rfl rfl rfl (Nat.le_of_ble_eq_true rfl) rfl rfl ?_
    refine R_inc (y := v3 + 1) (ls' := [some (.inr (.inr 182)), some (.inl v1), some (.inl (v2 + (rd h 198 (v3 + 8)))), some (.inl (v3 + 1))]) dd_count_29 rfl (by decide) (by omega) (by omega) rfl rfl ?_
    refine R_goto dd_count_32 rfl ?_
    exact k
theorem B_count_123 {xs : Nat → Int} {xl e : Nat} {h : LH} {Q : Option LV → LH → Prop} {v1 v2 v3 w0 : Int} (hF : RF h)
    (k : Q (some (.inl w0)) h) :
    Rn xs xl e mm_count 123 [some (.inr (.inr 182)), some (.inl v1), some (.inl v2), some (.inl v3)] [.inl w0] h Q := by
  exact R_iret dd_count_123 rfl k
end
section
/-! lines, part x3: a day's text, line by line; the class reads it so, and keeps its lines (after dy/n2) -/
section DYS
variable (o v w p : Nat → Int) (kp kd : Nat → Bool)
/-- a known name -/
def tkK (kn : Nat → Bool) (s : Int × Nat) : Int × Nat := if isNm o w s.2 = true then (if kn s.2 = true then tkA s else tkE p 2 s) else tkE p 1 s
def dS (y : (Int × Nat) × Nat) : (Int × Nat) × Nat :=
  if w y.1.2 = 12 then (if 24 ≤ y.2 then (tkE p 5 y.1, y.2) else (tkS o v p 59 (tkK o w p kd (tkK o w p kp (tkA y.1))), y.2 + 1))
  else if w y.1.2 = 13 then (if 24 ≤ y.2 then (tkE p 5 y.1, y.2) else (tkS o v p 59 (tkA y.1), y.2 + 1))
  else (tkE p 1 y.1, y.2)
def dL : Nat → (Int × Nat) × Nat → (Int × Nat) × Nat
  | 0, y => y
  | c + 1, y => if y.1.1 = 0 ∧ o y.1.2 ≠ 0 then dL c (dS o v w p kp kd y) else y
def dF : (Int × Nat) × Nat := dL o v w p kp kd 1000 ((0, 0), 0)
/-- where its lines begin -/
def dT : Nat → (Int × Nat) × Nat → List Nat
  | 0, _ => []
  | c + 1, y => if y.1.1 = 0 ∧ o y.1.2 ≠ 0 then y.1.2 :: dT c (dS o v w p kp kd y) else []
def dTF : List Nat := dT o v w p kp kd 1000 ((0, 0), 0)
end DYS
section DYM
variable {o v w p u : Nat → Int} {kp kd kp' kd' kn kn' : Nat → Bool} {y : (Int × Nat) × Nat} {c : Nat} {s : Int × Nat}
theorem tkK_f (h : s.1 ≠ 0) : tkK o w p kn s = s := by unfold tkK; rw [tkA_f h, tkE_f h, tkE_f h, ite_self, ite_self]
theorem dL_stop (h : ¬ (y.1.1 = 0 ∧ o y.1.2 ≠ 0)) : dL o v w p kp kd c y = y := by
  cases c with
  | zero => rfl
  | succ c => unfold dL; rw [if_neg h]
theorem dL_go (h : y.1.1 = 0 ∧ o y.1.2 ≠ 0) : dL o v w p kp kd (c + 1) y = dL o v w p kp kd c (dS o v w p kp kd y) := by
  conv => lhs; unfold dL
  rw [if_pos h]
theorem dT_stop (h : ¬ (y.1.1 = 0 ∧ o y.1.2 ≠ 0)) : dT o v w p kp kd c y = [] := by
  cases c with
  | zero => rfl
  | succ c => unfold dT; rw [if_neg h]
theorem dT_go (h : y.1.1 = 0 ∧ o y.1.2 ≠ 0) : dT o v w p kp kd (c + 1) y = y.1.2 :: dT o v w p kp kd c (dS o v w p kp kd y) := by
  conv => lhs; unfold dT
  rw [if_pos h]
theorem tkK_z (hp : ∀ k, 0 ≤ p k) (h : (tkK o w p kn s).1 = 0) : s.1 = 0 ∧ o s.2 = 1 ∧ kn s.2 = true ∧ (tkK o w p kn s).2 = s.2 + 1 := by
  unfold tkK at h ⊢
  by_cases z : isNm o w s.2 = true
  · rw [if_pos z] at h ⊢
    by_cases y : kn s.2 = true
    · rw [if_pos y] at h ⊢
      have z0 := tkA_z h
      exact ⟨z0, isNm_o z, y, by rw [tkA_0 z0]⟩
    · rw [if_neg y] at h
      exact absurd h (tkE_p hp (by decide))
  · rw [if_neg z] at h
    exact absurd h (tkE_p hp (by decide))
theorem dS_cnt (hp : ∀ k, 0 ≤ p k) (h : (dS o v w p kp kd y).1.1 = 0) : (dS o v w p kp kd y).2 = y.2 + 1 := by
  unfold dS at h ⊢
  split at h
  · next c1 =>
    rw [if_pos c1]
    split at h
    · exact absurd h (tkE_p hp (by decide))
    · next c2 => rw [if_neg c2]
  · next c1 =>
    rw [if_neg c1]
    split at h
    · next c3 =>
      rw [if_pos c3]
      split at h
      · exact absurd h (tkE_p hp (by decide))
      · next c2 => rw [if_neg c2]
    · exact absurd h (tkE_p hp (by decide))
theorem sm_K (h : ∀ k, o k = 1 → kn k = kn' k) : tkK o w p kn = tkK o w p kn' := by
  funext s
  unfold tkK
  by_cases z : isNm o w s.2 = true
  · rw [if_pos z, if_pos z, h _ (isNm_o z)]
  · rw [if_neg z, if_neg z]
theorem dS_b (h : SmV o p u v) (h1 : ∀ k, o k = 1 → kp k = kp' k) (h2 : ∀ k, o k = 1 → kd k = kd' k) : dS o u w p kp kd = dS o v w p kp' kd' := by
  funext y
  unfold dS
  rw [sm_S h, sm_K h1, sm_K h2]
theorem dL_b (h : SmV o p u v) (h1 : ∀ k, o k = 1 → kp k = kp' k) (h2 : ∀ k, o k = 1 → kd k = kd' k) : ∀ (c : Nat) (y : (Int × Nat) × Nat), dL o u w p kp kd c y = dL o v w p kp' kd' c y
  | 0, _ => rfl
  | c + 1, y => by
    unfold dL
    rw [dS_b h h1 h2]
    split
    · exact dL_b h h1 h2 c _
    · rfl
theorem dT_b (h : SmV o p u v) (h1 : ∀ k, o k = 1 → kp k = kp' k) (h2 : ∀ k, o k = 1 → kd k = kd' k) : ∀ (c : Nat) (y : (Int × Nat) × Nat), dT o u w p kp kd c y = dT o v w p kp' kd' c y
  | 0, _ => rfl
  | c + 1, y => by
    unfold dT
    rw [dS_b h h1 h2]
    split
    · rw [dT_b h h1 h2 c _]
    · rfl
theorem dTF_b (h : SmV o p u v) (h1 : ∀ k, o k = 1 → kp k = kp' k) (h2 : ∀ k, o k = 1 → kd k = kd' k) : dTF o u w p kp kd = dTF o v w p kp' kd' := dT_b h h1 h2 1000 _
theorem dF_b (h : SmV o p u v) (h1 : ∀ k, o k = 1 → kp k = kp' k) (h2 : ∀ k, o k = 1 → kd k = kd' k) : dF o u w p kp kd = dF o v w p kp' kd' := dL_b h h1 h2 1000 _
end DYM
/-- a line that begins at token t: an hour, or by its names a person and a door -/
def LnC (o v w : Nat → Int) (pn dn : Int → Int) (P D : Int) (t : Nat) (x y : Int) : Prop := (w t = 13 ∧ x = -1) ∨ (w t = 12 ∧ (o (t + 1) = 1 ∧ (0 ≤ x ∧ x < P) ∧ pn x = v (t + 1)) ∧ (o (t + 2) = 1 ∧ (0 ≤ y ∧ y < D) ∧ dn y = v (t + 2)))
theorem LnC_c {o v w : Nat → Int} {pn dn pn' dn' : Int → Int} {P D : Int} {t : Nat} {x y : Int} (hl : LnC o v w pn dn P D t x y) (hp : ∀ z, 0 ≤ z → z < P → pn' z = pn z) (hd : ∀ z, 0 ≤ z → z < D → dn' z = dn z) : LnC o v w pn' dn' P D t x y := by
  rcases hl with a | ⟨a, ⟨b1, b2, b3⟩, c1, c2, c3⟩
  · exact Or.inl a
  · exact Or.inr ⟨a, ⟨b1, b2, by rw [hp x b2.1 b2.2]; exact b3⟩, c1, c2, by rw [hd y c2.1 c2.2]; exact c3⟩
/-- x is one of the first m -/
def nmC (f : Nat → Int) (m : Nat) (x : Int) : Bool := (List.range m).any (fun i => decide (f i = x))
theorem nmC_iff {f : Nat → Int} {m : Nat} {x : Int} : nmC f m x = true ↔ ∃ i : Nat, i < m ∧ f i = x := by
  unfold nmC
  rw [List.any_eq_true]
  constructor
  · rintro ⟨i, h1, h2⟩
    exact ⟨i, List.mem_range.mp h1, of_decide_eq_true h2⟩
  · rintro ⟨i, h1, h2⟩
    exact ⟨i, List.mem_range.mpr h1, decide_eq_true h2⟩
section NC2
variable {xs : Nat → Int} {xl e : Nat} {h : LH} {Q : Option LV → LH → Prop} {v1 q : Int} {T : Int → Int} {n : Int} {W : Int → Int} {s : Int × Nat}
theorem F_doorNamedV (hq : q = 5 ∨ q = 32) (hF : RF h) (hP : PT h) (hb : 0 ≤ rd h q 2 ∧ rd h q 2 ≤ 14) (k : ∀ r : Int, ((r = -1 ∧ ¬ nmC (fun i => rd h (q + 7 + i) 0) (rd h q 2).toNat v1 = true) ∨ ((0 ≤ r ∧ r < rd h q 2) ∧ rd h (q + 7 + r) 0 = v1)) → Q (some (.inl r)) h) : Rn xs xl e mm_Quarter_doorNamed 0 [some (.inr (.inr q)), some (.inr (.inl v1)), none, none] [] h Q := by
  have loop : ∀ (d b : Nat), (rd h q 2).toNat - b ≤ d → b ≤ (rd h q 2).toNat → (∀ i : Nat, i < b → ¬ rd h (q + 7 + i) 0 = v1) → Rn xs xl e mm_Quarter_doorNamed 2 [some (.inr (.inr q)), some (.inr (.inl v1)), none, some (.inl (b : Int))] [] h Q := by
    intro d
    induction d with
    | zero =>
      intro b hd hb' no
      refine B_doorNamed_in hq hF hP (by omega) ⟨fun c => k (-1) (Or.inl ⟨rfl, fun c => ?_⟩), fun c => by omega⟩
      obtain ⟨i, i1, i2⟩ := nmC_iff.mp c
      exact absurd i2 (no i (by omega))
    | succ d ih =>
      intro b hd hb' no
      refine B_doorNamed_in hq hF hP (by omega) ⟨fun c => k (-1) (Or.inl ⟨rfl, fun c => ?_⟩), fun c => ⟨by omega, fun c2 => ?_, fun c2 => k (b : Int) (Or.inr ⟨⟨by omega, c⟩, lcmp0.mp c2⟩)⟩⟩
      · obtain ⟨i, i1, i2⟩ := nmC_iff.mp c
        exact absurd i2 (no i (by omega))
      · have := ih (b + 1) (by omega) (by omega) (fun i hi => ?_)
        · rw [show ((b + 1 : Nat) : Int) = (b : Int) + 1 by omega] at this
          exact this
        · by_cases eb : i = b
          · rw [eb]
            exact fun z => c2 (lcmp0.mpr z)
          · exact no i (by omega)
  exact B_Quarter_doorNamed_0 hq hF (loop (rd h q 2).toNat 0 (by omega) (by omega) (fun i hi => by omega))
theorem F_personNamedV (hq : q = 5 ∨ q = 32) (hF : RF h) (hP : PT h) (hb : 0 ≤ rd h q 4 ∧ rd h q 4 ≤ 6) (k : ∀ r : Int, ((r = -1 ∧ ¬ nmC (fun i => rd h (q + 21 + i) 0) (rd h q 4).toNat v1 = true) ∨ ((0 ≤ r ∧ r < rd h q 4) ∧ rd h (q + 21 + r) 0 = v1)) → Q (some (.inl r)) h) : Rn xs xl e mm_Quarter_personNamed 0 [some (.inr (.inr q)), some (.inr (.inl v1)), none, none] [] h Q := by
  have loop : ∀ (d b : Nat), (rd h q 4).toNat - b ≤ d → b ≤ (rd h q 4).toNat → (∀ i : Nat, i < b → ¬ rd h (q + 21 + i) 0 = v1) → Rn xs xl e mm_Quarter_personNamed 2 [some (.inr (.inr q)), some (.inr (.inl v1)), none, some (.inl (b : Int))] [] h Q := by
    intro d
    induction d with
    | zero =>
      intro b hd hb' no
      refine B_personNamed_in hq hF hP (by omega) ⟨fun c => k (-1) (Or.inl ⟨rfl, fun c => ?_⟩), fun c => by omega⟩
      obtain ⟨i, i1, i2⟩ := nmC_iff.mp c
      exact absurd i2 (no i (by omega))
    | succ d ih =>
      intro b hd hb' no
      refine B_personNamed_in hq hF hP (by omega) ⟨fun c => k (-1) (Or.inl ⟨rfl, fun c => ?_⟩), fun c => ⟨by omega, fun c2 => ?_, fun c2 => k (b : Int) (Or.inr ⟨⟨by omega, c⟩, lcmp0.mp c2⟩)⟩⟩
      · obtain ⟨i, i1, i2⟩ := nmC_iff.mp c
        exact absurd i2 (no i (by omega))
      · have := ih (b + 1) (by omega) (by omega) (fun i hi => ?_)
        · rw [show ((b + 1 : Nat) : Int) = (b : Int) + 1 by omega] at this
          exact this
        · by_cases eb : i = b
          · rw [eb]
            exact fun z => c2 (lcmp0.mpr z)
          · exact no i (by omega)
  exact B_Quarter_personNamed_0 hq hF (loop (rd h q 4).toNat 0 (by omega) (by omega) (fun i hi => by omega))
theorem F_takeKnownName {kn : Nat → Bool} (he : 3 ≤ e) (hs : CSK T n W h s) (hk : s.1 = 0 → tO T n s.2 = 1 → (v1 ≠ -1 ↔ kn s.2 = true)) (k : ∀ h', CSK T n W h' (tkK (tO T n) (tW T n 32 W) (tP T n) kn s) → frK h h' → Q (some (.inl v1)) h') : Rn xs xl e mm_Reader_takeKnownName 0 [some (.inr (.inr 2)), some (.inl v1)] [] h Q := by
  have hF := hs.1.1
  refine B_Reader_takeKnownName_0 hF ⟨0, by omega, F_isName hs (fun r r01 hr => B_Reader_takeKnownName_4 hF ?_)⟩
  by_cases hz : s.1 = 0
  · by_cases nm : isNm (tO T n) (tW T n 32 W) s.2 = true
    · have r1 := (hr hz).mpr nm
      have o1 := isNm_o nm
      have iff := hk hz o1
      refine ⟨fun _ => ⟨fun c => ⟨2, by omega, F_stp (by omega) hs (fun _ => by omega) (fun h' c1 f1 => B_Reader_takeKnownName_32 c1.1.1 (k h' ?_ f1))⟩, fun c => ⟨0, by omega, F_fl hs (by omega) (fun h' c1 f1 => B_Reader_takeKnownName_25 c1.1.1 (k h' ?_ f1))⟩⟩, fun c => by omega⟩
      · unfold tkK; rw [if_pos nm, if_pos (iff.mp c)]; exact c1
      · unfold tkK; rw [if_pos nm, if_neg (fun z => iff.mpr z c)]; exact c1
    · have r0 : r = 0 := by
        rcases r01 with z | z
        · exact z
        · exact absurd ((hr hz).mp z) nm
      refine ⟨fun c => absurd r0 c, fun _ => ⟨0, by omega, F_fl hs (by omega) (fun h' c1 f1 => B_Reader_takeKnownName_12 c1.1.1 (k h' ?_ f1))⟩⟩
      unfold tkK; rw [if_neg nm]; exact c1
  · have eK : tkK (tO T n) (tW T n 32 W) (tP T n) kn s = s := tkK_f hz
    rw [eK] at k
    refine ⟨fun _ => ⟨fun c => ⟨2, by omega, F_stp (by omega) hs (fun z => absurd z hz) (fun h' c1 f1 => B_Reader_takeKnownName_32 c1.1.1 (k h' ?_ f1))⟩, fun c => ⟨0, by omega, F_fl hs (by omega) (fun h' c1 f1 => B_Reader_takeKnownName_25 c1.1.1 (k h' ?_ f1))⟩⟩, fun c => ⟨0, by omega, F_fl hs (by omega) (fun h' c1 f1 => B_Reader_takeKnownName_12 c1.1.1 (k h' ?_ f1))⟩⟩
    · rw [tkA_f hz] at c1; exact c1
    · rw [tkE_f hz] at c1; exact c1
    · rw [tkE_f hz] at c1; exact c1
/-- places that a line of a day may change -/
def muD (a i : Int) : Prop := muR a i ∨ (a = 67 ∧ i = 1) ∨ a = 71 ∨ a = 72
theorem hav_dl {a : Int} (ha : a = 71 ∨ a = 72) (i : Int) : (hav a i).1 ≠ 2 := by
  rcases ha with rfl | rfl
  · exact hav_nr (by decide +kernel) i
  · exact hav_nr (by decide +kernel) i
theorem F_dayLine {c : Nat} (he : 5 ≤ e) (hq : q = 5 ∨ q = 32) (hP : PT h) (hs : CSK T n W h s) (hz : s.1 = 0) (ho : tO T n s.2 ≠ 0) (b2 : 0 ≤ rd h q 2 ∧ rd h q 2 ≤ 14) (b4 : 0 ≤ rd h q 4 ∧ rd h q 4 ≤ 6) (hc : rd h 67 1 = (c : Int)) (hc2 : c ≤ 24)
    (hp : ∀ k, 0 ≤ tP T n k) (k : ∀ h', CSK T n W h' (dS (tO T n) (tV T n 32) (tW T n 32 W) (tP T n) (fun j => nmC (fun i => rd h (q + 21 + i) 0) (rd h q 4).toNat (tV T n 32 j)) (fun j => nmC (fun i => rd h (q + 7 + i) 0) (rd h q 2).toNat (tV T n 32 j)) (s, c)).1 → ((dS (tO T n) (tV T n 32) (tW T n 32 W) (tP T n) (fun j => nmC (fun i => rd h (q + 21 + i) 0) (rd h q 4).toNat (tV T n 32 j)) (fun j => nmC (fun i => rd h (q + 7 + i) 0) (rd h q 2).toNat (tV T n 32 j)) (s, c)).1.1 = 0 → rd h' 67 1 = (c : Int) + 1 ∧ LnC (tO T n) (tV T n 32) (tW T n 32 W) (fun x => rd h (q + 21 + x) 0) (fun x => rd h (q + 7 + x) 0) (rd h q 4) (rd h q 2) s.2 (rd h' 71 c) (rd h' 72 c) ∧ ∀ a i, (a = 71 ∨ a = 72) → i ≠ (c : Int) → rd h' a i = rd h a i) → (∀ a i, ¬ muD a i → rd h' a i = rd h a i) → Q none h') :
    Rn xs xl e mm_Reader_dayLine 0 [some (.inr (.inr 2)), some (.inr (.inr q)), some (.inr (.inr 67)), none, none, none] [] h Q := by
  generalize ekp : (fun j => nmC (fun i => rd h (q + 21 + i) 0) (rd h q 4).toNat (tV T n 32 j)) = kp at k
  generalize ekd : (fun j => nmC (fun i => rd h (q + 7 + i) 0) (rd h q 2).toNat (tV T n 32 j)) = kd at k
  have hF := hs.1.1
  have ew := CS_w hs hz
  have ep : ∀ c : Int, 1 ≤ c → (tkE (tP T n) c s).1 ≠ 0 := fun c hc => tkE_ne hs.1.2.1 hc
  have z1 : (tkA s).1 = 0 := by rw [tkA_0 hz]
  have bad : ∀ (c0 : Int), 1 ≤ c0 → dS (tO T n) (tV T n 32) (tW T n 32 W) (tP T n) kp kd (s, c) = (tkE (tP T n) c0 s, c) → ∀ h', CSK T n W h' (tkE (tP T n) c0 s) → frK h h' → Q none h' := by
    intro c0 h0 eS h' c1 f1
    rw [eS] at k
    exact k h' c1 (fun z => absurd z (ep c0 h0)) (fun a i hn => f1 a i (fun z => hn (Or.inl z)))
  -- the line's end
  have fin : ∀ (t : Int × Nat) (g : LH) (v3 v4 v5 : Int), dS (tO T n) (tV T n 32) (tW T n 32 W) (tP T n) kp kd (s, c) = (tkS (tO T n) (tV T n 32) (tP T n) 59 t, c + 1) → c < 24 → CSK T n W g (tkS (tO T n) (tV T n 32) (tP T n) 59 t) → frK h g → (t.1 = 0 → LnC (tO T n) (tV T n 32) (tW T n 32 W) (fun x => rd h (q + 21 + x) 0) (fun x => rd h (q + 7 + x) 0) (rd h q 4) (rd h q 2) s.2 v4 v5) → Rn xs xl e mm_Reader_dayLine 97 [some (.inr (.inr 2)), some (.inr (.inr q)), some (.inr (.inr 67)), some (.inl v3), some (.inl v4), some (.inl v5)] [] g Q := by
    intro t g v3 v4 v5 eS hlt c1 f1 hl
    rw [eS] at k
    have e67 : rd g 67 1 = (c : Int) := (f1 _ _ (by unfold muR; omega)).trans hc
    refine B_Reader_dayLine_97 hq c1.1.1 ⟨fun z => k g c1 (fun z2 => absurd (c1.2.1.trans z2) z) (fun a i hn => f1 a i (fun z => hn (Or.inl z))), fun z => ⟨0, by omega, B_Memory_addLine_0 c1.1.1 ⟨fun z2 => by omega, fun z2 => ⟨by omega, by omega, by omega, ?_⟩⟩⟩⟩
    have F1 : RF (wr (wr (wr g 71 (rd g 67 1) v4) 72 (rd g 67 1) v5) 67 1 (rd g 67 1 + 1)) := RF_wn (by decide +kernel) (RF_wn (hav_dl (Or.inr rfl) _) (RF_wn (hav_dl (Or.inl rfl) _) c1.1.1))
    refine B_Reader_dayLine_112 hq F1 (k _ (CSK_fr F1 (fun a i ha => ?_) c1) (fun z2 => ⟨?_, ?_, fun a i ha hn => ?_⟩) (fun a i hn => ?_))
    · rw [rdw_ne (by omega), rdw_ne (by omega), rdw_ne (by omega)]
    · rw [rdw_eq, e67]
    · have l := hl (tkS_z z2)
      have e71 : rd (wr (wr (wr g 71 (rd g 67 1) v4) 72 (rd g 67 1) v5) 67 1 (rd g 67 1 + 1)) 71 (c : Int) = v4 := by
        rw [rdw_ne (by decide), rdw_ne (by decide), e67, rdw_eq]
      have e72 : rd (wr (wr (wr g 71 (rd g 67 1) v4) 72 (rd g 67 1) v5) 67 1 (rd g 67 1 + 1)) 72 (c : Int) = v5 := by
        rw [rdw_ne (by decide), e67, rdw_eq]
      rw [e71, e72]
      exact l
    · rw [e67]
      rcases ha with rfl | rfl
      · rw [rdw_ne (by decide), rdw_ne (by decide), rdw_nei (fun z => hn z.symm)]
        exact f1 71 i (by unfold muR; omega)
      · rw [rdw_ne (by decide), rdw_nei (fun z => hn z.symm), rdw_ne (by decide)]
        exact f1 72 i (by unfold muR; omega)
    · unfold muD at hn
      rw [rd_wr, if_neg (fun z => hn (by omega)), rd_wr, if_neg (fun z => hn (by omega)), rd_wr, if_neg (fun z => hn (by omega))]
      exact f1 a i (fun z => hn (Or.inl z))
  refine B_Reader_dayLine_0 hq hF ⟨fun n13 => ⟨fun w12 => ⟨fun lt => ?_, fun ge => ?_⟩, fun n12 => ?_⟩, fun w13 => ⟨fun lt => ?_, fun ge => ?_⟩⟩
  · have w' : tW T n 32 W s.2 = 12 := ew.symm.trans w12
    have eS : dS (tO T n) (tV T n 32) (tW T n 32 W) (tP T n) kp kd (s, c) = (tkS (tO T n) (tV T n 32) (tP T n) 59 (tkK (tO T n) (tW T n 32 W) (tP T n) kd (tkK (tO T n) (tW T n 32 W) (tP T n) kp (tkA s))), c + 1) := by
      unfold dS
      show (if tW T n 32 W s.2 = 12 then _ else _) = _
      rw [if_pos w']
      show (if 24 ≤ c then _ else _) = _
      rw [if_neg (by omega)]
    refine ⟨2, by omega, F_stp (by omega) hs (fun _ => ho) (fun h1 s1 f1 => ?_)⟩
    have P1 : PT h1 := PT_fr hP (fun a i ha => f1 _ _ (by unfold muR; omega))
    have e4 : rd h1 q 4 = rd h q 4 := f1 _ _ (by unfold muR; omega)
    refine B_Reader_dayLine_53 hq s1.1.1 ⟨fun z => absurd rfl z, fun _ => ⟨0, by omega, F_personNamedV hq s1.1.1 P1 (by rw [e4]; exact b4) (fun r hr => ?_)⟩⟩
    have en1 : (fun i : Nat => rd h1 (q + 21 + (i : Int)) 0) = (fun i : Nat => rd h (q + 21 + (i : Int)) 0) := funext (fun i => f1 _ _ (by unfold muR; omega))
    have hr' : (r ≠ -1 ↔ nmC (fun i => rd h1 (q + 21 + i) 0) (rd h1 q 4).toNat (rd h1 2 6) = true) := by
      rcases hr with ⟨y1, y2⟩ | ⟨y1, y2⟩
      · exact ⟨fun z => absurd y1 z, fun z => absurd z y2⟩
      · exact ⟨fun _ => nmC_iff.mpr ⟨r.toNat, by omega, by rw [Int.toNat_of_nonneg y1.1]; exact y2⟩, fun _ => by omega⟩
    refine B_Reader_dayLine_72 hq s1.1.1 ⟨3, by omega, F_takeKnownName (kn := kp) (by omega) s1 (fun _ o1 => ?_) (fun h2 s2 f2 => ?_)⟩
    · rw [hr', ← ekp, e4, CS_v s1 z1 (by omega) (by omega), en1]
    · have P2 : PT h2 := PT_fr P1 (fun a i ha => f2 _ _ (by unfold muR; omega))
      have e2 : rd h2 q 2 = rd h q 2 := (f2 _ _ (by unfold muR; omega)).trans (f1 _ _ (by unfold muR; omega))
      refine B_Reader_dayLine_75 hq s2.1.1 ⟨0, by omega, F_doorNamedV hq s2.1.1 P2 (by rw [e2]; exact b2) (fun r' hq' => ?_)⟩
      have en2 : (fun i : Nat => rd h2 (q + 7 + (i : Int)) 0) = (fun i : Nat => rd h (q + 7 + (i : Int)) 0) := funext (fun i => (f2 _ _ (by unfold muR; omega)).trans (f1 _ _ (by unfold muR; omega)))
      have hr2 : (r' ≠ -1 ↔ nmC (fun i => rd h2 (q + 7 + i) 0) (rd h2 q 2).toNat (rd h2 2 6) = true) := by
        rcases hq' with ⟨y1, y2⟩ | ⟨y1, y2⟩
        · exact ⟨fun z => absurd y1 z, fun z => absurd z y2⟩
        · exact ⟨fun _ => nmC_iff.mpr ⟨r'.toNat, by omega, by rw [Int.toNat_of_nonneg y1.1]; exact y2⟩, fun _ => by omega⟩
      refine B_Reader_dayLine_86 hq s2.1.1 ⟨3, by omega, F_takeKnownName (kn := kd) (by omega) s2 (fun z2 o1 => ?_) (fun h3 s3 f3 => ?_)⟩
      · rw [hr2, ← ekd, e2, CS_v s2 z2 (by omega) (by omega), en2]
      · refine B_Reader_dayLine_89 hq s3.1.1 ⟨3, by omega, F_takeSign (by omega) s3 (fun h4 s4 f4 => fin _ h4 _ _ _ eS (by omega) s4 (((f1.trans f2).trans f3).trans f4) (fun zt => ?_))⟩
        obtain ⟨za, oa, ka, ta⟩ := tkK_z hp zt
        obtain ⟨zb, ob, kb, tb⟩ := tkK_z hp za
        have t1 : (tkA s).2 = s.2 + 1 := by rw [tkA_0 hz]
        rw [tb, t1] at oa ka
        rw [t1] at ob kb
        have vp : rd h1 2 6 = tV T n 32 (s.2 + 1) := by rw [CS_v s1 z1 (by rw [t1]; omega) (by rw [t1]; omega), t1]
        have vd : rd h2 2 6 = tV T n 32 (s.2 + 2) := by rw [CS_v s2 za (by rw [tb, t1]; omega) (by rw [tb, t1]; omega), tb, t1]
        refine Or.inr ⟨w', ⟨ob, ?_⟩, oa, ?_⟩
        · rcases hr with ⟨y1, y2⟩ | ⟨y1, y2⟩
          · exfalso
            apply y2
            rw [vp, e4, en1]
            rw [← ekp] at kb
            exact kb
          · rw [e4] at y1
            exact ⟨y1, (f1 _ _ (by unfold muR; omega)).symm.trans (y2.trans vp)⟩
        · rcases hq' with ⟨y1, y2⟩ | ⟨y1, y2⟩
          · exfalso
            apply y2
            rw [vd, e2, en2]
            rw [← ekd] at ka
            exact ka
          · rw [e2] at y1
            exact ⟨y1, ((f2 _ _ (by unfold muR; omega)).trans (f1 _ _ (by unfold muR; omega))).symm.trans (y2.trans vd)⟩
  · have w' : tW T n 32 W s.2 = 12 := ew.symm.trans w12
    have eS : dS (tO T n) (tV T n 32) (tW T n 32 W) (tP T n) kp kd (s, c) = (tkE (tP T n) 5 s, c) := by
      unfold dS
      show (if tW T n 32 W s.2 = 12 then _ else _) = _
      rw [if_pos w']
      show (if 24 ≤ c then _ else _) = _
      rw [if_pos (by omega)]
    exact ⟨0, by omega, F_fl hs (by omega) (fun h' c1 f1 => B_Reader_dayLine_48 hq c1.1.1 (bad 5 (by decide) eS h' c1 f1))⟩
  · have n12' : ¬ tW T n 32 W s.2 = 12 := fun z => n12 (ew.trans z)
    have n13' : ¬ tW T n 32 W s.2 = 13 := fun z => n13 (ew.trans z)
    have eS : dS (tO T n) (tV T n 32) (tW T n 32 W) (tP T n) kp kd (s, c) = (tkE (tP T n) 1 s, c) := by
      unfold dS
      show (if tW T n 32 W s.2 = 12 then _ else if tW T n 32 W s.2 = 13 then _ else _) = _
      rw [if_neg n12', if_neg n13']
    exact ⟨0, by omega, F_fl hs (by omega) (fun h' c1 f1 => B_Reader_dayLine_33 hq c1.1.1 (bad 1 (by decide) eS h' c1 f1))⟩
  · have w' : tW T n 32 W s.2 = 13 := ew.symm.trans w13
    have eS : dS (tO T n) (tV T n 32) (tW T n 32 W) (tP T n) kp kd (s, c) = (tkS (tO T n) (tV T n 32) (tP T n) 59 (tkA s), c + 1) := by
      unfold dS
      show (if tW T n 32 W s.2 = 12 then _ else if tW T n 32 W s.2 = 13 then _ else _) = _
      rw [if_neg (by omega), if_pos w']
      show (if 24 ≤ c then _ else _) = _
      rw [if_neg (by omega)]
    exact ⟨2, by omega, F_stp (by omega) hs (fun _ => ho) (fun h1 s1 f1 => B_Reader_dayLine_53 hq s1.1.1 ⟨fun _ => ⟨3, by omega, F_takeSign (by omega) s1 (fun h4 s4 f4 => fin _ h4 _ _ _ eS (by omega) s4 (f1.trans f4) (fun _ => Or.inl ⟨w', rfl⟩))⟩, fun z => absurd z (by decide)⟩)⟩
  · have w' : tW T n 32 W s.2 = 13 := ew.symm.trans w13
    have eS : dS (tO T n) (tV T n 32) (tW T n 32 W) (tP T n) kp kd (s, c) = (tkE (tP T n) 5 s, c) := by
      unfold dS
      show (if tW T n 32 W s.2 = 12 then _ else if tW T n 32 W s.2 = 13 then _ else _) = _
      rw [if_neg (by omega), if_pos w']
      show (if 24 ≤ c then _ else _) = _
      rw [if_pos (by omega)]
    exact ⟨0, by omega, F_fl hs (by omega) (fun h' c1 f1 => B_Reader_dayLine_48 hq c1.1.1 (bad 5 (by decide) eS h' c1 f1))⟩
end NC2
end
section
/-! lines, part x4: the class's readDay; the reference's day, with its lines (after dy/n3) -/
theorem list_any_congr {L : List Nat} {f g : Nat → Bool} (h : ∀ x ∈ L, f x = g x) : L.any f = L.any g := by
  induction L with
  | nil => rfl
  | cons a L ih => rw [List.any_cons, List.any_cons, h a List.mem_cons_self, ih (fun x hx => h x (List.mem_cons_of_mem _ hx))]
section ND3
variable {o v w p : Nat → Int} {kp kd kn : Nat → Bool} {y : (Int × Nat) × Nat} {s : Int × Nat}
theorem dS_le (h : y.2 ≤ 24) : (dS o v w p kp kd y).2 ≤ 24 := by
  unfold dS
  split
  · split
    · exact h
    · show y.2 + 1 ≤ 24; omega
  · split
    · split
      · exact h
      · show y.2 + 1 ≤ 24; omega
    · exact h
theorem tkK_2 : s.2 ≤ (tkK o w p kn s).2 := by
  unfold tkK
  split
  · split
    · exact tkA_2
    · rw [tkE_2]; exact Nat.le_refl _
  · rw [tkE_2]; exact Nat.le_refl _
theorem dS_adv (hp : ∀ k, 0 ≤ p k) (hz : y.1.1 = 0) (h : (dS o v w p kp kd y).1.1 = 0) : y.1.2 < (dS o v w p kp kd y).1.2 := by
  have a : y.1.2 < (tkA y.1).2 := by rw [tkA_0 hz]; exact Nat.lt_succ_self _
  unfold dS at h ⊢
  split at h
  · next c =>
    rw [if_pos c]
    split at h
    · exact absurd h (tkE_p hp (by decide))
    · next c2 =>
      rw [if_neg c2]
      exact Nat.lt_of_lt_of_le a (Nat.le_trans tkK_2 (Nat.le_trans tkK_2 tkS_2))
  · next c =>
    rw [if_neg c]
    split at h
    · next c1 =>
      rw [if_pos c1]
      split at h
      · exact absurd h (tkE_p hp (by decide))
      · next c2 =>
        rw [if_neg c2]
        exact Nat.lt_of_lt_of_le a tkS_2
    · exact absurd h (tkE_p hp (by decide))
end ND3
section NE3
variable {xs : Nat → Int} {xl e : Nat} {h : LH} {Q : Option LV → LH → Prop} {v1 v2 q : Int} {T : Int → Int} {n : Int} {W V : Int → Int} {m : Nat} {s : Int × Nat}
theorem F_readDay (he : 6 ≤ e) (hq : q = 5 ∨ q = 32) (hP : PT h) (hx : CX T n W h) (b2 : 0 ≤ rd h q 2 ∧ rd h q 2 ≤ 14) (b4 : 0 ≤ rd h q 4 ∧ rd h q 4 ≤ 6)
    (k : ∀ h', ((dF (tO T n) (tV T n 32) (tW T n 32 W) (tP T n) (fun j => nmC (fun i => rd h (q + 21 + i) 0) (rd h q 4).toNat (tV T n 32 j)) (fun j => nmC (fun i => rd h (q + 7 + i) 0) (rd h q 2).toNat (tV T n 32 j))).1.1 = 0 → (rd h' 67 1 = ((dTF (tO T n) (tV T n 32) (tW T n 32 W) (tP T n) (fun j => nmC (fun i => rd h (q + 21 + i) 0) (rd h q 4).toNat (tV T n 32 j)) (fun j => nmC (fun i => rd h (q + 7 + i) 0) (rd h q 2).toNat (tV T n 32 j))).length : Int) ∧ (dTF (tO T n) (tV T n 32) (tW T n 32 W) (tP T n) (fun j => nmC (fun i => rd h (q + 21 + i) 0) (rd h q 4).toNat (tV T n 32 j)) (fun j => nmC (fun i => rd h (q + 7 + i) 0) (rd h q 2).toNat (tV T n 32 j))).length ≤ 24) ∧ ∀ i : Nat, i < (dTF (tO T n) (tV T n 32) (tW T n 32 W) (tP T n) (fun j => nmC (fun i => rd h (q + 21 + i) 0) (rd h q 4).toNat (tV T n 32 j)) (fun j => nmC (fun i => rd h (q + 7 + i) 0) (rd h q 2).toNat (tV T n 32 j))).length → LnC (tO T n) (tV T n 32) (tW T n 32 W) (fun x => rd h (q + 21 + x) 0) (fun x => rd h (q + 7 + x) 0) (rd h q 4) (rd h q 2) ((dTF (tO T n) (tV T n 32) (tW T n 32 W) (tP T n) (fun j => nmC (fun i => rd h (q + 21 + i) 0) (rd h q 4).toNat (tV T n 32 j)) (fun j => nmC (fun i => rd h (q + 7 + i) 0) (rd h q 2).toNat (tV T n 32 j))).getD i 0) (rd h' 71 i) (rd h' 72 i)) → Q (some (.inl (dF (tO T n) (tV T n 32) (tW T n 32 W) (tP T n) (fun j => nmC (fun i => rd h (q + 21 + i) 0) (rd h q 4).toNat (tV T n 32 j)) (fun j => nmC (fun i => rd h (q + 7 + i) 0) (rd h q 2).toNat (tV T n 32 j))).1.1)) h') :
    Rn xs xl e mm_Reader_readDay 0 [some (.inr (.inr 2)), some (.inr (.inr q)), some (.inr (.inr 67)), none] [] h Q := by
  generalize ekp : (fun j => nmC (fun i => rd h (q + 21 + i) 0) (rd h q 4).toNat (tV T n 32 j)) = kp at k
  generalize ekd : (fun j => nmC (fun i => rd h (q + 7 + i) 0) (rd h q 2).toNat (tV T n 32 j)) = kd at k
  generalize eF : dF (tO T n) (tV T n 32) (tW T n 32 W) (tP T n) kp kd = Y at k
  generalize eT : dTF (tO T n) (tV T n 32) (tW T n 32 W) (tP T n) kp kd = TT at k
  have hp : ∀ j, 0 ≤ tP T n j := fun j => tP_0 hx.2.1.2.2.2 hx.2.1.2.2.1 j
  have loop : ∀ (c : Nat) (g : LH) (y : (Int × Nat) × Nat) (L : List Nat), c ≤ 1000 → dL (tO T n) (tV T n 32) (tW T n 32 W) (tP T n) kp kd c y = Y → L ++ dT (tO T n) (tV T n 32) (tW T n 32 W) (tP T n) kp kd c y = TT → CSK T n W g y.1 → PT g → (∀ a i, q ≤ a → a ≤ q + 26 → rd g a i = rd h a i) → y.2 ≤ 24 → (y.1.1 = 0 → rd g 67 1 = (y.2 : Int) ∧ L.length = y.2 ∧ ∀ i : Nat, i < L.length → LnC (tO T n) (tV T n 32) (tW T n 32 W) (fun x => rd h (q + 21 + x) 0) (fun x => rd h (q + 7 + x) 0) (rd h q 4) (rd h q 2) (L.getD i 0) (rd g 71 i) (rd g 72 i)) → Rn xs xl e mm_Reader_readDay 11 [some (.inr (.inr 2)), some (.inr (.inr q)), some (.inr (.inr 67)), some (.inl (1000 - (c : Int)))] [] g Q := by
    intro c
    induction c with
    | zero =>
      intro g y L _ eY eL hs gP gf yl hd
      have e8 := hs.2.1
      have eY' : y = Y := eY
      refine B_Reader_readDay_11 hq hs.1.1 (by omega) ⟨fun _ => B_Reader_readDay_44 hq hs.1.1 ?_, fun z => by omega⟩
      have eL' : L = TT := by
        have z : dT (tO T n) (tV T n 32) (tW T n 32 W) (tP T n) kp kd 0 y = [] := rfl
        rw [z, List.append_nil] at eL
        exact eL
      have := k (wr g 2 0 0)
      rw [← eY', ← e8] at this
      refine this (fun z => ?_)
      obtain ⟨d1, d2, d3⟩ := hd (e8.symm.trans z)
      rw [← eL']
      exact ⟨⟨by rw [rdw_ne (by decide), d1, d2], by omega⟩, fun i hi => by rw [rdw_ne (by decide), rdw_ne (by decide)]; exact d3 i hi⟩
    | succ c ih =>
      intro g y L hc eY eL hs gP gf yl hd
      have gF := hs.1.1
      have e8 := hs.2.1
      have stop : ¬ (y.1.1 = 0 ∧ tO T n y.1.2 ≠ 0) → Rn xs xl e mm_Reader_readDay 44 [some (.inr (.inr 2)), some (.inr (.inr q)), some (.inr (.inr 67)), some (.inl (1000 - ((c + 1 : Nat) : Int)))] [] g Q := by
        intro ns
        have eY' : y = Y := by rw [dL_stop ns] at eY; exact eY
        refine B_Reader_readDay_44 hq gF ?_
        have eL' : L = TT := by rw [dT_stop ns, List.append_nil] at eL; exact eL
        have := k (wr g 2 0 0)
        rw [← eY', ← e8] at this
        refine this (fun z => ?_)
        obtain ⟨d1, d2, d3⟩ := hd (e8.symm.trans z)
        rw [← eL']
        exact ⟨⟨by rw [rdw_ne (by decide), d1, d2], by omega⟩, fun i hi => by rw [rdw_ne (by decide), rdw_ne (by decide)]; exact d3 i hi⟩
      refine B_Reader_readDay_11 hq gF (by omega) ⟨fun z => by omega, fun _ => ⟨fun z => stop (fun z2 => z (e8.trans z2.1)), fun z => ?_⟩⟩
      have z0 : y.1.1 = 0 := e8.symm.trans z
      have ek := CS_k hs z0
      refine ⟨fun z2 => stop (fun z3 => z3.2 (ck_0.mp (ek.symm.trans z2))), fun z2 => ?_⟩
      have no : tO T n y.1.2 ≠ 0 := fun z3 => z2 (ek.trans (ck_0.mpr z3))
      rw [dL_go ⟨z0, no⟩] at eY
      rw [dT_go ⟨z0, no⟩, ← List.singleton_append, ← List.append_assoc] at eL
      obtain ⟨hd1, hd2, hd3⟩ := hd z0
      have cnt := dS_cnt (o := tO T n) (v := tV T n 32) (w := tW T n 32 W) (p := tP T n) (kp := kp) (kd := kd) (y := y) hp
      have q2 : rd g q 2 = rd h q 2 := gf _ _ (by omega) (by omega)
      have q4 : rd g q 4 = rd h q 4 := gf _ _ (by omega) (by omega)
      have ep' : (fun j => nmC (fun i => rd g (q + 21 + i) 0) (rd g q 4).toNat (tV T n 32 j)) = kp := by
        rw [← ekp, q4]
        funext j
        unfold nmC
        refine list_any_congr (fun i hi => ?_)
        have l := List.mem_range.mp hi
        show decide (rd g (q + 21 + (i : Int)) 0 = _) = decide (rd h (q + 21 + (i : Int)) 0 = _)
        rw [gf (q + 21 + i) 0 (by omega) (by omega)]
      have ed' : (fun j => nmC (fun i => rd g (q + 7 + i) 0) (rd g q 2).toNat (tV T n 32 j)) = kd := by
        rw [← ekd, q2]
        funext j
        unfold nmC
        refine list_any_congr (fun i hi => ?_)
        have l := List.mem_range.mp hi
        show decide (rd g (q + 7 + (i : Int)) 0 = _) = decide (rd h (q + 7 + (i : Int)) 0 = _)
        rw [gf (q + 7 + i) 0 (by omega) (by omega)]
      refine ⟨5, by omega, F_dayLine (c := y.2) (by omega) hq gP hs z0 no (by rw [q2]; exact b2) (by rw [q4]; exact b4) hd1 yl hp ?_⟩
      rw [ep', ed']
      have yl' := dS_le (o := tO T n) (v := tV T n 32) (w := tW T n 32 W) (p := tP T n) (kp := kp) (kd := kd) (y := (y.1, y.2)) yl
      intro g1 c1 d1 f1
      have ey : ((y.1, y.2) : (Int × Nat) × Nat) = y := rfl
      rw [ey] at c1 d1 yl'
      generalize dS (tO T n) (tV T n 32) (tW T n 32 W) (tP T n) kp kd y = y' at eY eL c1 d1 yl' cnt
      have := ih g1 y' (L ++ [y.1.2]) (by omega) eY eL c1 (PT_fr gP (fun a i ha => f1 _ _ (by unfold muD muR; omega))) (fun a i a0 a1 => (f1 a i (by unfold muD muR; omega)).trans (gf a i a0 a1)) yl' (fun z' => by
        obtain ⟨x1, x2, x3⟩ := d1 z'
        have ln : (L ++ [y.1.2]).length = y.2 + 1 := by rw [List.length_append, List.length_singleton, hd2]
        rw [cnt z']
        refine ⟨by rw [x1]; omega, ln, fun i hi => ?_⟩
        rw [ln] at hi
        by_cases c0 : i = y.2
        · have eg : (L ++ [y.1.2]).getD i 0 = y.1.2 := by rw [c0, ← hd2]; exact getD_e
          rw [eg, c0]
          rw [q4, q2] at x2
          exact LnC_c x2 (fun x x0 x1 => (gf _ _ (by omega) (by omega)).symm) (fun x x0 x1 => (gf _ _ (by omega) (by omega)).symm)
        · rw [getD_l (by omega), x3 71 i (Or.inl rfl) (by omega), x3 72 i (Or.inr rfl) (by omega)]
          exact hd3 i (by omega))
      rw [show 1000 - (c : Int) = 1000 - ((c + 1 : Nat) : Int) + 1 by omega] at this
      exact B_Reader_readDay_38 hq c1.1.1 (by omega) this
  refine B_Reader_readDay_0 hq hx.1 ⟨3, by omega, F_begin (by omega) hx (fun h1 s1 f1 => ?_)⟩
  refine B_Reader_readDay_4 hq s1.1.1 ?_
  have F1 : RF (wr h1 67 1 0) := RF_wn (by decide +kernel) s1.1.1
  exact loop 1000 _ ((0, 0), 0) [] (Nat.le_refl _) eF eT (CSK_fr F1 (fun a i ha => rdw_ne (by omega)) s1) (PT_fr hP (fun a i ha => (rdw_ne (by omega)).trans (f1 _ _ (by unfold muR; omega)))) (fun a i a0 a1 => (rdw_ne (by omega)).trans (f1 _ _ (by unfold muR; omega))) (Nat.zero_le _) (fun _ => ⟨rdw_eq, rfl, fun i hi => absurd hi (Nat.not_lt_zero i)⟩)
/-- what the first of the names that is x names; -1: none -/
def fndI (f c : Nat → Int) (x : Int) : Nat → Nat → Int
  | _, 0 => -1
  | b, d + 1 => if f b = x then c b else fndI f c x (b + 1) d
theorem fndI_sp {f c : Nat → Int} {x : Int} : ∀ (d b : Nat), (∃ i : Nat, b ≤ i ∧ i < b + d ∧ f i = x ∧ fndI f c x b d = c i) ∨ ((∀ i : Nat, b ≤ i → i < b + d → f i ≠ x) ∧ fndI f c x b d = -1)
  | 0, b => Or.inr ⟨fun i h1 h2 => absurd h2 (by omega), rfl⟩
  | d + 1, b => by
    unfold fndI
    by_cases z : f b = x
    · rw [if_pos z]
      exact Or.inl ⟨b, Nat.le_refl _, by omega, z, rfl⟩
    · rw [if_neg z]
      rcases fndI_sp d (b + 1) with ⟨i, i1, i2, i3, i4⟩ | ⟨q1, q2⟩
      · exact Or.inl ⟨i, by omega, by omega, i3, i4⟩
      · refine Or.inr ⟨fun i i1 i2 => ?_, q2⟩
        by_cases eb : i = b
        · rw [eb]; exact z
        · exact q1 i (by omega) (by omega)
theorem G_find0 (hs : RSK T n V m h s) (hz : s.1 = 0) (ho : tO T n s.2 = 1) (hb : 0 ≤ rd h 182 18 ∧ rd h 182 18 ≤ 20) (k : Q (some (.inl (fndI (fun i => rd h 191 i) (fun i => rd h 193 i) (tV T n 37 s.2) 0 (rd h 182 18).toNat))) h) : Rn xs xl e mm_find 0 [some (.inr (.inr 182)), some (.inl 0), none] [] h Q := by
  have hF := hs.1.1
  have a7 := hs.2.2.2.1
  have ev := RS_v hs hz (by omega) (by omega)
  have loop : ∀ (d b : Nat), b + d = (rd h 182 18).toNat → Q (some (.inl (fndI (fun i => rd h 191 i) (fun i => rd h 193 i) (tV T n 37 s.2) b d))) h → Rn xs xl e mm_find 2 [some (.inr (.inr 182)), some (.inl 0), some (.inl (b : Int))] [] h Q := by
    intro d
    induction d with
    | zero =>
      intro b hd kk
      exact B_find_2 hF ⟨fun _ => ⟨fun _ => kk, fun c => by omega⟩, fun c => absurd rfl c⟩
    | succ d ih =>
      intro b hd kk
      unfold fndI at kk
      refine B_find_2 hF ⟨fun _ => ⟨fun c => by omega, fun c => ⟨fun _ => ⟨by omega, by omega, fun c2 => ⟨by omega, ?_⟩, fun c2 => ⟨fun _ => ⟨by omega, ?_⟩, fun c3 => absurd rfl c3⟩⟩, fun c2 => absurd rfl c2⟩⟩, fun c => absurd rfl c⟩
      · rw [if_neg (fun z => c2 (by rw [lcmp0, ev]; exact z))] at kk
        have := ih (b + 1) (by omega) kk
        rw [show ((b + 1 : Nat) : Int) = (b : Int) + 1 by omega] at this
        exact this
      · rw [lcmp0, ev] at c2
        rw [if_pos c2] at kk
        exact kk
  exact B_find_0 hF (loop (rd h 182 18).toNat 0 (by omega) k)
/-- the reference knows it as one of 'many' from 'from' on -/
def kR (h : LH) (T : Int → Int) (n from_ many : Int) (j : Nat) : Bool := decide (0 ≤ fndI (fun i => rd h 191 i) (fun i => rd h 193 i) (tV T n 37 j) 0 (rd h 182 18).toNat - from_ ∧ fndI (fun i => rd h 191 i) (fun i => rd h 193 i) (tV T n 37 j) 0 (rd h 182 18).toNat - from_ ≤ many - 1)
theorem fndI_in (hb : 0 ≤ rd h 182 18 ∧ rd h 182 18 ≤ 20) (h9 : ∀ i, 0 ≤ i → i < 20 → 0 ≤ rd h 193 i ∧ rd h 193 i ≤ 25) (x : Int) : -1 ≤ fndI (fun i => rd h 191 i) (fun i => rd h 193 i) x 0 (rd h 182 18).toNat ∧ fndI (fun i => rd h 191 i) (fun i => rd h 193 i) x 0 (rd h 182 18).toNat ≤ 25 := by
  rcases fndI_sp (f := fun i => rd h 191 i) (c := fun i => rd h 193 i) (x := x) (rd h 182 18).toNat 0 with ⟨i, i1, i2, i3, i4⟩ | ⟨q1, q2⟩
  · rw [i4]
    have := h9 (i : Int) (by omega) (by omega)
    show -1 ≤ rd h 193 (i : Int) ∧ rd h 193 (i : Int) ≤ 25
    omega
  · rw [q2]; decide
theorem G_takeTold (he : 3 ≤ e) (hs : RSK T n V m h s) (hb : 0 ≤ rd h 182 18 ∧ rd h 182 18 ≤ 20) (h9 : ∀ i, 0 ≤ i → i < 20 → 0 ≤ rd h 193 i ∧ rd h 193 i ≤ 25) (hv : 0 ≤ v1 ∧ v1 ≤ 20) (hw : 1 ≤ v2 ∧ v2 ≤ 14)
    (k : ∀ h' r, RSK T n V m h' (tkK (tO T n) (tW T n 37 V) (tP T n) (kR h T n v1 v2) s) → ((tkK (tO T n) (tW T n 37 V) (tP T n) (kR h T n v1 v2) s).1 = 0 → r = fndI (fun i => rd h 191 i) (fun i => rd h 193 i) (tV T n 37 s.2) 0 (rd h 182 18).toNat - v1 ∧ 0 ≤ r ∧ r ≤ v2 - 1) → frT h h' → Q (some (.inl r)) h') : Rn xs xl e mm_takeTold 0 [some (.inr (.inr 182)), some (.inl v1), some (.inl v2), none] [] h Q := by
  have e8 := hs.2.1
  have p0 := hs.2.2.1
  have flt : ∀ (g : LH) (t : Int × Nat), RSK T n V m g t → t.1 ≠ 0 → frT h g → t = tkK (tO T n) (tW T n 37 V) (tP T n) (kR h T n v1 v2) s → Rn xs xl e mm_takeTold 19 [some (.inr (.inr 182)), some (.inl v1), some (.inl v2), none] [] g Q := by
    intro g t gs gz gf et
    have g8 := gs.2.1
    have g0 := gs.2.2.1
    have a7 := gs.2.2.2.1
    refine B_takeTold_19 gs.1.1 (by omega) ⟨fun c => by omega, fun c => ⟨fun _ => ⟨fun c2 => by omega, fun _ => ⟨by omega, k _ _ ?_ (fun q3 => absurd (by rw [et]; exact q3) gz) (gf.trans fr7)⟩⟩, fun c2 => by omega⟩⟩
    rw [← et]
    exact RS_same gs
  by_cases hz : s.1 = 0
  · refine B_takeTold_0 hs.1.1 ⟨fun c => absurd (e8.trans hz) c, fun _ => ⟨2, by omega, G_isName (by omega) hs (fun _ nm => ?_) (fun no => ?_)⟩⟩
    · have o1 := isNm_o nm
      refine B_takeTold_11_1 hs.1.1 (B_takeTold_19 hs.1.1 (by omega) ⟨fun _ => ⟨0, by omega, G_find0 hs hz o1 hb ?_⟩, fun c => by omega⟩)
      have fin := fndI_in hb h9 (tV T n 37 s.2)
      have ek : kR h T n v1 v2 s.2 = decide (0 ≤ fndI (fun i => rd h 191 i) (fun i => rd h 193 i) (tV T n 37 s.2) 0 (rd h 182 18).toNat - v1 ∧ fndI (fun i => rd h 191 i) (fun i => rd h 193 i) (tV T n 37 s.2) 0 (rd h 182 18).toNat - v1 ≤ v2 - 1) := rfl
      generalize fndI (fun i => rd h 191 i) (fun i => rd h 193 i) (tV T n 37 s.2) 0 (rd h 182 18).toNat = f at fin ek k ⊢
      have a7 := hs.2.2.2.1
      have bad : ¬ (0 ≤ f - v1 ∧ f - v1 ≤ v2 - 1) → ∃ c, c < e ∧ Rn xs xl c mm_wrong 0 [some (.inr (.inr 182)), some (.inl 2)] [] h (fun r h' => Rn xs xl e mm_takeTold 61 [some (.inr (.inr 182)), some (.inl v1), some (.inl v2), some (.inl (f - v1))] (r.toList ++ []) h' Q) := by
        intro nb
        have eK : tkK (tO T n) (tW T n 37 V) (tP T n) (kR h T n v1 v2) s = tkE (tP T n) 2 s := by
          unfold tkK
          rw [if_pos nm, if_neg (by rw [ek, decide_eq_true_iff]; exact nb)]
        rw [eK] at k
        refine ⟨0, by omega, G_wrong hs (by omega) (fun g c1 f1 => ?_)⟩
        have g8 := c1.2.1
        have g0 := c1.2.2.1
        have ne := tkE_ne' hs (v1 := 2) (by decide)
        have b7 := c1.2.2.2.1
        refine B_takeTold_61 c1.1.1 ⟨fun c => by omega, fun _ => ⟨by omega, k _ _ (RS_same c1) (fun q3 => absurd q3 ne) (f1.trans fr7)⟩⟩
      refine B_takeTold_35 hs.1.1 (by omega) ⟨by omega, fun c => absurd (e8.trans hz) c, fun _ => ⟨by omega, fun c => bad (by omega), fun c => ⟨fun c2 => bad (by omega), fun c2 => ?_⟩⟩⟩
      have eK : tkK (tO T n) (tW T n 37 V) (tP T n) (kR h T n v1 v2) s = tkA s := by
        unfold tkK
        rw [if_pos nm, if_pos (by rw [ek, decide_eq_true_iff]; exact ⟨c, c2⟩)]
      rw [eK] at k
      refine B_takeTold_61 hs.1.1 ⟨fun _ => ⟨by omega, k _ _ (RS_adv hs hz (by omega)) (fun _ => ⟨rfl, c, c2⟩) fr7⟩, fun c3 => by omega⟩
    · have eK : tkK (tO T n) (tW T n 37 V) (tP T n) (kR h T n v1 v2) s = tkE (tP T n) 1 s := by
        unfold tkK
        rw [if_neg (no hz)]
      exact B_takeTold_11_0 hs.1.1 ⟨0, by omega, G_wrong hs (by omega) (fun g c1 f1 => flt g _ c1 (tkE_ne' hs (by decide)) f1 eK.symm)⟩
  · exact B_takeTold_0 hs.1.1 ⟨fun _ => flt h s hs hz frT.refl (tkK_f hz).symm, fun c => absurd (e8.symm.trans c) hz⟩
theorem RSK_wn {a i x : Int} (hs : RSK T n V m h s) (hn : (hav a i).1 ≠ 2) (ha : a = 195 ∨ (a = 182 ∧ i = 21)) : RSK T n V m (wr h a i x) s := by
  have e7 : rd (wr h a i x) 182 7 = rd h 182 7 := by rw [rd_wr, if_neg (by omega)]
  have e8 : rd (wr h a i x) 182 8 = rd h 182 8 := by rw [rd_wr, if_neg (by omega)]
  exact ⟨RXK_fr hs.1 (RF_wn hn hs.1.1) (fun b j hb => rdw_ne (by omega)), e8.trans hs.2.1, hs.2.2.1, by rw [e7]; exact hs.2.2.2.1, by rw [e7]; exact hs.2.2.2.2⟩
theorem hav_195 (i : Int) : (hav 195 i).1 ≠ 2 := hav_nr (by decide +kernel) i
theorem hav_21 : (hav 182 21).1 ≠ 2 := by decide +kernel
/-- places that a line of a day changes in the reference -/
def muRD (a i : Int) : Prop := muTK a i ∨ (a = 195 ∧ 50 ≤ i) ∨ (a = 182 ∧ i = 21)
/-- the reference's line that begins at token t -/
def LnR (o w : Nat → Int) (fp fd : Nat → Int) (t : Nat) (x y : Int) : Prop := (w t = 13 ∧ x = -1) ∨ (w t = 12 ∧ (o (t + 1) = 1 ∧ (0 ≤ x ∧ x ≤ 5) ∧ x = fp (t + 1) - 20) ∧ (o (t + 2) = 1 ∧ (0 ≤ y ∧ y ≤ 13) ∧ y = fd (t + 2)))
/-- which name it finds -/
def fR (h : LH) (T : Int → Int) (n : Int) (j : Nat) : Int := fndI (fun i => rd h 191 i) (fun i => rd h 193 i) (tV T n 37 j) 0 (rd h 182 18).toNat
theorem G_day (he : 6 ≤ e) (hF : RF h) (hb : 0 ≤ rd h 182 18 ∧ rd h 182 18 ≤ 20) (h9 : ∀ i, 0 ≤ i → i < 20 → 0 ≤ rd h 193 i ∧ rd h 193 i ≤ 25) (h2 : rd h 182 2 = n) (n0 : 0 ≤ n) (n1 : n ≤ 1000) (hT : ∀ i, 0 ≤ i → i < n → rd h 183 i = T i) (hV : rd h 187 = V) (hi : Vinj V)
    (k : ∀ h', ((dF (tO T n) (tV T n 37) (tW T n 37 V) (tP T n) (kR h T n 20 6) (kR h T n 0 14)).1.1 ≠ 0 → ∀ i, 0 ≤ i → i < 50 → rd h' 195 i = rd h 195 i) → ((dF (tO T n) (tV T n 37) (tW T n 37 V) (tP T n) (kR h T n 20 6) (kR h T n 0 14)).1.1 = 0 → (rd h' 195 0 = ((dTF (tO T n) (tV T n 37) (tW T n 37 V) (tP T n) (kR h T n 20 6) (kR h T n 0 14)).length : Int) ∧ (dTF (tO T n) (tV T n 37) (tW T n 37 V) (tP T n) (kR h T n 20 6) (kR h T n 0 14)).length ≤ 24) ∧ ∀ i : Nat, i < (dTF (tO T n) (tV T n 37) (tW T n 37 V) (tP T n) (kR h T n 20 6) (kR h T n 0 14)).length → LnR (tO T n) (tW T n 37 V) (fR h T n) (fR h T n) ((dTF (tO T n) (tV T n 37) (tW T n 37 V) (tP T n) (kR h T n 20 6) (kR h T n 0 14)).getD i 0) (rd h' 195 (2 * (i : Int) + 1)) (rd h' 195 (2 * (i : Int) + 2))) → Q (some (.inl (dF (tO T n) (tV T n 37) (tW T n 37 V) (tP T n) (kR h T n 20 6) (kR h T n 0 14)).1.1)) h') : Rn xs xl e mm_day 0 [some (.inr (.inr 182)), none] [] h Q := by
  have hp : ∀ j, 0 ≤ tP T n j := fun j => tP_0 n1 n0 j
  generalize ekp : kR h T n 20 6 = kp at k
  generalize ekd : kR h T n 0 14 = kd at k
  generalize eF : dF (tO T n) (tV T n 37) (tW T n 37 V) (tP T n) kp kd = Y at k
  generalize eT : dTF (tO T n) (tV T n 37) (tW T n 37 V) (tP T n) kp kd = TT at k
  -- what lies behind a text without a fault
  have tl : ∀ (d : Nat) (G g : LH) (b : Int), RF g → (0 ≤ rd G 182 21 ∧ rd G 182 21 ≤ 24) → 2 * rd G 182 21 - b ≤ d → 0 ≤ b → b ≤ 2 * rd G 182 21 → (∀ a i, ¬ (a = 195 ∧ 1 ≤ i ∧ i < 50) → rd g a i = rd G a i) → (∀ j, 0 ≤ j → j < b → rd g 195 (j + 1) = rd G 195 (j + 50)) → (∀ h', (∀ j, 0 ≤ j → j < 2 * rd G 182 21 → rd h' 195 (j + 1) = rd G 195 (j + 50)) → rd h' 195 0 = rd G 195 0 → Q (some (.inl 0)) h') → Rn xs xl e mm_day 113 [some (.inr (.inr 182)), some (.inl b)] [] g Q := by
    intro d
    induction d with
    | zero =>
      intro G g b gF gb hd b0 b1 gf gc kk
      have e21 : rd g 182 21 = rd G 182 21 := gf 182 21 (by omega)
      exact B_day_113 gF ⟨by omega, fun c => kk g (fun j j0 j1 => gc j j0 (by omega)) (gf 195 0 (by omega)), fun c => by omega⟩
    | succ d ih =>
      intro G g b gF gb hd b0 b1 gf gc kk
      have e21 : rd g 182 21 = rd G 182 21 := gf 182 21 (by omega)
      refine B_day_113 gF ⟨by omega, fun c => kk g (fun j j0 j1 => gc j j0 (by omega)) (gf 195 0 (by omega)), fun c => ⟨by omega, by omega, by omega, by omega, by omega, ?_⟩⟩
      refine ih G _ (b + 1) (RF_wn (hav_195 _) gF) gb (by omega) (by omega) (by omega) (fun a i n => ?_) (fun j j0 j1 => ?_) kk
      · rw [rd_wr, if_neg (by omega)]
        exact gf a i n
      · by_cases z : j = b
        · rw [z, rdw_eq]
          exact gf 195 _ (by omega)
        · rw [rdw_nei (by omega)]
          exact gc j j0 (by omega)
  have loop : ∀ (m : Nat) (c : Nat) (g : LH) (y : (Int × Nat) × Nat) (L : List Nat), dL (tO T n) (tV T n 37) (tW T n 37 V) (tP T n) kp kd c y = Y → L ++ dT (tO T n) (tV T n 37) (tW T n 37 V) (tP T n) kp kd c y = TT → RSK T n V m g y.1 → (∀ a i, a = 191 ∨ a = 193 ∨ (a = 182 ∧ i = 18) ∨ (a = 195 ∧ 0 ≤ i ∧ i < 50) → rd g a i = rd h a i) → y.2 ≤ 24 → (y.1.1 = 0 → (rd g 182 21 = (y.2 : Int) ∧ L.length = y.2 ∧ ∀ i : Nat, i < L.length → LnR (tO T n) (tW T n 37 V) (fR h T n) (fR h T n) (L.getD i 0) (rd g 195 (2 * (i : Int) + 50)) (rd g 195 (2 * (i : Int) + 51))) ∧ 1000 ≤ y.1.2 + c) → Rn xs xl e mm_day 14 [some (.inr (.inr 182)), none] [] g Q := by
    intro m c
    induction c with
    | zero =>
      intro g y L eY eL hs gf yl hd
      have gF := hs.1.1
      have e8 := hs.2.1
      have a7 := hs.2.2.2.1
      have p0 := hs.2.2.1
      have m1 := hs.1.2.2.2.2.1
      have eY' : y = Y := eY
      have eL' : L = TT := by
        have z : dT (tO T n) (tV T n 37) (tW T n 37 V) (tP T n) kp kd 0 y = [] := rfl
        rw [z, List.append_nil] at eL
        exact eL
      have stop : Rn xs xl e mm_day 89 [some (.inr (.inr 182)), none] [] g Q := by
        refine B_day_89 gF ⟨fun c => ?_, fun c => ?_⟩
        · have z : y.1.1 = 0 := by omega
          have e21 : rd (wr g 195 0 (rd g 182 21)) 182 21 = rd g 182 21 := rdw_ne (by decide)
          obtain ⟨⟨l1, l2, l3⟩, -⟩ := hd z
          refine tl 48 (wr g 195 0 (rd g 182 21)) _ 0 (RF_wn (hav_195 _) gF) (by rw [e21]; omega) (by rw [e21]; omega) (by decide) (by rw [e21]; omega) (fun _ _ _ => rfl) (fun j j0 j1 => by omega) (fun h' hc h0 => ?_)
          have := k h'
          rw [← eY', z] at this
          refine this (fun q3 => absurd rfl q3) (fun _ => ?_)
          rw [← eL']
          rw [e21] at hc
          refine ⟨⟨by rw [h0, rdw_eq, l1, l2], by omega⟩, fun i hi => ?_⟩
          have c1 := hc (2 * (i : Int)) (by omega) (by omega)
          have c2 := hc (2 * (i : Int) + 1) (by omega) (by omega)
          rw [rdw_nei (by omega)] at c1 c2
          rw [show 2 * (i : Int) + 1 + 1 = 2 * (i : Int) + 2 by omega, show 2 * (i : Int) + 1 + 50 = 2 * (i : Int) + 51 by omega] at c2
          rw [c1, c2]
          exact l3 i hi
        · have := k g
          rw [← eY', ← e8] at this
          exact this (fun _ i i0 i1 => gf 195 i (Or.inr (Or.inr (Or.inr ⟨rfl, i0, i1⟩)))) (fun q3 => absurd q3 (by omega))
      refine B_day_14 gF ⟨fun _ => stop, fun c => ⟨by omega, fun _ => stop, fun c2 => ?_⟩⟩
      have z : y.1.1 = 0 := e8.symm.trans c
      have eo := RS_o hs z
      have lt := RS_lt hs z (fun q3 => c2 (eo.trans q3))
      have := (hd z).2
      omega
    | succ c ih =>
      intro g y L eY eL hs gf yl hd
      have gF := hs.1.1
      have e8 := hs.2.1
      have a7 := hs.2.2.2.1
      have p0 := hs.2.2.1
      have m1 := hs.1.2.2.2.2.1
      have stop : ¬ (y.1.1 = 0 ∧ tO T n y.1.2 ≠ 0) → Rn xs xl e mm_day 89 [some (.inr (.inr 182)), none] [] g Q := by
        intro ns
        have eY' : y = Y := by rw [dL_stop ns] at eY; exact eY
        have eL' : L = TT := by rw [dT_stop ns, List.append_nil] at eL; exact eL
        refine B_day_89 gF ⟨fun c => ?_, fun c => ?_⟩
        · have z : y.1.1 = 0 := by omega
          have e21 : rd (wr g 195 0 (rd g 182 21)) 182 21 = rd g 182 21 := rdw_ne (by decide)
          obtain ⟨⟨l1, l2, l3⟩, -⟩ := hd z
          refine tl 48 (wr g 195 0 (rd g 182 21)) _ 0 (RF_wn (hav_195 _) gF) (by rw [e21]; omega) (by rw [e21]; omega) (by decide) (by rw [e21]; omega) (fun _ _ _ => rfl) (fun j j0 j1 => by omega) (fun h' hc h0 => ?_)
          have := k h'
          rw [← eY', z] at this
          refine this (fun q3 => absurd rfl q3) (fun _ => ?_)
          rw [← eL']
          rw [e21] at hc
          refine ⟨⟨by rw [h0, rdw_eq, l1, l2], by omega⟩, fun i hi => ?_⟩
          have c1 := hc (2 * (i : Int)) (by omega) (by omega)
          have c2 := hc (2 * (i : Int) + 1) (by omega) (by omega)
          rw [rdw_nei (by omega)] at c1 c2
          rw [show 2 * (i : Int) + 1 + 1 = 2 * (i : Int) + 2 by omega, show 2 * (i : Int) + 1 + 50 = 2 * (i : Int) + 51 by omega] at c2
          rw [c1, c2]
          exact l3 i hi
        · have := k g
          rw [← eY', ← e8] at this
          exact this (fun _ i i0 i1 => gf 195 i (Or.inr (Or.inr (Or.inr ⟨rfl, i0, i1⟩)))) (fun q3 => absurd q3 (by omega))
      refine B_day_14 gF ⟨fun c0 => stop (fun q3 => c0 (e8.trans q3.1)), fun c0 => ⟨by omega, fun q2 => stop (fun q3 => q3.2 ((RS_o hs q3.1).symm.trans q2)), fun q2 => ?_⟩⟩
      have z : y.1.1 = 0 := e8.symm.trans c0
      have eo := RS_o hs z
      have no : tO T n y.1.2 ≠ 0 := fun q3 => q2 (eo.trans q3)
      have lt := RS_lt hs z no
      obtain ⟨⟨l21, lL, lR⟩, hc⟩ := hd z
      rw [dL_go ⟨z, no⟩] at eY
      rw [dT_go ⟨z, no⟩, ← List.singleton_append, ← List.append_assoc] at eL
      have cnt := dS_cnt (o := tO T n) (v := tV T n 37) (w := tW T n 37 V) (p := tP T n) (kp := kp) (kd := kd) (y := y) hp
      have adv := dS_adv (o := tO T n) (v := tV T n 37) (w := tW T n 37 V) (p := tP T n) (kp := kp) (kd := kd) (y := y) hp z
      have yl' := dS_le (o := tO T n) (v := tV T n 37) (w := tW T n 37 V) (p := tP T n) (kp := kp) (kd := kd) (y := y) yl
      have t80 : ∀ (g1 : LH) (s1 : Int × Nat), RSK T n V m g1 s1 → (∀ a i, ¬ muRD a i → rd g1 a i = rd g a i) → (dS (tO T n) (tV T n 37) (tW T n 37 V) (tP T n) kp kd y).1 = tkS (tO T n) (tV T n 37) (tP T n) 59 s1 → (s1.1 = 0 → rd g1 182 21 = (y.2 : Int) + 1 ∧ LnR (tO T n) (tW T n 37 V) (fR h T n) (fR h T n) y.1.2 (rd g1 195 (2 * (y.2 : Int) + 50)) (rd g1 195 (2 * (y.2 : Int) + 51)) ∧ ∀ i, 50 ≤ i → i < 2 * (y.2 : Int) + 50 → rd g1 195 i = rd g 195 i) → Rn xs xl e mm_day 80 [some (.inr (.inr 182)), none] [] g1 Q := by
        generalize dS (tO T n) (tV T n 37) (tW T n 37 V) (tP T n) kp kd y = y' at eY eL adv yl' cnt
        intro g1 s1 r1 f1 e1 d1
        refine B_day_80 r1.1.1 ⟨1, by omega, G_takeSign (by omega) r1 (fun g2 c2 f2 => ?_)⟩
        have c2' := c2
        rw [← e1] at c2'
        refine B_day_86 c2.1.1 (ih g2 y' (L ++ [y.1.2]) eY eL c2' (fun a i ha => ?_) yl' (fun z' => ⟨?_, ?_⟩))
        · rw [f2 a i (by unfold muTK; omega), f1 a i (by unfold muRD muTK; omega)]
          exact gf a i ha
        · have z1 : s1.1 = 0 := tkS_z (by rw [← e1]; exact z')
          obtain ⟨x1, x2, x3⟩ := d1 z1
          have ln : (L ++ [y.1.2]).length = y.2 + 1 := by rw [List.length_append, List.length_singleton, lL]
          have u5 : ∀ i, rd g2 195 i = rd g1 195 i := fun i => f2 195 i (by unfold muTK; omega)
          rw [cnt z']
          refine ⟨by rw [f2 182 21 (by unfold muTK; omega), x1]; omega, ln, fun i hi => ?_⟩
          rw [ln] at hi
          rw [u5, u5]
          by_cases c0 : i = y.2
          · have eg : (L ++ [y.1.2]).getD i 0 = y.1.2 := by rw [c0, ← lL]; exact getD_e
            rw [eg, c0]
            exact x2
          · rw [getD_l (by omega), x3 _ (by omega) (by omega), x3 _ (by omega) (by omega)]
            exact lR i (by omega)
        · have := adv z'
          omega
      have bad : ∀ (c0 : Int), 1 ≤ c0 → (dS (tO T n) (tV T n 37) (tW T n 37 V) (tP T n) kp kd y).1 = tkE (tP T n) c0 y.1 → ∀ g1, RSK T n V m g1 (tkE (tP T n) c0 y.1) → frT g g1 → Rn xs xl e mm_day 80 [some (.inr (.inr 182)), none] [] g1 Q := by
        intro c0 h0 eS g1 c1 f1
        have ne := tkE_ne' hs h0
        exact t80 g1 _ c1 (fun a i hn => f1 a i (fun z => hn (Or.inl z))) (by rw [tkS_f ne]; exact eS) (fun q3 => absurd q3 ne)
      have gkp : kR g T n 20 6 = kp := by
        rw [← ekp]
        unfold kR
        have e1 : (fun i : Nat => rd g 191 (i : Int)) = (fun i : Nat => rd h 191 (i : Int)) := funext (fun i => gf _ _ (Or.inl rfl))
        have e2 : (fun i : Nat => rd g 193 (i : Int)) = (fun i : Nat => rd h 193 (i : Int)) := funext (fun i => gf _ _ (Or.inr (Or.inl rfl)))
        rw [e1, e2, gf 182 18 (Or.inr (Or.inr (Or.inl ⟨rfl, rfl⟩)))]
      -- one line that counts
      have turn : y.2 < 24 → ∀ hour : Int, (hour = 0 ∨ hour = 1) → (hour = 1 ↔ tW T n 37 V y.1.2 = 13) → (hour = 0 → tW T n 37 V y.1.2 = 12) → Rn xs xl 5 mm_readTurn 0 [some (.inr (.inr 182)), none, none] [] g (fun r h' => Rn xs xl e mm_day 80 [some (.inr (.inr 182)), none] (r.toList ++ []) h' Q) := by
        intro ylt hour h01 h1 h0
        have b18 : 0 ≤ rd g 182 18 ∧ rd g 182 18 ≤ 20 := by rw [gf 182 18 (Or.inr (Or.inr (Or.inl ⟨rfl, rfl⟩)))]; exact hb
        have g9 : ∀ i, 0 ≤ i → i < 20 → 0 ≤ rd g 193 i ∧ rd g 193 i ≤ 25 := fun i i0 i1 => by rw [gf 193 i (Or.inr (Or.inl rfl))]; exact h9 i i0 i1
        refine B_readTurn_0 gF ⟨by omega, by omega, 0, by omega, G_isWord hs (by omega) (fun _ w13 => ?_) (fun nw => ?_)⟩
        · -- an hour
          have eS : dS (tO T n) (tV T n 37) (tW T n 37 V) (tP T n) kp kd y = (tkS (tO T n) (tV T n 37) (tP T n) 59 (tkA y.1), y.2 + 1) := by
            unfold dS
            rw [if_neg (by omega), if_pos w13, if_neg (by omega)]
          have s1 := RS_adv hs z no
          refine B_readTurn_16 gF ⟨by omega, fun c => absurd c (by decide), fun _ => ⟨by omega, by omega, fun c => absurd c (by decide), fun _ => ⟨by omega, by omega, ?_⟩⟩⟩
          refine t80 _ (tkA y.1) (RSK_wn (RSK_wn (RSK_wn s1 (hav_195 _) (Or.inl rfl)) (hav_195 _) (Or.inl rfl)) hav_21 (Or.inr ⟨rfl, rfl⟩)) (fun a i hn => ?_) (by rw [eS]) (fun _ => ⟨?_, Or.inl ⟨w13, ?_⟩, fun i i0 i1 => ?_⟩)
          · unfold muRD muTK at hn
            rw [rd_wr, if_neg (fun z => hn (by omega)), rd_wr, if_neg (fun z => hn (by omega)), rd_wr, if_neg (fun z => hn (by omega)), rd_wr, if_neg (fun z => hn (by omega))]
          · rw [rdw_eq, l21]
          · rw [rdw_ne (by decide), l21, rdw_nei (by omega), rdw_eq]
          · rw [rdw_ne (by decide), rdw_nei (by omega), rdw_nei (by omega), rdw_ne (by decide)]
        · have w12 : tW T n 37 V y.1.2 = 12 := by
            rcases h01 with q3 | q3
            · exact h0 q3
            · exact absurd (h1.mp q3) (nw z)
          have eS : dS (tO T n) (tV T n 37) (tW T n 37 V) (tP T n) kp kd y = (tkS (tO T n) (tV T n 37) (tP T n) 59 (tkK (tO T n) (tW T n 37 V) (tP T n) kd (tkK (tO T n) (tW T n 37 V) (tP T n) kp (tkA y.1))), y.2 + 1) := by
            unfold dS
            rw [if_pos w12, if_neg (by omega)]
          have s1 := RS_adv hs z no
          have k1 : kR (wr g 182 7 (rd g 182 7 + 1)) T n 20 6 = kp := by
            rw [← gkp]
            unfold kR
            have e1 : (fun i : Nat => rd (wr g 182 7 (rd g 182 7 + 1)) 191 (i : Int)) = (fun i : Nat => rd g 191 (i : Int)) := funext (fun i => rdw_ne (by decide))
            have e2 : (fun i : Nat => rd (wr g 182 7 (rd g 182 7 + 1)) 193 (i : Int)) = (fun i : Nat => rd g 193 (i : Int)) := funext (fun i => rdw_ne (by decide))
            rw [e1, e2, rdw_nei (by decide)]
          refine B_readTurn_16 gF ⟨by omega, fun _ => ⟨3, by omega, G_takeTold (by omega) s1 (by rw [rdw_nei (by decide)]; exact b18) (fun i i0 i1 => by rw [rdw_ne (by decide)]; exact g9 i i0 i1) (by omega) (by omega) (fun g2 r2 c2 p2 f2 => ?_)⟩, fun c => absurd rfl c⟩
          rw [k1] at c2 p2
          have f2' : ∀ a i, ¬ muRD a i → rd g2 a i = rd g a i := fun a i hn => by
            unfold muRD muTK at hn
            rw [f2 a i (fun z => hn (Or.inl z)), rd_wr, if_neg (fun z => hn (by omega))]
          have c2' := RSK_wn (i := 2 * rd g 182 21 + 50) (x := r2) c2 (hav_195 _) (Or.inl rfl)
          have k2 : kR (wr g2 195 (2 * rd g 182 21 + 50) r2) T n 0 14 = kd := by
            rw [← ekd]
            unfold kR
            have e1 : (fun i : Nat => rd (wr g2 195 (2 * rd g 182 21 + 50) r2) 191 (i : Int)) = (fun i : Nat => rd h 191 (i : Int)) := funext (fun i => (rdw_ne (by decide)).trans ((f2' _ _ (by unfold muRD muTK; omega)).trans (gf _ _ (Or.inl rfl))))
            have e2 : (fun i : Nat => rd (wr g2 195 (2 * rd g 182 21 + 50) r2) 193 (i : Int)) = (fun i : Nat => rd h 193 (i : Int)) := funext (fun i => (rdw_ne (by decide)).trans ((f2' _ _ (by unfold muRD muTK; omega)).trans (gf _ _ (Or.inr (Or.inl rfl)))))
            rw [e1, e2, rdw_ne (by decide), f2' 182 18 (by unfold muRD muTK; omega), gf 182 18 (Or.inr (Or.inr (Or.inl ⟨rfl, rfl⟩)))]
          refine B_readTurn_48 c2.1.1 ⟨by omega, by omega, fun _ => ⟨3, by omega, G_takeTold (by omega) c2' ?_ (fun i i0 i1 => ?_) (by omega) (by omega) (fun g3 r3 c3 p3 f3 => ?_)⟩, fun c => absurd rfl c⟩
          · rw [rdw_ne (by decide), f2' 182 18 (by unfold muRD muTK; omega)]; exact b18
          · rw [rdw_ne (by decide), f2' 193 i (by unfold muRD muTK; omega)]; exact g9 i i0 i1
          · rw [k2] at c3 p3
            have e21 : rd g3 182 21 = (y.2 : Int) := by
              rw [f3 _ _ (by unfold muTK; omega), rdw_ne (by decide), f2 _ _ (by unfold muTK; omega), rdw_nei (by decide), l21]
            refine B_readTurn_71 c3.1.1 ⟨by omega, by omega, t80 _ _ (RSK_wn (RSK_wn c3 (hav_195 _) (Or.inl rfl)) hav_21 (Or.inr ⟨rfl, rfl⟩)) (fun a i hn => ?_) (by rw [eS]) (fun zt => ⟨?_, ?_, fun i i0 i1 => ?_⟩)⟩
            · have hn' := hn
              unfold muRD muTK at hn'
              rw [rd_wr, if_neg (fun z => hn' (by omega)), rd_wr, if_neg (fun z => hn' (by omega)), f3 a i (fun z => hn (Or.inl z)), rd_wr, if_neg (fun z => hn' (by omega))]
              exact f2' a i hn
            · rw [rdw_eq, e21]
            · obtain ⟨za, oa, -, ta⟩ := tkK_z hp zt
              obtain ⟨zb, ob, -, tb⟩ := tkK_z hp za
              obtain ⟨p3a, p3b, p3c⟩ := p3 zt
              obtain ⟨p2a, p2b, p2c⟩ := p2 za
              have t1 : (tkA y.1).2 = y.1.2 + 1 := by rw [tkA_0 z]
              rw [tb, t1] at oa p3a
              rw [show y.1.2 + 1 + 1 = y.1.2 + 2 from rfl] at oa p3a
              rw [t1] at ob p2a
              have x1 : rd (wr (wr g3 195 (2 * rd g 182 21 + 50 + 1) r3) 182 21 (rd g3 182 21 + 1)) 195 (2 * (y.2 : Int) + 50) = r2 := by
                rw [rdw_ne (by decide), rdw_nei (by omega), f3 195 _ (by unfold muTK; omega), l21, rdw_eq]
              have x2 : rd (wr (wr g3 195 (2 * rd g 182 21 + 50 + 1) r3) 182 21 (rd g3 182 21 + 1)) 195 (2 * (y.2 : Int) + 51) = r3 := by
                rw [rdw_ne (by decide), l21, show 2 * (y.2 : Int) + 50 + 1 = 2 * (y.2 : Int) + 51 by omega, rdw_eq]
              rw [x1, x2]
              have fr1 : ∀ u : LH, (∀ i, rd u 191 i = rd h 191 i) → (∀ i, rd u 193 i = rd h 193 i) → rd u 182 18 = rd h 182 18 → ∀ j, fndI (fun i => rd u 191 i) (fun i => rd u 193 i) (tV T n 37 j) 0 (rd u 182 18).toNat = fR h T n j := by
                intro u a1 a3 a18 j
                unfold fR
                rw [a18, show (fun i : Nat => rd u 191 (i : Int)) = (fun i : Nat => rd h 191 (i : Int)) from funext (fun i => a1 i), show (fun i : Nat => rd u 193 (i : Int)) = (fun i : Nat => rd h 193 (i : Int)) from funext (fun i => a3 i)]
              refine Or.inr ⟨w12, ⟨ob, ⟨p2b, by omega⟩, ?_⟩, oa, ⟨p3b, by omega⟩, ?_⟩
              · rw [p2a, fr1 (wr g 182 7 (rd g 182 7 + 1)) (fun i => (rdw_ne (by decide)).trans (gf 191 i (Or.inl rfl))) (fun i => (rdw_ne (by decide)).trans (gf 193 i (Or.inr (Or.inl rfl)))) ((rdw_nei (by decide)).trans (gf 182 18 (Or.inr (Or.inr (Or.inl ⟨rfl, rfl⟩)))))]
              · rw [p3a, fr1 (wr g2 195 (2 * rd g 182 21 + 50) r2) (fun i => (rdw_ne (by decide)).trans ((f2' 191 i (by unfold muRD muTK; omega)).trans (gf 191 i (Or.inl rfl)))) (fun i => (rdw_ne (by decide)).trans ((f2' 193 i (by unfold muRD muTK; omega)).trans (gf 193 i (Or.inr (Or.inl rfl))))) ((rdw_ne (by decide)).trans ((f2' 182 18 (by unfold muRD muTK; omega)).trans (gf 182 18 (Or.inr (Or.inr (Or.inl ⟨rfl, rfl⟩))))))]
                omega
            · rw [rdw_ne (by decide), rdw_nei (by omega), f3 195 _ (by unfold muTK; omega), rdw_nei (by omega)]
              exact (f2 195 i (by unfold muTK; omega)).trans (rdw_ne (by decide))
      refine ⟨0, by omega, G_isWord hs (by omega) (fun _ w12 => ?_) (fun nw => ?_)⟩
      · refine B_day_39_1 gF ⟨fun c => ⟨5, by omega, turn (by omega) 0 (Or.inl rfl) ⟨fun q3 => absurd q3 (by decide), fun q3 => by omega⟩ (fun _ => w12)⟩, fun c => ⟨0, by omega, G_wrong hs (by omega) (fun g1 c1 f1 => B_day_73 c1.1.1 (bad 5 (by decide) ?_ g1 c1 f1))⟩⟩
        unfold dS
        rw [if_pos w12, if_pos (by omega)]
      · have n12 := nw z
        refine B_day_39_0 gF ⟨0, by omega, G_isWord hs (by omega) (fun _ w13 => ?_) (fun nw13 => ?_)⟩
        · refine B_day_48_1 gF ⟨fun c => ⟨5, by omega, turn (by omega) 1 (Or.inr rfl) ⟨fun _ => w13, fun _ => rfl⟩ (fun q3 => absurd q3 (by decide))⟩, fun c => ⟨0, by omega, G_wrong hs (by omega) (fun g1 c1 f1 => B_day_73 c1.1.1 (bad 5 (by decide) ?_ g1 c1 f1))⟩⟩
          unfold dS
          rw [if_neg n12, if_pos w13, if_pos (by omega)]
        · have n13 := nw13 z
          refine B_day_48_0 gF ⟨0, by omega, G_wrong hs (by omega) (fun g1 c1 f1 => B_day_56 c1.1.1 (bad 1 (by decide) ?_ g1 c1 f1))⟩
          unfold dS
          rw [if_neg n12, if_neg n13]
  have F0 : RF (wr h 182 0 0) := RF_wn (by decide +kernel) hF
  refine B_day_0 hF ⟨2, by omega, F_cutAll (by omega) F0 ((rdw_nei (by decide)).trans h2) n0 n1 (fun i i0 i1 => (rdw_ne (by decide)).trans (hT i i0 i1)) (fun h1 m c1 c2 c3 c4 a7 a8 _ f1 => ?_)⟩
  have F1 : RF h1 := RF_fc F0 f1
  refine B_day_9 F1 ?_
  have s1 : RSK T n V m h1 (0, 0) := by
    refine ⟨⟨F1, c1, c2, c3, c4, n0, n1, ?_, hi⟩, a8, Int.le_refl 0, by omega, fun _ => ⟨a7, Nat.zero_le _⟩⟩
    rw [← hV]
    funext i
    rw [f1 _ _ (by unfold muC; omega), rdw_ne (by decide)]
  refine loop m 1000 _ ((0, 0), 0) [] eF eT (RSK_wn s1 hav_21 (Or.inr ⟨rfl, rfl⟩)) (fun a i ha => ?_) (Nat.zero_le _) (fun _ => ⟨⟨rdw_eq, rfl, fun i hi => absurd hi (Nat.not_lt_zero i)⟩, by omega⟩)
  rw [rd_wr, if_neg (by omega), f1 a i (by unfold muC; omega), rd_wr, if_neg (by omega)]
end NE3
end
section
/-! days, part n4: names of both quarters -/
/-- one word in both bases -/
def wd (a b : Int) : Prop := ∃ (U : Int → Int) (p : Int) (m : Nat), (∀ r : Int, p ≤ r → r < p + m → 97 ≤ U r ∧ U r ≤ 122) ∧ a = enc U 32 p m ∧ b = enc U 37 p m
theorem wd_iff {a b a' b' : Int} (h : wd a b) (h' : wd a' b') : a = a' ↔ b = b' := by
  obtain ⟨U, p, m, u, rfl, rfl⟩ := h
  obtain ⟨U', p', m', u', rfl, rfl⟩ := h'
  exact enc_iff u u'
theorem tV_wd {T : Int → Int} {n : Int} (h1 : n ≤ 1000) (h2 : 0 ≤ n) {k : Nat} (ho : tO T n k = 1) : wd (tV T n 32 k) (tV T n 37 k) := by
  refine ⟨T, tP T n k, tN T n k, fun r r0 r1 => ?_, ?_, ?_⟩
  · exact tk_let h1 h2 ho r r0 r1
  · unfold tV; rw [if_pos ho]
  · unfold tV; rw [if_pos ho]
section NQ4
variable {o v w p : Nat → Int} {R : Int} {y : QY} {N : List Nat} {s : Int × Nat}
def dsN (v : Nat → Int) (N : List Nat) : Prop := ∀ i j : Nat, i < N.length → j < N.length → v (N.getD i 0) = v (N.getD j 0) → i = j
theorem dsN_app {x : Nat} (h : dsN v N) (hx : ¬ N.any (fun j => decide (v j = v x)) = true) : dsN v (N ++ [x]) := by
  have no : ∀ i : Nat, i < N.length → v (N.getD i 0) ≠ v x := fun i hi q => hx (any_ix.mpr ⟨i, hi, decide_eq_true q⟩)
  intro i j hi hj q
  rw [List.length_append, List.length_singleton] at hi hj
  rcases Nat.lt_or_ge i N.length with a | a <;> rcases Nat.lt_or_ge j N.length with b | b
  · rw [getD_l a, getD_l b] at q; exact h i j a b q
  · have e : j = N.length := by omega
    subst e
    rw [getD_l a, getD_e] at q
    exact absurd q (no i a)
  · have e : i = N.length := by omega
    subst e
    rw [getD_l b, getD_e] at q
    exact absurd q.symm (no j b)
  · omega
theorem tkM_na (hp : ∀ k, 0 ≤ p k) (h : (tkM o v w p N s).1 = 0) : ¬ N.any (fun j => decide (v j = v s.2)) = true := by
  have nm := tkM_ok hp h
  unfold tkM at h
  rw [if_pos nm] at h
  intro q
  rw [if_pos q] at h
  exact absurd h (tkE_p hp (by decide))
theorem qS_D (hp : ∀ k, 0 ≤ p k) (hz : y.1.1 = 0) (hN : dsN v y.2.1) (h : (qS o v w p R y).1.1 = 0) : dsN v (qS o v w p R y).2.1 := by
  have e1 : (tkA y.1).2 = y.1.2 + 1 := by rw [tkA_0 hz]
  unfold qS at h ⊢
  by_cases w1 : w y.1.2 = 1
  · rw [if_pos w1] at h ⊢
    by_cases c1 : 14 ≤ y.2.2.1.length
    · rw [if_pos c1] at h
      exact absurd h (tkE_p hp (by decide))
    · rw [if_neg c1] at h ⊢
      have na := tkM_na hp (drL_z (tkS_z h))
      rw [e1] at na
      exact dsN_app hN na
  · rw [if_neg w1] at h ⊢
    by_cases w7 : w y.1.2 = 7
    · rw [if_pos w7] at h ⊢
      by_cases c1 : 6 ≤ y.2.2.2.1.length
      · rw [if_pos c1] at h
        exact absurd h (tkE_p hp (by decide))
      · rw [if_neg c1] at h ⊢
        have na := tkM_na hp (psL_z (tkS_z h))
        rw [e1] at na
        exact dsN_app hN na
    · rw [if_neg w7] at h ⊢
      by_cases w11 : w y.1.2 = 11
      · rw [if_pos w11] at h ⊢
        by_cases c1 : 0 < y.2.2.2.2.length
        · rw [if_pos c1] at h
          exact absurd h (tkE_p hp (by decide))
        · rw [if_neg c1]; exact hN
      · rw [if_neg w11] at h
        exact absurd h (tkE_p hp (by decide))
theorem qL_D (hp : ∀ k, 0 ≤ p k) : ∀ (c : Nat) (y : QY), (y.1.1 = 0 → dsN v y.2.1 ∧ ∀ j ∈ y.2.1, o j = 1) → (qL o v w p R c y).1.1 = 0 → dsN v (qL o v w p R c y).2.1 ∧ ∀ j ∈ (qL o v w p R c y).2.1, o j = 1
  | 0, _, hy, h => hy h
  | c + 1, y, hy, h => by
    by_cases g : y.1.1 = 0 ∧ o y.1.2 ≠ 0
    · rw [qL_go g] at h ⊢
      exact qL_D hp c _ (fun z => ⟨qS_D hp g.1 (hy g.1).1 z, qS_N hp g.1 (hy g.1).2 z⟩) h
    · rw [qL_stop g] at h ⊢
      exact hy h
theorem qF_D (hp : ∀ k, 0 ≤ p k) (h : (qF o v w p).1.1 = 0) : dsN v (qF o v w p).2.1 ∧ ∀ j ∈ (qF o v w p).2.1, o j = 1 :=
  qL_D hp 1000 _ (fun _ => ⟨fun i j hi _ _ => absurd hi (Nat.not_lt_zero i), fun j hj => absurd hj List.not_mem_nil⟩) h
end NQ4
/-- the names of the class's quarter and of the reference's -/
def NMR (h : LH) : Prop := (0 ≤ rd h (rd h 1 1) 2 ∧ rd h (rd h 1 1) 2 ≤ 14) ∧ (0 ≤ rd h (rd h 1 1) 4 ∧ rd h (rd h 1 1) 4 ≤ 6) ∧
  (∀ k : Nat, (k : Int) < rd h 182 18 → (∃ j : Nat, (j : Int) < rd h (rd h 1 1) 2 ∧ rd h 193 k = (j : Int) ∧ wd (rd h (rd h 1 1 + 7 + j) 0) (rd h 191 k)) ∨ (∃ j : Nat, (j : Int) < rd h (rd h 1 1) 4 ∧ rd h 193 k = 20 + (j : Int) ∧ wd (rd h (rd h 1 1 + 21 + j) 0) (rd h 191 k))) ∧
  (∀ j : Nat, (j : Int) < rd h (rd h 1 1) 2 → ∃ k : Nat, (k : Int) < rd h 182 18 ∧ rd h 193 k = (j : Int)) ∧
  (∀ j : Nat, (j : Int) < rd h (rd h 1 1) 4 → ∃ k : Nat, (k : Int) < rd h 182 18 ∧ rd h 193 k = 20 + (j : Int)) ∧
  (∀ k k' : Nat, (k : Int) < rd h 182 18 → (k' : Int) < rd h 182 18 → rd h 191 k = rd h 191 k' → k = k')
theorem NMR_fr {h g : LH} (hq : rd h 1 1 = 5 ∨ rd h 1 1 = 32) (hN : NMR h) (e1 : rd g 1 1 = rd h 1 1) (e2 : rd g 182 18 = rd h 182 18) (f1 : ∀ a i, rd h 1 1 ≤ a → a ≤ rd h 1 1 + 26 → rd g a i = rd h a i) (f2 : ∀ a i, a = 191 ∨ a = 193 → rd g a i = rd h a i) : NMR g := by
  obtain ⟨n1, n2, n3, n4, n5, n6⟩ := hN
  unfold NMR
  rw [e1, e2, f1 (rd h 1 1) 2 (by omega) (by omega), f1 (rd h 1 1) 4 (by omega) (by omega)]
  refine ⟨n1, n2, fun k hk => ?_, fun j hj => ?_, fun j hj => ?_, fun k k' hk hk' q => ?_⟩
  · rw [f2 193 k (Or.inr rfl), f2 191 k (Or.inl rfl)]
    rcases n3 k hk with ⟨j, j1, j2, j3⟩ | ⟨j, j1, j2, j3⟩
    · exact Or.inl ⟨j, j1, j2, by rw [f1 _ _ (by omega) (by omega)]; exact j3⟩
    · exact Or.inr ⟨j, j1, j2, by rw [f1 _ _ (by omega) (by omega)]; exact j3⟩
  · obtain ⟨k, k1, k2⟩ := n4 j hj
    exact ⟨k, k1, by rw [f2 193 k (Or.inr rfl)]; exact k2⟩
  · obtain ⟨k, k1, k2⟩ := n5 j hj
    exact ⟨k, k1, by rw [f2 193 k (Or.inr rfl)]; exact k2⟩
  · rw [f2 191 k (Or.inl rfl), f2 191 k' (Or.inl rfl)] at q
    exact n6 k k' hk hk' q
section NR4
variable {h : LH} {T : Int → Int} {n : Int} {j : Nat}
theorem bool_eq {a b : Bool} (h : a = true ↔ b = true) : a = b := by
  cases a <;> cases b <;> simp_all
theorem kn_p (hN : NMR h) (h1 : n ≤ 1000) (h2 : 0 ≤ n) (hb : 0 ≤ rd h 182 18) (ho : tO T n j = 1) : nmC (fun i => rd h (rd h 1 1 + 21 + i) 0) (rd h (rd h 1 1) 4).toNat (tV T n 32 j) = kR h T n 20 6 j := by
  obtain ⟨n1, n2, n3, n4, n5, n6⟩ := hN
  have tw := tV_wd (T := T) h1 h2 ho
  refine bool_eq ?_
  rw [nmC_iff]
  unfold kR
  rw [decide_eq_true_iff]
  have sp := fndI_sp (f := fun i => rd h 191 i) (c := fun i => rd h 193 i) (x := tV T n 37 j) (rd h 182 18).toNat 0
  generalize fndI (fun i => rd h 191 i) (fun i => rd h 193 i) (tV T n 37 j) 0 (rd h 182 18).toNat = f at sp ⊢
  constructor
  · rintro ⟨i, i1, i2⟩
    obtain ⟨k, k1, k2⟩ := n5 i (by omega)
    have w3 : wd (rd h (rd h 1 1 + 21 + i) 0) (rd h 191 k) := by
      rcases n3 k k1 with ⟨j', j1, j2, j3⟩ | ⟨j', j1, j2, j3⟩
      · omega
      · have e : j' = i := by omega
        subst e; exact j3
    have e7 : rd h 191 k = tV T n 37 j := (wd_iff w3 tw).mp i2
    rcases sp with ⟨k', a1, a2, a3, a4⟩ | ⟨a1, a2⟩
    · have ek : k' = k := n6 k' k (by omega) k1 (a3.trans e7.symm)
      subst ek
      have a4' : f = rd h 193 (k' : Int) := a4
      omega
    · exact absurd e7 (a1 k (by omega) (by omega))
  · intro q
    rcases sp with ⟨k, a1, a2, a3, a4⟩ | ⟨a1, a2⟩
    · have a4' : f = rd h 193 (k : Int) := a4
      have a3' : rd h 191 (k : Int) = tV T n 37 j := a3
      rcases n3 k (by omega) with ⟨j', j1, j2, j3⟩ | ⟨j', j1, j2, j3⟩
      · omega
      · exact ⟨j', by omega, (wd_iff j3 tw).mpr a3'⟩
    · omega
theorem kn_d (hN : NMR h) (h1 : n ≤ 1000) (h2 : 0 ≤ n) (hb : 0 ≤ rd h 182 18) (ho : tO T n j = 1) : nmC (fun i => rd h (rd h 1 1 + 7 + i) 0) (rd h (rd h 1 1) 2).toNat (tV T n 32 j) = kR h T n 0 14 j := by
  obtain ⟨n1, n2, n3, n4, n5, n6⟩ := hN
  have tw := tV_wd (T := T) h1 h2 ho
  refine bool_eq ?_
  rw [nmC_iff]
  unfold kR
  rw [decide_eq_true_iff]
  have sp := fndI_sp (f := fun i => rd h 191 i) (c := fun i => rd h 193 i) (x := tV T n 37 j) (rd h 182 18).toNat 0
  generalize fndI (fun i => rd h 191 i) (fun i => rd h 193 i) (tV T n 37 j) 0 (rd h 182 18).toNat = f at sp ⊢
  constructor
  · rintro ⟨i, i1, i2⟩
    obtain ⟨k, k1, k2⟩ := n4 i (by omega)
    have w3 : wd (rd h (rd h 1 1 + 7 + i) 0) (rd h 191 k) := by
      rcases n3 k k1 with ⟨j', j1, j2, j3⟩ | ⟨j', j1, j2, j3⟩
      · have e : j' = i := by omega
        subst e; exact j3
      · omega
    have e7 : rd h 191 k = tV T n 37 j := (wd_iff w3 tw).mp i2
    rcases sp with ⟨k', a1, a2, a3, a4⟩ | ⟨a1, a2⟩
    · have ek : k' = k := n6 k' k (by omega) k1 (a3.trans e7.symm)
      subst ek
      have a4' : f = rd h 193 (k' : Int) := a4
      omega
    · exact absurd e7 (a1 k (by omega) (by omega))
  · intro q
    rcases sp with ⟨k, a1, a2, a3, a4⟩ | ⟨a1, a2⟩
    · have a4' : f = rd h 193 (k : Int) := a4
      have a3' : rd h 191 (k : Int) = tV T n 37 j := a3
      rcases n3 k (by omega) with ⟨j', j1, j2, j3⟩ | ⟨j', j1, j2, j3⟩
      · exact ⟨j', by omega, (wd_iff j3 tw).mpr a3'⟩
      · omega
    · omega
/-- a text without a fault gives both the same names -/
theorem NMR_of {V : Int → Int} {q : Int} (h1 : n ≤ 1000) (h2 : 0 ≤ n) (hq : rd h 1 1 = q) (hz : (qF (tO T n) (tV T n 37) (tW T n 37 V) (tP T n)).1.1 = 0) (hC : NCK T n h q (qF (tO T n) (tV T n 37) (tW T n 37 V) (tP T n)).2.2.1 (qF (tO T n) (tV T n 37) (tW T n 37 V) (tP T n)).2.2.2.1) (hR : NMK T n h (qF (tO T n) (tV T n 37) (tW T n 37 V) (tP T n))) : NMR h := by
  obtain ⟨ds, on⟩ := qF_D (fun k => tP_0 h1 h2 k) hz
  generalize qF (tO T n) (tV T n 37) (tW T n 37 V) (tP T n) = y at ds on hC hR
  obtain ⟨c1, c2, ⟨c3, c3'⟩, c4, c5⟩ := hC
  obtain ⟨r1, r2, C, ⟨r3, r4, r5, r6⟩, r7⟩ := hR
  have o1 : ∀ i : Nat, i < y.2.1.length → tO T n (y.2.1.getD i 0) = 1 := by
    intro i hi
    refine on _ ?_
    rw [List.getD_eq_getElem?_getD, List.getElem?_eq_getElem hi]
    exact List.getElem_mem hi
  unfold NMR
  rw [hq, c1, c2, r1]
  refine ⟨by omega, by omega, fun k hk => ?_, fun j hj => ?_, fun j hj => ?_, fun k k' hk hk' e => ?_⟩
  · have hk' : k < y.2.1.length := by omega
    have t := tV_wd (T := T) h1 h2 (o1 k hk')
    rw [(r7 k hk').1, (r7 k hk').2]
    rcases r4 k hk' with ⟨j, j1, j2, j3⟩ | ⟨j, j1, j2, j3⟩
    · refine Or.inl ⟨j, by omega, j2, ?_⟩
      rw [c4 j j1, j3]; exact t
    · refine Or.inr ⟨j, by omega, j2, ?_⟩
      rw [c5 j j1, j3]; exact t
  · obtain ⟨i, i1, i2, i3⟩ := r5 j (by omega)
    exact ⟨i, by omega, by rw [(r7 i i1).2]; exact i2⟩
  · obtain ⟨i, i1, i2, i3⟩ := r6 j (by omega)
    exact ⟨i, by omega, by rw [(r7 i i1).2]; exact i2⟩
  · rw [(r7 k (by omega)).1, (r7 k' (by omega)).1] at e
    exact ds k k' (by omega) (by omega) e
end NR4
end
section
/-! lines and walks, part x1: what is kept beside the scene -/
/-- places that hold lines, walks, names: cells from .. to, all their entries or some -/
def kX : List (Int × Int × Bool × Int × Int) := [(1, 1, false, 1, 1), (5, 5, false, 2, 4), (12, 31, true, 0, 0), (32, 32, false, 2, 4), (39, 58, true, 0, 0), (59, 59, false, 1, 7), (63, 66, true, 0, 0), (102, 102, false, 1, 7), (106, 109, true, 0, 0), (110, 110, false, 1, 7), (114, 117, true, 0, 0), (118, 118, false, 1, 7), (122, 125, true, 0, 0), (126, 126, false, 1, 7), (130, 133, true, 0, 0), (182, 182, false, 18, 18), (188, 188, false, 0, 2), (191, 191, true, 0, 0), (193, 193, true, 0, 0), (195, 195, false, 0, 48), (198, 198, false, 34, 349), (199, 199, true, 0, 0), (200, 200, true, 0, 0)]
def inX (a i : Int) : Prop := ∃ b ∈ kX, b.1 ≤ a ∧ a ≤ b.2.1 ∧ (b.2.2.1 = true ∨ (b.2.2.2.1 ≤ i ∧ i ≤ b.2.2.2.2))
def dsX (bs : BX) : Bool := bs.all (fun x => kX.all (fun b => decide (x.2.1 < b.1) || decide (b.2.1 < x.1) || (!b.2.2.1 && (decide (x.2.2.2 < b.2.2.2.1) || decide (b.2.2.2.2 < x.2.2.1)))))
theorem dsX_ok {bs : BX} (hb : dsX bs = true) {a i : Int} (ha : inX a i) : inBx bs a i = false := by
  refine inBx_f (fun x hm q => ?_)
  obtain ⟨b, b0, b1, b2, b3⟩ := ha
  unfold dsX at hb
  have z := List.all_eq_true.mp (List.all_eq_true.mp hb x hm) b b0
  simp only [Bool.or_eq_true, Bool.and_eq_true, Bool.not_eq_true', decide_eq_true_eq] at z
  rcases z with (z | z) | ⟨z, w⟩
  · omega
  · omega
  · rcases b3 with b3 | b3
    · rw [b3] at z; cases z
    · omega
theorem inX_all {lo hi a i : Int} (hb : (lo, hi, true, 0, 0) ∈ kX) (h1 : lo ≤ a) (h2 : a ≤ hi) : inX a i := ⟨_, hb, h1, h2, Or.inl rfl⟩
theorem inX_i {lo hi l u a i : Int} (hb : (lo, hi, false, l, u) ∈ kX) (h1 : lo ≤ a) (h2 : a ≤ hi) (h3 : l ≤ i) (h4 : i ≤ u) : inX a i := ⟨_, hb, h1, h2, Or.inr ⟨h3, h4⟩⟩
/-- roughly where they lie -/
theorem inX_p {a i : Int} (h : inX a i) : ((a = 1 ∧ i = 1) ∨ (5 ≤ a ∧ a ≤ 59 ∧ a ≠ 6 ∧ a ≠ 7 ∧ a ≠ 33 ∧ a ≠ 34) ∨ (63 ≤ a ∧ a ≤ 66) ∨ (102 ≤ a ∧ a ≤ 133) ∨ (182 ≤ a ∧ a ≠ 183 ∧ a ≠ 184 ∧ a ≠ 185 ∧ a ≠ 186 ∧ a ≠ 187 ∧ a ≠ 192 ∧ a ≠ 194 ∧ a ≠ 196 ∧ a ≠ 197)) ∧ (a = 182 → i = 18) ∧ (a = 188 → 0 ≤ i ∧ i ≤ 2) ∧ (a = 189 → False) ∧ (a = 190 → False) ∧ (a = 195 → 0 ≤ i ∧ i ≤ 48) ∧ (a = 198 → 34 ≤ i ∧ i ≤ 349) ∧ (a = 59 → 1 ≤ i ∧ i ≤ 7) ∧ a ≤ 200 := by
  obtain ⟨b, b0, b1, b2, b3⟩ := h
  unfold kX at b0
  simp only [List.mem_cons, List.not_mem_nil, or_false] at b0
  rcases b0 with rfl | rfl | rfl | rfl | rfl | rfl | rfl | rfl | rfl | rfl | rfl | rfl | rfl | rfl | rfl | rfl | rfl | rfl | rfl | rfl | rfl | rfl | rfl <;> simp only [Bool.false_eq_true, false_or, true_or] at b1 b2 b3 <;> exact ⟨by omega, by omega, by omega, by omega, by omega, by omega, by omega, by omega, by omega⟩
theorem inX_mf {m i : Int} (m0 : 0 ≤ m) (m1 : m < 4) (i0 : 1 ≤ i) (i1 : i ≤ 7) : inX (102 + 8 * m) i := by
  rcases (show m = 0 ∨ m = 1 ∨ m = 2 ∨ m = 3 by omega) with rfl | rfl | rfl | rfl
  · exact inX_i (lo := 102) (hi := 102) (l := 1) (u := 7) (by decide) (by decide) (by decide) i0 i1
  · exact inX_i (lo := 110) (hi := 110) (l := 1) (u := 7) (by decide) (by decide) (by decide) i0 i1
  · exact inX_i (lo := 118) (hi := 118) (l := 1) (u := 7) (by decide) (by decide) (by decide) i0 i1
  · exact inX_i (lo := 126) (hi := 126) (l := 1) (u := 7) (by decide) (by decide) (by decide) i0 i1
theorem inX_mr {m a i : Int} (m0 : 0 ≤ m) (m1 : m < 4) (a0 : 106 + 8 * m ≤ a) (a1 : a ≤ 109 + 8 * m) : inX a i := by
  rcases (show m = 0 ∨ m = 1 ∨ m = 2 ∨ m = 3 by omega) with rfl | rfl | rfl | rfl
  · exact inX_all (lo := 106) (hi := 109) (by decide) (by omega) (by omega)
  · exact inX_all (lo := 114) (hi := 117) (by decide) (by omega) (by omega)
  · exact inX_all (lo := 122) (hi := 125) (by decide) (by omega) (by omega)
  · exact inX_all (lo := 130) (hi := 133) (by decide) (by omega) (by omega)
/-- lines alike: those of the class's memory N and those of the reference's row a from o on -/
def LNR (h : LH) (N a o : Int) : Prop := rd h N 1 = rd h a o ∧ (0 ≤ rd h N 1 ∧ rd h N 1 ≤ 24) ∧ ∀ k, 0 ≤ k → k < rd h N 1 → rd h (N + 4) k = rd h a (o + 2 * k + 1) ∧ (rd h (N + 4) k ≠ -1 → rd h (N + 5) k = rd h a (o + 2 * k + 2) ∧ (0 ≤ rd h (N + 4) k ∧ rd h (N + 4) k < rd h 188 2) ∧ (0 ≤ rd h (N + 5) k ∧ rd h (N + 5) k < rd h 188 1))
/-- walks alike: those of the class's memory N and those of the reference's block b -/
def WLR (h : LH) (N b : Int) : Prop := rd h N 4 = rd h 198 (b + 34) ∧ (0 ≤ rd h N 4 ∧ rd h N 4 ≤ 10) ∧ ∀ k, 0 ≤ k → k < rd h N 4 → rd h (N + 6) k = rd h 198 (b + 3 * k + 35) ∧ rd h (N + 7) k = rd h 198 (b + 3 * k + 36) ∧ bt (rd h N 7) k (rd h 198 (b + 3 * k + 37)) ∧ (0 ≤ rd h (N + 6) k ∧ rd h (N + 6) k < rd h 188 0) ∧ (0 ≤ rd h (N + 7) k ∧ rd h (N + 7) k < rd h 188 0)
def XR (h : LH) : Prop := NMR h ∧ LNR h 59 195 0 ∧ WLR h 59 0 ∧ ∀ m, 0 ≤ m → m < 4 → rd h 199 m ≠ 0 → LNR h (102 + 8 * m) 200 (50 * m) ∧ WLR h (102 + 8 * m) (70 * m + 70)
/-- no door above the fourteenth -/
def hb (x : Int) : Prop := ∀ p, 14 ≤ p → p < 32 → ¬ bitZ x p
/-- in no scene of the class is such a door shut -/
def XS (h : LH) : Prop := hb (rd h 60 1) ∧ (∀ m, 0 ≤ m → m < 4 → hb (rd h (103 + 8 * m) 1)) ∧ ∀ i, 0 ≤ i → i < 16 → hb (rd h (134 + 3 * i) 1)
def EQX (h : LH) : Prop := EQL h ∧ XR h ∧ XS h
section X1
variable {xs : Nat → Int} {xl e : Nat} {h g : LH} {Q : Option LV → LH → Prop} {N a o N' a' o' b b' v1 v2 v3 : Int}
theorem LNR_mv (hl : LNR h N a o) (e1 : rd g N' 1 = rd h N 1) (e4 : ∀ k, 0 ≤ k → k < 24 → rd g (N' + 4) k = rd h (N + 4) k ∧ rd g (N' + 5) k = rd h (N + 5) k) (ea : ∀ i, 0 ≤ i → i ≤ 48 → rd g a' (o' + i) = rd h a (o + i)) (p1 : rd g 188 1 = rd h 188 1) (p2 : rd g 188 2 = rd h 188 2) : LNR g N' a' o' := by
  obtain ⟨l1, l2, l3⟩ := hl
  have z := ea 0 (by decide) (by decide)
  rw [Int.add_zero, Int.add_zero] at z
  refine ⟨by rw [e1, z]; exact l1, by rw [e1]; exact l2, fun k k0 k1 => ?_⟩
  rw [e1] at k1
  have m := l3 k k0 k1
  obtain ⟨e5, e6⟩ := e4 k k0 (by omega)
  have z1 := ea (2 * k + 1) (by omega) (by omega)
  have z2 := ea (2 * k + 2) (by omega) (by omega)
  rw [show o' + (2 * k + 1) = o' + 2 * k + 1 by omega, show o + (2 * k + 1) = o + 2 * k + 1 by omega] at z1
  rw [show o' + (2 * k + 2) = o' + 2 * k + 2 by omega, show o + (2 * k + 2) = o + 2 * k + 2 by omega] at z2
  rw [e5, e6, p1, p2, z1, z2]
  exact m
theorem WLR_mv (hw : WLR h N b) (e4 : rd g N' 4 = rd h N 4) (e7 : rd g N' 7 = rd h N 7) (er : ∀ k, 0 ≤ k → k < 10 → rd g (N' + 6) k = rd h (N + 6) k ∧ rd g (N' + 7) k = rd h (N + 7) k) (eb : ∀ i, 34 ≤ i → i < 70 → rd g 198 (b' + i) = rd h 198 (b + i)) (p0 : rd g 188 0 = rd h 188 0) : WLR g N' b' := by
  obtain ⟨l1, l2, l3⟩ := hw
  refine ⟨by rw [e4, eb 34 (by decide) (by decide)]; exact l1, by rw [e4]; exact l2, fun k k0 k1 => ?_⟩
  rw [e4] at k1
  have m := l3 k k0 k1
  obtain ⟨e5, e6⟩ := er k k0 (by omega)
  have z1 := eb (3 * k + 35) (by omega) (by omega)
  have z2 := eb (3 * k + 36) (by omega) (by omega)
  have z3 := eb (3 * k + 37) (by omega) (by omega)
  rw [show b' + (3 * k + 35) = b' + 3 * k + 35 by omega, show b + (3 * k + 35) = b + 3 * k + 35 by omega] at z1
  rw [show b' + (3 * k + 36) = b' + 3 * k + 36 by omega, show b + (3 * k + 36) = b + 3 * k + 36 by omega] at z2
  rw [show b' + (3 * k + 37) = b' + 3 * k + 37 by omega, show b + (3 * k + 37) = b + 3 * k + 37 by omega] at z3
  rw [e5, e6, e7, p0, z1, z2, z3]
  exact m
theorem NMR_x (hN : NMR h) (e1 : rd g 1 1 = rd h 1 1) (e2 : rd g 182 18 = rd h 182 18) (e3 : rd g (rd h 1 1) 2 = rd h (rd h 1 1) 2) (e4 : rd g (rd h 1 1) 4 = rd h (rd h 1 1) 4) (f1 : ∀ k, rd g 191 k = rd h 191 k) (f3 : ∀ k, rd g 193 k = rd h 193 k) (f0 : ∀ a, rd h 1 1 + 7 ≤ a → a ≤ rd h 1 1 + 26 → rd g a 0 = rd h a 0) : NMR g := by
  obtain ⟨n1, n2, n3, n4, n5, n6⟩ := hN
  unfold NMR
  rw [e1, e2, e3, e4]
  refine ⟨n1, n2, fun k hk => ?_, fun j hj => ?_, fun j hj => ?_, fun k k' hk hk' q => ?_⟩
  · rw [f3 k, f1 k]
    rcases n3 k hk with ⟨j, j1, j2, j3⟩ | ⟨j, j1, j2, j3⟩
    · exact Or.inl ⟨j, j1, j2, by rw [f0 _ (by omega) (by omega)]; exact j3⟩
    · exact Or.inr ⟨j, j1, j2, by rw [f0 _ (by omega) (by omega)]; exact j3⟩
  · obtain ⟨k, k1, k2⟩ := n4 j hj
    exact ⟨k, k1, by rw [f3 k]; exact k2⟩
  · obtain ⟨k, k1, k2⟩ := n5 j hj
    exact ⟨k, k1, by rw [f3 k]; exact k2⟩
  · rw [f1 k, f1 k'] at q
    exact n6 k k' hk hk' q
/-- of the quarters the current one must be left alone -/
theorem XR_fr (hI : INV h) (hX : XR h) (f : ∀ a i, inX a i → (a < 5 ∨ 58 < a ∨ (rd h 1 1 ≤ a ∧ a ≤ rd h 1 1 + 26)) → rd g a i = rd h a i) : XR g := by
  obtain ⟨hN, hL, hW, hM⟩ := hX
  have hq : rd h 1 1 = 5 ∨ rd h 1 1 = 32 := rQf hI.1
  have fl : ∀ a i, inX a i → 58 < a → rd g a i = rd h a i := fun a i ha n => f a i ha (Or.inr (Or.inl n))
  have p : ∀ i, 0 ≤ i → i ≤ 2 → rd g 188 i = rd h 188 i := fun i i0 i1 => fl 188 i (inX_i (lo := 188) (hi := 188) (l := 0) (u := 2) (by decide) (by decide) (by decide) i0 i1) (by decide)
  have p0 := p 0 (by decide) (by decide)
  have p1 := p 1 (by decide) (by decide)
  have p2 := p 2 (by decide) (by decide)
  have f59 : ∀ i, 1 ≤ i → i ≤ 7 → rd g 59 i = rd h 59 i := fun i i0 i1 => fl 59 i (inX_i (lo := 59) (hi := 59) (l := 1) (u := 7) (by decide) (by decide) (by decide) i0 i1) (by decide)
  have f63 : ∀ a i, 63 ≤ a → a ≤ 66 → rd g a i = rd h a i := fun a i a0 a1 => fl a i (inX_all (lo := 63) (hi := 66) (by decide) a0 a1) (by omega)
  have f198 : ∀ i, 34 ≤ i → i ≤ 349 → rd g 198 i = rd h 198 i := fun i i0 i1 => fl 198 i (inX_i (lo := 198) (hi := 198) (l := 34) (u := 349) (by decide) (by decide) (by decide) i0 i1) (by decide)
  have e11 : rd g 1 1 = rd h 1 1 := f 1 1 (inX_i (lo := 1) (hi := 1) (l := 1) (u := 1) (by decide) (by decide) (by decide) (by decide) (by decide)) (Or.inl (by decide))
  have f199 : ∀ i, rd g 199 i = rd h 199 i := fun i => fl 199 i (inX_all (lo := 199) (hi := 199) (by decide) (by decide) (by decide)) (by decide)
  refine ⟨NMR_x hN e11 (fl 182 18 (inX_i (lo := 182) (hi := 182) (l := 18) (u := 18) (by decide) (by decide) (by decide) (by decide) (by decide)) (by decide)) ?_ ?_ (fun k => fl 191 k (inX_all (lo := 191) (hi := 191) (by decide) (by decide) (by decide)) (by decide)) (fun k => fl 193 k (inX_all (lo := 193) (hi := 193) (by decide) (by decide) (by decide)) (by decide)) (fun a a0 a1 => ?_), LNR_mv hL (f59 1 (by decide) (by decide)) (fun k k0 k1 => ⟨f63 _ k (by decide) (by decide), f63 _ k (by decide) (by decide)⟩) (fun i i0 i1 => ?_) p1 p2, WLR_mv hW (f59 4 (by decide) (by decide)) (f59 7 (by decide) (by decide)) (fun k k0 k1 => ⟨f63 _ k (by decide) (by decide), f63 _ k (by decide) (by decide)⟩) (fun i i0 i1 => f198 _ (by omega) (by omega)) p0, fun m m0 m1 hm => ?_⟩
  · rcases hq with q | q
    · rw [q]; exact f 5 2 (inX_i (lo := 5) (hi := 5) (l := 2) (u := 4) (by decide) (by decide) (by decide) (by decide) (by decide)) (Or.inr (Or.inr (by omega)))
    · rw [q]; exact f 32 2 (inX_i (lo := 32) (hi := 32) (l := 2) (u := 4) (by decide) (by decide) (by decide) (by decide) (by decide)) (Or.inr (Or.inr (by omega)))
  · rcases hq with q | q
    · rw [q]; exact f 5 4 (inX_i (lo := 5) (hi := 5) (l := 2) (u := 4) (by decide) (by decide) (by decide) (by decide) (by decide)) (Or.inr (Or.inr (by omega)))
    · rw [q]; exact f 32 4 (inX_i (lo := 32) (hi := 32) (l := 2) (u := 4) (by decide) (by decide) (by decide) (by decide) (by decide)) (Or.inr (Or.inr (by omega)))
  · rcases hq with q | q
    · exact f a 0 (inX_all (lo := 12) (hi := 31) (by decide) (by omega) (by omega)) (Or.inr (Or.inr (by omega)))
    · exact f a 0 (inX_all (lo := 39) (hi := 58) (by decide) (by omega) (by omega)) (Or.inr (Or.inr (by omega)))
  · exact fl 195 _ (inX_i (lo := 195) (hi := 195) (l := 0) (u := 48) (by decide) (by decide) (by decide) (by omega) (by omega)) (by decide)
  · rw [f199] at hm
    obtain ⟨hL', hW'⟩ := hM m m0 m1 hm
    have mf : ∀ i, 1 ≤ i → i ≤ 7 → rd g (102 + 8 * m) i = rd h (102 + 8 * m) i := fun i i0 i1 => fl _ i (inX_mf m0 m1 i0 i1) (by omega)
    have mr : ∀ a i, 106 + 8 * m ≤ a → a ≤ 109 + 8 * m → rd g a i = rd h a i := fun a i a0 a1 => fl a i (inX_mr m0 m1 a0 a1) (by omega)
    refine ⟨LNR_mv hL' (mf 1 (by decide) (by decide)) (fun k k0 k1 => ⟨mr _ k (by omega) (by omega), mr _ k (by omega) (by omega)⟩) (fun i i0 i1 => fl 200 _ (inX_all (lo := 200) (hi := 200) (by decide) (by decide) (by decide)) (by decide)) p1 p2, WLR_mv hW' (mf 4 (by decide) (by decide)) (mf 7 (by decide) (by decide)) (fun k k0 k1 => ⟨mr _ k (by omega) (by omega), mr _ k (by omega) (by omega)⟩) (fun i i0 i1 => f198 _ (by omega) (by omega)) p0⟩
theorem XS_fr (hx : XS h) (f : ∀ a i, inK a i → rd g a i = rd h a i) : XS g := by
  obtain ⟨a, b, c⟩ := hx
  refine ⟨?_, fun m m0 m1 => ?_, fun i i0 i1 => ?_⟩
  · rw [f 60 1 (inK_all (lo := 60) (hi := 62) (by decide) (by decide) (by decide))]; exact a
  · rw [f _ 1 (inK_m m0 m1 (by omega) (by omega))]; exact b m m0 m1
  · rw [f _ 1 (inK_all (lo := 134) (hi := 181) (by decide) (by omega) (by omega))]; exact c i i0 i1
theorem XS_lo (hx : XS h) (f : ∀ a i, a < 182 → rd g a i = rd h a i) : XS g := by
  obtain ⟨a, b, c⟩ := hx
  refine ⟨?_, fun m m0 m1 => ?_, fun i i0 i1 => ?_⟩
  · rw [f 60 1 (by decide)]; exact a
  · rw [f _ 1 (by omega)]; exact b m m0 m1
  · rw [f _ 1 (by omega)]; exact c i i0 i1
theorem EQX_fr (hI : INV h) (hE : EQX h) (e1 : rd g 2 0 = rd h 2 0) (e2 : rd g 182 2 = rd h 182 2) (f : ∀ a i, inK a i ∨ inX a i → rd g a i = rd h a i) : EQX g := ⟨EQL_fr hI hE.1 e1 e2 (fun a i ha => f a i (Or.inl ha)), XR_fr hI hE.2.1 (fun a i ha _ => f a i (Or.inr ha)), XS_fr hE.2.2 (fun a i ha => f a i (Or.inl ha))⟩
theorem root_iX {S : SM} {a : AV} {p : PV} {l : List (Nat × AV)} {f : FA} (ok : SMok xs xl INV S) {M : LM_M} {as : List LV} {ls0 : LL} (hM : MTB S.1 = some M) (he : S.2.1 ≤ e) (hI : INV h) (ha : gAr S.2.2.1 as) (hf : S.2.2.2.2.2 = []) (hl : (lent as).length ≤ M.2.2.1) (hp : lpad M.2.2.1 (lent as) = ls0) (hc : S.2.2.2.1 = [(some a, p, l, f)]) (hk : a.1 = 0) (b1 : inBx S.2.2.2.2.1 2 0 = false) (b2 : inBx S.2.2.2.2.1 182 2 = false) (b3 : dsj S.2.2.2.2.1 = true) (b4 : dsX S.2.2.2.2.1 = true) (hE : EQX h) (k : ∀ r g, INV g → EQX g → Q (some (.inl r)) g) : Rn xs xl e M 0 ls0 [] h Q :=
  use_sm ok hM he hI ha hf hl hp (fun r g gI gf gq => by
    rw [hc] at gq
    obtain ⟨x, rfl, _⟩ := res_int gq hk
    exact k x g gI (EQX_fr hI hE (gf 2 0 b1) (gf 182 2 b2) (fun a i ha => ha.elim (fun ha => gf a i (dsj_ok b3 ha)) (fun ha => gf a i (dsX_ok b4 ha)))))
theorem root_bX {S : SM} {a b : AV} {p p' : PV} {l l' : List (Nat × AV)} {f f' : FA} (ok : SMok xs xl INV S) {M : LM_M} {as : List LV} {ls0 : LL} (hM : MTB S.1 = some M) (he : S.2.1 ≤ e) (hI : INV h) (ha : gAr S.2.2.1 as) (hf : S.2.2.2.2.2 = []) (hl : (lent as).length ≤ M.2.2.1) (hp : lpad M.2.2.1 (lent as) = ls0) (hc : S.2.2.2.1 = [(some a, p, l, f), (some b, p', l', f')]) (hk : a.1 = 0) (hk' : b.1 = 0) (b1 : inBx S.2.2.2.2.1 2 0 = false) (b2 : inBx S.2.2.2.2.1 182 2 = false) (b3 : dsj S.2.2.2.2.1 = true) (b4 : dsX S.2.2.2.2.1 = true) (hE : EQX h) (k : ∀ r g, INV g → EQX g → Q (some (.inl r)) g) : Rn xs xl e M 0 ls0 [] h Q :=
  use_sm ok hM he hI ha hf hl hp (fun r g gI gf gq => by
    rw [hc] at gq
    obtain ⟨x, rfl⟩ := res_bool gq hk hk'
    exact k x g gI (EQX_fr hI hE (gf 2 0 b1) (gf 182 2 b2) (fun a i ha => ha.elim (fun ha => gf a i (dsj_ok b3 ha)) (fun ha => gf a i (dsX_ok b4 ha)))))
/-- the reference's rests puts no price in for good -/
theorem root_restsX (he : 8 ≤ e) (hI : INV h) (hE : EQX h) (h1 : i32 v1) (h2 : i32 v2) (h3 : i32 v3) (k : ∀ r g, INV g → EQX g → Q (some (.inl r)) g) : Rn xs xl e mm_rests 0 [some (.inr (.inr 182)), some (.inl v1), some (.inl v2), some (.inl v3), none, none, none, none] [] h Q := by
  have k3 := hE.1.2.2.2.2.2.2.2.2.2.1
  have k4 := hE.1.2.2.2.2.2.2.2.2.2.2.1
  have v28 : ∀ {g : LH}, hval g 182 28 = .inl (rd g 182 28) := fun {g} => by
    unfold hval
    rw [show lkd 182 28 = 0 by decide +kernel]
    rfl
  have v29 : ∀ {g : LH}, hval g 182 29 = .inl (rd g 182 29) := fun {g} => by
    unfold hval
    rw [show lkd 182 29 = 0 by decide +kernel]
    rfl
  have hf : gF h SME6.2.2.2.2.2 := by
    intro q hq
    rcases List.mem_cons.mp hq with rfl | hq
    · show gV (0, -1, -1, 0) (hval h 182 28)
      rw [v28, k3]
      exact g_pt (-1) (by unfold i32; omega)
    · rcases List.mem_cons.mp hq with rfl | hq
      · show gV (0, -1, -1, 0) (hval h 182 29)
        rw [v29, k4]
        exact g_pt (-1) (by unfold i32; omega)
      · cases hq
  have A : Rn xs xl e mm_rests 0 [some (.inr (.inr 182)), some (.inl v1), some (.inl v2), some (.inl v3), none, none, none, none] [] h (fun r g => ∃ x, r = some (.inl x) ∧ INV g ∧ EQL g) := root_rests he hI hE.1 h1 h2 h3 (fun r g gI gE => ⟨r, rfl, gI, gE⟩)
  have R := (TE_rests (xs := xs) (xl := xl) mm_rests [.inr (.inr 182), .inl v1, .inl v2, .inl v3] h rfl hI (gAr_c (g_ref 182) (gAr_c (g_i h1) (gAr_c (g_i h2) (gAr_c (g_i h3) gAr_n)))) hf (Nat.le_of_ble_eq_true rfl)).deep (d' := e) (Nat.le_trans (Nat.le_of_ble_eq_true rfl) he)
  refine (A.and R).mono (fun r g z => ?_)
  obtain ⟨⟨x, rfl, gI, gE⟩, -, gf, -⟩ := z
  exact k x g gI ⟨gE, XR_fr hI hE.2.1 (fun a i ha _ => gf a i (dsX_ok (by decide +kernel) ha)), XS_lo hE.2.2 (fun a i n => gf a i (inBx_f (fun x hm q => by
    revert q
    simp only [SME6, List.mem_cons, List.not_mem_nil, or_false] at hm
    rcases hm with rfl | rfl | rfl | rfl | rfl | rfl | rfl | rfl | rfl | rfl | rfl | rfl <;> intro q <;> simp only at q <;> omega)))⟩
end X1
end
section
/-! lines and walks, part x2: hours, shut, undo, go, mark -/
section X2
variable {xs : Nat → Int} {xl e : Nat} {h g : LH} {Q : Option LV → LH → Prop} {v1 v2 r : Int}
theorem KCJ_X (hk : KCJ h g) {a i : Int} (ha : inX a i) : rd g a i = rd h a i := by
  obtain ⟨-, -, kf⟩ := hk
  have y := (inX_p ha).1
  have hr : 0 ≤ (rd h 1 8 + rd h 1 9) % 16 ∧ (rd h 1 8 + rd h 1 9) % 16 < 16 := by omega
  generalize (rd h 1 8 + rd h 1 9) % 16 = ρ at kf hr
  exact kf a i (by unfold scp; omega) (by unfold scp; omega) (by unfold scp; omega) (by omega)
theorem hrs_X (hj : hrsJ v1 h g r) {a i : Int} (ha : inX a i) : rd g a i = rd h a i := by
  rcases hj with ⟨-, -, sm⟩ | ⟨-, -, kc, -⟩
  · exact sm a i
  · exact KCJ_X kc ha
theorem sht_X (hj : shtJ v1 v2 h g r) {a i : Int} (ha : inX a i) : rd g a i = rd h a i := by
  rcases hj with ⟨-, -, sm⟩ | ⟨-, -, kc, -⟩
  · exact sm a i
  · exact KCJ_X kc ha
theorem und_X (hj : undJ h g r) {a i : Int} (ha : inX a i) : rd g a i = rd h a i := by
  rcases hj with ⟨-, -, sm⟩ | ⟨-, -, -, -, fr⟩
  · exact sm a i
  · have y := (inX_p ha).1
    exact fr a i (by unfold scp; omega) (by omega)
theorem goj_X (hj : goJ v1 v2 h g r) {a i : Int} (ha : inX a i) : rd g a i = rd h a i := by
  rcases hj with ⟨-, -, fr⟩ | ⟨-, -, kc, -⟩
  · have y := (inX_p ha).1
    exact fr a i (by unfold scp; omega)
  · exact KCJ_X kc ha
/-- all boxes lie in the reference -/
def bHi (bs : BX) : Bool := bs.all (fun x => decide (182 ≤ x.1))
theorem bHi_ok {bs : BX} (hb : bHi bs = true) {a i : Int} (ha : a < 182) : inBx bs a i = false := by
  refine inBx_f (fun x hm q => ?_)
  have z := of_decide_eq_true (List.all_eq_true.mp hb x hm)
  omega
theorem hb_zero : hb 0 := fun p _ _ => bit_zero
theorem hb_xor {x v : Int} (hx : hb x) (v0 : 0 ≤ v) (v1 : v < 14) : hb (zxor x (zshl 1 v)) := fun p p0 p1 => by
  rw [bit_xor (by omega) p1, bit_shl v0 (by omega) (by omega) p1]
  intro y
  exact y ⟨fun z => absurd z (hx p p0 p1), fun z => by omega⟩
theorem XS_kc (hx : XS h) (hk : KCJ h g) (s : hb (rd g 60 1)) : XS g := by
  obtain ⟨-, ks, kf⟩ := hk
  have hr : 0 ≤ (rd h 1 8 + rd h 1 9) % 16 ∧ (rd h 1 8 + rd h 1 9) % 16 < 16 := by omega
  generalize (rd h 1 8 + rd h 1 9) % 16 = ρ at ks kf hr
  refine ⟨s, fun m m0 m1 => ?_, fun i i0 i1 => ?_⟩
  · rw [kf _ 1 (by unfold scp; omega) (by unfold scp; omega) (by unfold scp; omega) (by omega)]
    exact hx.2.1 m m0 m1
  · by_cases z : i = ρ
    · rw [z, ks.1 1 (by decide) (by decide)]
      exact hx.1
    · rw [kf _ 1 (by unfold scp; omega) (by unfold scp; omega) (by unfold scp; omega) (by omega)]
      exact hx.2.2 i i0 i1
theorem XS_sam (hx : XS h) (hs : samP h g) : XS g := XS_lo hx (fun a i _ => hs a i)
theorem hrs_S (hx : XS h) (hj : hrsJ v1 h g r) : XS g := by
  rcases hj with ⟨-, -, sm⟩ | ⟨-, -, kc, sp⟩
  · exact XS_sam hx sm
  · exact XS_kc hx kc (by rw [sp.2.1]; exact hx.1)
theorem sht_S (hI : INV h) (hx : XS h) (hj : shtJ v1 v2 h g r) : XS g := by
  rcases hj with ⟨-, -, sm⟩ | ⟨hc, -, kc, sp, -⟩
  · exact XS_sam hx sm
  · have nd := rq_doors hI.1
    have h1 := hc.1
    have h2 := hc.2.1
    exact XS_kc hx kc (by rw [sp]; exact hb_xor hx.1 h1 (by omega))
theorem und_S (hx : XS h) (hj : undJ h g r) : XS g := by
  rcases hj with ⟨-, -, sm⟩ | ⟨-, -, -, sc, fr⟩
  · exact XS_sam hx sm
  · have hr : 0 ≤ (rd h 1 8 + (rd h 1 9 - 1)) % 16 ∧ (rd h 1 8 + (rd h 1 9 - 1)) % 16 < 16 := by omega
    refine ⟨?_, fun m m0 m1 => ?_, fun i i0 i1 => ?_⟩
    · rw [sc.1 1 (by decide) (by decide)]
      exact hx.2.2 _ hr.1 hr.2
    · rw [fr _ 1 (by unfold scp; omega) (by omega)]
      exact hx.2.1 m m0 m1
    · rw [fr _ 1 (by unfold scp; omega) (by omega)]
      exact hx.2.2 i i0 i1
theorem goj_S (hx : XS h) (hj : goJ v1 v2 h g r) : XS g := by
  rcases hj with ⟨-, -, fr⟩ | ⟨-, -, kc, wc⟩
  · refine ⟨?_, fun m m0 m1 => ?_, fun i i0 i1 => ?_⟩
    · rw [fr 60 1 (by unfold scp; omega)]; exact hx.1
    · rw [fr _ 1 (by unfold scp; omega)]; exact hx.2.1 m m0 m1
    · rw [fr _ 1 (by unfold scp; omega)]; exact hx.2.2 i i0 i1
  · exact XS_kc hx kc (by rw [wc.2.1]; exact hx.1)
theorem mrj_S (hx : XS h) (hj : mrJ v1 v2 h g r) : XS g := by
  rcases hj with ⟨-, -, sm⟩ | ⟨hm, -, hc⟩
  · exact XS_sam hx sm
  · have hv := hm.1
    rcases hc with ⟨-, -, cm, cf⟩ | ⟨-, -, cm, cf⟩
    · have e : rd g (102 + 8 * v1 + 1) 1 = rd h (59 + 1) 1 := cm.2.1.1 1 (by decide) (by decide)
      refine ⟨?_, fun m m0 m1 => ?_, fun i i0 i1 => ?_⟩
      · rw [cf 60 1 (by omega) (by decide)]; exact hx.1
      · by_cases z : m = v1
        · rw [z, show 103 + 8 * v1 = 102 + 8 * v1 + 1 by omega, e]; exact hx.1
        · rw [cf _ 1 (by omega) (by omega)]; exact hx.2.1 m m0 m1
      · rw [cf _ 1 (by omega) (by omega)]; exact hx.2.2 i i0 i1
    · have e : rd g (59 + 1) 1 = rd h (102 + 8 * v1 + 1) 1 := cm.2.1.1 1 (by decide) (by decide)
      refine ⟨?_, fun m m0 m1 => ?_, fun i i0 i1 => ?_⟩
      · rw [show (60 : Int) = 59 + 1 by decide, e, show 102 + 8 * v1 + 1 = 103 + 8 * v1 by omega]; exact hx.2.1 v1 hv.1 hv.2
      · rw [cf _ 1 (by omega) (by omega)]; exact hx.2.1 m m0 m1
      · rw [cf _ 1 (by omega) (by omega)]; exact hx.2.2 i i0 i1
theorem G_hoursY (he : 8 ≤ e) (hI : INV h) (hE : EQX h) (h1 : i32 v1) (gI : INV g) (hj : hrsJ v1 h g r) (k : ∀ g', INV g' → EQX g' → Q (some (.inl r)) g') : Rn xs xl e mm_hours 0 [some (.inr (.inr 182)), some (.inl v1), none] [] g Q := by
  have A : Rn xs xl e mm_hours 0 [some (.inr (.inr 182)), some (.inl v1), none] [] g (fun q g' => q = some (.inl r) ∧ INV g' ∧ EQL g') := G_hoursS he hI hE.1 gI hj (fun g' a b => ⟨rfl, a, b⟩)
  have B : Rn xs xl e mm_hours 0 [some (.inr (.inr 182)), some (.inl v1), none] [] g (fun _ g' => (∀ a i, inX a i → rd g' a i = rd g a i) ∧ ∀ a i, a < 182 → rd g' a i = rd g a i) := use_sm TR_hours (as := [.inr (.inr 182), .inl v1]) rfl (Nat.le_trans (Nat.le_of_ble_eq_true rfl) he) gI (gAr_c (g_ref 182) (gAr_c (g_i h1) gAr_n)) rfl (Nat.le_of_ble_eq_true rfl) rfl (fun r g' gI' gf gq => ⟨fun a i ha => gf a i (dsX_ok (by decide +kernel) ha), fun a i ha => gf a i (bHi_ok (by decide +kernel) ha)⟩)
  refine (A.and B).mono (fun q g' z => ?_)
  obtain ⟨⟨rfl, a, b⟩, f, fl⟩ := z
  exact k g' a ⟨b, XR_fr hI hE.2.1 (fun a i ha _ => (f a i ha).trans (hrs_X hj ha)), XS_lo (hrs_S hE.2.2 hj) fl⟩
theorem G_shutY (he : 8 ≤ e) (hI : INV h) (hE : EQX h) (h1 : i32 v1) (h2 : gV (0, 0, 1, 1) (.inl v2)) (gI : INV g) (h2' : v2 = 0 ∨ v2 = 1) (hj : shtJ v1 v2 h g r) (k : ∀ g', INV g' → EQX g' → Q (some (.inl r)) g') : Rn xs xl e mm_shut 0 [some (.inr (.inr 182)), some (.inl v1), some (.inl v2)] [] g Q := by
  have A : Rn xs xl e mm_shut 0 [some (.inr (.inr 182)), some (.inl v1), some (.inl v2)] [] g (fun q g' => q = some (.inl r) ∧ INV g' ∧ EQL g') := G_shutS he hI hE.1 gI h2' hj (fun g' a b => ⟨rfl, a, b⟩)
  have B : Rn xs xl e mm_shut 0 [some (.inr (.inr 182)), some (.inl v1), some (.inl v2)] [] g (fun _ g' => (∀ a i, inX a i → rd g' a i = rd g a i) ∧ ∀ a i, a < 182 → rd g' a i = rd g a i) := use_sm TR_shut (as := [.inr (.inr 182), .inl v1, .inl v2]) rfl (Nat.le_trans (Nat.le_of_ble_eq_true rfl) he) gI (gAr_c (g_ref 182) (gAr_c (g_i h1) (gAr_c h2 gAr_n))) rfl (Nat.le_of_ble_eq_true rfl) rfl (fun r g' gI' gf gq => ⟨fun a i ha => gf a i (dsX_ok (by decide +kernel) ha), fun a i ha => gf a i (bHi_ok (by decide +kernel) ha)⟩)
  refine (A.and B).mono (fun q g' z => ?_)
  obtain ⟨⟨rfl, a, b⟩, f, fl⟩ := z
  exact k g' a ⟨b, XR_fr hI hE.2.1 (fun a i ha _ => (f a i ha).trans (sht_X hj ha)), XS_lo (sht_S hI hE.2.2 hj) fl⟩
theorem G_undoY (he : 8 ≤ e) (hI : INV h) (hE : EQX h) (gI : INV g) (hj : undJ h g r) (k : ∀ g', INV g' → EQX g' → Q (some (.inl r)) g') : Rn xs xl e mm_undo 0 [some (.inr (.inr 182))] [] g Q := by
  have A : Rn xs xl e mm_undo 0 [some (.inr (.inr 182))] [] g (fun q g' => q = some (.inl r) ∧ INV g' ∧ EQL g') := G_undoS he hI hE.1 gI hj (fun g' a b => ⟨rfl, a, b⟩)
  have B : Rn xs xl e mm_undo 0 [some (.inr (.inr 182))] [] g (fun _ g' => (∀ a i, inX a i → rd g' a i = rd g a i) ∧ ∀ a i, a < 182 → rd g' a i = rd g a i) := D_undo (by omega) gI (fun r g' _ f => ⟨fun a i ha => by
    obtain ⟨-, y1, -, -, -, -, y6, -⟩ := inX_p ha
    exact f a i (by omega) (by omega), fun a i n => f a i (by omega) (by omega)⟩)
  refine (A.and B).mono (fun q g' z => ?_)
  obtain ⟨⟨rfl, a, b⟩, f, fl⟩ := z
  exact k g' a ⟨b, XR_fr hI hE.2.1 (fun a i ha _ => (f a i ha).trans (und_X hj ha)), XS_lo (und_S hE.2.2 hj) fl⟩
theorem G_goY (he : 8 ≤ e) (hI : INV h) (hE : EQX h) (gI : INV g) (hj : goJ v1 v2 h g r) (k : ∀ g', INV g' → EQX g' → Q (some (.inl r)) g') : Rn xs xl e mm_go 0 [some (.inr (.inr 182)), some (.inl v1), some (.inl v2)] [] g Q := by
  have A : Rn xs xl e mm_go 0 [some (.inr (.inr 182)), some (.inl v1), some (.inl v2)] [] g (fun q g' => q = some (.inl r) ∧ INV g' ∧ EQL g') := G_goS he hI hE.1 gI hj (fun g' a b => ⟨rfl, a, b⟩)
  have k5 := hE.1.2.2.2.2.2.2.2.2.2.2.2.1
  have gh : ∀ a i, 182 ≤ a → rd g a i = rd h a i := fun a i n => by
    rcases hj with ⟨-, -, fr⟩ | ⟨-, -, kc, -⟩
    · exact fr a i (by unfold scp; omega)
    · obtain ⟨-, -, kf⟩ := kc
      have hr : 0 ≤ (rd h 1 8 + rd h 1 9) % 16 ∧ (rd h 1 8 + rd h 1 9) % 16 < 16 := by omega
      generalize (rd h 1 8 + rd h 1 9) % 16 = ρ at kf hr
      exact kf a i (by unfold scp; omega) (by unfold scp; omega) (by unfold scp; omega) (by omega)
  have B : Rn xs xl e mm_go 0 [some (.inr (.inr 182)), some (.inl v1), some (.inl v2)] [] g (fun _ g' => (∀ a i, inX a i → rd g' a i = rd g a i) ∧ ∀ a i, a < 182 → rd g' a i = rd g a i) := by
    refine G_goX (by omega) gI (fun d d0 d1 => ?_) (fun _ g' _ f => ⟨fun a i ha => ?_, fun a i n => f a i (by omega) (by omega) (by omega) (by omega)⟩) (fun _ u _ _ _ f => ⟨fun a i ha => ?_, fun a i n => f a i (by omega) (by omega) (by omega) (by omega)⟩)
    · rw [gh 198 _ (by decide)]
      have y := k5.2.2.2.1 d d0 d1
      rw [show (0 : Int) + d + 20 = d + 20 by omega] at y
      exact y.2
    · obtain ⟨y0, y1, -, -, -, -, y6, -⟩ := inX_p ha
      exact f a i (by omega) (by omega) (by omega) (by omega)
    · obtain ⟨y0, y1, -, -, -, -, y6, -⟩ := inX_p ha
      exact f a i (by omega) (by omega) (by omega) (by omega)
  refine (A.and B).mono (fun q g' z => ?_)
  obtain ⟨⟨rfl, a, b⟩, f, fl⟩ := z
  exact k g' a ⟨b, XR_fr hI hE.2.1 (fun a i ha _ => (f a i ha).trans (goj_X hj ha)), XS_lo (goj_S hE.2.2 hj) fl⟩
theorem G_markY (he : 8 ≤ e) (hI : INV h) (hE : EQX h) (gI : INV g) (hj : mrJ v1 v2 h g r) (k : ∀ g', INV g' → EQX g' → Q (some (.inl r)) g') : Rn xs xl e mm_mark 0 [some (.inr (.inr 182)), some (.inl v1), some (.inl v2), none] [] g Q := by
  have A : Rn xs xl e mm_mark 0 [some (.inr (.inr 182)), some (.inl v1), some (.inl v2), none] [] g (fun q g' => q = some (.inl r) ∧ INV g' ∧ EQL g') := G_markS he hI hE.1 gI hj (fun g' a b => ⟨rfl, a, b⟩)
  obtain ⟨hN, hL, hW, hM⟩ := id hE.2.1
  have hq : rd h 1 1 = 5 ∨ rd h 1 1 = 32 := rQf hI.1
  have j3 := hE.1.2.2.2.2.2.2.1.2.2
  have iff9 : (∀ i, rd g 199 i = rd h 199 i) → (((0 ≤ v1 ∧ v1 < 4) ∧ (v2 = 0 ∨ rd g 199 v1 ≠ 0)) ↔ mrkA (rd h 1 6) v1 v2) := fun g9 => by
    unfold mrkA
    constructor
    · rintro ⟨a, b⟩
      rw [g9, j3 v1 a.1 a.2] at b
      exact ⟨a, b⟩
    · rintro ⟨a, b⟩
      rw [g9, j3 v1 a.1 a.2]
      exact ⟨a, b⟩
  have B : Rn xs xl e mm_mark 0 [some (.inr (.inr 182)), some (.inl v1), some (.inl v2), none] [] g (fun _ g' => XR g') := by
    rcases hj with ⟨n, -, sm⟩ | ⟨hm, -, hc⟩
    · have iff := iff9 (fun i => sm _ _)
      have sX : XR g := XR_fr hI hE.2.1 (fun a i _ _ => sm a i)
      exact G_markR (by omega) gI (fun g' a b _ _ _ _ => absurd (iff.mp ⟨a, Or.inl b⟩) n) (fun g' a b c _ _ _ _ _ => absurd (iff.mp ⟨a, Or.inr c⟩) n) (fun g' _ f => XR_fr gI sX (fun a i ha _ => f a i (by have := (inX_p ha).2.1; omega)))
    · have hv := hm.1
      rcases hc with ⟨z0, -, cm, cf⟩ | ⟨z0, -, cm, cf⟩
      · have gh : ∀ a i, 182 ≤ a → rd g a i = rd h a i := fun a i n => cf a i (by omega) (by omega)
        have iff := iff9 (fun i => gh _ _ (by decide))
        refine G_markR (by omega) gI (fun g' _ _ a9 a8 a2 af => ?_) (fun g' _ y _ _ _ _ _ _ => absurd z0 y) (fun g' y _ => absurd (iff.mpr hm) y)
        have lo : ∀ a i, a < 182 → rd g' a i = rd g a i := fun a i n => af a i (by omega) (by omega) (by omega) (by omega)
        have cl : ∀ a i, a < 182 → ¬ (102 + 8 * v1 ≤ a ∧ a ≤ 109 + 8 * v1) → ¬ (a = 1 ∧ i = 6) → rd g' a i = rd h a i := fun a i n1 n2 n3 => (lo a i n1).trans (cf a i (by omega) n3)
        have rl : ∀ a i, 182 ≤ a → ¬ (a = 198 ∧ 70 * v1 + 70 ≤ i ∧ i < 70 * v1 + 140) → a ≠ 199 → ¬ (a = 200 ∧ 50 * v1 ≤ i ∧ i < 50 * v1 + 50) → ¬ (a = 182 ∧ i = 0) → rd g' a i = rd h a i := fun a i n0 n1 n2 n3 n4 => (af a i n1 n2 n3 n4).trans (gh a i n0)
        have p : ∀ i, rd g' 188 i = rd h 188 i := fun i => rl 188 i (by decide) (by omega) (by decide) (by omega) (by omega)
        have cq : ∀ a i, rd h 1 1 ≤ a → a ≤ rd h 1 1 + 26 → rd g' a i = rd h a i := fun a i a0 a1 => cl a i (by omega) (by omega) (by omega)
        have g9 : ∀ m, rd g' 199 m = if m = v1 then 1 else rd h 199 m := fun m => by rw [a9 m, gh 199 m (by decide)]
        obtain ⟨⟨c1, c2⟩, -, ⟨c4, c7⟩, c6⟩ := mcq_lo cm (fun a i a0 a1 => lo a i (by omega))
        refine ⟨NMR_x hN (cl 1 1 (by decide) (by omega) (by decide)) (rl 182 18 (by decide) (by omega) (by decide) (by omega) (by decide)) (cq _ 2 (by omega) (by omega)) (cq _ 4 (by omega) (by omega)) (fun k => rl 191 k (by decide) (by omega) (by decide) (by omega) (by omega)) (fun k => rl 193 k (by decide) (by omega) (by decide) (by omega) (by omega)) (fun a a0 a1 => cq a 0 (by omega) (by omega)), LNR_mv hL (cl 59 1 (by decide) (by omega) (by decide)) (fun k k0 k1 => ⟨cl _ k (by decide) (by omega) (by omega), cl _ k (by decide) (by omega) (by omega)⟩) (fun i i0 i1 => rl 195 _ (by decide) (by omega) (by decide) (by omega) (by omega)) (p 1) (p 2), WLR_mv hW (cl 59 4 (by decide) (by omega) (by decide)) (cl 59 7 (by decide) (by omega) (by decide)) (fun k k0 k1 => ⟨cl _ k (by decide) (by omega) (by omega), cl _ k (by decide) (by omega) (by omega)⟩) (fun i i0 i1 => rl 198 _ (by decide) (by omega) (by decide) (by omega) (by omega)) (p 0), fun m m0 m1 hm9 => ?_⟩
        by_cases y : m = v1
        · subst y
          refine ⟨LNR_mv hL c1 (fun k k0 k1 => c2 k k0 k1) (fun i i0 i1 => ?_) (p 1) (p 2), WLR_mv hW c4 c7 (fun k k0 k1 => c6 k k0 k1) (fun i i0 i1 => ?_) (p 0)⟩
          · rw [a2 i i0 (by omega), gh 195 i (by decide), Int.zero_add]
          · rw [a8 i (by omega) i1, gh 198 i (by decide), Int.zero_add]
        · rw [g9 m, if_neg y] at hm9
          obtain ⟨hL', hW'⟩ := hM m m0 m1 hm9
          exact ⟨LNR_mv hL' (cl _ 1 (by omega) (by omega) (by omega)) (fun k k0 k1 => ⟨cl _ k (by omega) (by omega) (by omega), cl _ k (by omega) (by omega) (by omega)⟩) (fun i i0 i1 => rl 200 _ (by decide) (by omega) (by decide) (by omega) (by omega)) (p 1) (p 2), WLR_mv hW' (cl _ 4 (by omega) (by omega) (by omega)) (cl _ 7 (by omega) (by omega) (by omega)) (fun k k0 k1 => ⟨cl _ k (by omega) (by omega) (by omega), cl _ k (by omega) (by omega) (by omega)⟩) (fun i i0 i1 => rl 198 _ (by decide) (by omega) (by decide) (by omega) (by omega)) (p 0)⟩
      · have gh : ∀ a i, 182 ≤ a → rd g a i = rd h a i := fun a i n => cf a i (by omega) (by omega)
        have iff := iff9 (fun i => gh _ _ (by decide))
        refine G_markR (by omega) gI (fun g' _ y _ _ _ _ => absurd y z0) (fun g' _ _ nz a9 a8 a2 _ af => ?_) (fun g' y _ => absurd (iff.mpr hm) y)
        rw [gh 199 _ (by decide)] at nz
        obtain ⟨hL', hW'⟩ := hM v1 hv.1 hv.2 nz
        have lo : ∀ a i, a < 182 → rd g' a i = rd g a i := fun a i n => af a i (by omega) (by omega) (by omega) (by omega)
        have cl : ∀ a i, a < 182 → ¬ (59 ≤ a ∧ a ≤ 66) → ¬ (a = 1 ∧ i = 9) → rd g' a i = rd h a i := fun a i n1 n2 n3 => (lo a i n1).trans (cf a i (by omega) n3)
        have rl : ∀ a i, 182 ≤ a → ¬ (a = 198 ∧ 0 ≤ i ∧ i < 70) → a ≠ 199 → ¬ (a = 195 ∧ 0 ≤ i ∧ i < 50) → ¬ (a = 182 ∧ (i = 0 ∨ i = 25)) → rd g' a i = rd h a i := fun a i n0 n1 n2 n3 n4 => (af a i n1 n2 n3 n4).trans (gh a i n0)
        have p : ∀ i, rd g' 188 i = rd h 188 i := fun i => rl 188 i (by decide) (by omega) (by decide) (by omega) (by omega)
        have cq : ∀ a i, rd h 1 1 ≤ a → a ≤ rd h 1 1 + 26 → rd g' a i = rd h a i := fun a i a0 a1 => cl a i (by omega) (by omega) (by omega)
        have g9 : ∀ m, m ≠ v1 → rd g' 199 m = rd h 199 m := fun m y => by rw [a9 m, gh 199 m (by decide), if_neg y]
        obtain ⟨⟨c1, c2⟩, -, ⟨c4, c7⟩, c6⟩ := mcq_lo cm (fun a i a0 a1 => lo a i (by omega))
        refine ⟨NMR_x hN (cl 1 1 (by decide) (by decide) (by decide)) (rl 182 18 (by decide) (by decide) (by decide) (by decide) (by decide)) (cq _ 2 (by omega) (by omega)) (cq _ 4 (by omega) (by omega)) (fun k => rl 191 k (by decide) (by omega) (by decide) (by omega) (by omega)) (fun k => rl 193 k (by decide) (by omega) (by decide) (by omega) (by omega)) (fun a a0 a1 => cq a 0 (by omega) (by omega)), LNR_mv hL' c1 (fun k k0 k1 => c2 k k0 k1) (fun i i0 i1 => ?_) (p 1) (p 2), WLR_mv hW' c4 c7 (fun k k0 k1 => c6 k k0 k1) (fun i i0 i1 => ?_) (p 0), fun m m0 m1 hm9 => ?_⟩
        · rw [Int.zero_add, a2 i i0 (by omega), gh 200 _ (by decide)]
        · rw [Int.zero_add, a8 i (by omega) i1, gh 198 _ (by decide)]
        · have hm9' : rd h 199 m ≠ 0 := by
            by_cases y : m = v1
            · rw [y]; exact nz
            · rw [g9 m y] at hm9; exact hm9
          obtain ⟨hL2, hW2⟩ := hM m m0 m1 hm9'
          exact ⟨LNR_mv hL2 (cl _ 1 (by omega) (by omega) (by omega)) (fun k k0 k1 => ⟨cl _ k (by omega) (by omega) (by omega), cl _ k (by omega) (by omega) (by omega)⟩) (fun i i0 i1 => rl 200 _ (by decide) (by omega) (by decide) (by omega) (by omega)) (p 1) (p 2), WLR_mv hW2 (cl _ 4 (by omega) (by omega) (by omega)) (cl _ 7 (by omega) (by omega) (by omega)) (fun k k0 k1 => ⟨cl _ k (by omega) (by omega) (by omega), cl _ k (by omega) (by omega) (by omega)⟩) (fun i i0 i1 => rl 198 _ (by decide) (by omega) (by decide) (by omega) (by omega)) (p 0)⟩
  have C : Rn xs xl e mm_mark 0 [some (.inr (.inr 182)), some (.inl v1), some (.inl v2), none] [] g (fun _ g' => ∀ a i, a < 182 → rd g' a i = rd g a i) := D_mark (by omega) gI (fun r g' _ f a i n => f a i (by omega) (by omega) (by omega) (by omega) (by omega))
  refine ((A.and B).and C).mono (fun q g' z => ?_)
  obtain ⟨⟨⟨rfl, a, b⟩, c⟩, fl⟩ := z
  exact k g' a ⟨b, c, XS_lo (mrj_S hE.2.2 hj) fl⟩
end X2
end
