/-! LM, by program (wip/p2/hand.py): rows of readDay and day -/
def mm_Reader_readDay : LM_M := (⟨"OneSided$Reader", "readDay", "(LOneSided$Quarter;LOneSided$Memory;)I"⟩, prog_9_method_4_code, 4, (some .int), 7, 3, 0, 741, 739, 740)
theorem dd_Reader_readDay_0 : decode mm_Reader_readDay.2.1 0 = .ok (.aload_n 0, 1) := by decide +kernel
theorem dd_Reader_readDay_1 : decode mm_Reader_readDay.2.1 1 = .ok (.invokevirtual 38, 3) := by decide +kernel
theorem dd_Reader_readDay_4 : decode mm_Reader_readDay.2.1 4 = .ok (.aload_n 2, 1) := by decide +kernel
theorem dd_Reader_readDay_5 : decode mm_Reader_readDay.2.1 5 = .ok (.iconst 0, 1) := by decide +kernel
theorem dd_Reader_readDay_6 : decode mm_Reader_readDay.2.1 6 = .ok (.putfield 83, 3) := by decide +kernel
theorem dd_Reader_readDay_9 : decode mm_Reader_readDay.2.1 9 = .ok (.iconst 0, 1) := by decide +kernel
theorem dd_Reader_readDay_10 : decode mm_Reader_readDay.2.1 10 = .ok (.istore_n 3, 1) := by decide +kernel
theorem dd_Reader_readDay_11 : decode mm_Reader_readDay.2.1 11 = .ok (.iload_n 3, 1) := by decide +kernel
theorem dd_Reader_readDay_12 : decode mm_Reader_readDay.2.1 12 = .ok (.sipush 1000, 3) := by decide +kernel
theorem dd_Reader_readDay_15 : decode mm_Reader_readDay.2.1 15 = .ok (.if_icmp .ge (29), 3) := by decide +kernel
theorem dd_Reader_readDay_18 : decode mm_Reader_readDay.2.1 18 = .ok (.aload_n 0, 1) := by decide +kernel
theorem dd_Reader_readDay_19 : decode mm_Reader_readDay.2.1 19 = .ok (.getfield 61, 3) := by decide +kernel
theorem dd_Reader_readDay_22 : decode mm_Reader_readDay.2.1 22 = .ok (.ifCond .ne (22), 3) := by decide +kernel
theorem dd_Reader_readDay_25 : decode mm_Reader_readDay.2.1 25 = .ok (.aload_n 0, 1) := by decide +kernel
theorem dd_Reader_readDay_26 : decode mm_Reader_readDay.2.1 26 = .ok (.getfield 64, 3) := by decide +kernel
theorem dd_Reader_readDay_29 : decode mm_Reader_readDay.2.1 29 = .ok (.ifCond .eq (15), 3) := by decide +kernel
theorem dd_Reader_readDay_32 : decode mm_Reader_readDay.2.1 32 = .ok (.aload_n 0, 1) := by decide +kernel
theorem dd_Reader_readDay_33 : decode mm_Reader_readDay.2.1 33 = .ok (.aload_n 1, 1) := by decide +kernel
theorem dd_Reader_readDay_34 : decode mm_Reader_readDay.2.1 34 = .ok (.aload_n 2, 1) := by decide +kernel
theorem dd_Reader_readDay_35 : decode mm_Reader_readDay.2.1 35 = .ok (.invokevirtual 88, 3) := by decide +kernel
theorem cw_7_88 : cwOk 7 88 0 56 3 6 7 = true := by decide +kernel
theorem mt_Reader_dayLine : MTB 56 = some mm_Reader_dayLine := rfl
theorem dd_Reader_readDay_38 : decode mm_Reader_readDay.2.1 38 = .ok (.iinc 3 1, 3) := by decide +kernel
theorem dd_Reader_readDay_41 : decode mm_Reader_readDay.2.1 41 = .ok (.goto (-30), 3) := by decide +kernel
theorem dd_Reader_readDay_44 : decode mm_Reader_readDay.2.1 44 = .ok (.aload_n 0, 1) := by decide +kernel
theorem dd_Reader_readDay_45 : decode mm_Reader_readDay.2.1 45 = .ok (.iconst 0, 1) := by decide +kernel
theorem dd_Reader_readDay_46 : decode mm_Reader_readDay.2.1 46 = .ok (.putfield 35, 3) := by decide +kernel
theorem dd_Reader_readDay_49 : decode mm_Reader_readDay.2.1 49 = .ok (.aload_n 0, 1) := by decide +kernel
theorem dd_Reader_readDay_50 : decode mm_Reader_readDay.2.1 50 = .ok (.getfield 61, 3) := by decide +kernel
theorem dd_Reader_readDay_53 : decode mm_Reader_readDay.2.1 53 = .ok (.ireturn, 1) := by decide +kernel
theorem dd_OneSided_day_0 : decode mm_OneSided_day.2.1 0 = .ok (.aload_n 0, 1) := by decide +kernel
theorem dd_OneSided_day_1 : decode mm_OneSided_day.2.1 1 = .ok (.getfield 10, 3) := by decide +kernel
theorem dd_OneSided_day_4 : decode mm_OneSided_day.2.1 4 = .ok (.aload_n 0, 1) := by decide +kernel
theorem dd_OneSided_day_5 : decode mm_OneSided_day.2.1 5 = .ok (.getfield 19, 3) := by decide +kernel
theorem dd_OneSided_day_8 : decode mm_OneSided_day.2.1 8 = .ok (.aload_n 0, 1) := by decide +kernel
theorem dd_OneSided_day_9 : decode mm_OneSided_day.2.1 9 = .ok (.getfield 33, 3) := by decide +kernel
theorem fd_11_33 : fld 11 33 = some (11, 4) := by decide +kernel
theorem rf_1_4 {h : LH} (hF : RF h) : rd h 1 4 = 67 := hF 1 4 67 (by decide +kernel) (by decide +kernel)
theorem dd_OneSided_day_12 : decode mm_OneSided_day.2.1 12 = .ok (.invokevirtual 107, 3) := by decide +kernel
theorem cw_11_107 : cwOk 11 107 0 55 3 4 7 = true := by decide +kernel
theorem mt_Reader_readDay : MTB 55 = some mm_Reader_readDay := rfl
theorem dd_OneSided_day_15 : decode mm_OneSided_day.2.1 15 = .ok (.istore_n 1, 1) := by decide +kernel
theorem dd_OneSided_day_16 : decode mm_OneSided_day.2.1 16 = .ok (.iload_n 1, 1) := by decide +kernel
theorem dd_OneSided_day_17 : decode mm_OneSided_day.2.1 17 = .ok (.ifCond .ne (14), 3) := by decide +kernel
theorem dd_OneSided_day_20 : decode mm_OneSided_day.2.1 20 = .ok (.aload_n 0, 1) := by decide +kernel
theorem dd_OneSided_day_21 : decode mm_OneSided_day.2.1 21 = .ok (.getfield 29, 3) := by decide +kernel
theorem dd_OneSided_day_24 : decode mm_OneSided_day.2.1 24 = .ok (.aload_n 0, 1) := by decide +kernel
theorem dd_OneSided_day_25 : decode mm_OneSided_day.2.1 25 = .ok (.getfield 33, 3) := by decide +kernel
theorem dd_OneSided_day_28 : decode mm_OneSided_day.2.1 28 = .ok (.invokevirtual 111, 3) := by decide +kernel
theorem cw_11_111 : cwOk 11 111 0 59 2 2 3 = true := by decide +kernel
theorem dd_OneSided_day_31 : decode mm_OneSided_day.2.1 31 = .ok (.iload_n 1, 1) := by decide +kernel
theorem dd_OneSided_day_32 : decode mm_OneSided_day.2.1 32 = .ok (.ireturn, 1) := by decide +kernel
theorem B_Reader_readDay_0 {xs : Nat → Int} {xl e : Nat} {h : LH} {Q : Option LV → LH → Prop} {q : Int} (hq : q = 5 ∨ q = 32) (hF : RF h)
    (k : (∃ c, c < e ∧ Rn xs xl c mm_Reader_begin 0 [some (.inr (.inr 2))] [] h (fun r h' => Rn xs xl e mm_Reader_readDay 4 [some (.inr (.inr 2)), some (.inr (.inr q)), some (.inr (.inr 67)), none] (r.toList ++ []) h' Q))) :
    Rn xs xl e mm_Reader_readDay 0 [some (.inr (.inr 2)), some (.inr (.inr q)), some (.inr (.inr 67)), none] [] h Q := by
  refine R_ld (v := .inr (.inr 2)) dd_Reader_readDay_0 rfl rfl rfl rfl ?_
  obtain ⟨c, hc, k⟩ := k
  exact R_call (as := [.inr (.inr 2)]) (rest := []) (M' := mm_Reader_begin) (ls0 := [some (.inr (.inr 2))]) dd_Reader_readDay_1 rfl rfl (cw_v cw_7_38 io_2 rfl rfl (Nat.le_of_ble_eq_true rfl) (Nat.le_of_ble_eq_true rfl)) mt_Reader_begin rfl hc rfl k
theorem B_Reader_readDay_4 {xs : Nat → Int} {xl e : Nat} {h : LH} {Q : Option LV → LH → Prop} {q : Int} (hq : q = 5 ∨ q = 32) (hF : RF h)
    (k : Rn xs xl e mm_Reader_readDay 11 [some (.inr (.inr 2)), some (.inr (.inr q)), some (.inr (.inr 67)), some (.inl 0)] [] (wr h 67 1 0) Q) :
    Rn xs xl e mm_Reader_readDay 4 [some (.inr (.inr 2)), some (.inr (.inr q)), some (.inr (.inr 67)), none] [] h Q := by
  refine R_ld (v := .inr (.inr 67)) dd_Reader_readDay_4 rfl rfl rfl rfl ?_
  refine R_ic dd_Reader_readDay_5 (by decide) rfl ?_
  refine R_pf (z := 0) dd_Reader_readDay_6 fd_7_83 io_67 fn_3_1 rfl rfl ?_
  refine R_ic dd_Reader_readDay_9 (by decide) rfl ?_
  refine R_st (ls' := [some (.inr (.inr 2)), some (.inr (.inr q)), some (.inr (.inr 67)), some (.inl 0)]) dd_Reader_readDay_10 rfl rfl rfl (Nat.le_of_ble_eq_true rfl) rfl rfl ?_
  exact k
theorem B_Reader_readDay_11 {xs : Nat → Int} {xl e : Nat} {h : LH} {Q : Option LV → LH → Prop} {v3 : Int} {q : Int} (hq : q = 5 ∨ q = 32) (hF : RF h) (r_v3 : 0 ≤ v3 ∧ v3 ≤ 1000)
    (k : (1000 ≤ v3 →
        Rn xs xl e mm_Reader_readDay 44 [some (.inr (.inr 2)), some (.inr (.inr q)), some (.inr (.inr 67)), some (.inl v3)] [] h Q) ∧
      (v3 < 1000 →
        ((rd h 2 8) ≠ 0 →
          Rn xs xl e mm_Reader_readDay 44 [some (.inr (.inr 2)), some (.inr (.inr q)), some (.inr (.inr 67)), some (.inl v3)] [] h Q) ∧
        ((rd h 2 8) = 0 →
          ((rd h 2 3) = 0 →
            Rn xs xl e mm_Reader_readDay 44 [some (.inr (.inr 2)), some (.inr (.inr q)), some (.inr (.inr 67)), some (.inl v3)] [] h Q) ∧
          ((rd h 2 3) ≠ 0 →
            (∃ c, c < e ∧ Rn xs xl c mm_Reader_dayLine 0 [some (.inr (.inr 2)), some (.inr (.inr q)), some (.inr (.inr 67)), none, none, none] [] h (fun r h' => Rn xs xl e mm_Reader_readDay 38 [some (.inr (.inr 2)), some (.inr (.inr q)), some (.inr (.inr 67)), some (.inl v3)] (r.toList ++ []) h' Q)))))) :
    Rn xs xl e mm_Reader_readDay 11 [some (.inr (.inr 2)), some (.inr (.inr q)), some (.inr (.inr 67)), some (.inl v3)] [] h Q := by
  refine R_ld (v := .inl v3) dd_Reader_readDay_11 rfl rfl rfl rfl ?_
  refine R_si dd_Reader_readDay_12 (by decide) rfl ?_
  refine R_icmp dd_Reader_readDay_15 rfl rfl (fun (c2 : 1000 ≤ v3) => ?_) (fun (c2 : v3 < 1000) => ?_)
  · replace k := k.1 c2
    exact k
  · replace k := k.2 c2
    refine R_ld (v := .inr (.inr 2)) dd_Reader_readDay_18 rfl rfl rfl rfl ?_
    refine R_gf (v := .inl (rd h 2 8)) dd_Reader_readDay_19 fd_7_61 io_2 (congrArg (fun z : Int => (Sum.inl z : LV)) (rfl)) rfl ?_
    refine R_if dd_Reader_readDay_22 rfl rfl (fun (c3 : (rd h 2 8) ≠ 0) => ?_) (fun (c3 : (rd h 2 8) = 0) => ?_)
    · replace k := k.1 c3
      exact k
    · replace k := k.2 c3
      refine R_ld (v := .inr (.inr 2)) dd_Reader_readDay_25 rfl rfl rfl rfl ?_
      refine R_gf (v := .inl (rd h 2 3)) dd_Reader_readDay_26 fd_7_64 io_2 (congrArg (fun z : Int => (Sum.inl z : LV)) (rfl)) rfl ?_
      refine R_if dd_Reader_readDay_29 rfl rfl (fun (c4 : (rd h 2 3) = 0) => ?_) (fun (c4 : (rd h 2 3) ≠ 0) => ?_)
      · replace k := k.1 c4
        exact k
      · replace k := k.2 c4
        refine R_ld (v := .inr (.inr 2)) dd_Reader_readDay_32 rfl rfl rfl rfl ?_
        refine R_ld (v := .inr (.inr q)) dd_Reader_readDay_33 rfl rfl rfl rfl ?_
        refine R_ld (v := .inr (.inr 67)) dd_Reader_readDay_34 rfl rfl rfl rfl ?_
        obtain ⟨c, hc, k⟩ := k
        exact R_call (as := [.inr (.inr 2), .inr (.inr q), .inr (.inr 67)]) (rest := []) (M' := mm_Reader_dayLine) (ls0 := [some (.inr (.inr 2)), some (.inr (.inr q)), some (.inr (.inr 67)), none, none, none]) dd_Reader_readDay_35 rfl rfl (cw_v cw_7_88 io_2 rfl rfl (Nat.le_of_ble_eq_true rfl) (Nat.le_of_ble_eq_true rfl)) mt_Reader_dayLine rfl hc rfl k
theorem B_Reader_readDay_38 {xs : Nat → Int} {xl e : Nat} {h : LH} {Q : Option LV → LH → Prop} {v3 : Int} {q : Int} (hq : q = 5 ∨ q = 32) (hF : RF h) (r_v3 : 0 ≤ v3 ∧ v3 ≤ 999)
    (k : Rn xs xl e mm_Reader_readDay 11 [some (.inr (.inr 2)), some (.inr (.inr q)), some (.inr (.inr 67)), some (.inl (v3 + 1))] [] h Q) :
    Rn xs xl e mm_Reader_readDay 38 [some (.inr (.inr 2)), some (.inr (.inr q)), some (.inr (.inr 67)), some (.inl v3)] [] h Q := by
  refine R_inc (y := v3 + 1) (ls' := [some (.inr (.inr 2)), some (.inr (.inr q)), some (.inr (.inr 67)), some (.inl (v3 + 1))]) dd_Reader_readDay_38 rfl (by decide) (by omega) (by omega) rfl rfl ?_
  refine R_goto dd_Reader_readDay_41 rfl ?_
  exact k
theorem B_Reader_readDay_44 {xs : Nat → Int} {xl e : Nat} {h : LH} {Q : Option LV → LH → Prop} {v3 : Int} {q : Int} (hq : q = 5 ∨ q = 32) (hF : RF h)
    (k : Q (some (.inl (rd h 2 8))) (wr h 2 0 0)) :
    Rn xs xl e mm_Reader_readDay 44 [some (.inr (.inr 2)), some (.inr (.inr q)), some (.inr (.inr 67)), some (.inl v3)] [] h Q := by
  refine R_ld (v := .inr (.inr 2)) dd_Reader_readDay_44 rfl rfl rfl rfl ?_
  refine R_ic dd_Reader_readDay_45 (by decide) rfl ?_
  refine R_pf (z := 0) dd_Reader_readDay_46 fd_7_35 io_2 fn_7_0 rfl rfl ?_
  refine R_ld (v := .inr (.inr 2)) dd_Reader_readDay_49 rfl rfl rfl rfl ?_
  refine R_gf (v := .inl (rd h 2 8)) dd_Reader_readDay_50 fd_7_61 io_2 (congrArg (fun z : Int => (Sum.inl z : LV)) (rdw_nei (by omega))) rfl ?_
  exact R_iret dd_Reader_readDay_53 rfl k
theorem B_OneSided_day_0 {xs : Nat → Int} {xl e : Nat} {h : LH} {Q : Option LV → LH → Prop} {q t : Int} (hq : q = 5 ∨ q = 32) (ht : t = 5 ∨ t = 32) (hS : rd h 1 ((2 : Nat) : Int) = q) (hQ : rd h 1 ((1 : Nat) : Int) = t) (hF : RF h)
    (k : (∃ c, c < e ∧ Rn xs xl c mm_Reader_readDay 0 [some (.inr (.inr 2)), some (.inr (.inr t)), some (.inr (.inr 67)), none] [] h (fun r h' => Rn xs xl e mm_OneSided_day 15 [some (.inr (.inr 1)), none] (r.toList ++ []) h' Q))) :
    Rn xs xl e mm_OneSided_day 0 [some (.inr (.inr 1)), none] [] h Q := by
  refine R_ld (v := .inr (.inr 1)) dd_OneSided_day_0 rfl rfl rfl rfl ?_
  refine R_gf (v := .inr (.inr 2)) dd_OneSided_day_1 fd_11_10 io_1 (congrArg (fun z : Int => (Sum.inr (Sum.inr z) : LV)) (rf_1_0 hF)) rfl ?_
  refine R_ld (v := .inr (.inr 1)) dd_OneSided_day_4 rfl rfl rfl rfl ?_
  refine R_gf (v := .inr (.inr t)) dd_OneSided_day_5 fd_11_19 io_1 (congrArg (fun z : Int => (Sum.inr (Sum.inr z) : LV)) (hQ)) rfl ?_
  refine R_ld (v := .inr (.inr 1)) dd_OneSided_day_8 rfl rfl rfl rfl ?_
  refine R_gf (v := .inr (.inr 67)) dd_OneSided_day_9 fd_11_33 io_1 (congrArg (fun z : Int => (Sum.inr (Sum.inr z) : LV)) (rf_1_4 hF)) rfl ?_
  obtain ⟨c, hc, k⟩ := k
  exact R_call (as := [.inr (.inr 2), .inr (.inr t), .inr (.inr 67)]) (rest := []) (M' := mm_Reader_readDay) (ls0 := [some (.inr (.inr 2)), some (.inr (.inr t)), some (.inr (.inr 67)), none]) dd_OneSided_day_12 rfl rfl (cw_v cw_11_107 io_2 rfl rfl (Nat.le_of_ble_eq_true rfl) (Nat.le_of_ble_eq_true rfl)) mt_Reader_readDay rfl hc rfl k
theorem B_OneSided_day_15 {xs : Nat → Int} {xl e : Nat} {h : LH} {Q : Option LV → LH → Prop} {w0 : Int} {q t : Int} (hq : q = 5 ∨ q = 32) (ht : t = 5 ∨ t = 32) (hS : rd h 1 ((2 : Nat) : Int) = q) (hQ : rd h 1 ((1 : Nat) : Int) = t) (hF : RF h)
    (k : (w0 ≠ 0 →
        Rn xs xl e mm_OneSided_day 31 [some (.inr (.inr 1)), some (.inl w0)] [] h Q) ∧
      (w0 = 0 →
        (∃ c, c < e ∧ Rn xs xl c mm_Memory_copyDay 0 [some (.inr (.inr 59)), some (.inr (.inr 67))] [] h (fun r h' => Rn xs xl e mm_OneSided_day 31 [some (.inr (.inr 1)), some (.inl w0)] (r.toList ++ []) h' Q)))) :
    Rn xs xl e mm_OneSided_day 15 [some (.inr (.inr 1)), none] [.inl w0] h Q := by
  refine R_st (ls' := [some (.inr (.inr 1)), some (.inl w0)]) dd_OneSided_day_15 rfl rfl rfl (Nat.le_of_ble_eq_true rfl) rfl rfl ?_
  refine R_ld (v := .inl w0) dd_OneSided_day_16 rfl rfl rfl rfl ?_
  refine R_if dd_OneSided_day_17 rfl rfl (fun (c2 : w0 ≠ 0) => ?_) (fun (c2 : w0 = 0) => ?_)
  · replace k := k.1 c2
    exact k
  · replace k := k.2 c2
    refine R_ld (v := .inr (.inr 1)) dd_OneSided_day_20 rfl rfl rfl rfl ?_
    refine R_gf (v := .inr (.inr 59)) dd_OneSided_day_21 fd_11_29 io_1 (congrArg (fun z : Int => (Sum.inr (Sum.inr z) : LV)) (rf_1_3 hF)) rfl ?_
    refine R_ld (v := .inr (.inr 1)) dd_OneSided_day_24 rfl rfl rfl rfl ?_
    refine R_gf (v := .inr (.inr 67)) dd_OneSided_day_25 fd_11_33 io_1 (congrArg (fun z : Int => (Sum.inr (Sum.inr z) : LV)) (rf_1_4 hF)) rfl ?_
    obtain ⟨c, hc, k⟩ := k
    exact R_call (as := [.inr (.inr 59), .inr (.inr 67)]) (rest := []) (M' := mm_Memory_copyDay) (ls0 := [some (.inr (.inr 59)), some (.inr (.inr 67))]) dd_OneSided_day_28 rfl rfl (cw_v cw_11_111 io_59 rfl rfl (Nat.le_of_ble_eq_true rfl) (Nat.le_of_ble_eq_true rfl)) mt_Memory_copyDay rfl hc rfl k
theorem B_OneSided_day_31 {xs : Nat → Int} {xl e : Nat} {h : LH} {Q : Option LV → LH → Prop} {v1 : Int} {q t : Int} (hq : q = 5 ∨ q = 32) (ht : t = 5 ∨ t = 32) (hS : rd h 1 ((2 : Nat) : Int) = q) (hQ : rd h 1 ((1 : Nat) : Int) = t) (hF : RF h)
    (k : Q (some (.inl v1)) h) :
    Rn xs xl e mm_OneSided_day 31 [some (.inr (.inr 1)), some (.inl v1)] [] h Q := by
  refine R_ld (v := .inl v1) dd_OneSided_day_31 rfl rfl rfl rfl ?_
  exact R_iret dd_OneSided_day_32 rfl k
