/-! LM, by program (wip/p2/hand.py): p3: rows of the class's quarter -/
def mm_Quarter_settle : LM_M := (⟨"OneSided$Quarter", "settle", "()V"⟩, prog_8_method_6_code, 3, none, 6, 1, 0, 700, 698, 699)
def mm_Memory_begin : LM_M := (⟨"OneSided$Memory", "begin", "(LOneSided$Quarter;)V"⟩, prog_5_method_2_code, 2, none, 3, 2, 0, 726, 724, 725)
theorem dd_OneSided_quarter_0 : decode mm_OneSided_quarter.2.1 0 = .ok (.aload_n 0, 1) := by decide +kernel
theorem dd_OneSided_quarter_1 : decode mm_OneSided_quarter.2.1 1 = .ok (.getfield 10, 3) := by decide +kernel
theorem dd_OneSided_quarter_4 : decode mm_OneSided_quarter.2.1 4 = .ok (.aload_n 0, 1) := by decide +kernel
theorem dd_OneSided_quarter_5 : decode mm_OneSided_quarter.2.1 5 = .ok (.getfield 23, 3) := by decide +kernel
theorem fd_11_23 : fld 11 23 = some (11, 2) := by decide +kernel
theorem dd_OneSided_quarter_8 : decode mm_OneSided_quarter.2.1 8 = .ok (.invokevirtual 90, 3) := by decide +kernel
theorem cw_11_90 : cwOk 11 90 0 16 2 3 7 = true := by decide +kernel
theorem mt_Reader_readQuarter : MTB 16 = some mm_Reader_readQuarter := rfl
theorem dd_OneSided_quarter_11 : decode mm_OneSided_quarter.2.1 11 = .ok (.istore_n 1, 1) := by decide +kernel
theorem dd_OneSided_quarter_12 : decode mm_OneSided_quarter.2.1 12 = .ok (.iload_n 1, 1) := by decide +kernel
theorem dd_OneSided_quarter_13 : decode mm_OneSided_quarter.2.1 13 = .ok (.ifCond .eq (5), 3) := by decide +kernel
theorem dd_OneSided_quarter_16 : decode mm_OneSided_quarter.2.1 16 = .ok (.iload_n 1, 1) := by decide +kernel
theorem dd_OneSided_quarter_17 : decode mm_OneSided_quarter.2.1 17 = .ok (.ireturn, 1) := by decide +kernel
theorem dd_OneSided_quarter_18 : decode mm_OneSided_quarter.2.1 18 = .ok (.aload_n 0, 1) := by decide +kernel
theorem dd_OneSided_quarter_19 : decode mm_OneSided_quarter.2.1 19 = .ok (.getfield 23, 3) := by decide +kernel
theorem dd_OneSided_quarter_22 : decode mm_OneSided_quarter.2.1 22 = .ok (.astore_n 2, 1) := by decide +kernel
theorem dd_OneSided_quarter_23 : decode mm_OneSided_quarter.2.1 23 = .ok (.aload_n 0, 1) := by decide +kernel
theorem dd_OneSided_quarter_24 : decode mm_OneSided_quarter.2.1 24 = .ok (.aload_n 0, 1) := by decide +kernel
theorem dd_OneSided_quarter_25 : decode mm_OneSided_quarter.2.1 25 = .ok (.getfield 19, 3) := by decide +kernel
theorem dd_OneSided_quarter_28 : decode mm_OneSided_quarter.2.1 28 = .ok (.putfield 23, 3) := by decide +kernel
theorem fn_11_2 : fin 11 2 = false := by decide +kernel
theorem dd_OneSided_quarter_31 : decode mm_OneSided_quarter.2.1 31 = .ok (.aload_n 0, 1) := by decide +kernel
theorem dd_OneSided_quarter_32 : decode mm_OneSided_quarter.2.1 32 = .ok (.aload_n 2, 1) := by decide +kernel
theorem dd_OneSided_quarter_33 : decode mm_OneSided_quarter.2.1 33 = .ok (.putfield 19, 3) := by decide +kernel
theorem fn_11_1 : fin 11 1 = false := by decide +kernel
theorem dd_OneSided_quarter_36 : decode mm_OneSided_quarter.2.1 36 = .ok (.aload_n 0, 1) := by decide +kernel
theorem dd_OneSided_quarter_37 : decode mm_OneSided_quarter.2.1 37 = .ok (.getfield 19, 3) := by decide +kernel
theorem dd_OneSided_quarter_40 : decode mm_OneSided_quarter.2.1 40 = .ok (.invokevirtual 94, 3) := by decide +kernel
theorem cw_11_94 : cwOk 11 94 0 44 1 3 6 = true := by decide +kernel
theorem mt_Quarter_settle : MTB 44 = some mm_Quarter_settle := rfl
theorem dd_OneSided_quarter_43 : decode mm_OneSided_quarter.2.1 43 = .ok (.aload_n 0, 1) := by decide +kernel
theorem dd_OneSided_quarter_44 : decode mm_OneSided_quarter.2.1 44 = .ok (.getfield 29, 3) := by decide +kernel
theorem dd_OneSided_quarter_47 : decode mm_OneSided_quarter.2.1 47 = .ok (.aload_n 0, 1) := by decide +kernel
theorem dd_OneSided_quarter_48 : decode mm_OneSided_quarter.2.1 48 = .ok (.getfield 19, 3) := by decide +kernel
theorem dd_OneSided_quarter_51 : decode mm_OneSided_quarter.2.1 51 = .ok (.invokevirtual 97, 3) := by decide +kernel
theorem cw_11_97 : cwOk 11 97 0 51 2 2 3 = true := by decide +kernel
theorem mt_Memory_begin : MTB 51 = some mm_Memory_begin := rfl
theorem dd_OneSided_quarter_54 : decode mm_OneSided_quarter.2.1 54 = .ok (.aload_n 0, 1) := by decide +kernel
theorem dd_OneSided_quarter_55 : decode mm_OneSided_quarter.2.1 55 = .ok (.iconst 0, 1) := by decide +kernel
theorem dd_OneSided_quarter_56 : decode mm_OneSided_quarter.2.1 56 = .ok (.putfield 101, 3) := by decide +kernel
theorem fd_11_101 : fld 11 101 = some (11, 6) := by decide +kernel
theorem fn_11_6 : fin 11 6 = false := by decide +kernel
theorem dd_OneSided_quarter_59 : decode mm_OneSided_quarter.2.1 59 = .ok (.aload_n 0, 1) := by decide +kernel
theorem dd_OneSided_quarter_60 : decode mm_OneSided_quarter.2.1 60 = .ok (.iconst 0, 1) := by decide +kernel
theorem dd_OneSided_quarter_61 : decode mm_OneSided_quarter.2.1 61 = .ok (.putfield 104, 3) := by decide +kernel
theorem fd_11_104 : fld 11 104 = some (11, 9) := by decide +kernel
theorem fn_11_9 : fin 11 9 = false := by decide +kernel
theorem dd_OneSided_quarter_64 : decode mm_OneSided_quarter.2.1 64 = .ok (.iconst 0, 1) := by decide +kernel
theorem dd_OneSided_quarter_65 : decode mm_OneSided_quarter.2.1 65 = .ok (.ireturn, 1) := by decide +kernel
theorem B_OneSided_quarter_0 {xs : Nat → Int} {xl e : Nat} {h : LH} {Q : Option LV → LH → Prop} {q t : Int} (hq : q = 5 ∨ q = 32) (ht : t = 5 ∨ t = 32) (hS : rd h 1 ((2 : Nat) : Int) = q) (hQ : rd h 1 ((1 : Nat) : Int) = t) (hF : RF h)
    (k : (∃ c, c < e ∧ Rn xs xl c mm_Reader_readQuarter 0 [some (.inr (.inr 2)), some (.inr (.inr q)), none] [] h (fun r h' => Rn xs xl e mm_OneSided_quarter 11 [some (.inr (.inr 1)), none, none] (r.toList ++ []) h' Q))) :
    Rn xs xl e mm_OneSided_quarter 0 [some (.inr (.inr 1)), none, none] [] h Q := by
  refine R_ld (v := .inr (.inr 1)) dd_OneSided_quarter_0 rfl rfl rfl rfl ?_
  refine R_gf (v := .inr (.inr 2)) dd_OneSided_quarter_1 fd_11_10 io_1 (congrArg (fun z : Int => (Sum.inr (Sum.inr z) : LV)) (rf_1_0 hF)) rfl ?_
  refine R_ld (v := .inr (.inr 1)) dd_OneSided_quarter_4 rfl rfl rfl rfl ?_
  refine R_gf (v := .inr (.inr q)) dd_OneSided_quarter_5 fd_11_23 io_1 (congrArg (fun z : Int => (Sum.inr (Sum.inr z) : LV)) (hS)) rfl ?_
  obtain ⟨c, hc, k⟩ := k
  exact R_call (as := [.inr (.inr 2), .inr (.inr q)]) (rest := []) (M' := mm_Reader_readQuarter) (ls0 := [some (.inr (.inr 2)), some (.inr (.inr q)), none]) dd_OneSided_quarter_8 rfl rfl (cw_v cw_11_90 io_2 rfl rfl (Nat.le_of_ble_eq_true rfl) (Nat.le_of_ble_eq_true rfl)) mt_Reader_readQuarter rfl hc rfl k
theorem B_OneSided_quarter_11 {xs : Nat → Int} {xl e : Nat} {h : LH} {Q : Option LV → LH → Prop} {w0 : Int} {q t : Int} (hq : q = 5 ∨ q = 32) (ht : t = 5 ∨ t = 32) (hS : rd h 1 ((2 : Nat) : Int) = q) (hQ : rd h 1 ((1 : Nat) : Int) = t) (hF : RF h)
    (k : (w0 = 0 →
        Rn xs xl e mm_OneSided_quarter 18 [some (.inr (.inr 1)), some (.inl w0), none] [] h Q) ∧
      (w0 ≠ 0 →
        Q (some (.inl w0)) h)) :
    Rn xs xl e mm_OneSided_quarter 11 [some (.inr (.inr 1)), none, none] [.inl w0] h Q := by
  refine R_st (ls' := [some (.inr (.inr 1)), some (.inl w0), none]) dd_OneSided_quarter_11 rfl rfl rfl (Nat.le_of_ble_eq_true rfl) rfl rfl ?_
  refine R_ld (v := .inl w0) dd_OneSided_quarter_12 rfl rfl rfl rfl ?_
  refine R_if dd_OneSided_quarter_13 rfl rfl (fun (c1 : w0 = 0) => ?_) (fun (c1 : w0 ≠ 0) => ?_)
  · replace k := k.1 c1
    exact k
  · replace k := k.2 c1
    refine R_ld (v := .inl w0) dd_OneSided_quarter_16 rfl rfl rfl rfl ?_
    exact R_iret dd_OneSided_quarter_17 rfl k
theorem B_OneSided_quarter_18 {xs : Nat → Int} {xl e : Nat} {h : LH} {Q : Option LV → LH → Prop} {v1 : Int} {q t : Int} (hq : q = 5 ∨ q = 32) (ht : t = 5 ∨ t = 32) (hS : rd h 1 ((2 : Nat) : Int) = q) (hQ : rd h 1 ((1 : Nat) : Int) = t) (hF : RF h)
    (k : (∃ c, c < e ∧ Rn xs xl c mm_Quarter_settle 0 [some (.inr (.inr q)), none, none] [] (wr (wr h 1 2 t) 1 1 q) (fun r h' => Rn xs xl e mm_OneSided_quarter 43 [some (.inr (.inr 1)), some (.inl v1), some (.inr (.inr q))] (r.toList ++ []) h' Q))) :
    Rn xs xl e mm_OneSided_quarter 18 [some (.inr (.inr 1)), some (.inl v1), none] [] h Q := by
  refine R_ld (v := .inr (.inr 1)) dd_OneSided_quarter_18 rfl rfl rfl rfl ?_
  refine R_gf (v := .inr (.inr q)) dd_OneSided_quarter_19 fd_11_23 io_1 (congrArg (fun z : Int => (Sum.inr (Sum.inr z) : LV)) (hS)) rfl ?_
  refine R_st (ls' := [some (.inr (.inr 1)), some (.inl v1), some (.inr (.inr q))]) dd_OneSided_quarter_22 rfl rfl rfl (Nat.le_of_ble_eq_true rfl) rfl rfl ?_
  refine R_ld (v := .inr (.inr 1)) dd_OneSided_quarter_23 rfl rfl rfl rfl ?_
  refine R_ld (v := .inr (.inr 1)) dd_OneSided_quarter_24 rfl rfl rfl rfl ?_
  refine R_gf (v := .inr (.inr t)) dd_OneSided_quarter_25 fd_11_19 io_1 (congrArg (fun z : Int => (Sum.inr (Sum.inr z) : LV)) (hQ)) rfl ?_
  refine R_pf (z := t) dd_OneSided_quarter_28 fd_11_23 io_1 fn_11_2 (by rcases ht with rfl | rfl <;> rfl) rfl ?_
  refine R_ld (v := .inr (.inr 1)) dd_OneSided_quarter_31 rfl rfl rfl rfl ?_
  refine R_ld (v := .inr (.inr q)) dd_OneSided_quarter_32 rfl rfl rfl rfl ?_
  refine R_pf (z := q) dd_OneSided_quarter_33 fd_11_19 io_1 fn_11_1 (by rcases hq with rfl | rfl <;> rfl) rfl ?_
  refine R_ld (v := .inr (.inr 1)) dd_OneSided_quarter_36 rfl rfl rfl rfl ?_
  refine R_gf (v := .inr (.inr q)) dd_OneSided_quarter_37 fd_11_19 io_1 (congrArg (fun z : Int => (Sum.inr (Sum.inr z) : LV)) (rdw_eq)) rfl ?_
  obtain ⟨c, hc, k⟩ := k
  exact R_call (as := [.inr (.inr q)]) (rest := []) (M' := mm_Quarter_settle) (ls0 := [some (.inr (.inr q)), none, none]) dd_OneSided_quarter_40 rfl rfl (cw_v cw_11_94 (io_q hq) rfl rfl (Nat.le_of_ble_eq_true rfl) (Nat.le_of_ble_eq_true rfl)) mt_Quarter_settle rfl hc rfl k
theorem B_OneSided_quarter_43 {xs : Nat → Int} {xl e : Nat} {h : LH} {Q : Option LV → LH → Prop} {v1 : Int} {q t : Int} (hq : q = 5 ∨ q = 32) (ht : t = 5 ∨ t = 32) (hS : rd h 1 ((2 : Nat) : Int) = q) (hQ : rd h 1 ((1 : Nat) : Int) = t) {x : Int} (hF : RF h)
    (k : (∃ c, c < e ∧ Rn xs xl c mm_Memory_begin 0 [some (.inr (.inr 59)), some (.inr (.inr t))] [] h (fun r h' => Rn xs xl e mm_OneSided_quarter 54 [some (.inr (.inr 1)), some (.inl v1), some (.inr (.inr x))] (r.toList ++ []) h' Q))) :
    Rn xs xl e mm_OneSided_quarter 43 [some (.inr (.inr 1)), some (.inl v1), some (.inr (.inr x))] [] h Q := by
  refine R_ld (v := .inr (.inr 1)) dd_OneSided_quarter_43 rfl rfl rfl rfl ?_
  refine R_gf (v := .inr (.inr 59)) dd_OneSided_quarter_44 fd_11_29 io_1 (congrArg (fun z : Int => (Sum.inr (Sum.inr z) : LV)) (rf_1_3 hF)) rfl ?_
  refine R_ld (v := .inr (.inr 1)) dd_OneSided_quarter_47 rfl rfl rfl rfl ?_
  refine R_gf (v := .inr (.inr t)) dd_OneSided_quarter_48 fd_11_19 io_1 (congrArg (fun z : Int => (Sum.inr (Sum.inr z) : LV)) (hQ)) rfl ?_
  obtain ⟨c, hc, k⟩ := k
  exact R_call (as := [.inr (.inr 59), .inr (.inr t)]) (rest := []) (M' := mm_Memory_begin) (ls0 := [some (.inr (.inr 59)), some (.inr (.inr t))]) dd_OneSided_quarter_51 rfl rfl (cw_v cw_11_97 io_59 rfl rfl (Nat.le_of_ble_eq_true rfl) (Nat.le_of_ble_eq_true rfl)) mt_Memory_begin rfl hc rfl k
theorem B_OneSided_quarter_54 {xs : Nat → Int} {xl e : Nat} {h : LH} {Q : Option LV → LH → Prop} {v1 : Int} {q t : Int} (hq : q = 5 ∨ q = 32) (ht : t = 5 ∨ t = 32) (hS : rd h 1 ((2 : Nat) : Int) = q) (hQ : rd h 1 ((1 : Nat) : Int) = t) {x : Int} (hF : RF h)
    (k : Q (some (.inl 0)) (wr (wr h 1 6 0) 1 9 0)) :
    Rn xs xl e mm_OneSided_quarter 54 [some (.inr (.inr 1)), some (.inl v1), some (.inr (.inr x))] [] h Q := by
  refine R_ld (v := .inr (.inr 1)) dd_OneSided_quarter_54 rfl rfl rfl rfl ?_
  refine R_ic dd_OneSided_quarter_55 (by decide) rfl ?_
  refine R_pf (z := 0) dd_OneSided_quarter_56 fd_11_101 io_1 fn_11_6 rfl rfl ?_
  refine R_ld (v := .inr (.inr 1)) dd_OneSided_quarter_59 rfl rfl rfl rfl ?_
  refine R_ic dd_OneSided_quarter_60 (by decide) rfl ?_
  refine R_pf (z := 0) dd_OneSided_quarter_61 fd_11_104 io_1 fn_11_9 rfl rfl ?_
  refine R_ic dd_OneSided_quarter_64 (by decide) rfl ?_
  exact R_iret dd_OneSided_quarter_65 rfl k
