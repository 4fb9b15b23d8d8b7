section
/-! LM, by program (wip/p2/hand.py): rows of readDay and day -/
def mm_Reader_readDay : LM_M := (⟨"OneSided$Reader", "readDay", "(LOneSided$Quarter;LOneSided$Memory;)I"⟩, prog_9_method_4_code, 4, (some .int), 7, 3, 0, 741, 739, 740)
theorem dd_Reader_readDay_0 : decode mm_Reader_readDay.2.1 0 = .ok (.aload_n 0, 1) := by decide +kernel
theorem dd_Reader_readDay_1 : decode mm_Reader_readDay.2.1 1 = .ok (.invokevirtual 38, 3) := by decide +kernel
theorem dd_Reader_readDay_4 : decode mm_Reader_readDay.2.1 4 = .ok (.aload_n 2, 1) := by decide +kernel
theorem dd_Reader_readDay_5 : decode mm_Reader_readDay.2.1 5 = .ok (.iconst 0, 1) := by decide +kernel
theorem dd_Reader_readDay_6 : decode mm_Reader_readDay.2.1 6 = .ok (.putfield 83, 3) := by decide +kernel
theorem dd_Reader_readDay_9 : decode mm_Reader_readDay.2.1 9 = .ok (.iconst 0, 1) := by decide +kernel
theorem dd_Reader_readDay_10 : decode mm_Reader_readDay.2.1 10 = .ok (.istore_n 3, 1) := by decide +kernel
theorem dd_Reader_readDay_11 : decode mm_Reader_readDay.2.1 11 = .ok (.iload_n 3, 1) := by decide +kernel
theorem dd_Reader_readDay_12 : decode mm_Reader_readDay.2.1 12 = .ok (.sipush 1000, 3) := by decide +kernel
theorem dd_Reader_readDay_15 : decode mm_Reader_readDay.2.1 15 = .ok (.if_icmp .ge (29), 3) := by decide +kernel
theorem dd_Reader_readDay_18 : decode mm_Reader_readDay.2.1 18 = .ok (.aload_n 0, 1) := by decide +kernel
theorem dd_Reader_readDay_19 : decode mm_Reader_readDay.2.1 19 = .ok (.getfield 61, 3) := by decide +kernel
theorem dd_Reader_readDay_22 : decode mm_Reader_readDay.2.1 22 = .ok (.ifCond .ne (22), 3) := by decide +kernel
theorem dd_Reader_readDay_25 : decode mm_Reader_readDay.2.1 25 = .ok (.aload_n 0, 1) := by decide +kernel
theorem dd_Reader_readDay_26 : decode mm_Reader_readDay.2.1 26 = .ok (.getfield 64, 3) := by decide +kernel
theorem dd_Reader_readDay_29 : decode mm_Reader_readDay.2.1 29 = .ok (.ifCond .eq (15), 3) := by decide +kernel
theorem dd_Reader_readDay_32 : decode mm_Reader_readDay.2.1 32 = .ok (.aload_n 0, 1) := by decide +kernel
theorem dd_Reader_readDay_33 : decode mm_Reader_readDay.2.1 33 = .ok (.aload_n 1, 1) := by decide +kernel
theorem dd_Reader_readDay_34 : decode mm_Reader_readDay.2.1 34 = .ok (.aload_n 2, 1) := by decide +kernel
theorem dd_Reader_readDay_35 : decode mm_Reader_readDay.2.1 35 = .ok (.invokevirtual 88, 3) := by decide +kernel
theorem cw_7_88 : cwOk 7 88 0 56 3 6 7 = true := by decide +kernel
theorem mt_Reader_dayLine : MTB 56 = some mm_Reader_dayLine := rfl
theorem dd_Reader_readDay_38 : decode mm_Reader_readDay.2.1 38 = .ok (.iinc 3 1, 3) := by decide +kernel
theorem dd_Reader_readDay_41 : decode mm_Reader_readDay.2.1 41 = .ok (.goto (-30), 3) := by decide +kernel
theorem dd_Reader_readDay_44 : decode mm_Reader_readDay.2.1 44 = .ok (.aload_n 0, 1) := by decide +kernel
theorem dd_Reader_readDay_45 : decode mm_Reader_readDay.2.1 45 = .ok (.iconst 0, 1) := by decide +kernel
theorem dd_Reader_readDay_46 : decode mm_Reader_readDay.2.1 46 = .ok (.putfield 35, 3) := by decide +kernel
theorem dd_Reader_readDay_49 : decode mm_Reader_readDay.2.1 49 = .ok (.aload_n 0, 1) := by decide +kernel
theorem dd_Reader_readDay_50 : decode mm_Reader_readDay.2.1 50 = .ok (.getfield 61, 3) := by decide +kernel
theorem dd_Reader_readDay_53 : decode mm_Reader_readDay.2.1 53 = .ok (.ireturn, 1) := by decide +kernel
theorem dd_OneSided_day_0 : decode mm_OneSided_day.2.1 0 = .ok (.aload_n 0, 1) := by decide +kernel
theorem dd_OneSided_day_1 : decode mm_OneSided_day.2.1 1 = .ok (.getfield 10, 3) := by decide +kernel
theorem dd_OneSided_day_4 : decode mm_OneSided_day.2.1 4 = .ok (.aload_n 0, 1) := by decide +kernel
theorem dd_OneSided_day_5 : decode mm_OneSided_day.2.1 5 = .ok (.getfield 19, 3) := by decide +kernel
theorem dd_OneSided_day_8 : decode mm_OneSided_day.2.1 8 = .ok (.aload_n 0, 1) := by decide +kernel
theorem dd_OneSided_day_9 : decode mm_OneSided_day.2.1 9 = .ok (.getfield 33, 3) := by decide +kernel
theorem fd_11_33 : fld 11 33 = some (11, 4) := by decide +kernel
theorem rf_1_4 {h : LH} (hF : RF h) : rd h 1 4 = 67 := hF 1 4 67 (by decide +kernel) (by decide +kernel)
theorem dd_OneSided_day_12 : decode mm_OneSided_day.2.1 12 = .ok (.invokevirtual 107, 3) := by decide +kernel
theorem cw_11_107 : cwOk 11 107 0 55 3 4 7 = true := by decide +kernel
theorem mt_Reader_readDay : MTB 55 = some mm_Reader_readDay := rfl
theorem dd_OneSided_day_15 : decode mm_OneSided_day.2.1 15 = .ok (.istore_n 1, 1) := by decide +kernel
theorem dd_OneSided_day_16 : decode mm_OneSided_day.2.1 16 = .ok (.iload_n 1, 1) := by decide +kernel
theorem dd_OneSided_day_17 : decode mm_OneSided_day.2.1 17 = .ok (.ifCond .ne (14), 3) := by decide +kernel
theorem dd_OneSided_day_20 : decode mm_OneSided_day.2.1 20 = .ok (.aload_n 0, 1) := by decide +kernel
theorem dd_OneSided_day_21 : decode mm_OneSided_day.2.1 21 = .ok (.getfield 29, 3) := by decide +kernel
theorem dd_OneSided_day_24 : decode mm_OneSided_day.2.1 24 = .ok (.aload_n 0, 1) := by decide +kernel
theorem dd_OneSided_day_25 : decode mm_OneSided_day.2.1 25 = .ok (.getfield 33, 3) := by decide +kernel
theorem dd_OneSided_day_28 : decode mm_OneSided_day.2.1 28 = .ok (.invokevirtual 111, 3) := by decide +kernel
theorem cw_11_111 : cwOk 11 111 0 59 2 2 3 = true := by decide +kernel
theorem dd_OneSided_day_31 : decode mm_OneSided_day.2.1 31 = .ok (.iload_n 1, 1) := by decide +kernel
theorem dd_OneSided_day_32 : decode mm_OneSided_day.2.1 32 = .ok (.ireturn, 1) := by decide +kernel
theorem B_Reader_readDay_0 {xs : Nat → Int} {xl e : Nat} {h : LH} {Q : Option LV → LH → Prop} {q : Int} (hq : q = 5 ∨ q = 32) (hF : RF h)
    (k : (∃ c, c < e ∧ Rn xs xl c mm_Reader_begin 0 [some (.inr (.inr 2))] [] h (fun r h' => Rn xs xl e mm_Reader_readDay 4 [some (.inr (.inr 2)), some (.inr (.inr q)), some (.inr (.inr 67)), none] (r.toList ++ []) h' Q))) :
    Rn xs xl e mm_Reader_readDay 0 [some (.inr (.inr 2)), some (.inr (.inr q)), some (.inr (.inr 67)), none] [] h Q := by
  refine R_ld (v := .inr (.inr 2)) dd_Reader_readDay_0 rfl rfl rfl rfl ?_
  obtain ⟨c, hc, k⟩ := k
  exact R_call (as := [.inr (.inr 2)]) (rest := []) (M' := mm_Reader_begin) (ls0 := [some (.inr (.inr 2))]) dd_Reader_readDay_1 rfl rfl (cw_v cw_7_38 io_2 rfl rfl (Nat.le_of_ble_eq_true rfl) (Nat.le_of_ble_eq_true rfl)) mt_Reader_begin rfl hc rfl k
theorem B_Reader_readDay_4 {xs : Nat → Int} {xl e : Nat} {h : LH} {Q : Option LV → LH → Prop} {q : Int} (hq : q = 5 ∨ q = 32) (hF : RF h)
    (k : Rn xs xl e mm_Reader_readDay 11 [some (.inr (.inr 2)), some (.inr (.inr q)), some (.inr (.inr 67)), some (.inl 0)] [] (wr h 67 1 0) Q) :
    Rn xs xl e mm_Reader_readDay 4 [some (.inr (.inr 2)), some (.inr (.inr q)), some (.inr (.inr 67)), none] [] h Q := by
  refine R_ld (v := .inr (.inr 67)) dd_Reader_readDay_4 rfl rfl rfl rfl ?_
  refine R_ic dd_Reader_readDay_5 (by decide) rfl ?_
  refine R_pf (z := 0) dd_Reader_readDay_6 fd_7_83 io_67 fn_3_1 rfl rfl ?_
  refine R_ic dd_Reader_readDay_9 (by decide) rfl ?_
  refine R_st (ls' := [some (.inr (.inr 2)), some (.inr (.inr q)), some (.inr (.inr 67)), some (.inl 0)]) dd_Reader_readDay_10 rfl rfl rfl (Nat.le_of_ble_eq_true rfl) rfl rfl ?_
  exact k
theorem B_Reader_readDay_11 {xs : Nat → Int} {xl e : Nat} {h : LH} {Q : Option LV → LH → Prop} {v3 : Int} {q : Int} (hq : q = 5 ∨ q = 32) (hF : RF h) (r_v3 : 0 ≤ v3 ∧ v3 ≤ 1000)
    (k : (1000 ≤ v3 →
        Rn xs xl e mm_Reader_readDay 44 [some (.inr (.inr 2)), some (.inr (.inr q)), some (.inr (.inr 67)), some (.inl v3)] [] h Q) ∧
      (v3 < 1000 →
        ((rd h 2 8) ≠ 0 →
          Rn xs xl e mm_Reader_readDay 44 [some (.inr (.inr 2)), some (.inr (.inr q)), some (.inr (.inr 67)), some (.inl v3)] [] h Q) ∧
        ((rd h 2 8) = 0 →
          ((rd h 2 3) = 0 →
            Rn xs xl e mm_Reader_readDay 44 [some (.inr (.inr 2)), some (.inr (.inr q)), some (.inr (.inr 67)), some (.inl v3)] [] h Q) ∧
          ((rd h 2 3) ≠ 0 →
            (∃ c, c < e ∧ Rn xs xl c mm_Reader_dayLine 0 [some (.inr (.inr 2)), some (.inr (.inr q)), some (.inr (.inr 67)), none, none, none] [] h (fun r h' => Rn xs xl e mm_Reader_readDay 38 [some (.inr (.inr 2)), some (.inr (.inr q)), some (.inr (.inr 67)), some (.inl v3)] (r.toList ++ []) h' Q)))))) :
    Rn xs xl e mm_Reader_readDay 11 [some (.inr (.inr 2)), some (.inr (.inr q)), some (.inr (.inr 67)), some (.inl v3)] [] h Q := by
  refine R_ld (v := .inl v3) dd_Reader_readDay_11 rfl rfl rfl rfl ?_
  refine R_si dd_Reader_readDay_12 (by decide) rfl ?_
  refine R_icmp dd_Reader_readDay_15 rfl rfl (fun (c2 : 1000 ≤ v3) => ?_) (fun (c2 : v3 < 1000) => ?_)
  · replace k := k.1 c2
    exact k
  · replace k := k.2 c2
    refine R_ld (v := .inr (.inr 2)) dd_Reader_readDay_18 rfl rfl rfl rfl ?_
    refine R_gf (v := .inl (rd h 2 8)) dd_Reader_readDay_19 fd_7_61 io_2 (congrArg (fun z : Int => (Sum.inl z : LV)) (rfl)) rfl ?_
    refine R_if dd_Reader_readDay_22 rfl rfl (fun (c3 : (rd h 2 8) ≠ 0) => ?_) (fun (c3 : (rd h 2 8) = 0) => ?_)
    · replace k := k.1 c3
      exact k
    · replace k := k.2 c3
      refine R_ld (v := .inr (.inr 2)) dd_Reader_readDay_25 rfl rfl rfl rfl ?_
      refine R_gf (v := .inl (rd h 2 3)) dd_Reader_readDay_26 fd_7_64 io_2 (congrArg (fun z : Int => (Sum.inl z : LV)) (rfl)) rfl ?_
      refine R_if dd_Reader_readDay_29 rfl rfl (fun (c4 : (rd h 2 3) = 0) => ?_) (fun (c4 : (rd h 2 3) ≠ 0) => ?_)
      · replace k := k.1 c4
        exact k
      · replace k := k.2 c4
        refine R_ld (v := .inr (.inr 2)) dd_Reader_readDay_32 rfl rfl rfl rfl ?_
        refine R_ld (v := .inr (.inr q)) dd_Reader_readDay_33 rfl rfl rfl rfl ?_
        refine R_ld (v := .inr (.inr 67)) dd_Reader_readDay_34 rfl rfl rfl rfl ?_
        obtain ⟨c, hc, k⟩ := k
        exact R_call (as := [.inr (.inr 2), .inr (.inr q), .inr (.inr 67)]) (rest := []) (M' := mm_Reader_dayLine) (ls0 := [some (.inr (.inr 2)), some (.inr (.inr q)), some (.inr (.inr 67)), none, none, none]) dd_Reader_readDay_35 rfl rfl (cw_v cw_7_88 io_2 rfl rfl (Nat.le_of_ble_eq_true rfl) (Nat.le_of_ble_eq_true rfl)) mt_Reader_dayLine rfl hc rfl k
theorem B_Reader_readDay_38 {xs : Nat → Int} {xl e : Nat} {h : LH} {Q : Option LV → LH → Prop} {v3 : Int} {q : Int} (hq : q = 5 ∨ q = 32) (hF : RF h) (r_v3 : 0 ≤ v3 ∧ v3 ≤ 999)
    (k : Rn xs xl e mm_Reader_readDay 11 [some (.inr (.inr 2)), some (.inr (.inr q)), some (.inr (.inr 67)), some (.inl (v3 + 1))] [] h Q) :
    Rn xs xl e mm_Reader_readDay 38 [some (.inr (.inr 2)), some (.inr (.inr q)), some (.inr (.inr 67)), some (.inl v3)] [] h Q := by
  refine R_inc (y := v3 + 1) (ls' := [some (.inr (.inr 2)), some (.inr (.inr q)), some (.inr (.inr 67)), some (.inl (v3 + 1))]) dd_Reader_readDay_38 rfl (by decide) (by omega) (by omega) rfl rfl ?_
  refine R_goto dd_Reader_readDay_41 rfl ?_
  exact k
theorem B_Reader_readDay_44 {xs : Nat → Int} {xl e : Nat} {h : LH} {Q : Option LV → LH → Prop} {v3 : Int} {q : Int} (hq : q = 5 ∨ q = 32) (hF : RF h)
    (k : Q (some (.inl (rd h 2 8))) (wr h 2 0 0)) :
    Rn xs xl e mm_Reader_readDay 44 [some (.inr (.inr 2)), some (.inr (.inr q)), some (.inr (.inr 67)), some (.inl v3)] [] h Q := by
  refine R_ld (v := .inr (.inr 2)) dd_Reader_readDay_44 rfl rfl rfl rfl ?_
  refine R_ic dd_Reader_readDay_45 (by decide) rfl ?_
  refine R_pf (z := 0) dd_Reader_readDay_46 fd_7_35 io_2 fn_7_0 rfl rfl ?_
  refine R_ld (v := .inr (.inr 2)) dd_Reader_readDay_49 rfl rfl rfl rfl ?_
  refine R_gf (v := .inl (rd h 2 8)) dd_Reader_readDay_50 fd_7_61 io_2 (congrArg (fun z : Int => (Sum.inl z : LV)) (rdw_nei (by omega))) rfl ?_
  exact R_iret dd_Reader_readDay_53 rfl k
theorem B_OneSided_day_0 {xs : Nat → Int} {xl e : Nat} {h : LH} {Q : Option LV → LH → Prop} {q t : Int} (hq : q = 5 ∨ q = 32) (ht : t = 5 ∨ t = 32) (hS : rd h 1 ((2 : Nat) : Int) = q) (hQ : rd h 1 ((1 : Nat) : Int) = t) (hF : RF h)
    (k : (∃ c, c < e ∧ Rn xs xl c mm_Reader_readDay 0 [some (.inr (.inr 2)), some (.inr (.inr t)), some (.inr (.inr 67)), none] [] h (fun r h' => Rn xs xl e mm_OneSided_day 15 [some (.inr (.inr 1)), none] (r.toList ++ []) h' Q))) :
    Rn xs xl e mm_OneSided_day 0 [some (.inr (.inr 1)), none] [] h Q := by
  refine R_ld (v := .inr (.inr 1)) dd_OneSided_day_0 rfl rfl rfl rfl ?_
  refine R_gf (v := .inr (.inr 2)) dd_OneSided_day_1 fd_11_10 io_1 (congrArg (fun z : Int => (Sum.inr (Sum.inr z) : LV)) (rf_1_0 hF)) rfl ?_
  refine R_ld (v := .inr (.inr 1)) dd_OneSided_day_4 rfl rfl rfl rfl ?_
  refine R_gf (v := .inr (.inr t)) dd_OneSided_day_5 fd_11_19 io_1 (congrArg (fun z : Int => (Sum.inr (Sum.inr z) : LV)) (hQ)) rfl ?_
  refine R_ld (v := .inr (.inr 1)) dd_OneSided_day_8 rfl rfl rfl rfl ?_
  refine R_gf (v := .inr (.inr 67)) dd_OneSided_day_9 fd_11_33 io_1 (congrArg (fun z : Int => (Sum.inr (Sum.inr z) : LV)) (rf_1_4 hF)) rfl ?_
  obtain ⟨c, hc, k⟩ := k
  exact R_call (as := [.inr (.inr 2), .inr (.inr t), .inr (.inr 67)]) (rest := []) (M' := mm_Reader_readDay) (ls0 := [some (.inr (.inr 2)), some (.inr (.inr t)), some (.inr (.inr 67)), none]) dd_OneSided_day_12 rfl rfl (cw_v cw_11_107 io_2 rfl rfl (Nat.le_of_ble_eq_true rfl) (Nat.le_of_ble_eq_true rfl)) mt_Reader_readDay rfl hc rfl k
theorem B_OneSided_day_15 {xs : Nat → Int} {xl e : Nat} {h : LH} {Q : Option LV → LH → Prop} {w0 : Int} {q t : Int} (hq : q = 5 ∨ q = 32) (ht : t = 5 ∨ t = 32) (hS : rd h 1 ((2 : Nat) : Int) = q) (hQ : rd h 1 ((1 : Nat) : Int) = t) (hF : RF h)
    (k : (w0 ≠ 0 →
        Rn xs xl e mm_OneSided_day 31 [some (.inr (.inr 1)), some (.inl w0)] [] h Q) ∧
      (w0 = 0 →
        (∃ c, c < e ∧ Rn xs xl c mm_Memory_copyDay 0 [some (.inr (.inr 59)), some (.inr (.inr 67))] [] h (fun r h' => Rn xs xl e mm_OneSided_day 31 [some (.inr (.inr 1)), some (.inl w0)] (r.toList ++ []) h' Q)))) :
    Rn xs xl e mm_OneSided_day 15 [some (.inr (.inr 1)), none] [.inl w0] h Q := by
  refine R_st (ls' := [some (.inr (.inr 1)), some (.inl w0)]) dd_OneSided_day_15 rfl rfl rfl (Nat.le_of_ble_eq_true rfl) rfl rfl ?_
  refine R_ld (v := .inl w0) dd_OneSided_day_16 rfl rfl rfl rfl ?_
  refine R_if dd_OneSided_day_17 rfl rfl (fun (c2 : w0 ≠ 0) => ?_) (fun (c2 : w0 = 0) => ?_)
  · replace k := k.1 c2
    exact k
  · replace k := k.2 c2
    refine R_ld (v := .inr (.inr 1)) dd_OneSided_day_20 rfl rfl rfl rfl ?_
    refine R_gf (v := .inr (.inr 59)) dd_OneSided_day_21 fd_11_29 io_1 (congrArg (fun z : Int => (Sum.inr (Sum.inr z) : LV)) (rf_1_3 hF)) rfl ?_
    refine R_ld (v := .inr (.inr 1)) dd_OneSided_day_24 rfl rfl rfl rfl ?_
    refine R_gf (v := .inr (.inr 67)) dd_OneSided_day_25 fd_11_33 io_1 (congrArg (fun z : Int => (Sum.inr (Sum.inr z) : LV)) (rf_1_4 hF)) rfl ?_
    obtain ⟨c, hc, k⟩ := k
    exact R_call (as := [.inr (.inr 59), .inr (.inr 67)]) (rest := []) (M' := mm_Memory_copyDay) (ls0 := [some (.inr (.inr 59)), some (.inr (.inr 67))]) dd_OneSided_day_28 rfl rfl (cw_v cw_11_111 io_59 rfl rfl (Nat.le_of_ble_eq_true rfl) (Nat.le_of_ble_eq_true rfl)) mt_Memory_copyDay rfl hc rfl k
theorem B_OneSided_day_31 {xs : Nat → Int} {xl e : Nat} {h : LH} {Q : Option LV → LH → Prop} {v1 : Int} {q t : Int} (hq : q = 5 ∨ q = 32) (ht : t = 5 ∨ t = 32) (hS : rd h 1 ((2 : Nat) : Int) = q) (hQ : rd h 1 ((1 : Nat) : Int) = t) (hF : RF h)
    (k : Q (some (.inl v1)) h) :
    Rn xs xl e mm_OneSided_day 31 [some (.inr (.inr 1)), some (.inl v1)] [] h Q := by
  refine R_ld (v := .inl v1) dd_OneSided_day_31 rfl rfl rfl rfl ?_
  exact R_iret dd_OneSided_day_32 rfl k
end
section
/-! the quarter as read, part q0: what stands in a line without a fault -/
section QF0
variable (o v w p : Nat → Int)
/-- a door's fields, its line begins at token k -/
def dfl (k : Nat) : List Int := [w (k + 5) - 14, v (k + 2), v (k + 4), opV v w 3 0 (0, k + 6), opC o v w p (0, k + 6), opT w (opF o v w p (0, k + 6)), opV v w 5 1 (opS w p (opF o v w p (0, k + 6))), opV v w 6 0 (opN o v w p 5 1 9 (opS w p (opF o v w p (0, k + 6))))]
/-- a person's fields -/
def pfl (k : Nat) : List Int := [w (k + 2) - 18, v (k + 4), v (k + 6), v (k + 8)]
end QF0
section QF1
variable {o v w p u : Nat → Int} {R a b c : Int} {N : List Nat} {s : Int × Nat}
theorem tkW_ok (hp : ∀ k, 0 ≤ p k) (h : (tkW w p c s).1 = 0) : w s.2 = c ∧ tkW w p c s = (0, s.2 + 1) := by
  have z := tkW_z h
  unfold tkW at h ⊢
  by_cases q : w s.2 = c
  · rw [if_pos q]; exact ⟨q, tkA_0 z⟩
  · rw [if_neg q] at h; exact absurd h (tkE_p hp (by decide))
theorem tkF_ok (hp : ∀ k, 0 ≤ p k) (h : (tkF w p c s).1 = 0) : (c ≤ w s.2 ∧ w s.2 ≤ c + 3) ∧ tkF w p c s = (0, s.2 + 1) := by
  have z := tkF_z h
  unfold tkF at h ⊢
  by_cases q : c ≤ w s.2 ∧ w s.2 ≤ c + 3
  · rw [if_pos q]; exact ⟨q, tkA_0 z⟩
  · rw [if_neg q] at h; exact absurd h (tkE_p hp (by decide))
theorem tkM_go (hp : ∀ k, 0 ≤ p k) (h : (tkM o v w p N s).1 = 0) : tkM o v w p N s = (0, s.2 + 1) := by
  have z := tkM_z h
  have nm := tkM_ok hp h
  unfold tkM at h ⊢
  rw [if_pos nm] at h ⊢
  by_cases q : N.any (fun j => decide (v j = v s.2)) = true
  · rw [if_pos q] at h; exact absurd h (tkE_p hp (by decide))
  · rw [if_neg q]; exact tkA_0 z
theorem tkR_ok (hp : ∀ k, 0 ≤ p k) (h : (tkR o v p a b s).1 = 0) : o s.2 = 2 ∧ tkR o v p a b s = (0, s.2 + 1) := by
  unfold tkR at h ⊢
  by_cases q : o s.2 = 2 ∧ v s.2 = a
  · rw [if_pos q] at h; exact absurd h (tkE_p hp (by decide))
  · rw [if_neg q] at h ⊢
    have y := tkN_ok h (fun c hc => tkE_p hp hc)
    exact ⟨y.2.1, y.2.2.2.2⟩
/-- where a door's line without a fault stands, piece by piece -/
theorem dr_at (hp : ∀ k, 0 ≤ p k) (hz : s.1 = 0) (h : (drD o v w p R N s).1 = 0) : drA o v w p N s = (0, s.2 + 2) ∧ drB o v w p R N s = (0, s.2 + 4) ∧ drC o v w p R N s = (0, s.2 + 5) ∧ drD o v w p R N s = (0, s.2 + 6) ∧ o (s.2 + 2) = 2 ∧ o (s.2 + 4) = 2 := by
  have zC : (drC o v w p R N s).1 = 0 := tkF_z h
  have zB : (drB o v w p R N s).1 = 0 := tkR_z zC
  have zN := tkW_z zB
  have zA : (drA o v w p N s).1 = 0 := tkN_z zN
  have eA : drA o v w p N s = (0, s.2 + 2) := by
    have y := tkM_go hp zA
    rw [tkA_0 hz] at y
    unfold drA
    rw [tkA_0 hz]; exact y
  have yN := tkN_ok zN (fun c hc => tkE_p hp hc)
  have o2 : o (s.2 + 2) = 2 := by have y := yN.2.1; rw [eA] at y; exact y
  have eN := yN.2.2.2.2
  rw [eA] at eN
  have eB : drB o v w p R N s = (0, s.2 + 4) := by
    have y := (tkW_ok hp zB).2
    unfold drB
    rw [eA] at y ⊢
    rw [eN] at y ⊢
    exact y
  have yR := tkR_ok hp zC
  have o4 : o (s.2 + 4) = 2 := by have y := yR.1; rw [eB] at y; exact y
  have eC : drC o v w p R N s = (0, s.2 + 5) := by
    have y := yR.2
    unfold drC
    rw [eB] at y ⊢
    exact y
  have eD : drD o v w p R N s = (0, s.2 + 6) := by
    have y := (tkF_ok hp h).2
    unfold drD
    rw [eC] at y ⊢
    exact y
  exact ⟨eA, eB, eC, eD, o2, o4⟩
theorem ps_at (hp : ∀ k, 0 ≤ p k) (hz : s.1 = 0) (h : (psL o v w p R N s).1 = 0) : psA o v w p N s = (0, s.2 + 2) ∧ psB o v w p N s = (0, s.2 + 4) ∧ psC o v w p R N s = (0, s.2 + 6) ∧ psD o v w p R N s = (0, s.2 + 8) ∧ o (s.2 + 4) = 2 ∧ o (s.2 + 6) = 2 ∧ o (s.2 + 8) = 2 := by
  have zD : (psD o v w p R N s).1 = 0 := tkN_z h
  have z7 := tkW_z zD
  have zC : (psC o v w p R N s).1 = 0 := tkN_z z7
  have z5 := tkW_z zC
  have zB : (psB o v w p N s).1 = 0 := tkN_z z5
  have z3 := tkW_z zB
  have zA : (psA o v w p N s).1 = 0 := tkF_z z3
  have eA : psA o v w p N s = (0, s.2 + 2) := by
    have y := tkM_go hp zA
    rw [tkA_0 hz] at y
    unfold psA
    rw [tkA_0 hz]; exact y
  have e3 := (tkF_ok hp z3).2
  rw [eA] at e3
  have eB : psB o v w p N s = (0, s.2 + 4) := by
    have y := (tkW_ok hp zB).2
    unfold psB
    rw [eA] at y ⊢
    rw [e3] at y ⊢
    exact y
  have y5 := tkN_ok z5 (fun c hc => tkE_p hp hc)
  have o4 : o (s.2 + 4) = 2 := by have y := y5.2.1; rw [eB] at y; exact y
  have e5 := y5.2.2.2.2
  rw [eB] at e5
  have eC : psC o v w p R N s = (0, s.2 + 6) := by
    have y := (tkW_ok hp zC).2
    unfold psC
    rw [eB] at y ⊢
    rw [e5] at y ⊢
    exact y
  have y7 := tkN_ok z7 (fun c hc => tkE_p hp hc)
  have o6 : o (s.2 + 6) = 2 := by have y := y7.2.1; rw [eC] at y; exact y
  have e7 := y7.2.2.2.2
  rw [eC] at e7
  have eD : psD o v w p R N s = (0, s.2 + 8) := by
    have y := (tkW_ok hp zD).2
    unfold psD
    rw [eC] at y ⊢
    rw [e7] at y ⊢
    exact y
  have y9 := tkN_ok h (fun c hc => tkE_p hp hc)
  have o8 : o (s.2 + 8) = 2 := by have y := y9.2.1; rw [eD] at y; exact y
  exact ⟨eA, eB, eC, eD, o4, o6, o8⟩
/-- the number behind a word is a number, where there is no fault -/
theorem opV_b (h : SmV o p u v) {d : Int} (hz : (opN o v w p c a b s).1 = 0) : opV u w c d s = opV v w c d s := by
  unfold opV
  unfold opN at hz
  by_cases q : tkB w c s = true
  · rw [if_pos q, if_pos q]
    rw [if_pos q] at hz
    have y := (tkN_ok hz (fun c hc => tkE_p h.2.2 hc)).2.1
    exact h.1 _ (by omega)
  · rw [if_neg q, if_neg q]
theorem opC_b (h : SmV o p u v) (hz : (opF o v w p s).1 = 0) : opC o u w p s = opC o v w p s ∧ opV u w 3 0 s = opV v w 3 0 s := by
  have eE : opE o u w p s = opE o v w p s := by unfold opE; rw [sm_N h]
  unfold opC opV
  unfold opF at hz
  by_cases q : tkB w 3 s = true
  · rw [if_pos q, if_pos q, if_pos q, if_pos q, eE]
    rw [if_pos q] at hz
    have y := tkN_ok hz (fun c hc => tkE_p h.2.2 hc)
    have z2 : (opE o v w p s).1 = 0 := y.1
    unfold opE at z2
    rw [if_pos q] at z2
    have y2 := (tkN_ok (tkW_z z2) (fun c hc => tkE_p h.2.2 hc)).2.1
    have y1 := y.2.1
    exact ⟨h.1 _ (by omega), h.1 _ (by omega)⟩
  · rw [if_neg q, if_neg q, if_neg q, if_neg q]
    exact ⟨rfl, rfl⟩
theorem dfl_b (h : SmV o p u v) (hz : s.1 = 0) (hd : (drL o v w p R N s).1 = 0) : dfl o u w p s.2 = dfl o v w p s.2 := by
  have zD : (drD o v w p R N s).1 = 0 := opL_z hd
  obtain ⟨-, -, -, eD, o2, o4⟩ := dr_at h.2.2 hz zD
  unfold drL at hd
  rw [eD] at hd
  unfold opL at hd
  have z6 := hd
  have z5 := opN_z z6
  have zS := opN_z z5
  have zF := opS_z zS
  obtain ⟨b1, b2⟩ := opC_b h zF
  have b3 := opV_b h (d := 1) z5
  have b4 := opV_b h (d := 0) z6
  unfold dfl
  rw [h.1 (s.2 + 2) (by omega), h.1 (s.2 + 4) (by omega), b1, b2, sm_F h, sm_op h, b3, b4]
theorem pfl_b (h : SmV o p u v) (hz : s.1 = 0) (hd : (psL o v w p R N s).1 = 0) : pfl u w s.2 = pfl v w s.2 := by
  obtain ⟨-, -, -, -, o4, o6, o8⟩ := ps_at h.2.2 hz hd
  unfold pfl
  rw [h.1 (s.2 + 4) (by omega), h.1 (s.2 + 6) (by omega), h.1 (s.2 + 8) (by omega)]
end QF1
end
section
/-! LM, by program (wip/p2/hand.py): rows of the class's law -/
def mm_Quarter_join : LM_M := (⟨"OneSided$Quarter", "join", "(III)I"⟩, prog_8_method_12_code, 3, (some .int), 6, 3, 1, 719, 718, 0)
def mm_Quarter_fact : LM_M := (⟨"OneSided$Quarter", "fact", "(IIIII)I"⟩, prog_8_method_11_code, 5, (some .int), 6, 5, 1, 722, 721, 0)
def mm_Quarter_lawFor : LM_M := (⟨"OneSided$Quarter", "lawFor", "(IIII)I"⟩, prog_8_method_10_code, 8, (some .int), 6, 5, 0, 716, 715, 1000024)
theorem dd_Quarter_join_0 : decode mm_Quarter_join.2.1 0 = .ok (.iload_n 0, 1) := by decide +kernel
theorem dd_Quarter_join_1 : decode mm_Quarter_join.2.1 1 = .ok (.tableswitch (97) (10005) (10010) #[39, 53, 67, 78, 89, 93], 39) := by decide +kernel
theorem dd_Quarter_join_40 : decode mm_Quarter_join.2.1 40 = .ok (.iload_n 1, 1) := by decide +kernel
theorem dd_Quarter_join_41 : decode mm_Quarter_join.2.1 41 = .ok (.ifCond .eq (11), 3) := by decide +kernel
theorem dd_Quarter_join_52 : decode mm_Quarter_join.2.1 52 = .ok (.iconst 0, 1) := by decide +kernel
theorem dd_Quarter_join_53 : decode mm_Quarter_join.2.1 53 = .ok (.ireturn, 1) := by decide +kernel
theorem dd_Quarter_join_44 : decode mm_Quarter_join.2.1 44 = .ok (.iload_n 2, 1) := by decide +kernel
theorem dd_Quarter_join_45 : decode mm_Quarter_join.2.1 45 = .ok (.ifCond .eq (7), 3) := by decide +kernel
theorem dd_Quarter_join_48 : decode mm_Quarter_join.2.1 48 = .ok (.iconst 1, 1) := by decide +kernel
theorem dd_Quarter_join_49 : decode mm_Quarter_join.2.1 49 = .ok (.goto 4, 3) := by decide +kernel
theorem dd_Quarter_join_54 : decode mm_Quarter_join.2.1 54 = .ok (.iload_n 1, 1) := by decide +kernel
theorem dd_Quarter_join_55 : decode mm_Quarter_join.2.1 55 = .ok (.ifCond .ne (7), 3) := by decide +kernel
theorem dd_Quarter_join_62 : decode mm_Quarter_join.2.1 62 = .ok (.iconst 1, 1) := by decide +kernel
theorem dd_Quarter_join_63 : decode mm_Quarter_join.2.1 63 = .ok (.goto 4, 3) := by decide +kernel
theorem dd_Quarter_join_67 : decode mm_Quarter_join.2.1 67 = .ok (.ireturn, 1) := by decide +kernel
theorem dd_Quarter_join_58 : decode mm_Quarter_join.2.1 58 = .ok (.iload_n 2, 1) := by decide +kernel
theorem dd_Quarter_join_59 : decode mm_Quarter_join.2.1 59 = .ok (.ifCond .eq (7), 3) := by decide +kernel
theorem dd_Quarter_join_66 : decode mm_Quarter_join.2.1 66 = .ok (.iconst 0, 1) := by decide +kernel
theorem dd_Quarter_join_68 : decode mm_Quarter_join.2.1 68 = .ok (.iload_n 1, 1) := by decide +kernel
theorem dd_Quarter_join_69 : decode mm_Quarter_join.2.1 69 = .ok (.iload_n 2, 1) := by decide +kernel
theorem dd_Quarter_join_70 : decode mm_Quarter_join.2.1 70 = .ok (.if_icmp .ge (7), 3) := by decide +kernel
theorem dd_Quarter_join_77 : decode mm_Quarter_join.2.1 77 = .ok (.iconst 0, 1) := by decide +kernel
theorem dd_Quarter_join_78 : decode mm_Quarter_join.2.1 78 = .ok (.ireturn, 1) := by decide +kernel
theorem dd_Quarter_join_73 : decode mm_Quarter_join.2.1 73 = .ok (.iconst 1, 1) := by decide +kernel
theorem dd_Quarter_join_74 : decode mm_Quarter_join.2.1 74 = .ok (.goto 4, 3) := by decide +kernel
theorem dd_Quarter_join_79 : decode mm_Quarter_join.2.1 79 = .ok (.iload_n 1, 1) := by decide +kernel
theorem dd_Quarter_join_80 : decode mm_Quarter_join.2.1 80 = .ok (.iload_n 2, 1) := by decide +kernel
theorem dd_Quarter_join_81 : decode mm_Quarter_join.2.1 81 = .ok (.if_icmp .ne (7), 3) := by decide +kernel
theorem dd_Quarter_join_88 : decode mm_Quarter_join.2.1 88 = .ok (.iconst 0, 1) := by decide +kernel
theorem dd_Quarter_join_89 : decode mm_Quarter_join.2.1 89 = .ok (.ireturn, 1) := by decide +kernel
theorem dd_Quarter_join_84 : decode mm_Quarter_join.2.1 84 = .ok (.iconst 1, 1) := by decide +kernel
theorem dd_Quarter_join_85 : decode mm_Quarter_join.2.1 85 = .ok (.goto 4, 3) := by decide +kernel
theorem dd_Quarter_join_90 : decode mm_Quarter_join.2.1 90 = .ok (.iload_n 1, 1) := by decide +kernel
theorem dd_Quarter_join_91 : decode mm_Quarter_join.2.1 91 = .ok (.iload_n 2, 1) := by decide +kernel
theorem dd_Quarter_join_92 : decode mm_Quarter_join.2.1 92 = .ok (.iadd, 1) := by decide +kernel
theorem dd_Quarter_join_93 : decode mm_Quarter_join.2.1 93 = .ok (.ireturn, 1) := by decide +kernel
theorem dd_Quarter_join_94 : decode mm_Quarter_join.2.1 94 = .ok (.iload_n 1, 1) := by decide +kernel
theorem dd_Quarter_join_95 : decode mm_Quarter_join.2.1 95 = .ok (.iload_n 2, 1) := by decide +kernel
theorem dd_Quarter_join_96 : decode mm_Quarter_join.2.1 96 = .ok (.isub, 1) := by decide +kernel
theorem dd_Quarter_join_97 : decode mm_Quarter_join.2.1 97 = .ok (.ireturn, 1) := by decide +kernel
theorem dd_Quarter_join_98 : decode mm_Quarter_join.2.1 98 = .ok (.iload_n 1, 1) := by decide +kernel
theorem dd_Quarter_join_99 : decode mm_Quarter_join.2.1 99 = .ok (.iload_n 2, 1) := by decide +kernel
theorem dd_Quarter_join_100 : decode mm_Quarter_join.2.1 100 = .ok (.imul, 1) := by decide +kernel
theorem dd_Quarter_join_101 : decode mm_Quarter_join.2.1 101 = .ok (.ireturn, 1) := by decide +kernel
theorem dd_Quarter_fact_0 : decode mm_Quarter_fact.2.1 0 = .ok (.iload_n 0, 1) := by decide +kernel
theorem dd_Quarter_fact_1 : decode mm_Quarter_fact.2.1 1 = .ok (.tableswitch (33) (0) (2) #[27, 29, 31], 27) := by decide +kernel
theorem dd_Quarter_fact_28 : decode mm_Quarter_fact.2.1 28 = .ok (.iload_n 1, 1) := by decide +kernel
theorem dd_Quarter_fact_29 : decode mm_Quarter_fact.2.1 29 = .ok (.ireturn, 1) := by decide +kernel
theorem dd_Quarter_fact_30 : decode mm_Quarter_fact.2.1 30 = .ok (.iload_n 2, 1) := by decide +kernel
theorem dd_Quarter_fact_31 : decode mm_Quarter_fact.2.1 31 = .ok (.ireturn, 1) := by decide +kernel
theorem dd_Quarter_fact_32 : decode mm_Quarter_fact.2.1 32 = .ok (.iload_n 3, 1) := by decide +kernel
theorem dd_Quarter_fact_33 : decode mm_Quarter_fact.2.1 33 = .ok (.ireturn, 1) := by decide +kernel
theorem dd_Quarter_fact_34 : decode mm_Quarter_fact.2.1 34 = .ok (.iload 4, 2) := by decide +kernel
theorem dd_Quarter_fact_36 : decode mm_Quarter_fact.2.1 36 = .ok (.ireturn, 1) := by decide +kernel
theorem dd_Quarter_lawFor_0 : decode mm_Quarter_lawFor.2.1 0 = .ok (.iconst 0, 1) := by decide +kernel
theorem dd_Quarter_lawFor_1 : decode mm_Quarter_lawFor.2.1 1 = .ok (.istore 5, 2) := by decide +kernel
theorem dd_Quarter_lawFor_3 : decode mm_Quarter_lawFor.2.1 3 = .ok (.iconst 0, 1) := by decide +kernel
theorem dd_Quarter_lawFor_4 : decode mm_Quarter_lawFor.2.1 4 = .ok (.istore 6, 2) := by decide +kernel
theorem dd_Quarter_lawFor_6 : decode mm_Quarter_lawFor.2.1 6 = .ok (.iload 6, 2) := by decide +kernel
theorem dd_Quarter_lawFor_8 : decode mm_Quarter_lawFor.2.1 8 = .ok (.aload_n 0, 1) := by decide +kernel
theorem dd_Quarter_lawFor_9 : decode mm_Quarter_lawFor.2.1 9 = .ok (.getfield 48, 3) := by decide +kernel
theorem dd_Quarter_lawFor_12 : decode mm_Quarter_lawFor.2.1 12 = .ok (.if_icmp .ge (154), 3) := by decide +kernel
theorem dd_Quarter_lawFor_15 : decode mm_Quarter_lawFor.2.1 15 = .ok (.aload_n 0, 1) := by decide +kernel
theorem dd_Quarter_lawFor_16 : decode mm_Quarter_lawFor.2.1 16 = .ok (.getfield 27, 3) := by decide +kernel
theorem dd_Quarter_lawFor_19 : decode mm_Quarter_lawFor.2.1 19 = .ok (.iload 6, 2) := by decide +kernel
theorem dd_Quarter_lawFor_21 : decode mm_Quarter_lawFor.2.1 21 = .ok (.iaload, 1) := by decide +kernel
theorem dd_Quarter_lawFor_22 : decode mm_Quarter_lawFor.2.1 22 = .ok (.istore 7, 2) := by decide +kernel
theorem dd_Quarter_lawFor_24 : decode mm_Quarter_lawFor.2.1 24 = .ok (.iload 7, 2) := by decide +kernel
theorem dd_Quarter_lawFor_26 : decode mm_Quarter_lawFor.2.1 26 = .ok (.sipush 10004, 3) := by decide +kernel
theorem dd_Quarter_lawFor_29 : decode mm_Quarter_lawFor.2.1 29 = .ok (.if_icmp .le (45), 3) := by decide +kernel
theorem dd_Quarter_lawFor_74 : decode mm_Quarter_lawFor.2.1 74 = .ok (.iload 7, 2) := by decide +kernel
theorem dd_Quarter_lawFor_76 : decode mm_Quarter_lawFor.2.1 76 = .ok (.sipush 10004, 3) := by decide +kernel
theorem dd_Quarter_lawFor_79 : decode mm_Quarter_lawFor.2.1 79 = .ok (.if_icmp .ne (37), 3) := by decide +kernel
theorem dd_Quarter_lawFor_116 : decode mm_Quarter_lawFor.2.1 116 = .ok (.iload 5, 2) := by decide +kernel
theorem dd_Quarter_lawFor_118 : decode mm_Quarter_lawFor.2.1 118 = .ok (.bipush 32, 2) := by decide +kernel
theorem dd_Quarter_lawFor_120 : decode mm_Quarter_lawFor.2.1 120 = .ok (.if_icmp .ge (40), 3) := by decide +kernel
theorem dd_Quarter_lawFor_123 : decode mm_Quarter_lawFor.2.1 123 = .ok (.aload_n 0, 1) := by decide +kernel
theorem dd_Quarter_lawFor_124 : decode mm_Quarter_lawFor.2.1 124 = .ok (.getfield 31, 3) := by decide +kernel
theorem fd_6_31 : fld 6 31 = some (6, 7) := by decide +kernel
theorem dd_Quarter_lawFor_127 : decode mm_Quarter_lawFor.2.1 127 = .ok (.iload 5, 2) := by decide +kernel
theorem dd_Quarter_lawFor_129 : decode mm_Quarter_lawFor.2.1 129 = .ok (.iload 7, 2) := by decide +kernel
theorem dd_Quarter_lawFor_131 : decode mm_Quarter_lawFor.2.1 131 = .ok (.sipush 10000, 3) := by decide +kernel
theorem dd_Quarter_lawFor_134 : decode mm_Quarter_lawFor.2.1 134 = .ok (.if_icmp .ge (8), 3) := by decide +kernel
theorem dd_Quarter_lawFor_142 : decode mm_Quarter_lawFor.2.1 142 = .ok (.iload 7, 2) := by decide +kernel
theorem dd_Quarter_lawFor_144 : decode mm_Quarter_lawFor.2.1 144 = .ok (.sipush 10000, 3) := by decide +kernel
theorem dd_Quarter_lawFor_147 : decode mm_Quarter_lawFor.2.1 147 = .ok (.isub, 1) := by decide +kernel
theorem dd_Quarter_lawFor_148 : decode mm_Quarter_lawFor.2.1 148 = .ok (.iload_n 1, 1) := by decide +kernel
theorem dd_Quarter_lawFor_149 : decode mm_Quarter_lawFor.2.1 149 = .ok (.iload_n 2, 1) := by decide +kernel
theorem dd_Quarter_lawFor_150 : decode mm_Quarter_lawFor.2.1 150 = .ok (.iload_n 3, 1) := by decide +kernel
theorem dd_Quarter_lawFor_151 : decode mm_Quarter_lawFor.2.1 151 = .ok (.iload 4, 2) := by decide +kernel
theorem dd_Quarter_lawFor_153 : decode mm_Quarter_lawFor.2.1 153 = .ok (.invokestatic 97, 3) := by decide +kernel
theorem cw_6_97 : cwOk 6 97 1 50 5 5 6 = true := by decide +kernel
theorem mt_Quarter_fact : MTB 50 = some mm_Quarter_fact := rfl
theorem dd_Quarter_lawFor_137 : decode mm_Quarter_lawFor.2.1 137 = .ok (.iload 7, 2) := by decide +kernel
theorem dd_Quarter_lawFor_139 : decode mm_Quarter_lawFor.2.1 139 = .ok (.goto 17, 3) := by decide +kernel
theorem dd_Quarter_lawFor_156 : decode mm_Quarter_lawFor.2.1 156 = .ok (.iastore, 1) := by decide +kernel
theorem dd_Quarter_lawFor_157 : decode mm_Quarter_lawFor.2.1 157 = .ok (.iinc 5 1, 3) := by decide +kernel
theorem dd_Quarter_lawFor_82 : decode mm_Quarter_lawFor.2.1 82 = .ok (.iload 5, 2) := by decide +kernel
theorem dd_Quarter_lawFor_84 : decode mm_Quarter_lawFor.2.1 84 = .ok (.ifCond .le (76), 3) := by decide +kernel
theorem dd_Quarter_lawFor_87 : decode mm_Quarter_lawFor.2.1 87 = .ok (.aload_n 0, 1) := by decide +kernel
theorem dd_Quarter_lawFor_88 : decode mm_Quarter_lawFor.2.1 88 = .ok (.getfield 31, 3) := by decide +kernel
theorem dd_Quarter_lawFor_91 : decode mm_Quarter_lawFor.2.1 91 = .ok (.iload 5, 2) := by decide +kernel
theorem dd_Quarter_lawFor_93 : decode mm_Quarter_lawFor.2.1 93 = .ok (.iconst 1, 1) := by decide +kernel
theorem dd_Quarter_lawFor_94 : decode mm_Quarter_lawFor.2.1 94 = .ok (.isub, 1) := by decide +kernel
theorem dd_Quarter_lawFor_95 : decode mm_Quarter_lawFor.2.1 95 = .ok (.aload_n 0, 1) := by decide +kernel
theorem dd_Quarter_lawFor_96 : decode mm_Quarter_lawFor.2.1 96 = .ok (.getfield 31, 3) := by decide +kernel
theorem dd_Quarter_lawFor_99 : decode mm_Quarter_lawFor.2.1 99 = .ok (.iload 5, 2) := by decide +kernel
theorem dd_Quarter_lawFor_101 : decode mm_Quarter_lawFor.2.1 101 = .ok (.iconst 1, 1) := by decide +kernel
theorem dd_Quarter_lawFor_102 : decode mm_Quarter_lawFor.2.1 102 = .ok (.isub, 1) := by decide +kernel
theorem dd_Quarter_lawFor_103 : decode mm_Quarter_lawFor.2.1 103 = .ok (.iaload, 1) := by decide +kernel
theorem dd_Quarter_lawFor_104 : decode mm_Quarter_lawFor.2.1 104 = .ok (.ifCond .ne (7), 3) := by decide +kernel
theorem dd_Quarter_lawFor_111 : decode mm_Quarter_lawFor.2.1 111 = .ok (.iconst 0, 1) := by decide +kernel
theorem dd_Quarter_lawFor_112 : decode mm_Quarter_lawFor.2.1 112 = .ok (.iastore, 1) := by decide +kernel
theorem dd_Quarter_lawFor_113 : decode mm_Quarter_lawFor.2.1 113 = .ok (.goto 47, 3) := by decide +kernel
theorem dd_Quarter_lawFor_107 : decode mm_Quarter_lawFor.2.1 107 = .ok (.iconst 1, 1) := by decide +kernel
theorem dd_Quarter_lawFor_108 : decode mm_Quarter_lawFor.2.1 108 = .ok (.goto 4, 3) := by decide +kernel
theorem dd_Quarter_lawFor_32 : decode mm_Quarter_lawFor.2.1 32 = .ok (.iload 5, 2) := by decide +kernel
theorem dd_Quarter_lawFor_34 : decode mm_Quarter_lawFor.2.1 34 = .ok (.iconst 1, 1) := by decide +kernel
theorem dd_Quarter_lawFor_35 : decode mm_Quarter_lawFor.2.1 35 = .ok (.if_icmp .le (125), 3) := by decide +kernel
theorem dd_Quarter_lawFor_38 : decode mm_Quarter_lawFor.2.1 38 = .ok (.iinc 5 (-1), 3) := by decide +kernel
theorem dd_Quarter_lawFor_41 : decode mm_Quarter_lawFor.2.1 41 = .ok (.aload_n 0, 1) := by decide +kernel
theorem dd_Quarter_lawFor_42 : decode mm_Quarter_lawFor.2.1 42 = .ok (.getfield 31, 3) := by decide +kernel
theorem dd_Quarter_lawFor_45 : decode mm_Quarter_lawFor.2.1 45 = .ok (.iload 5, 2) := by decide +kernel
theorem dd_Quarter_lawFor_47 : decode mm_Quarter_lawFor.2.1 47 = .ok (.iconst 1, 1) := by decide +kernel
theorem dd_Quarter_lawFor_48 : decode mm_Quarter_lawFor.2.1 48 = .ok (.isub, 1) := by decide +kernel
theorem dd_Quarter_lawFor_49 : decode mm_Quarter_lawFor.2.1 49 = .ok (.iload 7, 2) := by decide +kernel
theorem dd_Quarter_lawFor_51 : decode mm_Quarter_lawFor.2.1 51 = .ok (.aload_n 0, 1) := by decide +kernel
theorem dd_Quarter_lawFor_52 : decode mm_Quarter_lawFor.2.1 52 = .ok (.getfield 31, 3) := by decide +kernel
theorem dd_Quarter_lawFor_55 : decode mm_Quarter_lawFor.2.1 55 = .ok (.iload 5, 2) := by decide +kernel
theorem dd_Quarter_lawFor_57 : decode mm_Quarter_lawFor.2.1 57 = .ok (.iconst 1, 1) := by decide +kernel
theorem dd_Quarter_lawFor_58 : decode mm_Quarter_lawFor.2.1 58 = .ok (.isub, 1) := by decide +kernel
theorem dd_Quarter_lawFor_59 : decode mm_Quarter_lawFor.2.1 59 = .ok (.iaload, 1) := by decide +kernel
theorem dd_Quarter_lawFor_60 : decode mm_Quarter_lawFor.2.1 60 = .ok (.aload_n 0, 1) := by decide +kernel
theorem dd_Quarter_lawFor_61 : decode mm_Quarter_lawFor.2.1 61 = .ok (.getfield 31, 3) := by decide +kernel
theorem dd_Quarter_lawFor_64 : decode mm_Quarter_lawFor.2.1 64 = .ok (.iload 5, 2) := by decide +kernel
theorem dd_Quarter_lawFor_66 : decode mm_Quarter_lawFor.2.1 66 = .ok (.iaload, 1) := by decide +kernel
theorem dd_Quarter_lawFor_67 : decode mm_Quarter_lawFor.2.1 67 = .ok (.invokestatic 93, 3) := by decide +kernel
theorem cw_6_93 : cwOk 6 93 1 49 3 3 6 = true := by decide +kernel
theorem mt_Quarter_join : MTB 49 = some mm_Quarter_join := rfl
theorem dd_Quarter_lawFor_70 : decode mm_Quarter_lawFor.2.1 70 = .ok (.iastore, 1) := by decide +kernel
theorem dd_Quarter_lawFor_71 : decode mm_Quarter_lawFor.2.1 71 = .ok (.goto 89, 3) := by decide +kernel
theorem dd_Quarter_lawFor_160 : decode mm_Quarter_lawFor.2.1 160 = .ok (.iinc 6 1, 3) := by decide +kernel
theorem dd_Quarter_lawFor_163 : decode mm_Quarter_lawFor.2.1 163 = .ok (.goto (-157), 3) := by decide +kernel
theorem dd_Quarter_lawFor_166 : decode mm_Quarter_lawFor.2.1 166 = .ok (.iload 5, 2) := by decide +kernel
theorem dd_Quarter_lawFor_168 : decode mm_Quarter_lawFor.2.1 168 = .ok (.ifCond .le (12), 3) := by decide +kernel
theorem dd_Quarter_lawFor_180 : decode mm_Quarter_lawFor.2.1 180 = .ok (.iconst 1, 1) := by decide +kernel
theorem dd_Quarter_lawFor_181 : decode mm_Quarter_lawFor.2.1 181 = .ok (.ireturn, 1) := by decide +kernel
theorem dd_Quarter_lawFor_171 : decode mm_Quarter_lawFor.2.1 171 = .ok (.aload_n 0, 1) := by decide +kernel
theorem dd_Quarter_lawFor_172 : decode mm_Quarter_lawFor.2.1 172 = .ok (.getfield 31, 3) := by decide +kernel
theorem dd_Quarter_lawFor_175 : decode mm_Quarter_lawFor.2.1 175 = .ok (.iconst 0, 1) := by decide +kernel
theorem dd_Quarter_lawFor_176 : decode mm_Quarter_lawFor.2.1 176 = .ok (.iaload, 1) := by decide +kernel
theorem dd_Quarter_lawFor_177 : decode mm_Quarter_lawFor.2.1 177 = .ok (.goto 4, 3) := by decide +kernel
theorem rq_stk {h : LH} {q : Int} (hF : RF h) (hq : q = 5 ∨ q = 32) : rd h q ((7 : Nat) : Int) = q + 4 := by
  rcases hq with rfl | rfl
  · exact hF 5 7 9 (by decide +kernel) (by decide +kernel)
  · exact hF 32 7 36 (by decide +kernel) (by decide +kernel)
theorem ia_sq {q : Int} (hq : q = 5 ∨ q = 32) : isA NC (q + 4) 1 = true := by
  rcases hq with rfl | rfl <;> decide +kernel
theorem la_sq {q : Int} (hq : q = 5 ∨ q = 32) : (lay (q + 4).toNat).2.2 = 32 := by
  rcases hq with rfl | rfl <;> decide +kernel
theorem B_Quarter_join_0 {xs : Nat → Int} {xl e : Nat} {h : LH} {Q : Option LV → LH → Prop} {v0 v1 v2 : Int} (hF : RF h)
    (k : (v0 = 10005 →
        (v1 = 0 →
          Q (some (.inl 0)) h) ∧
        (v1 ≠ 0 →
          (v2 = 0 →
            Q (some (.inl 0)) h) ∧
          (v2 ≠ 0 →
            Q (some (.inl 1)) h))) ∧
      (v0 = 10006 →
        (v1 ≠ 0 →
          Q (some (.inl 1)) h) ∧
        (v1 = 0 →
          (v2 = 0 →
            Q (some (.inl 0)) h) ∧
          (v2 ≠ 0 →
            Q (some (.inl 1)) h))) ∧
      (v0 = 10007 →
        (v2 ≤ v1 →
          Q (some (.inl 0)) h) ∧
        (v1 < v2 →
          Q (some (.inl 1)) h)) ∧
      (v0 = 10008 →
        (v1 ≠ v2 →
          Q (some (.inl 0)) h) ∧
        (v1 = v2 →
          Q (some (.inl 1)) h)) ∧
      (v0 = 10009 →
        Q (some (.inl (w32 (v1 + v2)))) h) ∧
      (v0 = 10010 →
        Q (some (.inl (w32 (v1 - v2)))) h) ∧
      (v0 < 10005 ∨ 10010 < v0 →
        Q (some (.inl (w32 (v1 * v2)))) h)) :
    Rn xs xl e mm_Quarter_join 0 [some (.inl v0), some (.inl v1), some (.inl v2)] [] h Q := by
  refine R_ld (v := .inl v0) dd_Quarter_join_0 rfl rfl rfl rfl ?_
  rcases (show (v0 = 10005) ∨ (v0 = 10006) ∨ (v0 = 10007) ∨ (v0 = 10008) ∨ (v0 = 10009) ∨ (v0 = 10010) ∨ (v0 < 10005 ∨ 10010 < v0) by omega) with c1 | c1 | c1 | c1 | c1 | c1 | c1
  · replace k := k.1 c1
    refine R_swj (v := 10005) dd_Quarter_join_1 c1 (by decide) rfl rfl ?_
    refine R_ld (v := .inl v1) dd_Quarter_join_40 rfl rfl rfl rfl ?_
    refine R_if dd_Quarter_join_41 rfl rfl (fun (c2 : v1 = 0) => ?_) (fun (c2 : v1 ≠ 0) => ?_)
    · replace k := k.1 c2
      refine R_ic dd_Quarter_join_52 (by decide) rfl ?_
      exact R_iret dd_Quarter_join_53 rfl k
    · replace k := k.2 c2
      refine R_ld (v := .inl v2) dd_Quarter_join_44 rfl rfl rfl rfl ?_
      refine R_if dd_Quarter_join_45 rfl rfl (fun (c3 : v2 = 0) => ?_) (fun (c3 : v2 ≠ 0) => ?_)
      · replace k := k.1 c3
        refine R_ic dd_Quarter_join_52 (by decide) rfl ?_
        exact R_iret dd_Quarter_join_53 rfl k
      · replace k := k.2 c3
        refine R_ic dd_Quarter_join_48 (by decide) rfl ?_
        refine R_goto dd_Quarter_join_49 rfl ?_
        exact R_iret dd_Quarter_join_53 rfl k
  · replace k := k.2.1 c1
    refine R_swj (v := 10006) dd_Quarter_join_1 c1 (by decide) rfl rfl ?_
    refine R_ld (v := .inl v1) dd_Quarter_join_54 rfl rfl rfl rfl ?_
    refine R_if dd_Quarter_join_55 rfl rfl (fun (c4 : v1 ≠ 0) => ?_) (fun (c4 : v1 = 0) => ?_)
    · replace k := k.1 c4
      refine R_ic dd_Quarter_join_62 (by decide) rfl ?_
      refine R_goto dd_Quarter_join_63 rfl ?_
      exact R_iret dd_Quarter_join_67 rfl k
    · replace k := k.2 c4
      refine R_ld (v := .inl v2) dd_Quarter_join_58 rfl rfl rfl rfl ?_
      refine R_if dd_Quarter_join_59 rfl rfl (fun (c5 : v2 = 0) => ?_) (fun (c5 : v2 ≠ 0) => ?_)
      · replace k := k.1 c5
        refine R_ic dd_Quarter_join_66 (by decide) rfl ?_
        exact R_iret dd_Quarter_join_67 rfl k
      · replace k := k.2 c5
        refine R_ic dd_Quarter_join_62 (by decide) rfl ?_
        refine R_goto dd_Quarter_join_63 rfl ?_
        exact R_iret dd_Quarter_join_67 rfl k
  · replace k := k.2.2.1 c1
    refine R_swj (v := 10007) dd_Quarter_join_1 c1 (by decide) rfl rfl ?_
    refine R_ld (v := .inl v1) dd_Quarter_join_68 rfl rfl rfl rfl ?_
    refine R_ld (v := .inl v2) dd_Quarter_join_69 rfl rfl rfl rfl ?_
    refine R_icmp dd_Quarter_join_70 rfl rfl (fun (c6 : v2 ≤ v1) => ?_) (fun (c6 : v1 < v2) => ?_)
    · replace k := k.1 c6
      refine R_ic dd_Quarter_join_77 (by decide) rfl ?_
      exact R_iret dd_Quarter_join_78 rfl k
    · replace k := k.2 c6
      refine R_ic dd_Quarter_join_73 (by decide) rfl ?_
      refine R_goto dd_Quarter_join_74 rfl ?_
      exact R_iret dd_Quarter_join_78 rfl k
  · replace k := k.2.2.2.1 c1
    refine R_swj (v := 10008) dd_Quarter_join_1 c1 (by decide) rfl rfl ?_
    refine R_ld (v := .inl v1) dd_Quarter_join_79 rfl rfl rfl rfl ?_
    refine R_ld (v := .inl v2) dd_Quarter_join_80 rfl rfl rfl rfl ?_
    refine R_icmp dd_Quarter_join_81 rfl rfl (fun (c7 : v1 ≠ v2) => ?_) (fun (c7 : v1 = v2) => ?_)
    · replace k := k.1 c7
      refine R_ic dd_Quarter_join_88 (by decide) rfl ?_
      exact R_iret dd_Quarter_join_89 rfl k
    · replace k := k.2 c7
      refine R_ic dd_Quarter_join_84 (by decide) rfl ?_
      refine R_goto dd_Quarter_join_85 rfl ?_
      exact R_iret dd_Quarter_join_89 rfl k
  · replace k := k.2.2.2.2.1 c1
    refine R_swj (v := 10009) dd_Quarter_join_1 c1 (by decide) rfl rfl ?_
    refine R_ld (v := .inl v1) dd_Quarter_join_90 rfl rfl rfl rfl ?_
    refine R_ld (v := .inl v2) dd_Quarter_join_91 rfl rfl rfl rfl ?_
    refine R_iaddw dd_Quarter_join_92 rfl ?_
    exact R_iret dd_Quarter_join_93 rfl k
  · replace k := k.2.2.2.2.2.1 c1
    refine R_swj (v := 10010) dd_Quarter_join_1 c1 (by decide) rfl rfl ?_
    refine R_ld (v := .inl v1) dd_Quarter_join_94 rfl rfl rfl rfl ?_
    refine R_ld (v := .inl v2) dd_Quarter_join_95 rfl rfl rfl rfl ?_
    refine R_isubw dd_Quarter_join_96 rfl ?_
    exact R_iret dd_Quarter_join_97 rfl k
  · replace k := k.2.2.2.2.2.2 c1
    refine R_swd dd_Quarter_join_1 c1 rfl ?_
    refine R_ld (v := .inl v1) dd_Quarter_join_98 rfl rfl rfl rfl ?_
    refine R_ld (v := .inl v2) dd_Quarter_join_99 rfl rfl rfl rfl ?_
    refine R_imulw dd_Quarter_join_100 rfl ?_
    exact R_iret dd_Quarter_join_101 rfl k
theorem B_Quarter_fact_0 {xs : Nat → Int} {xl e : Nat} {h : LH} {Q : Option LV → LH → Prop} {v0 v1 v2 v3 v4 : Int} (hF : RF h)
    (k : (v0 = 0 →
        Q (some (.inl v1)) h) ∧
      (v0 = 1 →
        Q (some (.inl v2)) h) ∧
      (v0 = 2 →
        Q (some (.inl v3)) h) ∧
      (v0 < 0 ∨ 2 < v0 →
        Q (some (.inl v4)) h)) :
    Rn xs xl e mm_Quarter_fact 0 [some (.inl v0), some (.inl v1), some (.inl v2), some (.inl v3), some (.inl v4)] [] h Q := by
  refine R_ld (v := .inl v0) dd_Quarter_fact_0 rfl rfl rfl rfl ?_
  rcases (show (v0 = 0) ∨ (v0 = 1) ∨ (v0 = 2) ∨ (v0 < 0 ∨ 2 < v0) by omega) with c1 | c1 | c1 | c1
  · replace k := k.1 c1
    refine R_swj (v := 0) dd_Quarter_fact_1 c1 (by decide) rfl rfl ?_
    refine R_ld (v := .inl v1) dd_Quarter_fact_28 rfl rfl rfl rfl ?_
    exact R_iret dd_Quarter_fact_29 rfl k
  · replace k := k.2.1 c1
    refine R_swj (v := 1) dd_Quarter_fact_1 c1 (by decide) rfl rfl ?_
    refine R_ld (v := .inl v2) dd_Quarter_fact_30 rfl rfl rfl rfl ?_
    exact R_iret dd_Quarter_fact_31 rfl k
  · replace k := k.2.2.1 c1
    refine R_swj (v := 2) dd_Quarter_fact_1 c1 (by decide) rfl rfl ?_
    refine R_ld (v := .inl v3) dd_Quarter_fact_32 rfl rfl rfl rfl ?_
    exact R_iret dd_Quarter_fact_33 rfl k
  · replace k := k.2.2.2 c1
    refine R_swd dd_Quarter_fact_1 c1 rfl ?_
    refine R_ld (v := .inl v4) dd_Quarter_fact_34 rfl rfl rfl rfl ?_
    exact R_iret dd_Quarter_fact_36 rfl k
theorem B_Quarter_lawFor_0 {xs : Nat → Int} {xl e : Nat} {h : LH} {Q : Option LV → LH → Prop} {v1 v2 v3 v4 : Int} {q : Int} (hq : q = 5 ∨ q = 32) (hF : RF h)
    (k : Rn xs xl e mm_Quarter_lawFor 6 [some (.inr (.inr q)), some (.inl v1), some (.inl v2), some (.inl v3), some (.inl v4), some (.inl 0), some (.inl 0), none] [] h Q) :
    Rn xs xl e mm_Quarter_lawFor 0 [some (.inr (.inr q)), some (.inl v1), some (.inl v2), some (.inl v3), some (.inl v4), none, none, none] [] h Q := by
  refine R_ic dd_Quarter_lawFor_0 (by decide) rfl ?_
  refine R_st (ls' := [some (.inr (.inr q)), some (.inl v1), some (.inl v2), some (.inl v3), some (.inl v4), some (.inl 0), none, none]) dd_Quarter_lawFor_1 rfl rfl rfl (Nat.le_of_ble_eq_true rfl) rfl rfl ?_
  refine R_ic dd_Quarter_lawFor_3 (by decide) rfl ?_
  refine R_st (ls' := [some (.inr (.inr q)), some (.inl v1), some (.inl v2), some (.inl v3), some (.inl v4), some (.inl 0), some (.inl 0), none]) dd_Quarter_lawFor_4 rfl rfl rfl (Nat.le_of_ble_eq_true rfl) rfl rfl ?_
  exact k
theorem B_Quarter_lawFor_6 {xs : Nat → Int} {xl e : Nat} {h : LH} {Q : Option LV → LH → Prop} {v1 v2 v3 v4 v5 v6 : Int} {q : Int} (hq : q = 5 ∨ q = 32) {o7 : Option LV} (hF : RF h) (r_v5 : 0 ≤ v5 ∧ v5 ≤ 32) (r_v6 : 0 ≤ v6 ∧ v6 ≤ 1000)
    (k : ((rd h q 6) ≤ v6 →
        Rn xs xl e mm_Quarter_lawFor 166 [some (.inr (.inr q)), some (.inl v1), some (.inl v2), some (.inl v3), some (.inl v4), some (.inl v5), some (.inl v6), o7] [] h Q) ∧
      (v6 < (rd h q 6) →
        (0 ≤ v6 ∧ v6 < 1000) ∧
        ((rd h (q + 3) v6) ≤ 10004 →
          ((rd h (q + 3) v6) ≠ 10004 →
            (32 ≤ v5 →
              Rn xs xl e mm_Quarter_lawFor 160 [some (.inr (.inr q)), some (.inl v1), some (.inl v2), some (.inl v3), some (.inl v4), some (.inl v5), some (.inl v6), some (.inl (rd h (q + 3) v6))] [] h Q) ∧
            (v5 < 32 →
              (10000 ≤ (rd h (q + 3) v6) →
                (-2147483648 ≤ (rd h (q + 3) v6) - 10000 ∧ (rd h (q + 3) v6) - 10000 ≤ 2147483647) ∧
                (∃ c, c < e ∧ Rn xs xl c mm_Quarter_fact 0 [some (.inl ((rd h (q + 3) v6) - 10000)), some (.inl v1), some (.inl v2), some (.inl v3), some (.inl v4)] [] h (fun r h' => Rn xs xl e mm_Quarter_lawFor 156 [some (.inr (.inr q)), some (.inl v1), some (.inl v2), some (.inl v3), some (.inl v4), some (.inl v5), some (.inl v6), some (.inl (rd h (q + 3) v6))] (r.toList ++ [.inl v5, .inr (.inr (q + 4))]) h' Q))) ∧
              ((rd h (q + 3) v6) < 10000 →
                (0 ≤ v5 ∧ v5 < 32) ∧
                Rn xs xl e mm_Quarter_lawFor 160 [some (.inr (.inr q)), some (.inl v1), some (.inl v2), some (.inl v3), some (.inl v4), some (.inl (v5 + 1)), some (.inl v6), some (.inl (rd h (q + 3) v6))] [] (wr h (q + 4) v5 (rd h (q + 3) v6)) Q))) ∧
          ((rd h (q + 3) v6) = 10004 →
            (v5 ≤ 0 →
              Rn xs xl e mm_Quarter_lawFor 160 [some (.inr (.inr q)), some (.inl v1), some (.inl v2), some (.inl v3), some (.inl v4), some (.inl v5), some (.inl v6), some (.inl (rd h (q + 3) v6))] [] h Q) ∧
            (0 < v5 →
              (0 ≤ v5 - 1 ∧ v5 - 1 < 32) ∧
              ((rd h (q + 4) (v5 - 1)) ≠ 0 →
                (0 ≤ v5 - 1 ∧ v5 - 1 < 32) ∧
                Rn xs xl e mm_Quarter_lawFor 160 [some (.inr (.inr q)), some (.inl v1), some (.inl v2), some (.inl v3), some (.inl v4), some (.inl v5), some (.inl v6), some (.inl (rd h (q + 3) v6))] [] (wr h (q + 4) (v5 - 1) 0) Q) ∧
              ((rd h (q + 4) (v5 - 1)) = 0 →
                (0 ≤ v5 - 1 ∧ v5 - 1 < 32) ∧
                Rn xs xl e mm_Quarter_lawFor 160 [some (.inr (.inr q)), some (.inl v1), some (.inl v2), some (.inl v3), some (.inl v4), some (.inl v5), some (.inl v6), some (.inl (rd h (q + 3) v6))] [] (wr h (q + 4) (v5 - 1) 1) Q)))) ∧
        (10004 < (rd h (q + 3) v6) →
          (v5 ≤ 1 →
            Rn xs xl e mm_Quarter_lawFor 160 [some (.inr (.inr q)), some (.inl v1), some (.inl v2), some (.inl v3), some (.inl v4), some (.inl v5), some (.inl v6), some (.inl (rd h (q + 3) v6))] [] h Q) ∧
          (1 < v5 →
            (0 ≤ v5 - 2 ∧ v5 - 2 < 32) ∧
            (0 ≤ v5 - 1 ∧ v5 - 1 < 32) ∧
            (∃ c, c < e ∧ Rn xs xl c mm_Quarter_join 0 [some (.inl (rd h (q + 3) v6)), some (.inl (rd h (q + 4) (v5 - 2))), some (.inl (rd h (q + 4) (v5 - 1)))] [] h (fun r h' => Rn xs xl e mm_Quarter_lawFor 70 [some (.inr (.inr q)), some (.inl v1), some (.inl v2), some (.inl v3), some (.inl v4), some (.inl (v5 - 1)), some (.inl v6), some (.inl (rd h (q + 3) v6))] (r.toList ++ [.inl (v5 - 2), .inr (.inr (q + 4))]) h' Q)))))) :
    Rn xs xl e mm_Quarter_lawFor 6 [some (.inr (.inr q)), some (.inl v1), some (.inl v2), some (.inl v3), some (.inl v4), some (.inl v5), some (.inl v6), o7] [] h Q := by
  refine R_ld (v := .inl v6) dd_Quarter_lawFor_6 rfl rfl rfl rfl ?_
  refine R_ld (v := .inr (.inr q)) dd_Quarter_lawFor_8 rfl rfl rfl rfl ?_
  refine R_gf (v := .inl (rd h q 6)) dd_Quarter_lawFor_9 fd_6_48 (io_q hq) (congrArg (fun z : Int => (Sum.inl z : LV)) (rfl)) rfl ?_
  refine R_icmp dd_Quarter_lawFor_12 rfl rfl (fun (c11 : (rd h q 6) ≤ v6) => ?_) (fun (c11 : v6 < (rd h q 6)) => ?_)
  · replace k := k.1 c11
    exact k
  · replace k := k.2 c11
    refine R_ld (v := .inr (.inr q)) dd_Quarter_lawFor_15 rfl rfl rfl rfl ?_
    refine R_gf (v := .inr (.inr (q + 3))) dd_Quarter_lawFor_16 fd_6_27 (io_q hq) (congrArg (fun z : Int => (Sum.inr (Sum.inr z) : LV)) (rq_law hF hq)) rfl ?_
    refine R_ld (v := .inl v6) dd_Quarter_lawFor_19 rfl rfl rfl rfl ?_
    obtain ⟨s1, k⟩ := k
    refine R_iald (v := (rd h (q + 3) v6)) (n := 1000) dd_Quarter_lawFor_21 (ia_lq hq) (la_lq hq) s1 (rfl) rfl ?_
    refine R_st (ls' := [some (.inr (.inr q)), some (.inl v1), some (.inl v2), some (.inl v3), some (.inl v4), some (.inl v5), some (.inl v6), some (.inl (rd h (q + 3) v6))]) dd_Quarter_lawFor_22 rfl rfl rfl (Nat.le_of_ble_eq_true rfl) rfl rfl ?_
    refine R_ld (v := .inl (rd h (q + 3) v6)) dd_Quarter_lawFor_24 rfl rfl rfl rfl ?_
    refine R_si dd_Quarter_lawFor_26 (by decide) rfl ?_
    refine R_icmp dd_Quarter_lawFor_29 rfl rfl (fun (c12 : (rd h (q + 3) v6) ≤ 10004) => ?_) (fun (c12 : 10004 < (rd h (q + 3) v6)) => ?_)
    · replace k := k.1 c12
      refine R_ld (v := .inl (rd h (q + 3) v6)) dd_Quarter_lawFor_74 rfl rfl rfl rfl ?_
      refine R_si dd_Quarter_lawFor_76 (by decide) rfl ?_
      refine R_icmp dd_Quarter_lawFor_79 rfl rfl (fun (c13 : (rd h (q + 3) v6) ≠ 10004) => ?_) (fun (c13 : (rd h (q + 3) v6) = 10004) => ?_)
      · replace k := k.1 c13
        refine R_ld (v := .inl v5) dd_Quarter_lawFor_116 rfl rfl rfl rfl ?_
        refine R_bi dd_Quarter_lawFor_118 (by decide) rfl ?_
        refine R_icmp dd_Quarter_lawFor_120 rfl rfl (fun (c14 : 32 ≤ v5) => ?_) (fun (c14 : v5 < 32) => ?_)
        · replace k := k.1 c14
          exact k
        · replace k := k.2 c14
          refine R_ld (v := .inr (.inr q)) dd_Quarter_lawFor_123 rfl rfl rfl rfl ?_
          refine R_gf (v := .inr (.inr (q + 4))) dd_Quarter_lawFor_124 fd_6_31 (io_q hq) (congrArg (fun z : Int => (Sum.inr (Sum.inr z) : LV)) (rq_stk hF hq)) rfl ?_
          refine R_ld (v := .inl v5) dd_Quarter_lawFor_127 rfl rfl rfl rfl ?_
          refine R_ld (v := .inl (rd h (q + 3) v6)) dd_Quarter_lawFor_129 rfl rfl rfl rfl ?_
          refine R_si dd_Quarter_lawFor_131 (by decide) rfl ?_
          refine R_icmp dd_Quarter_lawFor_134 rfl rfl (fun (c15 : 10000 ≤ (rd h (q + 3) v6)) => ?_) (fun (c15 : (rd h (q + 3) v6) < 10000) => ?_)
          · replace k := k.1 c15
            refine R_ld (v := .inl (rd h (q + 3) v6)) dd_Quarter_lawFor_142 rfl rfl rfl rfl ?_
            refine R_si dd_Quarter_lawFor_144 (by decide) rfl ?_
            obtain ⟨s2, k⟩ := k
            refine R_isub (c := (rd h (q + 3) v6) - 10000) dd_Quarter_lawFor_147 (by omega) s2 rfl ?_
            refine R_ld (v := .inl v1) dd_Quarter_lawFor_148 rfl rfl rfl rfl ?_
            refine R_ld (v := .inl v2) dd_Quarter_lawFor_149 rfl rfl rfl rfl ?_
            refine R_ld (v := .inl v3) dd_Quarter_lawFor_150 rfl rfl rfl rfl ?_
            refine R_ld (v := .inl v4) dd_Quarter_lawFor_151 rfl rfl rfl rfl ?_
            obtain ⟨c, hc, k⟩ := k
            exact R_call (as := [.inl ((rd h (q + 3) v6) - 10000), .inl v1, .inl v2, .inl v3, .inl v4]) (rest := [.inl v5, .inr (.inr (q + 4))]) (M' := mm_Quarter_fact) (ls0 := [some (.inl ((rd h (q + 3) v6) - 10000)), some (.inl v1), some (.inl v2), some (.inl v3), some (.inl v4)]) dd_Quarter_lawFor_153 rfl rfl (cw_s cw_6_97 rfl rfl (Nat.le_of_ble_eq_true rfl) (Nat.le_of_ble_eq_true rfl)) mt_Quarter_fact rfl hc rfl k
          · replace k := k.2 c15
            refine R_ld (v := .inl (rd h (q + 3) v6)) dd_Quarter_lawFor_137 rfl rfl rfl rfl ?_
            refine R_goto dd_Quarter_lawFor_139 rfl ?_
            obtain ⟨s4, k⟩ := k
            refine R_iast (n := 32) dd_Quarter_lawFor_156 (ia_sq hq) (la_sq hq) s4 rfl ?_
            refine R_inc (y := v5 + 1) (ls' := [some (.inr (.inr q)), some (.inl v1), some (.inl v2), some (.inl v3), some (.inl v4), some (.inl (v5 + 1)), some (.inl v6), some (.inl (rd h (q + 3) v6))]) dd_Quarter_lawFor_157 rfl (by decide) (by omega) (by omega) rfl rfl ?_
            exact k
      · replace k := k.2 c13
        refine R_ld (v := .inl v5) dd_Quarter_lawFor_82 rfl rfl rfl rfl ?_
        refine R_if dd_Quarter_lawFor_84 rfl rfl (fun (c16 : v5 ≤ 0) => ?_) (fun (c16 : 0 < v5) => ?_)
        · replace k := k.1 c16
          exact k
        · replace k := k.2 c16
          refine R_ld (v := .inr (.inr q)) dd_Quarter_lawFor_87 rfl rfl rfl rfl ?_
          refine R_gf (v := .inr (.inr (q + 4))) dd_Quarter_lawFor_88 fd_6_31 (io_q hq) (congrArg (fun z : Int => (Sum.inr (Sum.inr z) : LV)) (rq_stk hF hq)) rfl ?_
          refine R_ld (v := .inl v5) dd_Quarter_lawFor_91 rfl rfl rfl rfl ?_
          refine R_ic dd_Quarter_lawFor_93 (by decide) rfl ?_
          refine R_isub (c := v5 - 1) dd_Quarter_lawFor_94 (by omega) (by omega) rfl ?_
          refine R_ld (v := .inr (.inr q)) dd_Quarter_lawFor_95 rfl rfl rfl rfl ?_
          refine R_gf (v := .inr (.inr (q + 4))) dd_Quarter_lawFor_96 fd_6_31 (io_q hq) (congrArg (fun z : Int => (Sum.inr (Sum.inr z) : LV)) (rq_stk hF hq)) rfl ?_
          refine R_ld (v := .inl v5) dd_Quarter_lawFor_99 rfl rfl rfl rfl ?_
          refine R_ic dd_Quarter_lawFor_101 (by decide) rfl ?_
          refine R_isub (c := v5 - 1) dd_Quarter_lawFor_102 (by omega) (by omega) rfl ?_
          obtain ⟨s5, k⟩ := k
          refine R_iald (v := (rd h (q + 4) (v5 - 1))) (n := 32) dd_Quarter_lawFor_103 (ia_sq hq) (la_sq hq) s5 (rfl) rfl ?_
          refine R_if dd_Quarter_lawFor_104 rfl rfl (fun (c17 : (rd h (q + 4) (v5 - 1)) ≠ 0) => ?_) (fun (c17 : (rd h (q + 4) (v5 - 1)) = 0) => ?_)
          · replace k := k.1 c17
            refine R_ic dd_Quarter_lawFor_111 (by decide) rfl ?_
            obtain ⟨s6, k⟩ := k
            refine R_iast (n := 32) dd_Quarter_lawFor_112 (ia_sq hq) (la_sq hq) s6 rfl ?_
            refine R_goto dd_Quarter_lawFor_113 rfl ?_
            exact k
          · replace k := k.2 c17
            refine R_ic dd_Quarter_lawFor_107 (by decide) rfl ?_
            refine R_goto dd_Quarter_lawFor_108 rfl ?_
            obtain ⟨s7, k⟩ := k
            refine R_iast (n := 32) dd_Quarter_lawFor_112 (ia_sq hq) (la_sq hq) s7 rfl ?_
            refine R_goto dd_Quarter_lawFor_113 rfl ?_
            exact k
    · replace k := k.2 c12
      refine R_ld (v := .inl v5) dd_Quarter_lawFor_32 rfl rfl rfl rfl ?_
      refine R_ic dd_Quarter_lawFor_34 (by decide) rfl ?_
      refine R_icmp dd_Quarter_lawFor_35 rfl rfl (fun (c18 : v5 ≤ 1) => ?_) (fun (c18 : 1 < v5) => ?_)
      · replace k := k.1 c18
        exact k
      · replace k := k.2 c18
        refine R_inc (y := v5 - 1) (ls' := [some (.inr (.inr q)), some (.inl v1), some (.inl v2), some (.inl v3), some (.inl v4), some (.inl (v5 - 1)), some (.inl v6), some (.inl (rd h (q + 3) v6))]) dd_Quarter_lawFor_38 rfl (by decide) (by omega) (by omega) rfl rfl ?_
        refine R_ld (v := .inr (.inr q)) dd_Quarter_lawFor_41 rfl rfl rfl rfl ?_
        refine R_gf (v := .inr (.inr (q + 4))) dd_Quarter_lawFor_42 fd_6_31 (io_q hq) (congrArg (fun z : Int => (Sum.inr (Sum.inr z) : LV)) (rq_stk hF hq)) rfl ?_
        refine R_ld (v := .inl (v5 - 1)) dd_Quarter_lawFor_45 rfl rfl rfl rfl ?_
        refine R_ic dd_Quarter_lawFor_47 (by decide) rfl ?_
        refine R_isub (c := v5 - 2) dd_Quarter_lawFor_48 (by omega) (by omega) rfl ?_
        refine R_ld (v := .inl (rd h (q + 3) v6)) dd_Quarter_lawFor_49 rfl rfl rfl rfl ?_
        refine R_ld (v := .inr (.inr q)) dd_Quarter_lawFor_51 rfl rfl rfl rfl ?_
        refine R_gf (v := .inr (.inr (q + 4))) dd_Quarter_lawFor_52 fd_6_31 (io_q hq) (congrArg (fun z : Int => (Sum.inr (Sum.inr z) : LV)) (rq_stk hF hq)) rfl ?_
        refine R_ld (v := .inl (v5 - 1)) dd_Quarter_lawFor_55 rfl rfl rfl rfl ?_
        refine R_ic dd_Quarter_lawFor_57 (by decide) rfl ?_
        refine R_isub (c := v5 - 2) dd_Quarter_lawFor_58 (by omega) (by omega) rfl ?_
        obtain ⟨s8, k⟩ := k
        refine R_iald (v := (rd h (q + 4) (v5 - 2))) (n := 32) dd_Quarter_lawFor_59 (ia_sq hq) (la_sq hq) s8 (rfl) rfl ?_
        refine R_ld (v := .inr (.inr q)) dd_Quarter_lawFor_60 rfl rfl rfl rfl ?_
        refine R_gf (v := .inr (.inr (q + 4))) dd_Quarter_lawFor_61 fd_6_31 (io_q hq) (congrArg (fun z : Int => (Sum.inr (Sum.inr z) : LV)) (rq_stk hF hq)) rfl ?_
        refine R_ld (v := .inl (v5 - 1)) dd_Quarter_lawFor_64 rfl rfl rfl rfl ?_
        obtain ⟨s9, k⟩ := k
        refine R_iald (v := (rd h (q + 4) (v5 - 1))) (n := 32) dd_Quarter_lawFor_66 (ia_sq hq) (la_sq hq) s9 (rfl) rfl ?_
        obtain ⟨c, hc, k⟩ := k
        exact R_call (as := [.inl (rd h (q + 3) v6), .inl (rd h (q + 4) (v5 - 2)), .inl (rd h (q + 4) (v5 - 1))]) (rest := [.inl (v5 - 2), .inr (.inr (q + 4))]) (M' := mm_Quarter_join) (ls0 := [some (.inl (rd h (q + 3) v6)), some (.inl (rd h (q + 4) (v5 - 2))), some (.inl (rd h (q + 4) (v5 - 1)))]) dd_Quarter_lawFor_67 rfl rfl (cw_s cw_6_93 rfl rfl (Nat.le_of_ble_eq_true rfl) (Nat.le_of_ble_eq_true rfl)) mt_Quarter_join rfl hc rfl k
theorem B_Quarter_lawFor_70 {xs : Nat → Int} {xl e : Nat} {h : LH} {Q : Option LV → LH → Prop} {v1 v2 v3 v4 v5 v6 v7 w1 w2 : Int} {q : Int} (hq : q = 5 ∨ q = 32) (hF : RF h)
    (k : (0 ≤ w1 ∧ w1 < 32) ∧
      Rn xs xl e mm_Quarter_lawFor 160 [some (.inr (.inr q)), some (.inl v1), some (.inl v2), some (.inl v3), some (.inl v4), some (.inl v5), some (.inl v6), some (.inl v7)] [] (wr h (q + 4) w1 w2) Q) :
    Rn xs xl e mm_Quarter_lawFor 70 [some (.inr (.inr q)), some (.inl v1), some (.inl v2), some (.inl v3), some (.inl v4), some (.inl v5), some (.inl v6), some (.inl v7)] [.inl w2, .inl w1, .inr (.inr (q + 4))] h Q := by
  obtain ⟨s1, k⟩ := k
  refine R_iast (n := 32) dd_Quarter_lawFor_70 (ia_sq hq) (la_sq hq) s1 rfl ?_
  refine R_goto dd_Quarter_lawFor_71 rfl ?_
  exact k
theorem B_Quarter_lawFor_156 {xs : Nat → Int} {xl e : Nat} {h : LH} {Q : Option LV → LH → Prop} {v1 v2 v3 v4 v5 v6 v7 w1 w2 : Int} {q : Int} (hq : q = 5 ∨ q = 32) (hF : RF h) (r_v5 : 0 ≤ v5 ∧ v5 ≤ 31)
    (k : (0 ≤ w1 ∧ w1 < 32) ∧
      Rn xs xl e mm_Quarter_lawFor 160 [some (.inr (.inr q)), some (.inl v1), some (.inl v2), some (.inl v3), some (.inl v4), some (.inl (v5 + 1)), some (.inl v6), some (.inl v7)] [] (wr h (q + 4) w1 w2) Q) :
    Rn xs xl e mm_Quarter_lawFor 156 [some (.inr (.inr q)), some (.inl v1), some (.inl v2), some (.inl v3), some (.inl v4), some (.inl v5), some (.inl v6), some (.inl v7)] [.inl w2, .inl w1, .inr (.inr (q + 4))] h Q := by
  obtain ⟨s1, k⟩ := k
  refine R_iast (n := 32) dd_Quarter_lawFor_156 (ia_sq hq) (la_sq hq) s1 rfl ?_
  refine R_inc (y := v5 + 1) (ls' := [some (.inr (.inr q)), some (.inl v1), some (.inl v2), some (.inl v3), some (.inl v4), some (.inl (v5 + 1)), some (.inl v6), some (.inl v7)]) dd_Quarter_lawFor_157 rfl (by decide) (by omega) (by omega) rfl rfl ?_
  exact k
theorem B_Quarter_lawFor_160 {xs : Nat → Int} {xl e : Nat} {h : LH} {Q : Option LV → LH → Prop} {v1 v2 v3 v4 v5 v6 v7 : Int} {q : Int} (hq : q = 5 ∨ q = 32) (hF : RF h) (r_v6 : 0 ≤ v6 ∧ v6 ≤ 999)
    (k : Rn xs xl e mm_Quarter_lawFor 6 [some (.inr (.inr q)), some (.inl v1), some (.inl v2), some (.inl v3), some (.inl v4), some (.inl v5), some (.inl (v6 + 1)), some (.inl v7)] [] h Q) :
    Rn xs xl e mm_Quarter_lawFor 160 [some (.inr (.inr q)), some (.inl v1), some (.inl v2), some (.inl v3), some (.inl v4), some (.inl v5), some (.inl v6), some (.inl v7)] [] h Q := by
  refine R_inc (y := v6 + 1) (ls' := [some (.inr (.inr q)), some (.inl v1), some (.inl v2), some (.inl v3), some (.inl v4), some (.inl v5), some (.inl (v6 + 1)), some (.inl v7)]) dd_Quarter_lawFor_160 rfl (by decide) (by omega) (by omega) rfl rfl ?_
  refine R_goto dd_Quarter_lawFor_163 rfl ?_
  exact k
theorem B_Quarter_lawFor_166 {xs : Nat → Int} {xl e : Nat} {h : LH} {Q : Option LV → LH → Prop} {v1 v2 v3 v4 v5 v6 : Int} {q : Int} (hq : q = 5 ∨ q = 32) {o7 : Option LV} (hF : RF h)
    (k : (v5 ≤ 0 →
        Q (some (.inl 1)) h) ∧
      (0 < v5 →
        Q (some (.inl (rd h (q + 4) 0))) h)) :
    Rn xs xl e mm_Quarter_lawFor 166 [some (.inr (.inr q)), some (.inl v1), some (.inl v2), some (.inl v3), some (.inl v4), some (.inl v5), some (.inl v6), o7] [] h Q := by
  refine R_ld (v := .inl v5) dd_Quarter_lawFor_166 rfl rfl rfl rfl ?_
  refine R_if dd_Quarter_lawFor_168 rfl rfl (fun (c1 : v5 ≤ 0) => ?_) (fun (c1 : 0 < v5) => ?_)
  · replace k := k.1 c1
    refine R_ic dd_Quarter_lawFor_180 (by decide) rfl ?_
    exact R_iret dd_Quarter_lawFor_181 rfl k
  · replace k := k.2 c1
    refine R_ld (v := .inr (.inr q)) dd_Quarter_lawFor_171 rfl rfl rfl rfl ?_
    refine R_gf (v := .inr (.inr (q + 4))) dd_Quarter_lawFor_172 fd_6_31 (io_q hq) (congrArg (fun z : Int => (Sum.inr (Sum.inr z) : LV)) (rq_stk hF hq)) rfl ?_
    refine R_ic dd_Quarter_lawFor_175 (by decide) rfl ?_
    refine R_iald (v := (rd h (q + 4) 0)) (n := 32) dd_Quarter_lawFor_176 (ia_sq hq) (la_sq hq) (by decide) (rfl) rfl ?_
    refine R_goto dd_Quarter_lawFor_177 rfl ?_
    exact R_iret dd_Quarter_lawFor_181 rfl k
end
section
/-! the law's worth, part q5: the text's codes are one expression, and how high its values pile up -/
/-- heights: fits below B; the height at the end -/
def hOk (B : Int) : List Int → Int → Prop
  | [], _ => True
  | c :: L, k => if 10004 < c then 2 ≤ k ∧ hOk B L (k - 1) else if c = 10004 then 1 ≤ k ∧ hOk B L k else k < B ∧ hOk B L (k + 1)
def hEnd : List Int → Int → Int
  | [], k => k
  | c :: L, k => if 10004 < c then hEnd L (k - 1) else if c = 10004 then hEnd L k else hEnd L (k + 1)
theorem hEnd_app : ∀ (L M : List Int) (k : Int), hEnd (L ++ M) k = hEnd M (hEnd L k)
  | [], _, _ => rfl
  | c :: L, M, k => by
    show (if 10004 < c then hEnd (L ++ M) (k - 1) else if c = 10004 then hEnd (L ++ M) k else hEnd (L ++ M) (k + 1)) = hEnd M (if 10004 < c then hEnd L (k - 1) else if c = 10004 then hEnd L k else hEnd L (k + 1))
    split
    · exact hEnd_app L M _
    · split
      · exact hEnd_app L M _
      · exact hEnd_app L M _
theorem hOk_app {B : Int} : ∀ (L M : List Int) (k : Int), hOk B L k → hOk B M (hEnd L k) → hOk B (L ++ M) k
  | [], _, _, _, h => h
  | c :: L, M, k, h1, h2 => by
    have h1' : if 10004 < c then 2 ≤ k ∧ hOk B L (k - 1) else if c = 10004 then 1 ≤ k ∧ hOk B L k else k < B ∧ hOk B L (k + 1) := h1
    have h2' : hOk B M (if 10004 < c then hEnd L (k - 1) else if c = 10004 then hEnd L k else hEnd L (k + 1)) := h2
    show if 10004 < c then 2 ≤ k ∧ hOk B (L ++ M) (k - 1) else if c = 10004 then 1 ≤ k ∧ hOk B (L ++ M) k else k < B ∧ hOk B (L ++ M) (k + 1)
    by_cases c1 : 10004 < c
    · rw [if_pos c1] at h1' h2' ⊢
      exact ⟨h1'.1, hOk_app L M _ h1'.2 h2'⟩
    · rw [if_neg c1] at h1' h2' ⊢
      by_cases c2 : c = 10004
      · rw [if_pos c2] at h1' h2' ⊢
        exact ⟨h1'.1, hOk_app L M _ h1'.2 h2'⟩
      · rw [if_neg c2] at h1' h2' ⊢
        exact ⟨h1'.1, hOk_app L M _ h1'.2 h2'⟩
/-- a code that the text can give -/
def cdR (c : Int) : Prop := (0 ≤ c ∧ c ≤ 9999) ∨ (10000 ≤ c ∧ c ≤ 10011)
/-- M is one expression that needs d places -/
def one (d : Int) (M : List Int) : Prop := (∀ k, hEnd M k = k + 1) ∧ (∀ B k, 0 ≤ k → k + d ≤ B → hOk B M k) ∧ ∀ c ∈ M, cdR c
theorem one_mono {d d' : Int} {M : List Int} (h : one d M) (hd : d ≤ d') : one d' M := ⟨h.1, fun B k h0 h1 => h.2.1 B k h0 (by omega), h.2.2⟩
theorem one_1 {c d : Int} (hd : 1 ≤ d) (hc : c < 10004) (hr : cdR c) : one d [c] := by
  refine ⟨fun k => ?_, fun B k h0 h1 => ?_, fun x hx => ?_⟩
  · show (if 10004 < c then k - 1 else if c = 10004 then k else k + 1) = k + 1
    rw [if_neg (by omega), if_neg (by omega)]
  · show if 10004 < c then 2 ≤ k ∧ True else if c = 10004 then 1 ≤ k ∧ True else k < B ∧ True
    rw [if_neg (by omega), if_neg (by omega)]
    exact ⟨by omega, trivial⟩
  · rw [List.mem_singleton] at hx
    rw [hx]; exact hr
theorem one_not {d : Int} {M : List Int} (h : one d M) : one d (M ++ [10004]) := by
  obtain ⟨h1, h2, h3⟩ := h
  refine ⟨fun k => ?_, fun B k h0 hb => ?_, fun x hx => ?_⟩
  · rw [hEnd_app, h1]; rfl
  · refine hOk_app _ _ _ (h2 B k h0 hb) ?_
    rw [h1]
    exact ⟨by omega, trivial⟩
  · rw [List.mem_append, List.mem_singleton] at hx
    rcases hx with hx | hx
    · exact h3 x hx
    · rw [hx]; unfold cdR; omega
theorem one_bin {d : Int} {c : Int} {M M' : List Int} (h : one (d + 1) M) (h' : one d M') (hd : 1 ≤ d) (hc : 10004 < c ∧ c ≤ 10011) : one (d + 1) (M ++ M' ++ [c]) := by
  obtain ⟨h1, h2, h3⟩ := h
  obtain ⟨g1, g2, g3⟩ := h'
  refine ⟨fun k => ?_, fun B k h0 hb => ?_, fun x hx => ?_⟩
  · rw [hEnd_app, hEnd_app, h1, g1]
    show (if 10004 < c then k + 1 + 1 - 1 else if c = 10004 then k + 1 + 1 else k + 1 + 1 + 1) = k + 1
    rw [if_pos hc.1]; omega
  · refine hOk_app _ _ _ (hOk_app _ _ _ (h2 B k h0 hb) ?_) ?_
    · rw [h1]; exact g2 B (k + 1) (by omega) (by omega)
    · rw [hEnd_app, h1, g1]
      show if 10004 < c then 2 ≤ k + 1 + 1 ∧ True else if c = 10004 then 1 ≤ k + 1 + 1 ∧ True else k + 1 + 1 < B ∧ True
      rw [if_pos hc.1]
      exact ⟨by omega, trivial⟩
  · rw [List.mem_append, List.mem_append, List.mem_singleton] at hx
    rcases hx with (hx | hx) | hx
    · exact h3 x hx
    · exact g3 x hx
    · rw [hx]; unfold cdR; omega
section QL5
variable {o v w p : Nat → Int}
/-- P appends one expression that needs d places -/
def apE (d : Int) (P : (Int × Nat) × List Int → (Int × Nat) × List Int) : Prop := ∀ x, (P x).1.1 = 0 → x.1.1 = 0 ∧ ∃ M, (P x).2 = x.2 ++ M ∧ one d M
theorem exO_in {lv k : Nat} (h : exO o v w lv k ≠ -1) : 10004 < exO o v w lv k ∧ exO o v w lv k ≤ 10011 := by
  unfold exO at h ⊢
  split
  · next c0 =>
    rw [if_pos c0] at h
    split
    · omega
    · next c1 =>
      rw [if_neg c1] at h
      split
      · omega
      · next c2 => rw [if_neg c2] at h; exact absurd rfl h
  · next c0 =>
    rw [if_neg c0] at h
    split
    · next d0 =>
      rw [if_pos d0] at h
      split
      · omega
      · next c1 =>
        rw [if_neg c1] at h
        split
        · omega
        · next c2 => rw [if_neg c2] at h; exact absurd rfl h
    · next d0 =>
      rw [if_neg d0] at h
      split
      · next e0 =>
        rw [if_pos e0] at h
        split
        · omega
        · next c1 =>
          rw [if_neg c1] at h
          split
          · omega
          · next c2 => rw [if_neg c2] at h; exact absurd rfl h
      · next e0 =>
        rw [if_neg e0] at h
        split
        · omega
        · next c1 => rw [if_neg c1] at h; exact absurd rfl h
theorem exL_ap {d : Int} {f : (Int × Nat) × List Int → (Int × Nat) × List Int} (hd : 1 ≤ d) (hf : apE d f) {lv : Nat} : ∀ (m : Nat) (x : (Int × Nat) × List Int) (K M : List Int), x.2 = K ++ M → one (d + 1) M → (exL o v w f lv m x).1.1 = 0 → ∃ M', (exL o v w f lv m x).2 = K ++ M' ∧ one (d + 1) M'
  | 0, x, K, M, e, h, _ => ⟨M, e, h⟩
  | m + 1, x, K, M, e, h, hz => by
    unfold exL at hz ⊢
    by_cases c : x.1.1 = 0 ∧ exO o v w lv x.1.2 ≠ -1
    · rw [if_pos c] at hz ⊢
      have z1 := exL_z _ _ hz
      have z2 : (f (tkA x.1, x.2)).1.1 = 0 := z1
      obtain ⟨-, M1, e1, o1⟩ := hf _ z2
      refine exL_ap hd hf m _ K (M ++ M1 ++ [exO o v w lv x.1.2]) ?_ (one_bin h o1 hd (exO_in c.2)) hz
      show (f (tkA x.1, x.2)).2 ++ [exO o v w lv x.1.2] = K ++ (M ++ M1 ++ [exO o v w lv x.1.2])
      rw [e1]
      show x.2 ++ M1 ++ [exO o v w lv x.1.2] = K ++ (M ++ M1 ++ [exO o v w lv x.1.2])
      rw [e]
      simp only [List.append_assoc]
    · rw [if_neg c] at hz ⊢
      exact ⟨M, e, h⟩
theorem exX_ap {d : Int} {P : (Int × Nat) × List Int → (Int × Nat) × List Int} (hd : 1 ≤ d) (hP : apE d P) : ∀ j : Nat, apE (d + j) (exX o v w P j)
  | 0 => by
    intro x hx
    obtain ⟨a, M, b, c⟩ := hP x hx
    exact ⟨a, M, b, one_mono c (by omega)⟩
  | j + 1 => by
    intro x hx
    have ih := exX_ap hd hP j
    have hx' : (exL o v w (exX o v w P j) (3 - j) (if j = 2 then 1 else 1000) (exX o v w P j x)).1.1 = 0 := hx
    obtain ⟨a, M, b, c⟩ := ih x (exL_z _ _ hx')
    obtain ⟨M', b', c'⟩ := exL_ap (by omega) ih _ _ x.2 M b (one_mono c (by omega)) hx'
    exact ⟨a, M', b', one_mono c' (by omega)⟩
theorem exP_ap (hp : ∀ k, 0 ≤ p k) (hv : ∀ k, o k = 2 → 0 ≤ v k ∧ v k ≤ 9999) (hw : ∀ k, w k ≤ 28) : ∀ r : Nat, apE (4 * (r : Int) + 1) (exP o v w p r)
  | 0 => by
    intro x q
    exfalso
    unfold exP at q
    have q' : (if exK o v w x.1.2 = true then tkE p 5 x.1 else tkE p 1 x.1).1 = 0 := q
    split at q'
    · exact tkE_p hp (by decide) q'
    · exact tkE_p hp (by decide) q'
  | r + 1 => by
    intro x q
    have ih := exP_ap hp hv hw r
    unfold exP at q ⊢
    by_cases c1 : o x.1.2 = 2
    · rw [if_pos c1] at q ⊢
      have := hv _ c1
      exact ⟨tkA_z q, [v x.1.2], rfl, one_1 (by omega) (by omega) (Or.inl this)⟩
    · rw [if_neg c1] at q ⊢
      by_cases c2 : 25 ≤ w x.1.2
      · rw [if_pos c2] at q ⊢
        have := hw x.1.2
        exact ⟨tkA_z q, [w x.1.2 + 9975], rfl, one_1 (by omega) (by omega) (Or.inr (by omega))⟩
      · rw [if_neg c2] at q ⊢
        by_cases c3 : o x.1.2 = 3 ∧ v x.1.2 = 40
        · rw [if_pos c3] at q ⊢
          obtain ⟨a, M, b, c⟩ := exX_ap (o := o) (v := v) (w := w) (by omega) ih 4 (tkA x.1, x.2) (tkS_z q)
          exact ⟨tkA_z a, M, b, one_mono c (by omega)⟩
        · rw [if_neg c3] at q ⊢
          by_cases c4 : w x.1.2 = 22
          · rw [if_pos c4] at q ⊢
            obtain ⟨a, M, b, c⟩ := ih (tkA x.1, x.2) q
            refine ⟨tkA_z a, M ++ [10004], ?_, one_mono (one_not c) (by omega)⟩
            show (exP o v w p r (tkA x.1, x.2)).2 ++ [10004] = x.2 ++ (M ++ [10004])
            rw [b]
            show x.2 ++ M ++ [10004] = x.2 ++ (M ++ [10004])
            rw [List.append_assoc]
          · rw [if_neg c4] at q
            exact absurd q (tkE_p hp (by decide))
/-- a law's text without a fault is one expression -/
theorem qX_one (hp : ∀ k, 0 ≤ p k) (hv : ∀ k, o k = 2 → 0 ≤ v k ∧ v k ≤ 9999) (hw : ∀ k, w k ≤ 28) {s : Int × Nat} (q : (qX o v w p s).1.1 = 0) : one 25 (qX o v w p s).2 := by
  obtain ⟨-, M, b, c⟩ := exX_ap (o := o) (v := v) (w := w) (by omega) (exP_ap hp hv hw 5) 4 (tkA s, []) q
  have b' : (qX o v w p s).2 = M := b
  rw [b']
  exact one_mono c (by decide)
end QL5
end
section
/-! the law's worth, part q6: what the codes are worth; the class's lawFor answers it -/
def jn (c a b : Int) : Int := if c = 10005 then (if a ≠ 0 ∧ b ≠ 0 then 1 else 0) else if c = 10006 then (if a ≠ 0 ∨ b ≠ 0 then 1 else 0) else if c = 10007 then (if a < b then 1 else 0) else if c = 10008 then (if a = b then 1 else 0) else if c = 10009 then w32 (a + b) else if c = 10010 then w32 (a - b) else w32 (a * b)
/-- one code: height, values -/
def evC (f : Int → Int) (c : Int) (s : Int × (Int → Int)) : Int × (Int → Int) :=
  if 10004 < c then (s.1 - 1, fun i => if i = s.1 - 2 then jn c (s.2 (s.1 - 2)) (s.2 (s.1 - 1)) else s.2 i)
  else if c = 10004 then (s.1, fun i => if i = s.1 - 1 then (if s.2 (s.1 - 1) = 0 then 1 else 0) else s.2 i)
  else (s.1 + 1, fun i => if i = s.1 then (if c < 10000 then c else f (c - 10000)) else s.2 i)
def evN (f : Int → Int) (L : List Int) : Nat → Int × (Int → Int)
  | 0 => (0, fun _ => 0)
  | m + 1 => evC f (L.getD m 0) (evN f L m)
/-- what the law is worth -/
def lawW (f : Int → Int) (L : List Int) : Int := if L.length = 0 then 1 else (evN f L L.length).2 0
/-- the four facts -/
def fcs (hour sort cost room : Int) (i : Int) : Int := if i = 0 then hour else if i = 1 then sort else if i = 2 then cost else room
theorem evC_1 {f : Int → Int} {c : Int} {s : Int × (Int → Int)} : (evC f c s).1 = if 10004 < c then s.1 - 1 else if c = 10004 then s.1 else s.1 + 1 := by
  unfold evC
  split
  · rfl
  · split <;> rfl
theorem hEnd_step {c k : Int} : hEnd [c] k = if 10004 < c then k - 1 else if c = 10004 then k else k + 1 := rfl
theorem evN_h {f : Int → Int} {L : List Int} : ∀ m : Nat, m ≤ L.length → (evN f L m).1 = hEnd (L.take m) 0
  | 0, _ => by rw [List.take_zero]; rfl
  | m + 1, h => by
    have ih := evN_h (f := f) (L := L) m (by omega)
    have et : L.take (m + 1) = L.take m ++ [L.getD m 0] := by
      rw [List.take_succ, List.getD_eq_getElem?_getD, List.getElem?_eq_getElem (by omega)]
      rfl
    rw [et, hEnd_app, hEnd_step, ← ih]
    exact evC_1
/-- what the heights say of each code -/
theorem hOk_at {B : Int} : ∀ (L : List Int) (k : Int), hOk B L k → ∀ m : Nat, m < L.length → (10004 < L.getD m 0 → 2 ≤ hEnd (L.take m) k) ∧ (L.getD m 0 = 10004 → 1 ≤ hEnd (L.take m) k) ∧ (L.getD m 0 < 10004 → hEnd (L.take m) k < B)
  | [], _, _, m, hm => absurd hm (Nat.not_lt_zero m)
  | c :: L, k, h, m, hm => by
    have h' : if 10004 < c then 2 ≤ k ∧ hOk B L (k - 1) else if c = 10004 then 1 ≤ k ∧ hOk B L k else k < B ∧ hOk B L (k + 1) := h
    cases m with
    | zero =>
      have e : (c :: L).getD 0 0 = c := rfl
      have e2 : hEnd ((c :: L).take 0) k = k := rfl
      rw [e, e2]
      refine ⟨fun z => ?_, fun z => ?_, fun z => ?_⟩
      · rw [if_pos z] at h'; exact h'.1
      · rw [if_neg (by omega), if_pos z] at h'; exact h'.1
      · rw [if_neg (by omega), if_neg (by omega)] at h'; exact h'.1
    | succ m =>
      have e : (c :: L).getD (m + 1) 0 = L.getD m 0 := rfl
      have hm' : m < L.length := by
        have : (c :: L).length = L.length + 1 := rfl
        omega
      have e2 : hEnd ((c :: L).take (m + 1)) k = if 10004 < c then hEnd (L.take m) (k - 1) else if c = 10004 then hEnd (L.take m) k else hEnd (L.take m) (k + 1) := rfl
      rw [e, e2]
      by_cases c1 : 10004 < c
      · rw [if_pos c1] at h' ⊢
        exact hOk_at L _ h'.2 m hm'
      · rw [if_neg c1] at h' ⊢
        by_cases c2 : c = 10004
        · rw [if_pos c2] at h' ⊢
          exact hOk_at L _ h'.2 m hm'
        · rw [if_neg c2] at h' ⊢
          exact hOk_at L _ h'.2 m hm'
theorem hEnd_in {B : Int} : ∀ (L : List Int) (k : Int), hOk B L k → 0 ≤ k → k ≤ B → ∀ m : Nat, m ≤ L.length → 0 ≤ hEnd (L.take m) k ∧ hEnd (L.take m) k ≤ B
  | [], k, _, h0, h1, m, _ => by rw [List.take_nil]; exact ⟨h0, h1⟩
  | c :: L, k, h, h0, h1, m, hm => by
    have h' : if 10004 < c then 2 ≤ k ∧ hOk B L (k - 1) else if c = 10004 then 1 ≤ k ∧ hOk B L k else k < B ∧ hOk B L (k + 1) := h
    cases m with
    | zero => exact ⟨h0, h1⟩
    | succ m =>
      have hm' : m ≤ L.length := by
        have : (c :: L).length = L.length + 1 := rfl
        omega
      have e2 : hEnd ((c :: L).take (m + 1)) k = if 10004 < c then hEnd (L.take m) (k - 1) else if c = 10004 then hEnd (L.take m) k else hEnd (L.take m) (k + 1) := rfl
      rw [e2]
      by_cases c1 : 10004 < c
      · rw [if_pos c1] at h' ⊢
        exact hEnd_in L _ h'.2 (by omega) (by omega) m hm'
      · rw [if_neg c1] at h' ⊢
        by_cases c2 : c = 10004
        · rw [if_pos c2] at h' ⊢
          exact hEnd_in L _ h'.2 h0 h1 m hm'
        · rw [if_neg c2] at h' ⊢
          exact hEnd_in L _ h'.2 (by omega) (by omega) m hm'
section QM6
variable {xs : Nat → Int} {xl e : Nat} {h : LH} {Q : Option LV → LH → Prop} {v0 v1 v2 v3 v4 q : Int} {L : List Int}
theorem F_join (hF : RF h) (hc : 10004 < v0 ∧ v0 ≤ 10011) (k : Q (some (.inl (jn v0 v1 v2))) h) : Rn xs xl e mm_Quarter_join 0 [some (.inl v0), some (.inl v1), some (.inl v2)] [] h Q := by
  unfold jn at k
  refine B_Quarter_join_0 hF ⟨fun c => ?_, fun c => ?_, fun c => ?_, fun c => ?_, fun c => ?_, fun c => ?_, fun c => ?_⟩
  · rw [if_pos c] at k
    exact ⟨fun a => by rw [if_neg (fun z => z.1 a)] at k; exact k, fun a => ⟨fun b => by rw [if_neg (fun z => z.2 b)] at k; exact k, fun b => by rw [if_pos ⟨a, b⟩] at k; exact k⟩⟩
  · rw [if_neg (by omega), if_pos c] at k
    exact ⟨fun a => by rw [if_pos (Or.inl a)] at k; exact k, fun a => ⟨fun b => by rw [if_neg (fun z => z.elim (fun z => z a) (fun z => z b))] at k; exact k, fun b => by rw [if_pos (Or.inr b)] at k; exact k⟩⟩
  · rw [if_neg (by omega), if_neg (by omega), if_pos c] at k
    exact ⟨fun a => by rw [if_neg (by omega)] at k; exact k, fun a => by rw [if_pos a] at k; exact k⟩
  · rw [if_neg (by omega), if_neg (by omega), if_neg (by omega), if_pos c] at k
    exact ⟨fun a => by rw [if_neg a] at k; exact k, fun a => by rw [if_pos a] at k; exact k⟩
  · rw [if_neg (by omega), if_neg (by omega), if_neg (by omega), if_neg (by omega), if_pos c] at k
    exact k
  · rw [if_neg (by omega), if_neg (by omega), if_neg (by omega), if_neg (by omega), if_neg (by omega), if_pos c] at k
    exact k
  · rw [if_neg (by omega), if_neg (by omega), if_neg (by omega), if_neg (by omega), if_neg (by omega), if_neg (by omega)] at k
    exact k
theorem F_fact (hF : RF h) (k : Q (some (.inl (fcs v1 v2 v3 v4 v0))) h) : Rn xs xl e mm_Quarter_fact 0 [some (.inl v0), some (.inl v1), some (.inl v2), some (.inl v3), some (.inl v4)] [] h Q := by
  unfold fcs at k
  refine B_Quarter_fact_0 hF ⟨fun c => ?_, fun c => ?_, fun c => ?_, fun c => ?_⟩
  · rw [if_pos c] at k; exact k
  · rw [if_neg (by omega), if_pos c] at k; exact k
  · rw [if_neg (by omega), if_neg (by omega), if_pos c] at k; exact k
  · rw [if_neg (by omega), if_neg (by omega), if_neg (by omega)] at k; exact k
theorem hav_stk (hq : q = 5 ∨ q = 32) (i : Int) : (hav (q + 4) i).1 ≠ 2 := by
  rcases hq with rfl | rfl
  · exact hav_nr (by decide +kernel) i
  · exact hav_nr (by decide +kernel) i
theorem F_lawFor (he : 1 ≤ e) (hq : q = 5 ∨ q = 32) (hF : RF h) (hl : rd h q 6 = (L.length : Int)) (hc : ∀ i : Nat, i < L.length → rd h (q + 3) i = L.getD i 0) (h3 : L.length ≤ 1000) (hO : hOk 32 L 0) (hE : 0 < L.length → hEnd L 0 = 1) (hr : ∀ c ∈ L, cdR c)
    (k : ∀ h', RF h' → (∀ a i, a ≠ q + 4 → rd h' a i = rd h a i) → Q (some (.inl (lawW (fcs v1 v2 v3 v4) L))) h') : Rn xs xl e mm_Quarter_lawFor 0 [some (.inr (.inr q)), some (.inl v1), some (.inl v2), some (.inl v3), some (.inl v4), none, none, none] [] h Q := by
  have cin : ∀ i : Nat, i < L.length → cdR (L.getD i 0) := fun i hi => hr _ (by
    rw [List.getD_eq_getElem?_getD, List.getElem?_eq_getElem hi]
    exact List.getElem_mem hi)
  have loop : ∀ (d m : Nat) (g : LH) (o7 : Option LV), L.length - m ≤ d → m ≤ L.length → RF g → (∀ a i, a ≠ q + 4 → rd g a i = rd h a i) → (∀ i, 0 ≤ i → i < (evN (fcs v1 v2 v3 v4) L m).1 → rd g (q + 4) i = (evN (fcs v1 v2 v3 v4) L m).2 i) → Rn xs xl e mm_Quarter_lawFor 6 [some (.inr (.inr q)), some (.inl v1), some (.inl v2), some (.inl v3), some (.inl v4), some (.inl (evN (fcs v1 v2 v3 v4) L m).1), some (.inl (m : Int)), o7] [] g Q := by
    intro d
    induction d with
    | zero =>
      intro m g o7 hd hm gF gf gs
      have em : m = L.length := by omega
      subst em
      have hb := hEnd_in L 0 hO (by decide) (by decide) L.length (Nat.le_refl _)
      have eh := evN_h (f := fcs v1 v2 v3 v4) (L := L) L.length (Nat.le_refl _)
      rw [← eh] at hb
      have el : rd g q 6 = (L.length : Int) := (gf _ _ (by omega)).trans hl
      refine B_Quarter_lawFor_6 hq gF hb (by omega) ⟨fun _ => ?_, fun c => by omega⟩
      have K := k g gF gf
      unfold lawW at K
      refine B_Quarter_lawFor_166 hq gF ⟨fun c => ?_, fun c => ?_⟩
      · by_cases z : L.length = 0
        · rw [if_pos z] at K; exact K
        · have := hE (by omega)
          rw [List.take_length] at eh
          omega
      · by_cases z : L.length = 0
        · rw [z] at c
          exact absurd c (by show ¬ (0:Int) < 0; decide)
        · rw [if_neg z] at K
          rw [gs 0 (by decide) c]
          exact K
    | succ d ih =>
      intro m g o7 hd hm gF gf gs
      rcases Nat.lt_or_ge m L.length with lt | ge
      · have hb := hEnd_in L 0 hO (by decide) (by decide) m (by omega)
        have ha := hOk_at L 0 hO m lt
        have eh := evN_h (f := fcs v1 v2 v3 v4) (L := L) m (by omega)
        rw [← eh] at hb ha
        have el : rd g q 6 = (L.length : Int) := (gf _ _ (by omega)).trans hl
        have ec : rd g (q + 3) (m : Int) = L.getD m 0 := (gf _ _ (by omega)).trans (hc m lt)
        have cr := cin m lt
        have nxt : ∀ (g1 : LH), RF g1 → (∀ a i, a ≠ q + 4 → rd g1 a i = rd h a i) → (∀ i, 0 ≤ i → i < (evC (fcs v1 v2 v3 v4) (L.getD m 0) (evN (fcs v1 v2 v3 v4) L m)).1 → rd g1 (q + 4) i = (evC (fcs v1 v2 v3 v4) (L.getD m 0) (evN (fcs v1 v2 v3 v4) L m)).2 i) → ∀ v5, v5 = (evC (fcs v1 v2 v3 v4) (L.getD m 0) (evN (fcs v1 v2 v3 v4) L m)).1 → Rn xs xl e mm_Quarter_lawFor 160 [some (.inr (.inr q)), some (.inl v1), some (.inl v2), some (.inl v3), some (.inl v4), some (.inl v5), some (.inl (m : Int)), some (.inl (L.getD m 0))] [] g1 Q := by
          intro g1 g1F g1f g1s v5 e5
          subst e5
          have := ih (m + 1) g1 (some (.inl (L.getD m 0))) (by omega) (by omega) g1F g1f g1s
          rw [show ((m + 1 : Nat) : Int) = (m : Int) + 1 by omega] at this
          exact B_Quarter_lawFor_160 hq g1F (by omega) this
        have fw : ∀ j x, ∀ a i, a ≠ q + 4 → rd (wr g (q + 4) j x) a i = rd h a i := fun j x a i hn => (rdw_ne (fun z => hn z.symm)).trans (gf a i hn)
        refine B_Quarter_lawFor_6 hq gF hb (by omega) ⟨fun c => by omega, fun _ => ⟨by omega, ?_⟩⟩
        rw [ec]
        generalize evN (fcs v1 v2 v3 v4) L m = S at hb ha gs nxt
        generalize L.getD m 0 = c at ha cr nxt
        obtain ⟨kk, X⟩ := S
        unfold cdR at cr
        refine ⟨fun c1 => ⟨fun c2 => ⟨fun c3 => ?_, fun c3 => ⟨fun c4 => ⟨by omega, 0, by omega, F_fact gF (B_Quarter_lawFor_156 hq gF (by omega) ⟨by omega, ?_⟩)⟩, fun c4 => ⟨by omega, ?_⟩⟩⟩, fun c2 => ⟨fun c3 => ?_, fun c3 => ⟨by omega, fun c4 => ⟨by omega, ?_⟩, fun c4 => ⟨by omega, ?_⟩⟩⟩⟩, fun c1 => ⟨fun c2 => ?_, fun c2 => ⟨by omega, by omega, 0, by omega, F_join gF (by omega) (B_Quarter_lawFor_70 hq gF ⟨by omega, ?_⟩)⟩⟩⟩
        · have := ha.2.2 (by omega)
          have t : kk < 32 := this
          have t2 : 32 ≤ kk := c3
          omega
        · refine nxt _ (RF_wn (hav_stk hq _) gF) (fw _ _) ?_ _ ?_
          · unfold evC
            rw [if_neg (by omega), if_neg (by omega)]
            intro i i0 i1
            have i1' : i < kk + 1 := i1
            show rd (wr g (q + 4) kk _) (q + 4) i = if i = kk then (if c < 10000 then c else _) else X i
            by_cases z : i = kk
            · rw [if_pos z, z, rdw_eq, if_neg (by omega)]
            · rw [if_neg z, rdw_nei (fun y => z y.symm)]
              exact gs i i0 (by show i < kk; omega)
          · rw [evC_1, if_neg (by omega), if_neg (by omega)]
        · refine nxt _ (RF_wn (hav_stk hq _) gF) (fw _ _) ?_ _ ?_
          · unfold evC
            rw [if_neg (by omega), if_neg (by omega)]
            intro i i0 i1
            have i1' : i < kk + 1 := i1
            show rd (wr g (q + 4) kk _) (q + 4) i = if i = kk then (if c < 10000 then c else _) else X i
            by_cases z : i = kk
            · rw [if_pos z, z, rdw_eq, if_pos (by omega)]
            · rw [if_neg z, rdw_nei (fun y => z y.symm)]
              exact gs i i0 (by show i < kk; omega)
          · rw [evC_1, if_neg (by omega), if_neg (by omega)]
        · have t : 1 ≤ kk := ha.2.1 c2
          have t2 : kk ≤ 0 := c3
          omega
        · have t : 1 ≤ kk := ha.2.1 c2
          have gk := gs (kk - 1) (by omega) (by show kk - 1 < kk; omega)
          refine nxt _ (RF_wn (hav_stk hq _) gF) (fw _ _) ?_ _ ?_
          · unfold evC
            rw [if_neg (by omega), if_pos c2]
            intro i i0 i1
            have i1' : i < kk := i1
            show rd (wr g (q + 4) (kk - 1) 0) (q + 4) i = if i = kk - 1 then (if X (kk - 1) = 0 then 1 else 0) else X i
            by_cases z : i = kk - 1
            · rw [if_pos z, z, rdw_eq, if_neg (fun y => c4 (gk.trans y))]
            · rw [if_neg z, rdw_nei (fun y => z y.symm)]
              exact gs i i0 i1
          · rw [evC_1, if_neg (by omega), if_pos c2]
        · have t : 1 ≤ kk := ha.2.1 c2
          have gk := gs (kk - 1) (by omega) (by show kk - 1 < kk; omega)
          refine nxt _ (RF_wn (hav_stk hq _) gF) (fw _ _) ?_ _ ?_
          · unfold evC
            rw [if_neg (by omega), if_pos c2]
            intro i i0 i1
            have i1' : i < kk := i1
            show rd (wr g (q + 4) (kk - 1) 1) (q + 4) i = if i = kk - 1 then (if X (kk - 1) = 0 then 1 else 0) else X i
            by_cases z : i = kk - 1
            · rw [if_pos z, z, rdw_eq, if_pos (gk.symm.trans c4)]
            · rw [if_neg z, rdw_nei (fun y => z y.symm)]
              exact gs i i0 i1
          · rw [evC_1, if_neg (by omega), if_pos c2]
        · have t : 2 ≤ kk := ha.1 c1
          have t2 : kk ≤ 1 := c2
          omega
        · have t : 2 ≤ kk := ha.1 c1
          have g1 := gs (kk - 1) (by omega) (by show kk - 1 < kk; omega)
          have g2 := gs (kk - 2) (by omega) (by show kk - 2 < kk; omega)
          refine nxt _ (RF_wn (hav_stk hq _) gF) (fw _ _) ?_ _ ?_
          · unfold evC
            rw [if_pos c1]
            intro i i0 i1
            have i1' : i < kk - 1 := i1
            show rd (wr g (q + 4) (kk - 2) (jn c (rd g (q + 4) (kk - 2)) (rd g (q + 4) (kk - 1)))) (q + 4) i = if i = kk - 2 then jn c (X (kk - 2)) (X (kk - 1)) else X i
            by_cases z : i = kk - 2
            · rw [if_pos z, z, rdw_eq, g1, g2]
            · rw [if_neg z, rdw_nei (fun y => z y.symm)]
              exact gs i i0 (by show i < kk; omega)
          · rw [evC_1, if_pos c1]
      · exact ih m g o7 (by omega) hm gF gf gs
  exact B_Quarter_lawFor_0 hq hF (loop L.length 0 h none (by omega) (by omega) hF (fun _ _ _ => rfl) (fun i i0 i1 => absurd i1 (by show ¬ i < 0; omega)))
end QM6
end
section
/-! the law's worth, part q7: the reference's worthAt answers it -/
theorem jn_both {c a b : Int} (h : 10004 < c ∧ c ≤ 10011) : bothF (cdO c) a b = jn c a b := by
  unfold bothF jn cdO
  have e : c = 10005 ∨ c = 10006 ∨ c = 10007 ∨ c = 10008 ∨ c = 10009 ∨ c = 10010 ∨ c = 10011 := by omega
  rcases e with rfl | rfl | rfl | rfl | rfl | rfl | rfl <;> rfl
theorem cdO_2 {c : Int} (h : 10004 < c ∧ c ≤ 10011) : cdO c ≠ 0 ∧ cdO c ≠ 1 ∧ cdO c ≠ 2 ∧ cdO c ≠ 3 := by
  have e : c = 10005 ∨ c = 10006 ∨ c = 10007 ∨ c = 10008 ∨ c = 10009 ∨ c = 10010 ∨ c = 10011 := by omega
  unfold cdO
  rcases e with rfl | rfl | rfl | rfl | rfl | rfl | rfl <;> decide
theorem hav_197 (i : Int) : (hav 197 i).1 ≠ 2 := hav_nr (by decide +kernel) i
section QM7
variable {xs : Nat → Int} {xl e : Nat} {h : LH} {Q : Option LV → LH → Prop} {L : List Int} {f : Int → Int}
theorem G_worthAt (he : 1 ≤ e) (hF : RF h) (hz : rd h 189 (L.length : Int) = 0) (hc : ∀ i : Nat, i < L.length → rd h 189 i = cdO (L.getD i 0) ∧ rd h 190 i = cdA (L.getD i 0)) (hf : ∀ j, 0 ≤ j → j ≤ 3 → rd h 196 j = f j) (h3 : L.length ≤ 1000) (h0 : 0 < L.length) (hO : hOk 32 L 0) (hE : hEnd L 0 = 1) (hr : ∀ c ∈ L, cdR c)
    (k : ∀ h', RF h' → (∀ a i, a ≠ 197 → rd h' a i = rd h a i) → Q (some (.inl (lawW f L))) h') : Rn xs xl e mm_worthAt 0 [some (.inr (.inr 182)), some (.inl 0), none, none, none] [] h Q := by
  have cin : ∀ i : Nat, i < L.length → cdR (L.getD i 0) := fun i hi => hr _ (by
    rw [List.getD_eq_getElem?_getD, List.getElem?_eq_getElem hi]
    exact List.getElem_mem hi)
  have loop : ∀ (d m : Nat) (g : LH) (o4 : Option LV), L.length - m ≤ d → m ≤ L.length → RF g → (∀ a i, a ≠ 197 → rd g a i = rd h a i) → (∀ i, 0 ≤ i → i < (evN f L m).1 → rd g 197 i = (evN f L m).2 i) → Rn xs xl e mm_worthAt 4 [some (.inr (.inr 182)), some (.inl 0), some (.inl (evN f L m).1), some (.inl (m : Int)), o4] [] g Q := by
    intro d
    induction d with
    | zero =>
      intro m g o4 hd hm gF gf gs
      have em : m = L.length := by omega
      subst em
      have eh := evN_h (f := f) (L := L) L.length (Nat.le_refl _)
      rw [List.take_length, hE] at eh
      have el : rd g 189 (L.length : Int) = 0 := (gf _ _ (by decide)).trans hz
      have K := k g gF gf
      unfold lawW at K
      rw [if_neg (by omega)] at K
      refine B_worthAt_4 gF ⟨by omega, fun _ => ?_, fun c => absurd el c⟩
      rw [gs 0 (by decide) (by omega)]
      exact K
    | succ d ih =>
      intro m g o4 hd hm gF gf gs
      rcases Nat.lt_or_ge m L.length with lt | ge
      · have hb := hEnd_in L 0 hO (by decide) (by decide) m (by omega)
        have ha := hOk_at L 0 hO m lt
        have eh := evN_h (f := f) (L := L) m (by omega)
        rw [← eh] at hb ha
        have eo : rd g 189 (m : Int) = cdO (L.getD m 0) := (gf _ _ (by decide)).trans (hc m lt).1
        have ea : rd g 190 (m : Int) = cdA (L.getD m 0) := (gf _ _ (by decide)).trans (hc m lt).2
        have cr := cin m lt
        have nxt : ∀ (g1 : LH) (o : Option LV), RF g1 → (∀ a i, a ≠ 197 → rd g1 a i = rd h a i) → (∀ i, 0 ≤ i → i < (evC f (L.getD m 0) (evN f L m)).1 → rd g1 197 i = (evC f (L.getD m 0) (evN f L m)).2 i) → ∀ v2, v2 = (evC f (L.getD m 0) (evN f L m)).1 → Rn xs xl e mm_worthAt 4 [some (.inr (.inr 182)), some (.inl 0), some (.inl v2), some (.inl ((m : Int) + 1)), o] [] g1 Q := by
          intro g1 o g1F g1f g1s v2 e2
          subst e2
          have := ih (m + 1) g1 o (by omega) (by omega) g1F g1f g1s
          rw [show ((m + 1 : Nat) : Int) = (m : Int) + 1 by omega] at this
          exact this
        have fw : ∀ j x, ∀ a i, a ≠ 197 → rd (wr g 197 j x) a i = rd h a i := fun j x a i hn => (rdw_ne (fun z => hn z.symm)).trans (gf a i hn)
        have ff : ∀ j, 0 ≤ j → j ≤ 3 → rd g 196 j = f j := fun j j0 j1 => (gf _ _ (by decide)).trans (hf j j0 j1)
        have mb : (m : Int) < 1000 := by omega
        have mb0 : (0 : Int) ≤ (m : Int) := by omega
        generalize evN f L m = S at hb ha gs nxt
        generalize L.getD m 0 = c at ha cr nxt eo ea
        generalize (m : Int) = mi at *
        clear ih hc cin
        obtain ⟨kk, X⟩ := S
        have hb1 : 0 ≤ kk := hb.1
        have hb2 : kk ≤ 32 := hb.2
        unfold cdR at cr
        have push : ∀ w, c < 10004 → w = (if c < 10000 then c else f (c - 10000)) → ∀ o, Rn xs xl e mm_worthAt 4 [some (.inr (.inr 182)), some (.inl 0), some (.inl (kk + 1)), some (.inl (mi + 1)), o] [] (wr g 197 kk w) Q := by
          intro w c4 hw o
          refine nxt _ _ (RF_wn (hav_197 _) gF) (fw _ _) ?_ _ ?_
          · unfold evC
            rw [if_neg (by omega), if_neg (by omega)]
            intro i i0 i1
            have i1' : i < kk + 1 := i1
            show rd (wr g 197 kk w) 197 i = if i = kk then (if c < 10000 then c else f (c - 10000)) else X i
            by_cases z : i = kk
            · rw [if_pos z, z, rdw_eq, hw]
            · rw [if_neg z, rdw_nei (fun y => z y.symm)]
              exact gs i i0 (by show i < kk; omega)
          · rw [evC_1, if_neg (by omega), if_neg (by omega)]
        rcases (by omega : c < 10000 ∨ (10000 ≤ c ∧ c < 10004) ∨ c = 10004 ∨ 10004 < c) with z | z | z | z
        · have o1 : rd g 189 mi = 1 := by rw [eo]; unfold cdO; rw [if_pos z]
          have a1 : rd g 190 mi = c := by rw [ea]; unfold cdA; rw [if_pos z]
          have t : kk < 32 := ha.2.2 (by omega)
          have P := push c (by omega) (by rw [if_pos z]) (some (.inl (rd g 189 mi)))
          rw [← a1] at P
          exact B_worthAt_4 gF ⟨by omega, fun q => by omega, fun _ => ⟨by omega, fun _ => ⟨fun q => absurd o1 q, fun _ => ⟨by omega, by omega, by omega, by omega, P⟩⟩, fun q => absurd o1 q⟩⟩
        · have o1 : rd g 189 mi = 2 := by rw [eo]; unfold cdO; rw [if_neg (by omega), if_pos z.2]
          have a1 : rd g 190 mi = c - 10000 := by rw [ea]; unfold cdA; rw [if_neg (by omega), if_pos z.2]
          have t : kk < 32 := ha.2.2 z.2
          have P := push (f (c - 10000)) (by omega) (by rw [if_neg (by omega)]) (some (.inl (rd g 189 mi)))
          rw [← ff (c - 10000) (by omega) (by omega), ← a1] at P
          exact B_worthAt_4 gF ⟨by omega, fun q => by omega, fun _ => ⟨by omega, fun q => by omega, fun _ => ⟨fun q => absurd o1 q, fun _ => ⟨fun _ => ⟨by omega, by omega, by omega, by omega, by omega, P⟩, fun q => by omega⟩⟩⟩⟩
        · have o1 : rd g 189 mi = 3 := by rw [eo, z]; decide
          have t : 1 ≤ kk := ha.2.1 z
          have gk := gs (kk - 1) (by omega) (by show kk - 1 < kk; omega)
          have P : ∀ w, w = (if X (kk - 1) = 0 then 1 else 0) → ∀ o, Rn xs xl e mm_worthAt 4 [some (.inr (.inr 182)), some (.inl 0), some (.inl kk), some (.inl (mi + 1)), o] [] (wr g 197 (kk - 1) w) Q := by
            intro w hw o
            refine nxt _ _ (RF_wn (hav_197 _) gF) (fw _ _) ?_ _ ?_
            · unfold evC
              rw [if_neg (by omega), if_pos z]
              intro i i0 i1
              have i1' : i < kk := i1
              show rd (wr g 197 (kk - 1) w) 197 i = if i = kk - 1 then (if X (kk - 1) = 0 then 1 else 0) else X i
              by_cases y : i = kk - 1
              · rw [if_pos y, y, rdw_eq, hw]
              · rw [if_neg y, rdw_nei (fun q => y q.symm)]
                exact gs i i0 i1
            · rw [evC_1, if_neg (by omega), if_pos z]
          exact B_worthAt_4 gF ⟨by omega, fun q => by omega, fun _ => ⟨by omega, fun q => by omega, fun _ => ⟨fun _ => ⟨fun q => absurd o1 q, fun _ => ⟨by omega, by omega, by omega, fun q => ⟨by omega, by omega, P 0 (by rw [if_neg (fun y => q (gk.trans y))]) _⟩, fun q => ⟨by omega, by omega, P 1 (by rw [if_pos (gk.symm.trans q)]) _⟩⟩⟩, fun q => by omega⟩⟩⟩
        · have c2 : 10004 < c ∧ c ≤ 10011 := by omega
          have o1 := cdO_2 c2
          rw [← eo] at o1
          have t : 2 ≤ kk := ha.1 z
          have g1 := gs (kk - 1) (by omega) (by show kk - 1 < kk; omega)
          have g2 := gs (kk - 2) (by omega) (by show kk - 2 < kk; omega)
          refine B_worthAt_4 gF ⟨by omega, fun q => absurd q o1.1, fun _ => ⟨by omega, fun q => absurd q o1.2.1, fun _ => ⟨fun _ => ⟨fun _ => ⟨by omega, by omega, by omega, by omega, by omega, 0, by omega, D_both gF ?_⟩, fun q => absurd q o1.2.2.2⟩, fun q => absurd q o1.2.2.1⟩⟩⟩
          refine B_worthAt_133 gF ⟨by omega, by omega, ?_⟩
          rw [eo, jn_both c2]
          refine nxt _ _ (RF_wn (hav_197 _) gF) (fw _ _) ?_ _ ?_
          · unfold evC
            rw [if_pos z]
            intro i i0 i1
            have i1' : i < kk - 1 := i1
            show rd (wr g 197 (kk - 2) (jn c (rd g 197 (kk - 2)) (rd g 197 (kk - 1)))) 197 i = if i = kk - 2 then jn c (X (kk - 2)) (X (kk - 1)) else X i
            by_cases y : i = kk - 2
            · rw [if_pos y, y, rdw_eq, g1, g2]
            · rw [if_neg y, rdw_nei (fun q => y q.symm)]
              exact gs i i0 (by show i < kk; omega)
          · rw [evC_1, if_pos z]
      · exact ih m g o4 (by omega) hm gF gf gs
  exact B_worthAt_0 hF (loop L.length 0 h none (by omega) (by omega) hF (fun _ _ _ => rfl) (fun i i0 i1 => absurd i1 (by show ¬ i < 0; omega)))
end QM7
end
