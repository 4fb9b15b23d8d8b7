/-! LM, by program (wip/p2/hand.py): rows of errand -/
def mm_errand : LM_M := (⟨"OneSidedModel", "errand", "(II)I"⟩, prog_14_method_76_code, 4, (some .int), 12, 3, 0, 1665, 1663, 1664)
theorem dd_errand_0 : decode mm_errand.2.1 0 = .ok (.aload_n 0, 1) := by decide +kernel
theorem dd_errand_1 : decode mm_errand.2.1 1 = .ok (.iconst 0, 1) := by decide +kernel
theorem dd_errand_2 : decode mm_errand.2.1 2 = .ok (.putfield 1, 3) := by decide +kernel
theorem dd_errand_5 : decode mm_errand.2.1 5 = .ok (.aload_n 0, 1) := by decide +kernel
theorem dd_errand_6 : decode mm_errand.2.1 6 = .ok (.iload_n 1, 1) := by decide +kernel
theorem dd_errand_7 : decode mm_errand.2.1 7 = .ok (.invokevirtual 367, 3) := by decide +kernel
theorem dd_errand_10 : decode mm_errand.2.1 10 = .ok (.ifCond .eq (17), 3) := by decide +kernel
theorem dd_errand_27 : decode mm_errand.2.1 27 = .ok (.iconst (-1), 1) := by decide +kernel
theorem dd_errand_28 : decode mm_errand.2.1 28 = .ok (.istore_n 3, 1) := by decide +kernel
theorem dd_errand_29 : decode mm_errand.2.1 29 = .ok (.iload_n 3, 1) := by decide +kernel
theorem dd_errand_30 : decode mm_errand.2.1 30 = .ok (.ifCond .lt (11), 3) := by decide +kernel
theorem dd_errand_41 : decode mm_errand.2.1 41 = .ok (.bipush (-2), 2) := by decide +kernel
theorem dd_errand_43 : decode mm_errand.2.1 43 = .ok (.ireturn, 1) := by decide +kernel
theorem dd_errand_13 : decode mm_errand.2.1 13 = .ok (.iload_n 2, 1) := by decide +kernel
theorem dd_errand_14 : decode mm_errand.2.1 14 = .ok (.iconst (-1), 1) := by decide +kernel
theorem dd_errand_15 : decode mm_errand.2.1 15 = .ok (.if_icmp .lt (12), 3) := by decide +kernel
theorem dd_errand_18 : decode mm_errand.2.1 18 = .ok (.aload_n 0, 1) := by decide +kernel
theorem dd_errand_19 : decode mm_errand.2.1 19 = .ok (.iconst 0, 1) := by decide +kernel
theorem dd_errand_20 : decode mm_errand.2.1 20 = .ok (.iload_n 1, 1) := by decide +kernel
theorem dd_errand_21 : decode mm_errand.2.1 21 = .ok (.invokevirtual 416, 3) := by decide +kernel
theorem dd_errand_24 : decode mm_errand.2.1 24 = .ok (.goto 4, 3) := by decide +kernel
theorem dd_errand_33 : decode mm_errand.2.1 33 = .ok (.iload_n 2, 1) := by decide +kernel
theorem dd_errand_34 : decode mm_errand.2.1 34 = .ok (.aload_n 0, 1) := by decide +kernel
theorem dd_errand_35 : decode mm_errand.2.1 35 = .ok (.getfield 400, 3) := by decide +kernel
theorem dd_errand_38 : decode mm_errand.2.1 38 = .ok (.if_icmp .le (6), 3) := by decide +kernel
theorem dd_errand_44 : decode mm_errand.2.1 44 = .ok (.iload_n 2, 1) := by decide +kernel
theorem dd_errand_45 : decode mm_errand.2.1 45 = .ok (.ifCond .ge (7), 3) := by decide +kernel
theorem dd_errand_52 : decode mm_errand.2.1 52 = .ok (.iload_n 2, 1) := by decide +kernel
theorem dd_errand_53 : decode mm_errand.2.1 53 = .ok (.ifCond .ne (21), 3) := by decide +kernel
theorem dd_errand_74 : decode mm_errand.2.1 74 = .ok (.aload_n 0, 1) := by decide +kernel
theorem dd_errand_75 : decode mm_errand.2.1 75 = .ok (.getfield 144, 3) := by decide +kernel
theorem dd_errand_78 : decode mm_errand.2.1 78 = .ok (.iload_n 2, 1) := by decide +kernel
theorem dd_errand_79 : decode mm_errand.2.1 79 = .ok (.iconst 1, 1) := by decide +kernel
theorem dd_errand_80 : decode mm_errand.2.1 80 = .ok (.isub, 1) := by decide +kernel
theorem dd_errand_81 : decode mm_errand.2.1 81 = .ok (.iaload, 1) := by decide +kernel
theorem dd_errand_82 : decode mm_errand.2.1 82 = .ok (.ireturn, 1) := by decide +kernel
theorem dd_errand_56 : decode mm_errand.2.1 56 = .ok (.iload_n 3, 1) := by decide +kernel
theorem dd_errand_57 : decode mm_errand.2.1 57 = .ok (.aload_n 0, 1) := by decide +kernel
theorem dd_errand_58 : decode mm_errand.2.1 58 = .ok (.iload_n 1, 1) := by decide +kernel
theorem dd_errand_59 : decode mm_errand.2.1 59 = .ok (.iconst 3, 1) := by decide +kernel
theorem dd_errand_60 : decode mm_errand.2.1 60 = .ok (.invokevirtual 325, 3) := by decide +kernel
theorem dd_errand_63 : decode mm_errand.2.1 63 = .ok (.if_icmp .gt (7), 3) := by decide +kernel
theorem dd_errand_70 : decode mm_errand.2.1 70 = .ok (.iconst 0, 1) := by decide +kernel
theorem dd_errand_71 : decode mm_errand.2.1 71 = .ok (.goto 11, 3) := by decide +kernel
theorem dd_errand_66 : decode mm_errand.2.1 66 = .ok (.iconst 1, 1) := by decide +kernel
theorem dd_errand_67 : decode mm_errand.2.1 67 = .ok (.goto 15, 3) := by decide +kernel
theorem dd_errand_48 : decode mm_errand.2.1 48 = .ok (.iload_n 3, 1) := by decide +kernel
theorem dd_errand_49 : decode mm_errand.2.1 49 = .ok (.goto 33, 3) := by decide +kernel
theorem B_errand_0 {xs : Nat → Int} {xl e : Nat} {h : LH} {Q : Option LV → LH → Prop} {v1 v2 : Int} (hF : RF h) (he : 2 ≤ e)
    (k : (v1 < 0 →
        Q (some (.inl (-2))) (wr h 182 0 0)) ∧
      (0 ≤ v1 →
        ((rd h 188 2) ≤ v1 →
          Q (some (.inl (-2))) (wr h 182 0 0)) ∧
        (v1 < (rd h 188 2) →
          (v2 < (-1) →
            Q (some (.inl (-2))) (wr h 182 0 0)) ∧
          ((-1) ≤ v2 →
            (∃ c, c < e ∧ Rn xs xl c mm_findWay 0 [some (.inr (.inr 182)), some (.inl 0), some (.inl v1), none, none, none, none, none] [] (wr h 182 0 0) (fun r h' => Rn xs xl e mm_errand 24 [some (.inr (.inr 182)), some (.inl v1), some (.inl v2), none] (r.toList ++ []) h' Q)))))) :
    Rn xs xl e mm_errand 0 [some (.inr (.inr 182)), some (.inl v1), some (.inl v2), none] [] h Q := by
  refine R_ld (v := .inr (.inr 182)) dd_errand_0 rfl rfl rfl rfl ?_
  refine R_ic dd_errand_1 (by decide) rfl ?_
  refine R_pf (z := 0) dd_errand_2 fd_12_1 io_182 fn_12_0 rfl rfl ?_
  refine R_ld (v := .inr (.inr 182)) dd_errand_5 rfl rfl rfl rfl ?_
  refine R_ld (v := .inl v1) dd_errand_6 rfl rfl rfl rfl ?_
  refine R_call (as := [.inr (.inr 182), .inl v1]) (rest := []) (M' := mm_isPerson) (ls0 := [some (.inr (.inr 182)), some (.inl v1)]) dd_errand_7 rfl rfl (cw_v cw_12_367 io_182 rfl rfl (Nat.le_of_ble_eq_true rfl) (Nat.le_of_ble_eq_true rfl)) mt_isPerson rfl (c := e - 1) (by omega) rfl ?_
  refine R_ld (v := .inl v1) dd_isPerson_0 rfl rfl rfl rfl ?_
  refine R_if dd_isPerson_1 rfl rfl (fun (c2 : v1 < 0) => ?_) (fun (c2 : 0 ≤ v1) => ?_)
  · replace k := k.1 c2
    refine R_ic dd_isPerson_16 (by decide) rfl ?_
    refine R_zret dd_isPerson_17 rfl (by decide) ?_
    change Rn xs xl e mm_errand 10 [some (.inr (.inr 182)), some (.inl v1), some (.inl v2), none] [.inl 0] (wr h 182 0 0) _
    refine R_if dd_errand_10 rfl rfl (fun (c3 : 0 = 0) => ?_) (fun (c3 : 0 ≠ 0) => ?_)
    · skip
      refine R_ic dd_errand_27 (by decide) rfl ?_
      refine R_st (ls' := [some (.inr (.inr 182)), some (.inl v1), some (.inl v2), some (.inl (-1))]) dd_errand_28 rfl rfl rfl (Nat.le_of_ble_eq_true rfl) rfl rfl ?_
      refine R_ld (v := .inl (-1)) dd_errand_29 rfl rfl rfl rfl ?_
      refine R_if dd_errand_30 rfl rfl (fun (c4 : (-1) < 0) => ?_) (fun (c4 : 0 ≤ (-1)) => ?_)
      · skip
        refine R_bi dd_errand_41 (by decide) rfl ?_
        exact R_iret dd_errand_43 rfl k
      · exact absurd c4 (by omega)
    · exact absurd c3 (by omega)
  · replace k := k.2 c2
    refine R_ld (v := .inl v1) dd_isPerson_4 rfl rfl rfl rfl ?_
    refine R_ld (v := .inr (.inr 182)) dd_isPerson_5 rfl rfl rfl rfl ?_
    refine R_call (as := [.inr (.inr 182)]) (rest := [.inl v1]) (M' := mm_people) (ls0 := [some (.inr (.inr 182))]) dd_isPerson_6 rfl rfl (cw_v cw_12_338 io_182 rfl rfl (Nat.le_of_ble_eq_true rfl) (Nat.le_of_ble_eq_true rfl)) mt_people rfl (c := e - 2) (by omega) rfl ?_
    refine R_ld (v := .inr (.inr 182)) dd_people_0 rfl rfl rfl rfl ?_
    refine R_gf (v := .inr (.inr 188)) dd_people_1 fd_12_95 io_182 (congrArg (fun z : Int => (Sum.inr (Sum.inr z) : LV)) ((rdw_nei (by omega)).trans (rf_182_10 hF))) rfl ?_
    refine R_ic dd_people_4 (by decide) rfl ?_
    refine R_iald (v := (rd h 188 2)) (n := 300) dd_people_5 ia_188 la_188 (by decide) (rdw_ne (by decide)) rfl ?_
    refine R_iret dd_people_6 rfl ?_
    change Rn xs xl (e - 1) mm_isPerson 9 [some (.inr (.inr 182)), some (.inl v1)] [.inl (rd h 188 2), .inl v1] (wr h 182 0 0) _
    refine R_icmp dd_isPerson_9 rfl rfl (fun (c5 : (rd h 188 2) ≤ v1) => ?_) (fun (c5 : v1 < (rd h 188 2)) => ?_)
    · replace k := k.1 c5
      refine R_ic dd_isPerson_16 (by decide) rfl ?_
      refine R_zret dd_isPerson_17 rfl (by decide) ?_
      change Rn xs xl e mm_errand 10 [some (.inr (.inr 182)), some (.inl v1), some (.inl v2), none] [.inl 0] (wr h 182 0 0) _
      refine R_if dd_errand_10 rfl rfl (fun (c6 : 0 = 0) => ?_) (fun (c6 : 0 ≠ 0) => ?_)
      · skip
        refine R_ic dd_errand_27 (by decide) rfl ?_
        refine R_st (ls' := [some (.inr (.inr 182)), some (.inl v1), some (.inl v2), some (.inl (-1))]) dd_errand_28 rfl rfl rfl (Nat.le_of_ble_eq_true rfl) rfl rfl ?_
        refine R_ld (v := .inl (-1)) dd_errand_29 rfl rfl rfl rfl ?_
        refine R_if dd_errand_30 rfl rfl (fun (c7 : (-1) < 0) => ?_) (fun (c7 : 0 ≤ (-1)) => ?_)
        · skip
          refine R_bi dd_errand_41 (by decide) rfl ?_
          exact R_iret dd_errand_43 rfl k
        · exact absurd c7 (by omega)
      · exact absurd c6 (by omega)
    · replace k := k.2 c5
      refine R_ic dd_isPerson_12 (by decide) rfl ?_
      refine R_goto dd_isPerson_13 rfl ?_
      refine R_zret dd_isPerson_17 rfl (by decide) ?_
      change Rn xs xl e mm_errand 10 [some (.inr (.inr 182)), some (.inl v1), some (.inl v2), none] [.inl 1] (wr h 182 0 0) _
      refine R_if dd_errand_10 rfl rfl (fun (c8 : 1 = 0) => ?_) (fun (c8 : 1 ≠ 0) => ?_)
      · exact absurd c8 (by omega)
      · skip
        refine R_ld (v := .inl v2) dd_errand_13 rfl rfl rfl rfl ?_
        refine R_ic dd_errand_14 (by decide) rfl ?_
        refine R_icmp dd_errand_15 rfl rfl (fun (c9 : v2 < (-1)) => ?_) (fun (c9 : (-1) ≤ v2) => ?_)
        · replace k := k.1 c9
          refine R_ic dd_errand_27 (by decide) rfl ?_
          refine R_st (ls' := [some (.inr (.inr 182)), some (.inl v1), some (.inl v2), some (.inl (-1))]) dd_errand_28 rfl rfl rfl (Nat.le_of_ble_eq_true rfl) rfl rfl ?_
          refine R_ld (v := .inl (-1)) dd_errand_29 rfl rfl rfl rfl ?_
          refine R_if dd_errand_30 rfl rfl (fun (c10 : (-1) < 0) => ?_) (fun (c10 : 0 ≤ (-1)) => ?_)
          · skip
            refine R_bi dd_errand_41 (by decide) rfl ?_
            exact R_iret dd_errand_43 rfl k
          · exact absurd c10 (by omega)
        · replace k := k.2 c9
          refine R_ld (v := .inr (.inr 182)) dd_errand_18 rfl rfl rfl rfl ?_
          refine R_ic dd_errand_19 (by decide) rfl ?_
          refine R_ld (v := .inl v1) dd_errand_20 rfl rfl rfl rfl ?_
          obtain ⟨c, hc, k⟩ := k
          exact R_call (as := [.inr (.inr 182), .inl 0, .inl v1]) (rest := []) (M' := mm_findWay) (ls0 := [some (.inr (.inr 182)), some (.inl 0), some (.inl v1), none, none, none, none, none]) dd_errand_21 rfl rfl (cw_v cw_12_416 io_182 rfl rfl (Nat.le_of_ble_eq_true rfl) (Nat.le_of_ble_eq_true rfl)) mt_findWay rfl hc rfl k
theorem B_errand_24 {xs : Nat → Int} {xl e : Nat} {h : LH} {Q : Option LV → LH → Prop} {v1 v2 w0 : Int} (hF : RF h) (he : 1 ≤ e)
    (k : (w0 < 0 →
        Q (some (.inl (-2))) h) ∧
      (0 ≤ w0 →
        (v2 ≤ (rd h 182 34) →
          (0 ≤ v2 →
            (v2 ≠ 0 →
              (-2147483648 ≤ v2 - 1 ∧ v2 - 1 ≤ 2147483647) ∧
              (0 ≤ v2 - 1 ∧ v2 - 1 < 30) ∧
              Q (some (.inl (rd h 202 (v2 - 1)))) h) ∧
            (v2 = 0 →
              (-2147483648 ≤ 4 * v1 ∧ 4 * v1 ≤ 2147483647) ∧
              (-2147483648 ≤ 4 * v1 + 116 ∧ 4 * v1 + 116 ≤ 2147483647) ∧
              (-2147483648 ≤ 4 * v1 + 119 ∧ 4 * v1 + 119 ≤ 2147483647) ∧
              (0 ≤ 4 * v1 + 119 ∧ 4 * v1 + 119 < 300) ∧
              ((rd h 188 (4 * v1 + 119)) < w0 →
                Q (some (.inl 0)) h) ∧
              (w0 ≤ (rd h 188 (4 * v1 + 119)) →
                Q (some (.inl 1)) h))) ∧
          (v2 < 0 →
            Q (some (.inl w0)) h)) ∧
        ((rd h 182 34) < v2 →
          Q (some (.inl (-2))) h))) :
    Rn xs xl e mm_errand 24 [some (.inr (.inr 182)), some (.inl v1), some (.inl v2), none] [.inl w0] h Q := by
  refine R_goto dd_errand_24 rfl ?_
  refine R_st (ls' := [some (.inr (.inr 182)), some (.inl v1), some (.inl v2), some (.inl w0)]) dd_errand_28 rfl rfl rfl (Nat.le_of_ble_eq_true rfl) rfl rfl ?_
  refine R_ld (v := .inl w0) dd_errand_29 rfl rfl rfl rfl ?_
  refine R_if dd_errand_30 rfl rfl (fun (c7 : w0 < 0) => ?_) (fun (c7 : 0 ≤ w0) => ?_)
  · replace k := k.1 c7
    refine R_bi dd_errand_41 (by decide) rfl ?_
    exact R_iret dd_errand_43 rfl k
  · replace k := k.2 c7
    refine R_ld (v := .inl v2) dd_errand_33 rfl rfl rfl rfl ?_
    refine R_ld (v := .inr (.inr 182)) dd_errand_34 rfl rfl rfl rfl ?_
    refine R_gf (v := .inl (rd h 182 34)) dd_errand_35 fd_12_400 io_182 (congrArg (fun z : Int => (Sum.inl z : LV)) (rfl)) rfl ?_
    refine R_icmp dd_errand_38 rfl rfl (fun (c8 : v2 ≤ (rd h 182 34)) => ?_) (fun (c8 : (rd h 182 34) < v2) => ?_)
    · replace k := k.1 c8
      refine R_ld (v := .inl v2) dd_errand_44 rfl rfl rfl rfl ?_
      refine R_if dd_errand_45 rfl rfl (fun (c9 : 0 ≤ v2) => ?_) (fun (c9 : v2 < 0) => ?_)
      · replace k := k.1 c9
        refine R_ld (v := .inl v2) dd_errand_52 rfl rfl rfl rfl ?_
        refine R_if dd_errand_53 rfl rfl (fun (c10 : v2 ≠ 0) => ?_) (fun (c10 : v2 = 0) => ?_)
        · replace k := k.1 c10
          refine R_ld (v := .inr (.inr 182)) dd_errand_74 rfl rfl rfl rfl ?_
          refine R_gf (v := .inr (.inr 202)) dd_errand_75 fd_12_144 io_182 (congrArg (fun z : Int => (Sum.inr (Sum.inr z) : LV)) (rf_182_33 hF)) rfl ?_
          refine R_ld (v := .inl v2) dd_errand_78 rfl rfl rfl rfl ?_
          refine R_ic dd_errand_79 (by decide) rfl ?_
          obtain ⟨s1, k⟩ := k
          refine R_isub (c := v2 - 1) dd_errand_80 (by omega) s1 rfl ?_
          obtain ⟨s2, k⟩ := k
          refine R_iald (v := (rd h 202 (v2 - 1))) (n := 30) dd_errand_81 ia_202 la_202 s2 (rfl) rfl ?_
          exact R_iret dd_errand_82 rfl k
        · replace k := k.2 c10
          refine R_ld (v := .inl w0) dd_errand_56 rfl rfl rfl rfl ?_
          refine R_ld (v := .inr (.inr 182)) dd_errand_57 rfl rfl rfl rfl ?_
          refine R_ld (v := .inl v1) dd_errand_58 rfl rfl rfl rfl ?_
          refine R_ic dd_errand_59 (by decide) rfl ?_
          refine R_call (as := [.inr (.inr 182), .inl v1, .inl 3]) (rest := [.inl w0]) (M' := mm_personOf) (ls0 := [some (.inr (.inr 182)), some (.inl v1), some (.inl 3)]) dd_errand_60 rfl rfl (cw_v cw_12_325 io_182 rfl rfl (Nat.le_of_ble_eq_true rfl) (Nat.le_of_ble_eq_true rfl)) mt_personOf rfl (c := e - 1) (by omega) rfl ?_
          refine R_ld (v := .inr (.inr 182)) dd_personOf_0 rfl rfl rfl rfl ?_
          refine R_gf (v := .inr (.inr 188)) dd_personOf_1 fd_12_95 io_182 (congrArg (fun z : Int => (Sum.inr (Sum.inr z) : LV)) (rf_182_10 hF)) rfl ?_
          refine R_bi dd_personOf_4 (by decide) rfl ?_
          refine R_ic dd_personOf_6 (by decide) rfl ?_
          refine R_ld (v := .inl v1) dd_personOf_7 rfl rfl rfl rfl ?_
          obtain ⟨s3, k⟩ := k
          refine R_imul (c := 4 * v1) dd_personOf_8 (by omega) s3 rfl ?_
          obtain ⟨s4, k⟩ := k
          refine R_iadd (c := 4 * v1 + 116) dd_personOf_9 (by omega) s4 rfl ?_
          refine R_ld (v := .inl 3) dd_personOf_10 rfl rfl rfl rfl ?_
          obtain ⟨s5, k⟩ := k
          refine R_iadd (c := 4 * v1 + 119) dd_personOf_11 (by omega) s5 rfl ?_
          obtain ⟨s6, k⟩ := k
          refine R_iald (v := (rd h 188 (4 * v1 + 119))) (n := 300) dd_personOf_12 ia_188 la_188 s6 (rfl) rfl ?_
          refine R_iret dd_personOf_13 rfl ?_
          change Rn xs xl e mm_errand 63 [some (.inr (.inr 182)), some (.inl v1), some (.inl v2), some (.inl w0)] [.inl (rd h 188 (4 * v1 + 119)), .inl w0] h _
          refine R_icmp dd_errand_63 rfl rfl (fun (c11 : (rd h 188 (4 * v1 + 119)) < w0) => ?_) (fun (c11 : w0 ≤ (rd h 188 (4 * v1 + 119))) => ?_)
          · replace k := k.1 c11
            refine R_ic dd_errand_70 (by decide) rfl ?_
            refine R_goto dd_errand_71 rfl ?_
            exact R_iret dd_errand_82 rfl k
          · replace k := k.2 c11
            refine R_ic dd_errand_66 (by decide) rfl ?_
            refine R_goto dd_errand_67 rfl ?_
            exact R_iret dd_errand_82 rfl k
      · replace k := k.2 c9
        refine R_ld (v := .inl w0) dd_errand_48 rfl rfl rfl rfl ?_
        refine R_goto dd_errand_49 rfl ?_
        exact R_iret dd_errand_82 rfl k
    · replace k := k.2 c8
      refine R_bi dd_errand_41 (by decide) rfl ?_
      exact R_iret dd_errand_43 rfl k
