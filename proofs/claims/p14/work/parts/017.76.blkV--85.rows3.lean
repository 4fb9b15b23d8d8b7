section
/-! LM, by program (wip/p2/hand.py): rows of errand -/
def mm_errand : LM_M := (⟨"OneSidedModel", "errand", "(II)I"⟩, prog_14_method_76_code, 4, (some .int), 12, 3, 0, 1665, 1663, 1664)
theorem dd_errand_0 : decode mm_errand.2.1 0 = .ok (.aload_n 0, 1) := by decide +kernel
theorem dd_errand_1 : decode mm_errand.2.1 1 = .ok (.iconst 0, 1) := by decide +kernel
theorem dd_errand_2 : decode mm_errand.2.1 2 = .ok (.putfield 1, 3) := by decide +kernel
theorem dd_errand_5 : decode mm_errand.2.1 5 = .ok (.aload_n 0, 1) := by decide +kernel
theorem dd_errand_6 : decode mm_errand.2.1 6 = .ok (.iload_n 1, 1) := by decide +kernel
theorem dd_errand_7 : decode mm_errand.2.1 7 = .ok (.invokevirtual 367, 3) := by decide +kernel
theorem dd_errand_10 : decode mm_errand.2.1 10 = .ok (.ifCond .eq (17), 3) := by decide +kernel
theorem dd_errand_27 : decode mm_errand.2.1 27 = .ok (.iconst (-1), 1) := by decide +kernel
theorem dd_errand_28 : decode mm_errand.2.1 28 = .ok (.istore_n 3, 1) := by decide +kernel
theorem dd_errand_29 : decode mm_errand.2.1 29 = .ok (.iload_n 3, 1) := by decide +kernel
theorem dd_errand_30 : decode mm_errand.2.1 30 = .ok (.ifCond .lt (11), 3) := by decide +kernel
theorem dd_errand_41 : decode mm_errand.2.1 41 = .ok (.bipush (-2), 2) := by decide +kernel
theorem dd_errand_43 : decode mm_errand.2.1 43 = .ok (.ireturn, 1) := by decide +kernel
theorem dd_errand_13 : decode mm_errand.2.1 13 = .ok (.iload_n 2, 1) := by decide +kernel
theorem dd_errand_14 : decode mm_errand.2.1 14 = .ok (.iconst (-1), 1) := by decide +kernel
theorem dd_errand_15 : decode mm_errand.2.1 15 = .ok (.if_icmp .lt (12), 3) := by decide +kernel
theorem dd_errand_18 : decode mm_errand.2.1 18 = .ok (.aload_n 0, 1) := by decide +kernel
theorem dd_errand_19 : decode mm_errand.2.1 19 = .ok (.iconst 0, 1) := by decide +kernel
theorem dd_errand_20 : decode mm_errand.2.1 20 = .ok (.iload_n 1, 1) := by decide +kernel
theorem dd_errand_21 : decode mm_errand.2.1 21 = .ok (.invokevirtual 416, 3) := by decide +kernel
theorem dd_errand_24 : decode mm_errand.2.1 24 = .ok (.goto 4, 3) := by decide +kernel
theorem dd_errand_33 : decode mm_errand.2.1 33 = .ok (.iload_n 2, 1) := by decide +kernel
theorem dd_errand_34 : decode mm_errand.2.1 34 = .ok (.aload_n 0, 1) := by decide +kernel
theorem dd_errand_35 : decode mm_errand.2.1 35 = .ok (.getfield 400, 3) := by decide +kernel
theorem dd_errand_38 : decode mm_errand.2.1 38 = .ok (.if_icmp .le (6), 3) := by decide +kernel
theorem dd_errand_44 : decode mm_errand.2.1 44 = .ok (.iload_n 2, 1) := by decide +kernel
theorem dd_errand_45 : decode mm_errand.2.1 45 = .ok (.ifCond .ge (7), 3) := by decide +kernel
theorem dd_errand_52 : decode mm_errand.2.1 52 = .ok (.iload_n 2, 1) := by decide +kernel
theorem dd_errand_53 : decode mm_errand.2.1 53 = .ok (.ifCond .ne (21), 3) := by decide +kernel
theorem dd_errand_74 : decode mm_errand.2.1 74 = .ok (.aload_n 0, 1) := by decide +kernel
theorem dd_errand_75 : decode mm_errand.2.1 75 = .ok (.getfield 144, 3) := by decide +kernel
theorem dd_errand_78 : decode mm_errand.2.1 78 = .ok (.iload_n 2, 1) := by decide +kernel
theorem dd_errand_79 : decode mm_errand.2.1 79 = .ok (.iconst 1, 1) := by decide +kernel
theorem dd_errand_80 : decode mm_errand.2.1 80 = .ok (.isub, 1) := by decide +kernel
theorem dd_errand_81 : decode mm_errand.2.1 81 = .ok (.iaload, 1) := by decide +kernel
theorem dd_errand_82 : decode mm_errand.2.1 82 = .ok (.ireturn, 1) := by decide +kernel
theorem dd_errand_56 : decode mm_errand.2.1 56 = .ok (.iload_n 3, 1) := by decide +kernel
theorem dd_errand_57 : decode mm_errand.2.1 57 = .ok (.aload_n 0, 1) := by decide +kernel
theorem dd_errand_58 : decode mm_errand.2.1 58 = .ok (.iload_n 1, 1) := by decide +kernel
theorem dd_errand_59 : decode mm_errand.2.1 59 = .ok (.iconst 3, 1) := by decide +kernel
theorem dd_errand_60 : decode mm_errand.2.1 60 = .ok (.invokevirtual 325, 3) := by decide +kernel
theorem dd_errand_63 : decode mm_errand.2.1 63 = .ok (.if_icmp .gt (7), 3) := by decide +kernel
theorem dd_errand_70 : decode mm_errand.2.1 70 = .ok (.iconst 0, 1) := by decide +kernel
theorem dd_errand_71 : decode mm_errand.2.1 71 = .ok (.goto 11, 3) := by decide +kernel
theorem dd_errand_66 : decode mm_errand.2.1 66 = .ok (.iconst 1, 1) := by decide +kernel
theorem dd_errand_67 : decode mm_errand.2.1 67 = .ok (.goto 15, 3) := by decide +kernel
theorem dd_errand_48 : decode mm_errand.2.1 48 = .ok (.iload_n 3, 1) := by decide +kernel
theorem dd_errand_49 : decode mm_errand.2.1 49 = .ok (.goto 33, 3) := by decide +kernel
theorem B_errand_0 {xs : Nat → Int} {xl e : Nat} {h : LH} {Q : Option LV → LH → Prop} {v1 v2 : Int} (hF : RF h) (he : 2 ≤ e)
    (k : (v1 < 0 →
        Q (some (.inl (-2))) (wr h 182 0 0)) ∧
      (0 ≤ v1 →
        ((rd h 188 2) ≤ v1 →
          Q (some (.inl (-2))) (wr h 182 0 0)) ∧
        (v1 < (rd h 188 2) →
          (v2 < (-1) →
            Q (some (.inl (-2))) (wr h 182 0 0)) ∧
          ((-1) ≤ v2 →
            (∃ c, c < e ∧ Rn xs xl c mm_findWay 0 [some (.inr (.inr 182)), some (.inl 0), some (.inl v1), none, none, none, none, none] [] (wr h 182 0 0) (fun r h' => Rn xs xl e mm_errand 24 [some (.inr (.inr 182)), some (.inl v1), some (.inl v2), none] (r.toList ++ []) h' Q)))))) :
    Rn xs xl e mm_errand 0 [some (.inr (.inr 182)), some (.inl v1), some (.inl v2), none] [] h Q := by
  refine R_ld (v := .inr (.inr 182)) dd_errand_0 rfl rfl rfl rfl ?_
  refine R_ic dd_errand_1 (by decide) rfl ?_
  refine R_pf (z := 0) dd_errand_2 fd_12_1 io_182 fn_12_0 rfl rfl ?_
  refine R_ld (v := .inr (.inr 182)) dd_errand_5 rfl rfl rfl rfl ?_
  refine R_ld (v := .inl v1) dd_errand_6 rfl rfl rfl rfl ?_
  refine R_call (as := [.inr (.inr 182), .inl v1]) (rest := []) (M' := mm_isPerson) (ls0 := [some (.inr (.inr 182)), some (.inl v1)]) dd_errand_7 rfl rfl (cw_v cw_12_367 io_182 rfl rfl (Nat.le_of_ble_eq_true rfl) (Nat.le_of_ble_eq_true rfl)) mt_isPerson rfl (c := e - 1) (by omega) rfl ?_
  refine R_ld (v := .inl v1) dd_isPerson_0 rfl rfl rfl rfl ?_
  refine R_if dd_isPerson_1 rfl rfl (fun (c2 : v1 < 0) => ?_) (fun (c2 : 0 ≤ v1) => ?_)
  · replace k := k.1 c2
    refine R_ic dd_isPerson_16 (by decide) rfl ?_
    refine R_zret dd_isPerson_17 rfl (by decide) ?_
    change Rn xs xl e mm_errand 10 [some (.inr (.inr 182)), some (.inl v1), some (.inl v2), none] [.inl 0] (wr h 182 0 0) _
    refine R_if dd_errand_10 rfl rfl (fun (c3 : 0 = 0) => ?_) (fun (c3 : 0 ≠ 0) => ?_)
    · skip
      refine R_ic dd_errand_27 (by decide) rfl ?_
      refine R_st (ls' := [some (.inr (.inr 182)), some (.inl v1), some (.inl v2), some (.inl (-1))]) dd_errand_28 rfl rfl rfl (Nat.le_of_ble_eq_true rfl) rfl rfl ?_
      refine R_ld (v := .inl (-1)) dd_errand_29 rfl rfl rfl rfl ?_
      refine R_if dd_errand_30 rfl rfl (fun (c4 : (-1) < 0) => ?_) (fun (c4 : 0 ≤ (-1)) => ?_)
      · skip
        refine R_bi dd_errand_41 (by decide) rfl ?_
        exact R_iret dd_errand_43 rfl k
      · exact absurd c4 (by omega)
    · exact absurd c3 (by omega)
  · replace k := k.2 c2
    refine R_ld (v := .inl v1) dd_isPerson_4 rfl rfl rfl rfl ?_
    refine R_ld (v := .inr (.inr 182)) dd_isPerson_5 rfl rfl rfl rfl ?_
    refine R_call (as := [.inr (.inr 182)]) (rest := [.inl v1]) (M' := mm_people) (ls0 := [some (.inr (.inr 182))]) dd_isPerson_6 rfl rfl (cw_v cw_12_338 io_182 rfl rfl (Nat.le_of_ble_eq_true rfl) (Nat.le_of_ble_eq_true rfl)) mt_people rfl (c := e - 2) (by omega) rfl ?_
    refine R_ld (v := .inr (.inr 182)) dd_people_0 rfl rfl rfl rfl ?_
    refine R_gf (v := .inr (.inr 188)) dd_people_1 fd_12_95 io_182 (congrArg (fun z : Int => (Sum.inr (Sum.inr z) : LV)) ((rdw_nei (by omega)).trans (rf_182_10 hF))) rfl ?_
    refine R_ic dd_people_4 (by decide) rfl ?_
    refine R_iald (v := (rd h 188 2)) (n := 300) dd_people_5 ia_188 la_188 (by decide) (rdw_ne (by decide)) rfl ?_
    refine R_iret dd_people_6 rfl ?_
    change Rn xs xl (e - 1) mm_isPerson 9 [some (.inr (.inr 182)), some (.inl v1)] [.inl (rd h 188 2), .inl v1] (wr h 182 0 0) _
    refine R_icmp dd_isPerson_9 rfl rfl (fun (c5 : (rd h 188 2) ≤ v1) => ?_) (fun (c5 : v1 < (rd h 188 2)) => ?_)
    · replace k := k.1 c5
      refine R_ic dd_isPerson_16 (by decide) rfl ?_
      refine R_zret dd_isPerson_17 rfl (by decide) ?_
      change Rn xs xl e mm_errand 10 [some (.inr (.inr 182)), some (.inl v1), some (.inl v2), none] [.inl 0] (wr h 182 0 0) _
      refine R_if dd_errand_10 rfl rfl (fun (c6 : 0 = 0) => ?_) (fun (c6 : 0 ≠ 0) => ?_)
      · skip
        refine R_ic dd_errand_27 (by decide) rfl ?_
        refine R_st (ls' := [some (.inr (.inr 182)), some (.inl v1), some (.inl v2), some (.inl (-1))]) dd_errand_28 rfl rfl rfl (Nat.le_of_ble_eq_true rfl) rfl rfl ?_
        refine R_ld (v := .inl (-1)) dd_errand_29 rfl rfl rfl rfl ?_
        refine R_if dd_errand_30 rfl rfl (fun (c7 : (-1) < 0) => ?_) (fun (c7 : 0 ≤ (-1)) => ?_)
        · skip
          refine R_bi dd_errand_41 (by decide) rfl ?_
          exact R_iret dd_errand_43 rfl k
        · exact absurd c7 (by omega)
      · exact absurd c6 (by omega)
    · replace k := k.2 c5
      refine R_ic dd_isPerson_12 (by decide) rfl ?_
      refine R_goto dd_isPerson_13 rfl ?_
      refine R_zret dd_isPerson_17 rfl (by decide) ?_
      change Rn xs xl e mm_errand 10 [some (.inr (.inr 182)), some (.inl v1), some (.inl v2), none] [.inl 1] (wr h 182 0 0) _
      refine R_if dd_errand_10 rfl rfl (fun (c8 : 1 = 0) => ?_) (fun (c8 : 1 ≠ 0) => ?_)
      · exact absurd c8 (by omega)
      · skip
        refine R_ld (v := .inl v2) dd_errand_13 rfl rfl rfl rfl ?_
        refine R_ic dd_errand_14 (by decide) rfl ?_
        refine R_icmp dd_errand_15 rfl rfl (fun (c9 : v2 < (-1)) => ?_) (fun (c9 : (-1) ≤ v2) => ?_)
        · replace k := k.1 c9
          refine R_ic dd_errand_27 (by decide) rfl ?_
          refine R_st (ls' := [some (.inr (.inr 182)), some (.inl v1), some (.inl v2), some (.inl (-1))]) dd_errand_28 rfl rfl rfl (Nat.le_of_ble_eq_true rfl) rfl rfl ?_
          refine R_ld (v := .inl (-1)) dd_errand_29 rfl rfl rfl rfl ?_
          refine R_if dd_errand_30 rfl rfl (fun (c10 : (-1) < 0) => ?_) (fun (c10 : 0 ≤ (-1)) => ?_)
          · skip
            refine R_bi dd_errand_41 (by decide) rfl ?_
            exact R_iret dd_errand_43 rfl k
          · exact absurd c10 (by omega)
        · replace k := k.2 c9
          refine R_ld (v := .inr (.inr 182)) dd_errand_18 rfl rfl rfl rfl ?_
          refine R_ic dd_errand_19 (by decide) rfl ?_
          refine R_ld (v := .inl v1) dd_errand_20 rfl rfl rfl rfl ?_
          obtain ⟨c, hc, k⟩ := k
          exact R_call (as := [.inr (.inr 182), .inl 0, .inl v1]) (rest := []) (M' := mm_findWay) (ls0 := [some (.inr (.inr 182)), some (.inl 0), some (.inl v1), none, none, none, none, none]) dd_errand_21 rfl rfl (cw_v cw_12_416 io_182 rfl rfl (Nat.le_of_ble_eq_true rfl) (Nat.le_of_ble_eq_true rfl)) mt_findWay rfl hc rfl k
theorem B_errand_24 {xs : Nat → Int} {xl e : Nat} {h : LH} {Q : Option LV → LH → Prop} {v1 v2 w0 : Int} (hF : RF h) (he : 1 ≤ e)
    (k : (w0 < 0 →
        Q (some (.inl (-2))) h) ∧
      (0 ≤ w0 →
        (v2 ≤ (rd h 182 34) →
          (0 ≤ v2 →
            (v2 ≠ 0 →
              (-2147483648 ≤ v2 - 1 ∧ v2 - 1 ≤ 2147483647) ∧
              (0 ≤ v2 - 1 ∧ v2 - 1 < 30) ∧
              Q (some (.inl (rd h 202 (v2 - 1)))) h) ∧
            (v2 = 0 →
              (-2147483648 ≤ 4 * v1 ∧ 4 * v1 ≤ 2147483647) ∧
              (-2147483648 ≤ 4 * v1 + 116 ∧ 4 * v1 + 116 ≤ 2147483647) ∧
              (-2147483648 ≤ 4 * v1 + 119 ∧ 4 * v1 + 119 ≤ 2147483647) ∧
              (0 ≤ 4 * v1 + 119 ∧ 4 * v1 + 119 < 300) ∧
              ((rd h 188 (4 * v1 + 119)) < w0 →
                Q (some (.inl 0)) h) ∧
              (w0 ≤ (rd h 188 (4 * v1 + 119)) →
                Q (some (.inl 1)) h))) ∧
          (v2 < 0 →
            Q (some (.inl w0)) h)) ∧
        ((rd h 182 34) < v2 →
          Q (some (.inl (-2))) h))) :
    Rn xs xl e mm_errand 24 [some (.inr (.inr 182)), some (.inl v1), some (.inl v2), none] [.inl w0] h Q := by
  refine R_goto dd_errand_24 rfl ?_
  refine R_st (ls' := [some (.inr (.inr 182)), some (.inl v1), some (.inl v2), some (.inl w0)]) dd_errand_28 rfl rfl rfl (Nat.le_of_ble_eq_true rfl) rfl rfl ?_
  refine R_ld (v := .inl w0) dd_errand_29 rfl rfl rfl rfl ?_
  refine R_if dd_errand_30 rfl rfl (fun (c7 : w0 < 0) => ?_) (fun (c7 : 0 ≤ w0) => ?_)
  · replace k := k.1 c7
    refine R_bi dd_errand_41 (by decide) rfl ?_
    exact R_iret dd_errand_43 rfl k
  · replace k := k.2 c7
    refine R_ld (v := .inl v2) dd_errand_33 rfl rfl rfl rfl ?_
    refine R_ld (v := .inr (.inr 182)) dd_errand_34 rfl rfl rfl rfl ?_
    refine R_gf (v := .inl (rd h 182 34)) dd_errand_35 fd_12_400 io_182 (congrArg (fun z : Int => (Sum.inl z : LV)) (rfl)) rfl ?_
    refine R_icmp dd_errand_38 rfl rfl (fun (c8 : v2 ≤ (rd h 182 34)) => ?_) (fun (c8 : (rd h 182 34) < v2) => ?_)
    · replace k := k.1 c8
      refine R_ld (v := .inl v2) dd_errand_44 rfl rfl rfl rfl ?_
      refine R_if dd_errand_45 rfl rfl (fun (c9 : 0 ≤ v2) => ?_) (fun (c9 : v2 < 0) => ?_)
      · replace k := k.1 c9
        refine R_ld (v := .inl v2) dd_errand_52 rfl rfl rfl rfl ?_
        refine R_if dd_errand_53 rfl rfl (fun (c10 : v2 ≠ 0) => ?_) (fun (c10 : v2 = 0) => ?_)
        · replace k := k.1 c10
          refine R_ld (v := .inr (.inr 182)) dd_errand_74 rfl rfl rfl rfl ?_
          refine R_gf (v := .inr (.inr 202)) dd_errand_75 fd_12_144 io_182 (congrArg (fun z : Int => (Sum.inr (Sum.inr z) : LV)) (rf_182_33 hF)) rfl ?_
          refine R_ld (v := .inl v2) dd_errand_78 rfl rfl rfl rfl ?_
          refine R_ic dd_errand_79 (by decide) rfl ?_
          obtain ⟨s1, k⟩ := k
          refine R_isub (c := v2 - 1) dd_errand_80 (by omega) s1 rfl ?_
          obtain ⟨s2, k⟩ := k
          refine R_iald (v := (rd h 202 (v2 - 1))) (n := 30) dd_errand_81 ia_202 la_202 s2 (rfl) rfl ?_
          exact R_iret dd_errand_82 rfl k
        · replace k := k.2 c10
          refine R_ld (v := .inl w0) dd_errand_56 rfl rfl rfl rfl ?_
          refine R_ld (v := .inr (.inr 182)) dd_errand_57 rfl rfl rfl rfl ?_
          refine R_ld (v := .inl v1) dd_errand_58 rfl rfl rfl rfl ?_
          refine R_ic dd_errand_59 (by decide) rfl ?_
          refine R_call (as := [.inr (.inr 182), .inl v1, .inl 3]) (rest := [.inl w0]) (M' := mm_personOf) (ls0 := [some (.inr (.inr 182)), some (.inl v1), some (.inl 3)]) dd_errand_60 rfl rfl (cw_v cw_12_325 io_182 rfl rfl (Nat.le_of_ble_eq_true rfl) (Nat.le_of_ble_eq_true rfl)) mt_personOf rfl (c := e - 1) (by omega) rfl ?_
          refine R_ld (v := .inr (.inr 182)) dd_personOf_0 rfl rfl rfl rfl ?_
          refine R_gf (v := .inr (.inr 188)) dd_personOf_1 fd_12_95 io_182 (congrArg (fun z : Int => (Sum.inr (Sum.inr z) : LV)) (rf_182_10 hF)) rfl ?_
          refine R_bi dd_personOf_4 (by decide) rfl ?_
          refine R_ic dd_personOf_6 (by decide) rfl ?_
          refine R_ld (v := .inl v1) dd_personOf_7 rfl rfl rfl rfl ?_
          obtain ⟨s3, k⟩ := k
          refine R_imul (c := 4 * v1) dd_personOf_8 (by omega) s3 rfl ?_
          obtain ⟨s4, k⟩ := k
          refine R_iadd (c := 4 * v1 + 116) dd_personOf_9 (by omega) s4 rfl ?_
          refine R_ld (v := .inl 3) dd_personOf_10 rfl rfl rfl rfl ?_
          obtain ⟨s5, k⟩ := k
          refine R_iadd (c := 4 * v1 + 119) dd_personOf_11 (by omega) s5 rfl ?_
          obtain ⟨s6, k⟩ := k
          refine R_iald (v := (rd h 188 (4 * v1 + 119))) (n := 300) dd_personOf_12 ia_188 la_188 s6 (rfl) rfl ?_
          refine R_iret dd_personOf_13 rfl ?_
          change Rn xs xl e mm_errand 63 [some (.inr (.inr 182)), some (.inl v1), some (.inl v2), some (.inl w0)] [.inl (rd h 188 (4 * v1 + 119)), .inl w0] h _
          refine R_icmp dd_errand_63 rfl rfl (fun (c11 : (rd h 188 (4 * v1 + 119)) < w0) => ?_) (fun (c11 : w0 ≤ (rd h 188 (4 * v1 + 119))) => ?_)
          · replace k := k.1 c11
            refine R_ic dd_errand_70 (by decide) rfl ?_
            refine R_goto dd_errand_71 rfl ?_
            exact R_iret dd_errand_82 rfl k
          · replace k := k.2 c11
            refine R_ic dd_errand_66 (by decide) rfl ?_
            refine R_goto dd_errand_67 rfl ?_
            exact R_iret dd_errand_82 rfl k
      · replace k := k.2 c9
        refine R_ld (v := .inl w0) dd_errand_48 rfl rfl rfl rfl ?_
        refine R_goto dd_errand_49 rfl ?_
        exact R_iret dd_errand_82 rfl k
    · replace k := k.2 c8
      refine R_bi dd_errand_41 (by decide) rfl ?_
      exact R_iret dd_errand_43 rfl k
end
section
/-! LM, part 77: the reference's errand -/
section ER
variable {xs : Nat → Int} {xl e : Nat} {h : LH} {Q : Option LV → LH → Prop}
/-- errand, a root -/
theorem D_errand {v1 v2 : Int} (he : 9 ≤ e) (hI : INV h) (k : ∀ r g, INV g → frW (wr h 182 0 0) g → Q (some (.inl r)) g) : Rn xs xl e mm_errand 0 [some (.inr (.inr 182)), some (.inl v1), some (.inl v2), none] [] h Q := by
  have i0 : INV (wr h 182 0 0) := wF_thrown hI (by omega) (by omega)
  have wrong : Q (some (.inl (-2))) (wr h 182 0 0) := k _ _ i0 (fun _ _ _ _ _ _ _ => rfl)
  have np := rq_people hI.1
  refine B_errand_0 (RF_of hI.1) (by omega) ⟨fun _ => wrong, fun c1 => ⟨fun _ => wrong, fun c2 => ⟨fun _ => wrong, fun c3 => ⟨8, by omega, ?_⟩⟩⟩⟩
  refine D_findWay (K := key (wr h 182 0 0)) (S := rd (wr h 182 0 0) 198) (by omega) ⟨i0, rfl, rfl⟩ (by omega) (by omega) (by omega) ?_ (fun r y yc yf r0 r1 ym yd => ?_)
  · have w := (INVw i0).1 v1 c1 (by omega) (by rw [rdw_ne (by decide)]; exact c2)
    rw [show 0 + 2 + v1 = 0 + v1 + 2 by omega] at w
    exact w
  · have m := rF_wayMany yc.1.1
    exact B_errand_24 (RF_of yc.1.1) (by omega) ⟨fun _ => k _ _ yc.1 yf, fun _ => ⟨fun a => ⟨fun b => ⟨fun c => ⟨by omega, by omega, k _ _ yc.1 yf⟩, fun c => ⟨by omega, by omega, by omega, by omega, fun _ => k _ _ yc.1 yf, fun _ => k _ _ yc.1 yf⟩⟩, fun _ => k _ _ yc.1 yf⟩, fun _ => k _ _ yc.1 yf⟩⟩
end ER
end
section
/-! LM, part 78: startsDay in the form of the table -/
def SMstarts : SM := (160, 1, [(2, 182, 182, 0), (0, 1540, 1540, 0)], [(none, pv0, [], [])], [(198, 198, 1540, 1573)], [])
theorem ok_starts {xs : Nat → Int} {xl : Nat} : SMok xs xl INV SMstarts := by
  intro M as h hM hI ha hf hl
  have e : M = mm_startsDay := by
    have q : MTB 160 = some mm_startsDay := by rfl
    exact Option.some.inj (hM.symm.trans q)
  subst e
  obtain ⟨b0, rfl, ha1⟩ := ar_ref ha
  obtain ⟨x, b1, rfl, x0, x1, ha2⟩ := ar_int ha1
  have := ar_nil ha2
  subst this
  have hx : x = 1540 := by omega
  subst hx
  refine D_startsDay (by decide) hI.1 (by omega) (by omega) (by omega) (fun g gr _ gf => ⟨INV_far hI gr (fun a i n _ _ => gf a i (by omega)), fun a i q => ?_, _, List.mem_singleton.mpr rfl, trivial, (fun q hq => absurd hq (List.not_mem_nil)), (fun q hq => absurd hq (List.not_mem_nil))⟩)
  have q' : inBx [(198, 198, 1540, 1573)] a i = false := q
  unfold inBx at q'
  simp only [List.any_cons, List.any_nil, Bool.or_false, Bool.and_eq_false_iff, decide_eq_false_iff_not] at q'
  exact gf a i (by omega)
end
section
/-! LM, part 79: goesBy in the form of the table -/
def SMgoesBy : SM := (255, 5, [(2, 182, 182, 0), (0, 0, 5, 1)], [(some (0, -2147483648, 2147483647, 1), pv0, [], [])], [(196, 196, 0, 3), (197, 197, 0, 1099), (210, 210, 0, 9)], [])
theorem ok_goesBy {xs : Nat → Int} {xl : Nat} : SMok xs xl INV SMgoesBy := by
  intro M as h hM hI ha hf hl
  have e : M = mm_goesBy := by
    have q : MTB 255 = some mm_goesBy := by rfl
    exact Option.some.inj (hM.symm.trans q)
  subst e
  obtain ⟨b0, rfl, ha1⟩ := ar_ref ha
  obtain ⟨x, b1, rfl, x0, x1, ha2⟩ := ar_int ha1
  have := ar_nil ha2
  subst this
  have R := D_goesBy (xs := xs) (xl := xl) (e := 5) (p := x) (K := key h) (S := rd h 198) (Q := fun r h' => ∃ z, r = some (.inl z) ∧ i32 z ∧ INV h' ∧ frC h h') (by omega) ⟨hI, rfl, rfl⟩ ⟨x0, x1⟩ (fun r h' iz w f => ⟨r, rfl, iz, w.1, f⟩)
  refine R.out.mono (fun r h' q => ?_)
  obtain ⟨⟨z, rfl, iz, q1, q2⟩, q4⟩ := q
  refine ⟨q1, fun a i q => ?_, _, List.mem_singleton.mpr rfl, ⟨in1 iz.1 iz.2 iz, Or.inl rfl⟩, (fun q hq => absurd hq (List.not_mem_nil)), (fun q hq => absurd hq (List.not_mem_nil))⟩
  have q' : inBx [(196, 196, 0, 3), (197, 197, 0, 1099), (210, 210, 0, 9)] a i = false := q
  unfold inBx at q'
  simp only [List.any_cons, List.any_nil, Bool.or_false, Bool.or_eq_false_iff, Bool.and_eq_false_iff, decide_eq_false_iff_not] at q'
  by_cases c1 : a = 196
  · subst c1
    exact q4 196 i (outA_mk (n := 4) (by decide +kernel) (by decide +kernel) (by omega))
  · by_cases c2 : a = 197
    · subst c2
      exact q4 197 i (outA_mk (n := 1100) (by decide +kernel) (by decide +kernel) (by omega))
    · by_cases c3 : a = 210
      · subst c3
        exact q4 210 i (outA_mk (n := 10) (by decide +kernel) (by decide +kernel) (by omega))
      · exact q2 a i c1 c2 c3
end
section
/-! LM, part 81, by program: the contracts, table R -/
set_option maxRecDepth 100000
def SMR0 : SM := (156,1,[(2,182,182,0),(1,-9223372036854775808,9223372036854775807,1)],[(none,pv0,[],[])],[(183,183,0,999),(182,182,2,2)],[])
def SMR1 : SM := (155,2,[(2,182,182,0),(1,-9223372036854775808,9223372036854775807,1),(1,-9223372036854775808,9223372036854775807,1),(1,-9223372036854775808,9223372036854775807,1)],[(some (0,0,1000,1),(2,182,2,0,0),[],[])],[(182,182,0,0),(183,183,0,999),(182,182,2,2)],[])
def SMR2 : SM := (198,1,[(2,182,182,0)],[(some (0,0,14,1),(2,188,1,0,0),[],[])],[],[])
def SMR3 : SM := (197,2,[(2,182,182,0),(0,-2147483648,2147483647,1)],[(some (0,1,1,0),pv0,[(1,(0,0,13,1))],[]),(some (0,0,0,0),pv0,[],[])],[],[])
def SMR4 : SM := (195,1,[(0,-2147483648,2147483647,1),(0,0,0,0),(0,9,9,0)],[(some (0,1,1,0),pv0,[(0,(0,0,9,1))],[]),(some (0,0,0,0),pv0,[],[])],[],[])
def SMR5 : SM := (199,1,[(2,182,182,0),(0,0,13,1),(0,0,7,1)],[(some (0,-1,24,1),pv0,[],[])],[],[])
def SMR6 : SM := (196,3,[(2,182,182,0),(0,-2147483648,2147483647,1),(0,-2147483648,2147483647,1)],[(some (0,-2147483648,2147483647,1),pv0,[],[])],[(182,182,0,0)],[])
def SMR7 : SM := (202,1,[(2,182,182,0)],[(some (0,0,6,1),(2,188,2,0,0),[],[])],[],[])
def SMR8 : SM := (201,2,[(2,182,182,0),(0,-2147483648,2147483647,1)],[(some (0,1,1,0),pv0,[(1,(0,0,5,1))],[]),(some (0,0,0,0),pv0,[],[])],[],[])
def SMR9 : SM := (195,1,[(0,-2147483648,2147483647,1),(0,0,0,0),(0,6,6,0)],[(some (0,1,1,0),pv0,[(0,(0,0,6,1))],[]),(some (0,0,0,0),pv0,[],[])],[],[])
def SMR10 : SM := (161,1,[(2,182,182,0),(0,0,5,1),(0,0,3,1)],[(some (0,0,24,1),pv0,[],[])],[],[])
def SMR11 : SM := (200,3,[(2,182,182,0),(0,-2147483648,2147483647,1),(0,-2147483648,2147483647,1)],[(some (0,-1,24,1),pv0,[],[])],[(182,182,0,0)],[])
def SMR12 : SM := (195,1,[(0,-2147483648,2147483647,1),(0,0,0,0),(0,3,3,0)],[(some (0,1,1,0),pv0,[(0,(0,0,3,1))],[]),(some (0,0,0,0),pv0,[],[])],[],[])
def SMR13 : SM := (205,1,[(2,182,182,0)],[(some (0,0,10,1),(2,188,0,0,0),[],[])],[],[])
def SMR14 : SM := (204,2,[(2,182,182,0),(0,-2147483648,2147483647,1)],[(some (0,1,1,0),pv0,[(1,(0,0,9,1))],[]),(some (0,0,0,0),pv0,[],[])],[],[])
def SMR15 : SM := (195,1,[(0,-2147483648,2147483647,1),(0,0,0,0),(0,23,23,0)],[(some (0,1,1,0),pv0,[(0,(0,0,23,1))],[]),(some (0,0,0,0),pv0,[],[])],[],[])
def SMR17 : SM := (206,4,[(2,182,182,0),(0,0,0,0),(0,0,13,1),(0,0,3,1),(0,0,9,1),(0,0,25,1)],[(some (0,-1,9,1),pv0,[],[])],[(196,196,0,3),(197,197,0,1099)],[])
def SMR18 : SM := (203,5,[(2,182,182,0),(0,-2147483648,2147483647,1),(0,-2147483648,2147483647,1),(0,-2147483648,2147483647,1),(0,-2147483648,2147483647,1)],[(some (0,-1,9,1),pv0,[],[])],[(182,182,0,0),(196,196,0,3),(197,197,0,1099)],[])
def SMR19 : SM := (195,1,[(0,-2147483648,2147483647,1),(0,1,1,0),(0,24,24,0)],[(some (0,1,1,0),pv0,[(0,(0,1,24,1))],[]),(some (0,0,0,0),pv0,[],[])],[],[])
def SMR21 : SM := (217,1,[(2,182,182,0),(0,0,0,0)],[(none,pv0,[],[])],[(198,198,0,0),(198,198,14,19),(198,198,20,33)],[])
def SMR22 : SM := (216,2,[(2,182,182,0),(0,-2147483648,2147483647,1)],[(some (0,-1,24,1),pv0,[],[])],[(182,182,0,0),(198,198,350,1433),(182,182,25,25),(198,198,0,0),(198,198,14,19),(198,198,20,33)],[])
def SMR23 : SM := (208,1,[(0,-2147483648,2147483647,1),(0,-2147483648,2147483647,1)],[(some (0,1,1,0),pv0,[],[]),(some (0,0,0,0),pv0,[],[])],[],[])
def SMR24 : SM := (218,3,[(2,182,182,0),(0,-2147483648,2147483647,1),(0,0,1,1)],[(some (0,0,0,0),pv0,[],[]),(some (0,1,1,0),pv0,[(1,(0,0,13,1))],[])],[(182,182,0,0),(198,198,350,1433),(182,182,25,25),(198,198,1,1)],[])
def SMR25 : SM := (223,1,[(2,182,182,0),(0,0,0,0),(0,0,5,1)],[(some (0,1,524288,1),pv0,[],[])],[],[])
def SMR26 : SM := (161,1,[(2,182,182,0),(0,0,5,1),(0,0,0,0)],[(some (0,0,3,1),pv0,[],[])],[],[])
def SMR27 : SM := (161,1,[(2,182,182,0),(0,0,5,1),(0,2,2,0)],[(some (0,0,9,1),pv0,[],[])],[],[])
def SMR28 : SM := (224,5,[(2,182,182,0),(0,0,0,0),(0,0,5,1),(0,-2147483648,2147483647,1),(0,0,24,1)],[(some (0,-2147483648,2147483647,1),pv0,[],[])],[(196,196,0,3),(197,197,0,1099)],[])
def SMR29 : SM := (222,6,[(2,182,182,0),(0,0,0,0),(0,0,5,1),(0,-2147483648,2147483647,1)],[(some (0,-1,24,1),pv0,[],[])],[(196,196,0,3),(197,197,0,1099)],[])
def SMR30 : SM := (221,7,[(2,182,182,0),(0,-2147483648,2147483647,1),(0,-2147483648,2147483647,1)],[(some (0,-1,24,1),pv0,[],[])],[(182,182,0,0),(196,196,0,3),(197,197,0,1099)],[])
def SMR31 : SM := (230,6,[(2,182,182,0),(0,-2147483648,2147483647,1)],[(some (0,-1,1023,1),pv0,[],[])],[(182,182,0,0),(196,196,0,3),(197,197,0,1099)],[])
def SMR32 : SM := (161,1,[(2,182,182,0),(0,0,5,1),(0,1,1,0)],[(some (0,0,9,1),pv0,[],[])],[],[])
def SMR33 : SM := (227,7,[(2,182,182,0),(0,0,0,0),(0,0,5,1)],[(some (0,-1,24,1),pv0,[],[])],[(196,196,0,3),(197,197,0,1099)],[])
def SMR34 : SM := (231,8,[(2,182,182,0)],[(some (0,0,1023,1),pv0,[],[])],[(182,182,0,0),(196,196,0,3),(197,197,0,1099)],[])
def SMR35 : SM := (233,2,[(2,182,182,0),(0,-2147483648,2147483647,1),(0,-2147483648,2147483647,1)],[(some (0,1,1,0),pv0,[(1,(0,0,3,1)),(2,(0,0,23,1))],[]),(some (0,0,0,0),pv0,[],[])],[],[])
def SMR36 : SM := (234,4,[(2,182,182,0),(0,0,3,1),(0,0,24,1),(0,-2147483648,2147483647,1),(0,-2147483648,2147483647,1)],[(none,pv0,[],[])],[(203,203,0,0),(196,196,0,3),(197,197,0,1099),(203,203,0,9)],[])
def SMR38 : SM := (236,2,[(2,182,182,0),(0,0,9,1)],[(some (0,0,1023,1),pv0,[],[])],[],[])
def SMR39 : SM := (232,5,[(2,182,182,0),(0,-2147483648,2147483647,1),(0,-2147483648,2147483647,1),(0,-2147483648,2147483647,1)],[(some (0,-1,1023,1),pv0,[],[])],[(182,182,0,0),(203,203,0,0),(196,196,0,3),(197,197,0,1099),(203,203,0,9)],[])
def SMR40 : SM := (237,5,[(2,182,182,0),(0,-2147483648,2147483647,1),(0,-2147483648,2147483647,1),(0,-2147483648,2147483647,1)],[(some (0,-1,1023,1),pv0,[],[])],[(182,182,0,0),(203,203,0,0),(196,196,0,3),(197,197,0,1099),(203,203,0,9)],[])
def SMR41 : SM := (239,2,[(2,182,182,0)],[(some (0,0,1023,1),pv0,[],[])],[],[])
def SMR42 : SM := (238,5,[(2,182,182,0),(0,-2147483648,2147483647,1),(0,-2147483648,2147483647,1)],[(some (0,-2147483648,2147483647,1),pv0,[],[])],[(182,182,0,0),(203,203,0,0),(196,196,0,3),(197,197,0,1099),(203,203,0,9)],[])
def SMR43 : SM := (241,1,[(0,-2147483648,2147483647,1)],[(some (0,-2147483648,2147483647,1),pv0,[],[])],[],[])
def SMR44 : SM := (240,5,[(2,182,182,0),(0,-2147483648,2147483647,1),(0,-2147483648,2147483647,1)],[(some (0,-1,16383,1),pv0,[],[])],[(182,182,0,0),(203,203,0,0),(196,196,0,3),(197,197,0,1099),(203,203,0,9)],[])
def SMR45 : SM := (242,5,[(2,182,182,0),(0,-2147483648,2147483647,1),(0,-2147483648,2147483647,1),(0,-2147483648,2147483647,1),(0,-2147483648,2147483647,1)],[(some (0,-1,16383,1),pv0,[],[])],[(182,182,0,0),(203,203,0,0),(196,196,0,3),(197,197,0,1099),(203,203,0,9)],[])
def SMR46 : SM := (249,3,[(2,182,182,0),(0,-2147483648,2147483647,1),(0,-2147483648,2147483647,1),(0,0,1,1)],[(some (0,0,0,0),pv0,[],[]),(some (0,1,1,0),pv0,[(1,(0,0,9,1)),(2,(0,0,9,1))],[])],[(182,182,0,0),(198,198,35,62),(198,198,36,63),(198,198,37,64),(198,198,34,34)],[])
def SMR47 : SM := (195,1,[(0,-2147483648,2147483647,1),(0,0,0,0),(0,4,4,0)],[(some (0,1,1,0),pv0,[(0,(0,0,4,1))],[]),(some (0,0,0,0),pv0,[],[])],[],[])
def SMR48 : SM := (252,5,[(2,182,182,0),(0,-2147483648,2147483647,1)],[(none,pv0,[],[])],[(203,203,0,0),(203,203,0,9),(196,196,0,3),(197,197,0,1099)],[])
def SMR49 : SM := (251,6,[(2,182,182,0),(0,-2147483648,2147483647,1)],[(none,pv0,[],[])],[(203,203,0,0),(203,203,0,9),(196,196,0,3),(197,197,0,1099),(209,209,0,0),(209,209,0,9),(182,182,45,45),(182,182,46,46),(182,182,47,47),(182,182,48,48),(208,208,0,0),(208,208,0,99)],[])
def SMR50 : SM := (253,2,[(2,182,182,0)],[(some (0,-1,99,1),pv0,[],[])],[],[])
def SMR51 : SM := (250,7,[(2,182,182,0),(0,-2147483648,2147483647,1)],[(some (0,-2147483648,2147483647,1),pv0,[],[])],[(182,182,0,0),(182,182,45,45),(182,182,46,46),(182,182,47,47),(182,182,48,48),(208,208,0,0),(208,208,0,99),(203,203,0,0),(203,203,0,9),(196,196,0,3),(197,197,0,1099),(209,209,0,0),(209,209,0,9)],[])
def SMR52 : SM := (199,1,[(2,182,182,0),(0,0,13,1),(0,0,0,0)],[(some (0,0,3,1),pv0,[],[])],[],[])
def SMR54 : SM := (254,6,[(2,182,182,0),(0,-2147483648,2147483647,1),(0,-2147483648,2147483647,1),(0,-2147483648,2147483647,1)],[(some (0,-2147483648,2147483647,1),pv0,[],[])],[(182,182,0,0),(182,182,28,28),(182,182,29,29),(182,182,30,30),(182,182,31,31),(211,211,0,0),(211,211,1,1),(196,196,0,3),(197,197,0,1099),(210,210,0,9),(211,211,0,198),(211,211,1,199)],[])
def SMR55 : SM := (257,2,[(2,182,182,0),(0,0,199,1),(0,-2147483648,2147483647,1)],[(some (0,0,1,1),pv0,[],[])],[],[])
def SMR56 : SM := (256,6,[(2,182,182,0),(0,-2147483648,2147483647,1),(0,-2147483648,2147483647,1)],[(some (0,-2147483648,2147483647,1),pv0,[],[])],[(182,182,0,0),(203,203,0,0),(203,203,0,9),(196,196,0,3),(197,197,0,1099),(212,212,0,0),(212,212,0,199)],[])
def SMR57 : SM := (195,1,[(0,-2147483648,2147483647,1),(0,0,0,0),(0,9999,9999,0)],[(some (0,1,1,0),pv0,[(0,(0,0,9999,1))],[]),(some (0,0,0,0),pv0,[],[])],[],[])
def SMR58 : SM := (195,1,[(0,-2147483648,2147483647,1),(0,1,1,0),(0,60,60,0)],[(some (0,1,1,0),pv0,[(0,(0,1,60,1))],[]),(some (0,0,0,0),pv0,[],[])],[],[])
def SMR59 : SM := (195,1,[(0,-2147483648,2147483647,1),(0,0,0,0),(0,1,1,0)],[(some (0,1,1,0),pv0,[(0,(0,0,1,1))],[]),(some (0,0,0,0),pv0,[],[])],[],[])
def SMR61 : SM := (261,1,[(2,182,182,0),(0,1,14,1)],[(some (0,-2147483648,2147483647,1),pv0,[],[])],[(182,182,54,54)],[])
def SMR62 : SM := (261,1,[(2,182,182,0),(0,10,10,0)],[(some (0,-2147483648,2147483647,1),pv0,[],[])],[(182,182,54,54)],[])
def SMR63 : SM := (223,1,[(2,182,182,0),(0,1540,1540,0),(0,0,5,1)],[(some (0,1,524288,1),pv0,[],[])],[],[])
def SMR64 : SM := (206,4,[(2,182,182,0),(0,1540,1540,0),(0,0,13,1),(0,0,3,1),(0,0,9,1),(0,0,25,1)],[(some (0,-1,9,1),pv0,[],[])],[(196,196,0,3),(197,197,0,1099)],[])
def SMR65 : SM := (224,5,[(2,182,182,0),(0,1540,1540,0),(0,0,5,1),(0,-2147483648,2147483647,1),(0,0,24,1)],[(some (0,-2147483648,2147483647,1),pv0,[],[])],[(196,196,0,3),(197,197,0,1099)],[])
def SMR66 : SM := (222,6,[(2,182,182,0),(0,1540,1540,0),(0,0,5,1),(0,-2147483648,2147483647,1)],[(some (0,-1,24,1),pv0,[],[])],[(196,196,0,3),(197,197,0,1099)],[])
def SMR67 : SM := (227,7,[(2,182,182,0),(0,1540,1540,0),(0,0,5,1)],[(some (0,-1,24,1),pv0,[],[])],[(196,196,0,3),(197,197,0,1099)],[])
def SMR68 : SM := (161,1,[(2,182,182,0),(0,0,5,1),(0,3,3,0)],[(some (0,0,24,1),pv0,[],[])],[],[])
def SMR69 : SM := (260,8,[(2,182,182,0),(0,-2147483648,2147483647,1),(0,-2147483648,2147483647,1),(0,-2147483648,2147483647,1)],[(some (0,-2147483648,2147483647,1),pv0,[],[])],[(182,182,0,0),(182,182,54,54),(198,198,1540,1573),(196,196,0,3),(197,197,0,1099)],[])
def SMR70 : SM := (263,2,[(2,182,182,0),(0,-2147483648,2147483647,1)],[(some (0,-2147483648,2147483647,1),pv0,[],[])],[(182,182,0,0)],[])
def SMtR0 : List SM := [SMR0,SMR1,SMR2,SMR3,SMR4,SMR5,SMR6,SMR7,SMR8,SMR9,SMR10,SMR11,SMR12,SMR13,SMR14,SMR15,SMleadsTo,SMR17,SMR18,SMR19]
def SMtR1 : List SM := [SMkeeps,SMR21,SMR22,SMR23,SMR24,SMR25,SMR26,SMR27,SMR28,SMR29,SMR30,SMR31,SMR32,SMR33,SMR34,SMR35,SMR36,SMclosure,SMR38,SMR39]
def SMtR2 : List SM := [SMR40,SMR41,SMR42,SMR43,SMR44,SMR45,SMR46,SMR47,SMR48,SMR49,SMR50,SMR51,SMR52,SMgoesBy,SMR54,SMR55,SMR56,SMR57,SMR58,SMR59]
def SMtR3 : List SM := [SMstarts,SMR61,SMR62,SMR63,SMR64,SMR65,SMR66,SMR67,SMR68,SMR69,SMR70]
def SMttR : List (List SM) := [SMtR0,SMtR1,SMtR2,SMtR3]
def SMsR (i : Nat) : Option SM := (SMttR[i / 20]?).bind (fun B => B[i % 20]?)
end
section
/-! LM, part 85, by program (wip/p2/accc.py): more rows; the class's places -/
section RW3
variable {xs : Nat → Int} {xl d : Nat} {M : LM_M} {pc p' : Nat} {ls : LL} {st : List LV} {h : LH} {Q : Option LV → LH → Prop}
theorem R_minv {x : Nat} {a b : Int} (hd : decode M.2.1 pc = .ok (.invokestatic x, 3)) (hn : noM M.2.2.2.2.1 x = true) (hq : ((PTC M.2.2.2.2.1).find? (fun q => q.1 == x)).map (fun q => q.2.1) = some 4) (hc : lcat st ≤ 8) (hp : pc + 3 = p') (k : ∀ m, m ≤ a ∧ m ≤ b ∧ (m = a ∨ m = b) → Rn xs xl d M p' ls (.inl m :: st) h Q) : Rn xs xl d M pc ls (.inl b :: .inl a :: st) h Q := by
  refine R_min hd hn hq hc hp (k _ ?_)
  split <;> omega
theorem R_bast {a i z : Int} {n : Nat} (hd : decode M.2.1 pc = .ok (.bastore, 1)) (ha : isA NC a 3 = true) (hl : (lay a.toNat).2.2 = n) (hi : 0 ≤ i ∧ i < (n : Int)) (hz : -128 ≤ z ∧ z ≤ 127) (hp : pc + 1 = p') (k : Rn xs xl d M p' ls st (wr h a i z) Q) : Rn xs xl d M pc ls (.inl z :: .inl i :: .inr (.inr a) :: st) h Q := by
  refine R_P hd rfl rfl ?_ hp k
  simp only [lmP]
  rw [ha, inA_k hl hi, decide_eq_true hz]
  simp
theorem R_sld {i : Int} (hd : decode M.2.1 pc = .ok (.iaload, 1)) (hi : 0 ≤ i ∧ i < (xl : Int)) (hp : pc + 1 = p') (k : Rn xs xl d M p' ls (.inl (xs i.toNat) :: st) h Q) : Rn xs xl d M pc ls (.inl i :: .inr (.inr (-2)) :: st) h Q := by
  refine R_G hd rfl rfl ?_ hp k
  simp only [lmG]
  rw [if_pos trivial, if_pos hi]
theorem R_slen (hd : decode M.2.1 pc = .ok (.arraylength, 1)) (hp : pc + 1 = p') (k : Rn xs xl d M p' ls (.inl (xl : Int) :: st) h Q) : Rn xs xl d M pc ls (.inr (.inr (-2)) :: st) h Q := by
  refine R_G hd rfl rfl ?_ hp k
  simp only [lmG]
  rw [if_pos trivial]
theorem R_alen {a : Int} {n : Nat} (hd : decode M.2.1 pc = .ok (.arraylength, 1)) (ha : isA NC a 1 = true) (hl : (lay a.toNat).2.2 = n) (hp : pc + 1 = p') (k : Rn xs xl d M p' ls (.inl (n : Int) :: st) h Q) : Rn xs xl d M pc ls (.inr (.inr a) :: st) h Q := by
  have h1 := (isA_of ha).1
  refine R_G hd rfl rfl ?_ hp k
  simp only [lmG]
  rw [if_neg (by omega), if_pos ha, hl]
end RW3
theorem i2b_in (a : Int) : -128 ≤ (Int32.ofInt a).toInt8.toInt32.toInt ∧ (Int32.ofInt a).toInt8.toInt32.toInt ≤ 127 := by
  rw [Int8.toInt_toInt32]
  have h1 := Int8.le_toInt (Int32.ofInt a).toInt8
  have h2 := Int8.toInt_lt (Int32.ofInt a).toInt8
  omega
theorem io_q {q : Int} (hq : q = 5 ∨ q = 32) : isO NC q 6 = true := by
  rcases hq with rfl | rfl <;> decide +kernel
theorem ia_dq {q : Int} (hq : q = 5 ∨ q = 32) : isA NC (q + 1) 5 = true := by
  rcases hq with rfl | rfl <;> decide +kernel
theorem la_dq {q : Int} (hq : q = 5 ∨ q = 32) : (lay (q + 1).toNat).2.2 = 14 := by
  rcases hq with rfl | rfl <;> decide +kernel
theorem rq_arr {h : LH} {q : Int} (hF : RF h) (hq : q = 5 ∨ q = 32) : rd h q ((1 : Nat) : Int) = q + 1 := by
  rcases hq with rfl | rfl
  · exact hF 5 1 6 (by decide +kernel) (by decide +kernel)
  · exact hF 32 1 33 (by decide +kernel) (by decide +kernel)
theorem io_drs : ∀ k : Nat, k < 14 → isO NC (12 + (k : Int)) 1 = true ∧ isO NC (39 + (k : Int)) 1 = true := by decide +kernel
theorem dr_in {h : LH} {q i : Int} (hR : RNG h) (hq : q = 5 ∨ q = 32) (hi : 0 ≤ i ∧ i < 14) : q + 7 ≤ rd h (q + 1) i ∧ rd h (q + 1) i ≤ q + 20 := by
  have e : hval h (q + 1) i = .inr (.inr (rd h (q + 1) i)) := by
    unfold hval
    rcases hq with rfl | rfl <;> rw [lkd_5 (by decide +kernel)] <;> rfl
  have e2 : hav (q + 1) i = (2, q + 7, q + 20, 1) := by
    unfold hav
    rcases hq with rfl | rfl
    · rw [show RGL[((5 : Int) + 1).toNat]? = some [(2, 12, 25, 1)] by decide +kernel]
      simp only [List.length_singleton, Nat.mod_one]
      rfl
    · rw [show RGL[((32 : Int) + 1).toNat]? = some [(2, 39, 52, 1)] by decide +kernel]
      simp only [List.length_singleton, Nat.mod_one]
      rfl
  have g := hR (q + 1) i (vldA (ia_dq hq) (la_dq hq) hi)
  rw [e, e2] at g
  exact ⟨g.2.1, g.2.2.1⟩
theorem io_dr {h : LH} {q i : Int} (hR : RNG h) (hq : q = 5 ∨ q = 32) (hi : 0 ≤ i ∧ i < 14) : isO NC (rd h (q + 1) i) 1 = true := by
  have g := dr_in hR hq hi
  generalize rd h (q + 1) i = x at g
  have k := io_drs (x - (q + 7)).toNat (by omega)
  rcases hq with rfl | rfl
  · have := k.1
    rw [show (12 : Int) + ((x - (5 + 7)).toNat : Int) = x by omega] at this
    exact this
  · have := k.2
    rw [show (39 : Int) + ((x - (32 + 7)).toNat : Int) = x by omega] at this
    exact this
theorem vld_dr {x : Int} {j : Nat} (ho : isO NC x 1 = true) (hj : j < 9) : valid x j := by
  obtain ⟨a, b, c, d⟩ := isO_of ho
  refine ⟨a, b, by omega, ?_⟩
  have e := lay_obj c
  rw [d] at e
  have e2 : (zcl[1]?).map (fun q => q.2.2) = some 9 := by decide +kernel
  have e3 : 9 = (lay x.toNat).2.2 := Option.some.inj (e2.symm.trans e)
  omega
theorem hd_firsts : ∀ k : Nat, k < 14 → hav (12 + (k : Int)) 2 = (0, 0, 9, 1) ∧ hav (39 + (k : Int)) 2 = (0, 0, 9, 1) := by decide +kernel
theorem rd_first {h : LH} {q i : Int} (hR : RNG h) (hq : q = 5 ∨ q = 32) (hi : 0 ≤ i ∧ i < 14) : 0 ≤ rd h (rd h (q + 1) i) 2 ∧ rd h (rd h (q + 1) i) 2 ≤ 9 := by
  have o := io_dr hR hq hi
  have g := dr_in hR hq hi
  generalize rd h (q + 1) i = x at o g
  have k := hd_firsts (x - (q + 7)).toNat (by omega)
  have e : hav x 2 = (0, 0, 9, 1) := by
    rcases hq with rfl | rfl
    · have := k.1
      rw [show (12 : Int) + ((x - (5 + 7)).toNat : Int) = x by omega] at this
      exact this
    · have := k.2
      rw [show (39 : Int) + ((x - (32 + 7)).toNat : Int) = x by omega] at this
      exact this
  have p := rdP (a := x) (i := 2) (lo := 0) (hi := 9) (st := 1) hR (vld_dr (j := 2) o (by decide)) (Or.inl (by rw [show (2 : Int) = ((2 : Nat) : Int) from rfl, lkd_o (isO_of o).2.2.1 (isO_of o).2.2.2]; decide +kernel)) (fun v hv => by rw [e] at hv; exact hv)
  exact ⟨p.1, p.2.1⟩
theorem hd_seconds : ∀ k : Nat, k < 14 → hav (12 + (k : Int)) 3 = (0, 0, 9, 1) ∧ hav (39 + (k : Int)) 3 = (0, 0, 9, 1) := by decide +kernel
theorem rd_second {h : LH} {q i : Int} (hR : RNG h) (hq : q = 5 ∨ q = 32) (hi : 0 ≤ i ∧ i < 14) : 0 ≤ rd h (rd h (q + 1) i) 3 ∧ rd h (rd h (q + 1) i) 3 ≤ 9 := by
  have o := io_dr hR hq hi
  have g := dr_in hR hq hi
  generalize rd h (q + 1) i = x at o g
  have k := hd_seconds (x - (q + 7)).toNat (by omega)
  have e : hav x 3 = (0, 0, 9, 1) := by
    rcases hq with rfl | rfl
    · have := k.1
      rw [show (12 : Int) + ((x - (5 + 7)).toNat : Int) = x by omega] at this
      exact this
    · have := k.2
      rw [show (39 : Int) + ((x - (32 + 7)).toNat : Int) = x by omega] at this
      exact this
  have p := rdP (a := x) (i := 3) (lo := 0) (hi := 9) (st := 1) hR (vld_dr (j := 3) o (by decide)) (Or.inl (by rw [show (3 : Int) = ((3 : Nat) : Int) from rfl, lkd_o (isO_of o).2.2.1 (isO_of o).2.2.2]; decide +kernel)) (fun v hv => by rw [e] at hv; exact hv)
  exact ⟨p.1, p.2.1⟩
theorem hd_holdss : ∀ k : Nat, k < 14 → hav (12 + (k : Int)) 7 = (0, 0, 9, 1) ∧ hav (39 + (k : Int)) 7 = (0, 0, 9, 1) := by decide +kernel
theorem rd_holds {h : LH} {q i : Int} (hR : RNG h) (hq : q = 5 ∨ q = 32) (hi : 0 ≤ i ∧ i < 14) : 0 ≤ rd h (rd h (q + 1) i) 7 ∧ rd h (rd h (q + 1) i) 7 ≤ 9 := by
  have o := io_dr hR hq hi
  have g := dr_in hR hq hi
  generalize rd h (q + 1) i = x at o g
  have k := hd_holdss (x - (q + 7)).toNat (by omega)
  have e : hav x 7 = (0, 0, 9, 1) := by
    rcases hq with rfl | rfl
    · have := k.1
      rw [show (12 : Int) + ((x - (5 + 7)).toNat : Int) = x by omega] at this
      exact this
    · have := k.2
      rw [show (39 : Int) + ((x - (32 + 7)).toNat : Int) = x by omega] at this
      exact this
  have p := rdP (a := x) (i := 7) (lo := 0) (hi := 9) (st := 1) hR (vld_dr (j := 7) o (by decide)) (Or.inl (by rw [show (7 : Int) = ((7 : Nat) : Int) from rfl, lkd_o (isO_of o).2.2.1 (isO_of o).2.2.2]; decide +kernel)) (fun v hv => by rw [e] at hv; exact hv)
  exact ⟨p.1, p.2.1⟩
theorem rq_dc {h : LH} {q : Int} (hR : RNG h) (hq : q = 5 ∨ q = 32) : 0 ≤ rd h q 2 ∧ rd h q 2 ≤ 14 := by
  rcases hq with rfl | rfl
  · have p := rdP (a := 5) (i := 2) (lo := 0) (hi := 14) (st := 1) hR (vB_ok (by decide +kernel)) (Or.inl (by decide +kernel)) (leA1 (by decide +kernel))
    exact ⟨p.1, p.2.1⟩
  · have p := rdP (a := 32) (i := 2) (lo := 0) (hi := 14) (st := 1) hR (vB_ok (by decide +kernel)) (Or.inl (by decide +kernel)) (leA1 (by decide +kernel))
    exact ⟨p.1, p.2.1⟩
theorem rG_84_5 {h : LH} (hr : RNG h) : 0 ≤ rd h 84 5 ∧ rd h 84 5 ≤ 250 := by
  have q := rdP (a := 84) (i := 5) (lo := 0) (hi := 250) (st := 1) hr (vB_ok (by decide +kernel)) (Or.inl (by decide +kernel)) (leA1 (by decide +kernel))
  exact ⟨q.1, q.2.1⟩
theorem wG_84_5 {h : LH} (hh : INV h) {v : Int} (h0 : 0 ≤ v) (h1 : v ≤ 250) : INV (wr h 84 5 v) := wrP hh (by unfold sens; omega) (Or.inl (by decide +kernel)) (leA1 (by decide +kernel)) h0 h1 ⟨by omega, by omega⟩
theorem rG_84_6 {h : LH} (hr : RNG h) : 0 ≤ rd h 84 6 ∧ rd h 84 6 ≤ 24 := by
  have q := rdP (a := 84) (i := 6) (lo := 0) (hi := 24) (st := 1) hr (vB_ok (by decide +kernel)) (Or.inl (by decide +kernel)) (leA1 (by decide +kernel))
  exact ⟨q.1, q.2.1⟩
theorem wG_84_6 {h : LH} (hh : INV h) {v : Int} (h0 : 0 ≤ v) (h1 : v ≤ 24) : INV (wr h 84 6 v) := wrP hh (by unfold sens; omega) (Or.inl (by decide +kernel)) (leA1 (by decide +kernel)) h0 h1 ⟨by omega, by omega⟩
theorem rG_84_7 {h : LH} (hr : RNG h) : 0 ≤ rd h 84 7 ∧ rd h 84 7 ≤ 24 := by
  have q := rdP (a := 84) (i := 7) (lo := 0) (hi := 24) (st := 1) hr (vB_ok (by decide +kernel)) (Or.inl (by decide +kernel)) (leA1 (by decide +kernel))
  exact ⟨q.1, q.2.1⟩
theorem wG_84_7 {h : LH} (hh : INV h) {v : Int} (h0 : 0 ≤ v) (h1 : v ≤ 24) : INV (wr h 84 7 v) := wrP hh (by unfold sens; omega) (Or.inl (by decide +kernel)) (leA1 (by decide +kernel)) h0 h1 ⟨by omega, by omega⟩
theorem rG_60_0 {h : LH} (hr : RNG h) : 0 ≤ rd h 60 0 ∧ rd h 60 0 ≤ 24 := by
  have q := rdP (a := 60) (i := 0) (lo := 0) (hi := 24) (st := 1) hr (vB_ok (by decide +kernel)) (Or.inl (by decide +kernel)) (leA1 (by decide +kernel))
  exact ⟨q.1, q.2.1⟩
theorem wG_60_0 {h : LH} (hh : INV h) {v : Int} (h0 : 0 ≤ v) (h1 : v ≤ 24) : INV (wr h 60 0 v) := wrP hh (by unfold sens; omega) (Or.inl (by decide +kernel)) (leA1 (by decide +kernel)) h0 h1 ⟨by omega, by omega⟩
theorem rG_60_1 {h : LH} (hr : RNG h) : -2147483648 ≤ rd h 60 1 ∧ rd h 60 1 ≤ 2147483647 := by
  have q := rdP (a := 60) (i := 1) (lo := -2147483648) (hi := 2147483647) (st := 1) hr (vB_ok (by decide +kernel)) (Or.inl (by decide +kernel)) (leA1 (by decide +kernel))
  exact ⟨q.1, q.2.1⟩
theorem wG_60_1 {h : LH} (hh : INV h) {v : Int} (h0 : -2147483648 ≤ v) (h1 : v ≤ 2147483647) : INV (wr h 60 1 v) := wrP hh (by unfold sens; omega) (Or.inl (by decide +kernel)) (leA1 (by decide +kernel)) h0 h1 ⟨by omega, by omega⟩
theorem rG_2_0 {h : LH} (hr : RNG h) : 0 ≤ rd h 2 0 ∧ rd h 2 0 ≤ 1000 := by
  have q := rdP (a := 2) (i := 0) (lo := 0) (hi := 1000) (st := 1) hr (vB_ok (by decide +kernel)) (Or.inl (by decide +kernel)) (leA1 (by decide +kernel))
  exact ⟨q.1, q.2.1⟩
theorem wG_2_0 {h : LH} (hh : INV h) {v : Int} (h0 : 0 ≤ v) (h1 : v ≤ 1000) : INV (wr h 2 0 v) := wrP hh (by unfold sens; omega) (Or.inl (by decide +kernel)) (leA1 (by decide +kernel)) h0 h1 ⟨by omega, by omega⟩
theorem rG_2_3 {h : LH} (hr : RNG h) : 0 ≤ rd h 2 3 ∧ rd h 2 3 ≤ 4 := by
  have q := rdP (a := 2) (i := 3) (lo := 0) (hi := 4) (st := 1) hr (vB_ok (by decide +kernel)) (Or.inl (by decide +kernel)) (leA1 (by decide +kernel))
  exact ⟨q.1, q.2.1⟩
theorem wG_2_3 {h : LH} (hh : INV h) {v : Int} (h0 : 0 ≤ v) (h1 : v ≤ 4) : INV (wr h 2 3 v) := wrP hh (by unfold sens; omega) (Or.inl (by decide +kernel)) (leA1 (by decide +kernel)) h0 h1 ⟨by omega, by omega⟩
theorem rG_2_4 {h : LH} (hr : RNG h) : 0 ≤ rd h 2 4 ∧ rd h 2 4 ≤ 1000 := by
  have q := rdP (a := 2) (i := 4) (lo := 0) (hi := 1000) (st := 1) hr (vB_ok (by decide +kernel)) (Or.inl (by decide +kernel)) (leA1 (by decide +kernel))
  exact ⟨q.1, q.2.1⟩
theorem wG_2_4 {h : LH} (hh : INV h) {v : Int} (h0 : 0 ≤ v) (h1 : v ≤ 1000) : INV (wr h 2 4 v) := wrP hh (by unfold sens; omega) (Or.inl (by decide +kernel)) (leA1 (by decide +kernel)) h0 h1 ⟨by omega, by omega⟩
theorem rG_2_7 {h : LH} (hr : RNG h) : -1 ≤ rd h 2 7 ∧ rd h 2 7 ≤ 28 := by
  have q := rdP (a := 2) (i := 7) (lo := -1) (hi := 28) (st := 1) hr (vB_ok (by decide +kernel)) (Or.inl (by decide +kernel)) (leA1 (by decide +kernel))
  exact ⟨q.1, q.2.1⟩
theorem wG_2_7 {h : LH} (hh : INV h) {v : Int} (h0 : -1 ≤ v) (h1 : v ≤ 28) : INV (wr h 2 7 v) := wrP hh (by unfold sens; omega) (Or.inl (by decide +kernel)) (leA1 (by decide +kernel)) h0 h1 ⟨by omega, by omega⟩
theorem rG_2_8 {h : LH} (hr : RNG h) : 0 ≤ rd h 2 8 ∧ rd h 2 8 ≤ 16005 := by
  have q := rdP (a := 2) (i := 8) (lo := 0) (hi := 16005) (st := 1) hr (vB_ok (by decide +kernel)) (Or.inl (by decide +kernel)) (leA1 (by decide +kernel))
  exact ⟨q.1, q.2.1⟩
theorem wG_2_8 {h : LH} (hh : INV h) {v : Int} (h0 : 0 ≤ v) (h1 : v ≤ 16005) : INV (wr h 2 8 v) := wrP hh (by unfold sens; omega) (Or.inl (by decide +kernel)) (leA1 (by decide +kernel)) h0 h1 ⟨by omega, by omega⟩
theorem rG_59_1 {h : LH} (hr : RNG h) : 0 ≤ rd h 59 1 ∧ rd h 59 1 ≤ 24 := by
  have q := rdP (a := 59) (i := 1) (lo := 0) (hi := 24) (st := 1) hr (vB_ok (by decide +kernel)) (Or.inl (by decide +kernel)) (leA1 (by decide +kernel))
  exact ⟨q.1, q.2.1⟩
theorem wG_59_1 {h : LH} (hh : INV h) {v : Int} (h0 : 0 ≤ v) (h1 : v ≤ 24) : INV (wr h 59 1 v) := wrP hh (by unfold sens; omega) (Or.inl (by decide +kernel)) (leA1 (by decide +kernel)) h0 h1 ⟨by omega, by omega⟩
theorem rG_67_1 {h : LH} (hr : RNG h) : 0 ≤ rd h 67 1 ∧ rd h 67 1 ≤ 24 := by
  have q := rdP (a := 67) (i := 1) (lo := 0) (hi := 24) (st := 1) hr (vB_ok (by decide +kernel)) (Or.inl (by decide +kernel)) (leA1 (by decide +kernel))
  exact ⟨q.1, q.2.1⟩
theorem wG_67_1 {h : LH} (hh : INV h) {v : Int} (h0 : 0 ≤ v) (h1 : v ≤ 24) : INV (wr h 67 1 v) := wrP hh (by unfold sens; omega) (Or.inl (by decide +kernel)) (leA1 (by decide +kernel)) h0 h1 ⟨by omega, by omega⟩
theorem rG_102_1 {h : LH} (hr : RNG h) : 0 ≤ rd h 102 1 ∧ rd h 102 1 ≤ 24 := by
  have q := rdP (a := 102) (i := 1) (lo := 0) (hi := 24) (st := 1) hr (vB_ok (by decide +kernel)) (Or.inl (by decide +kernel)) (leA1 (by decide +kernel))
  exact ⟨q.1, q.2.1⟩
theorem wG_102_1 {h : LH} (hh : INV h) {v : Int} (h0 : 0 ≤ v) (h1 : v ≤ 24) : INV (wr h 102 1 v) := wrP hh (by unfold sens; omega) (Or.inl (by decide +kernel)) (leA1 (by decide +kernel)) h0 h1 ⟨by omega, by omega⟩
theorem rG_110_1 {h : LH} (hr : RNG h) : 0 ≤ rd h 110 1 ∧ rd h 110 1 ≤ 24 := by
  have q := rdP (a := 110) (i := 1) (lo := 0) (hi := 24) (st := 1) hr (vB_ok (by decide +kernel)) (Or.inl (by decide +kernel)) (leA1 (by decide +kernel))
  exact ⟨q.1, q.2.1⟩
theorem wG_110_1 {h : LH} (hh : INV h) {v : Int} (h0 : 0 ≤ v) (h1 : v ≤ 24) : INV (wr h 110 1 v) := wrP hh (by unfold sens; omega) (Or.inl (by decide +kernel)) (leA1 (by decide +kernel)) h0 h1 ⟨by omega, by omega⟩
theorem rG_118_1 {h : LH} (hr : RNG h) : 0 ≤ rd h 118 1 ∧ rd h 118 1 ≤ 24 := by
  have q := rdP (a := 118) (i := 1) (lo := 0) (hi := 24) (st := 1) hr (vB_ok (by decide +kernel)) (Or.inl (by decide +kernel)) (leA1 (by decide +kernel))
  exact ⟨q.1, q.2.1⟩
theorem wG_118_1 {h : LH} (hh : INV h) {v : Int} (h0 : 0 ≤ v) (h1 : v ≤ 24) : INV (wr h 118 1 v) := wrP hh (by unfold sens; omega) (Or.inl (by decide +kernel)) (leA1 (by decide +kernel)) h0 h1 ⟨by omega, by omega⟩
theorem rG_126_1 {h : LH} (hr : RNG h) : 0 ≤ rd h 126 1 ∧ rd h 126 1 ≤ 24 := by
  have q := rdP (a := 126) (i := 1) (lo := 0) (hi := 24) (st := 1) hr (vB_ok (by decide +kernel)) (Or.inl (by decide +kernel)) (leA1 (by decide +kernel))
  exact ⟨q.1, q.2.1⟩
theorem wG_126_1 {h : LH} (hh : INV h) {v : Int} (h0 : 0 ≤ v) (h1 : v ≤ 24) : INV (wr h 126 1 v) := wrP hh (by unfold sens; omega) (Or.inl (by decide +kernel)) (leA1 (by decide +kernel)) h0 h1 ⟨by omega, by omega⟩
theorem rG_59_4 {h : LH} (hr : RNG h) : 0 ≤ rd h 59 4 ∧ rd h 59 4 ≤ 10 := by
  have q := rdP (a := 59) (i := 4) (lo := 0) (hi := 10) (st := 1) hr (vB_ok (by decide +kernel)) (Or.inl (by decide +kernel)) (leA1 (by decide +kernel))
  exact ⟨q.1, q.2.1⟩
theorem wG_59_4 {h : LH} (hh : INV h) {v : Int} (h0 : 0 ≤ v) (h1 : v ≤ 10) : INV (wr h 59 4 v) := wrP hh (by unfold sens; omega) (Or.inl (by decide +kernel)) (leA1 (by decide +kernel)) h0 h1 ⟨by omega, by omega⟩
theorem rG_102_4 {h : LH} (hr : RNG h) : 0 ≤ rd h 102 4 ∧ rd h 102 4 ≤ 10 := by
  have q := rdP (a := 102) (i := 4) (lo := 0) (hi := 10) (st := 1) hr (vB_ok (by decide +kernel)) (Or.inl (by decide +kernel)) (leA1 (by decide +kernel))
  exact ⟨q.1, q.2.1⟩
theorem wG_102_4 {h : LH} (hh : INV h) {v : Int} (h0 : 0 ≤ v) (h1 : v ≤ 10) : INV (wr h 102 4 v) := wrP hh (by unfold sens; omega) (Or.inl (by decide +kernel)) (leA1 (by decide +kernel)) h0 h1 ⟨by omega, by omega⟩
theorem rG_110_4 {h : LH} (hr : RNG h) : 0 ≤ rd h 110 4 ∧ rd h 110 4 ≤ 10 := by
  have q := rdP (a := 110) (i := 4) (lo := 0) (hi := 10) (st := 1) hr (vB_ok (by decide +kernel)) (Or.inl (by decide +kernel)) (leA1 (by decide +kernel))
  exact ⟨q.1, q.2.1⟩
theorem wG_110_4 {h : LH} (hh : INV h) {v : Int} (h0 : 0 ≤ v) (h1 : v ≤ 10) : INV (wr h 110 4 v) := wrP hh (by unfold sens; omega) (Or.inl (by decide +kernel)) (leA1 (by decide +kernel)) h0 h1 ⟨by omega, by omega⟩
theorem rG_118_4 {h : LH} (hr : RNG h) : 0 ≤ rd h 118 4 ∧ rd h 118 4 ≤ 10 := by
  have q := rdP (a := 118) (i := 4) (lo := 0) (hi := 10) (st := 1) hr (vB_ok (by decide +kernel)) (Or.inl (by decide +kernel)) (leA1 (by decide +kernel))
  exact ⟨q.1, q.2.1⟩
theorem wG_118_4 {h : LH} (hh : INV h) {v : Int} (h0 : 0 ≤ v) (h1 : v ≤ 10) : INV (wr h 118 4 v) := wrP hh (by unfold sens; omega) (Or.inl (by decide +kernel)) (leA1 (by decide +kernel)) h0 h1 ⟨by omega, by omega⟩
theorem rG_126_4 {h : LH} (hr : RNG h) : 0 ≤ rd h 126 4 ∧ rd h 126 4 ≤ 10 := by
  have q := rdP (a := 126) (i := 4) (lo := 0) (hi := 10) (st := 1) hr (vB_ok (by decide +kernel)) (Or.inl (by decide +kernel)) (leA1 (by decide +kernel))
  exact ⟨q.1, q.2.1⟩
theorem wG_126_4 {h : LH} (hh : INV h) {v : Int} (h0 : 0 ≤ v) (h1 : v ≤ 10) : INV (wr h 126 4 v) := wrP hh (by unfold sens; omega) (Or.inl (by decide +kernel)) (leA1 (by decide +kernel)) h0 h1 ⟨by omega, by omega⟩
theorem rG_59_7 {h : LH} (hr : RNG h) : -2147483648 ≤ rd h 59 7 ∧ rd h 59 7 ≤ 2147483647 := by
  have q := rdP (a := 59) (i := 7) (lo := -2147483648) (hi := 2147483647) (st := 1) hr (vB_ok (by decide +kernel)) (Or.inl (by decide +kernel)) (leA1 (by decide +kernel))
  exact ⟨q.1, q.2.1⟩
theorem wG_59_7 {h : LH} (hh : INV h) {v : Int} (h0 : -2147483648 ≤ v) (h1 : v ≤ 2147483647) : INV (wr h 59 7 v) := wrP hh (by unfold sens; omega) (Or.inl (by decide +kernel)) (leA1 (by decide +kernel)) h0 h1 ⟨by omega, by omega⟩
theorem rG_102_7 {h : LH} (hr : RNG h) : -2147483648 ≤ rd h 102 7 ∧ rd h 102 7 ≤ 2147483647 := by
  have q := rdP (a := 102) (i := 7) (lo := -2147483648) (hi := 2147483647) (st := 1) hr (vB_ok (by decide +kernel)) (Or.inl (by decide +kernel)) (leA1 (by decide +kernel))
  exact ⟨q.1, q.2.1⟩
theorem wG_102_7 {h : LH} (hh : INV h) {v : Int} (h0 : -2147483648 ≤ v) (h1 : v ≤ 2147483647) : INV (wr h 102 7 v) := wrP hh (by unfold sens; omega) (Or.inl (by decide +kernel)) (leA1 (by decide +kernel)) h0 h1 ⟨by omega, by omega⟩
theorem rG_110_7 {h : LH} (hr : RNG h) : -2147483648 ≤ rd h 110 7 ∧ rd h 110 7 ≤ 2147483647 := by
  have q := rdP (a := 110) (i := 7) (lo := -2147483648) (hi := 2147483647) (st := 1) hr (vB_ok (by decide +kernel)) (Or.inl (by decide +kernel)) (leA1 (by decide +kernel))
  exact ⟨q.1, q.2.1⟩
theorem wG_110_7 {h : LH} (hh : INV h) {v : Int} (h0 : -2147483648 ≤ v) (h1 : v ≤ 2147483647) : INV (wr h 110 7 v) := wrP hh (by unfold sens; omega) (Or.inl (by decide +kernel)) (leA1 (by decide +kernel)) h0 h1 ⟨by omega, by omega⟩
theorem rG_118_7 {h : LH} (hr : RNG h) : -2147483648 ≤ rd h 118 7 ∧ rd h 118 7 ≤ 2147483647 := by
  have q := rdP (a := 118) (i := 7) (lo := -2147483648) (hi := 2147483647) (st := 1) hr (vB_ok (by decide +kernel)) (Or.inl (by decide +kernel)) (leA1 (by decide +kernel))
  exact ⟨q.1, q.2.1⟩
theorem wG_118_7 {h : LH} (hh : INV h) {v : Int} (h0 : -2147483648 ≤ v) (h1 : v ≤ 2147483647) : INV (wr h 118 7 v) := wrP hh (by unfold sens; omega) (Or.inl (by decide +kernel)) (leA1 (by decide +kernel)) h0 h1 ⟨by omega, by omega⟩
theorem rG_126_7 {h : LH} (hr : RNG h) : -2147483648 ≤ rd h 126 7 ∧ rd h 126 7 ≤ 2147483647 := by
  have q := rdP (a := 126) (i := 7) (lo := -2147483648) (hi := 2147483647) (st := 1) hr (vB_ok (by decide +kernel)) (Or.inl (by decide +kernel)) (leA1 (by decide +kernel))
  exact ⟨q.1, q.2.1⟩
theorem wG_126_7 {h : LH} (hh : INV h) {v : Int} (h0 : -2147483648 ≤ v) (h1 : v ≤ 2147483647) : INV (wr h 126 7 v) := wrP hh (by unfold sens; omega) (Or.inl (by decide +kernel)) (leA1 (by decide +kernel)) h0 h1 ⟨by omega, by omega⟩
theorem hB_3 (i : Int) : hav 3 i = (0, -128, 127, 1) := by
  unfold hav
  rw [show RGL[(3 : Int).toNat]? = some [(0, -128, 127, 1)] by decide +kernel]
  simp only [List.length_singleton, Nat.mod_one]
  rfl
theorem rB_3 {h : LH} (hr : RNG h) {i : Int} (hi : 0 ≤ i ∧ i < 1000) : -128 ≤ rd h 3 i ∧ rd h 3 i ≤ 127 := by
  have q := rdP (a := 3) (i := i) (lo := -128) (hi := 127) (st := 1) hr (vldA (n := 1000) (k := 3) (by decide +kernel) (by decide +kernel) hi) (Or.inl (lkd_3 (by decide +kernel))) (fun v hv => by rw [hB_3] at hv; exact hv)
  exact ⟨q.1, q.2.1⟩
theorem wB_3 {h : LH} (hh : INV h) {i v : Int} (h0 : -128 ≤ v) (h1 : v ≤ 127) : INV (wr h 3 i v) := wrP hh (by unfold sens; omega) (Or.inl (lkd_3 (by decide +kernel))) (fun v hv => by rw [hB_3]; exact hv) h0 h1 ⟨by omega, by omega⟩
theorem wS_3 {h : LH} (hr : RNG h) {i v : Int} (h0 : -128 ≤ v) (h1 : v ≤ 127) : RNG (wr h 3 i v) := wrR hr (Or.inl (lkd_3 (by decide +kernel))) (fun v hv => by rw [hB_3]; exact hv) h0 h1 ⟨by omega, by omega⟩
theorem hB_85 (i : Int) : hav 85 i = (0, -2147483648, 2147483647, 1) := by
  unfold hav
  rw [show RGL[(85 : Int).toNat]? = some [(0, -2147483648, 2147483647, 1)] by decide +kernel]
  simp only [List.length_singleton, Nat.mod_one]
  rfl
theorem rB_85 {h : LH} (hr : RNG h) {i : Int} (hi : 0 ≤ i ∧ i < 336) : -2147483648 ≤ rd h 85 i ∧ rd h 85 i ≤ 2147483647 := by
  have q := rdP (a := 85) (i := i) (lo := -2147483648) (hi := 2147483647) (st := 1) hr (vldA (n := 336) (k := 1) (by decide +kernel) (by decide +kernel) hi) (Or.inl (lkd_1 (by decide +kernel))) (fun v hv => by rw [hB_85] at hv; exact hv)
  exact ⟨q.1, q.2.1⟩
theorem wB_85 {h : LH} (hh : INV h) {i v : Int} (h0 : -2147483648 ≤ v) (h1 : v ≤ 2147483647) : INV (wr h 85 i v) := wrP hh (by unfold sens; omega) (Or.inl (lkd_1 (by decide +kernel))) (fun v hv => by rw [hB_85]; exact hv) h0 h1 ⟨by omega, by omega⟩
theorem wS_85 {h : LH} (hr : RNG h) {i v : Int} (h0 : -2147483648 ≤ v) (h1 : v ≤ 2147483647) : RNG (wr h 85 i v) := wrR hr (Or.inl (lkd_1 (by decide +kernel))) (fun v hv => by rw [hB_85]; exact hv) h0 h1 ⟨by omega, by omega⟩
theorem hB_86 (i : Int) : hav 86 i = (0, -2147483648, 2147483647, 1) := by
  unfold hav
  rw [show RGL[(86 : Int).toNat]? = some [(0, -2147483648, 2147483647, 1)] by decide +kernel]
  simp only [List.length_singleton, Nat.mod_one]
  rfl
theorem rB_86 {h : LH} (hr : RNG h) {i : Int} (hi : 0 ≤ i ∧ i < 240) : -2147483648 ≤ rd h 86 i ∧ rd h 86 i ≤ 2147483647 := by
  have q := rdP (a := 86) (i := i) (lo := -2147483648) (hi := 2147483647) (st := 1) hr (vldA (n := 240) (k := 1) (by decide +kernel) (by decide +kernel) hi) (Or.inl (lkd_1 (by decide +kernel))) (fun v hv => by rw [hB_86] at hv; exact hv)
  exact ⟨q.1, q.2.1⟩
theorem wB_86 {h : LH} (hh : INV h) {i v : Int} (h0 : -2147483648 ≤ v) (h1 : v ≤ 2147483647) : INV (wr h 86 i v) := wrP hh (by unfold sens; omega) (Or.inl (lkd_1 (by decide +kernel))) (fun v hv => by rw [hB_86]; exact hv) h0 h1 ⟨by omega, by omega⟩
theorem wS_86 {h : LH} (hr : RNG h) {i v : Int} (h0 : -2147483648 ≤ v) (h1 : v ≤ 2147483647) : RNG (wr h 86 i v) := wrR hr (Or.inl (lkd_1 (by decide +kernel))) (fun v hv => by rw [hB_86]; exact hv) h0 h1 ⟨by omega, by omega⟩
theorem hB_87 (i : Int) : hav 87 i = (0, -1, 249, 1) := by
  unfold hav
  rw [show RGL[(87 : Int).toNat]? = some [(0, -1, 249, 1)] by decide +kernel]
  simp only [List.length_singleton, Nat.mod_one]
  rfl
theorem rB_87 {h : LH} (hr : RNG h) {i : Int} (hi : 0 ≤ i ∧ i < 250) : -1 ≤ rd h 87 i ∧ rd h 87 i ≤ 249 := by
  have q := rdP (a := 87) (i := i) (lo := -1) (hi := 249) (st := 1) hr (vldA (n := 250) (k := 1) (by decide +kernel) (by decide +kernel) hi) (Or.inl (lkd_1 (by decide +kernel))) (fun v hv => by rw [hB_87] at hv; exact hv)
  exact ⟨q.1, q.2.1⟩
theorem wB_87 {h : LH} (hh : INV h) {i v : Int} (h0 : -1 ≤ v) (h1 : v ≤ 249) : INV (wr h 87 i v) := wrP hh (by unfold sens; omega) (Or.inl (lkd_1 (by decide +kernel))) (fun v hv => by rw [hB_87]; exact hv) h0 h1 ⟨by omega, by omega⟩
theorem wS_87 {h : LH} (hr : RNG h) {i v : Int} (h0 : -1 ≤ v) (h1 : v ≤ 249) : RNG (wr h 87 i v) := wrR hr (Or.inl (lkd_1 (by decide +kernel))) (fun v hv => by rw [hB_87]; exact hv) h0 h1 ⟨by omega, by omega⟩
theorem hB_88 (i : Int) : hav 88 i = (0, -1, 13, 1) := by
  unfold hav
  rw [show RGL[(88 : Int).toNat]? = some [(0, -1, 13, 1)] by decide +kernel]
  simp only [List.length_singleton, Nat.mod_one]
  rfl
theorem rB_88 {h : LH} (hr : RNG h) {i : Int} (hi : 0 ≤ i ∧ i < 250) : -1 ≤ rd h 88 i ∧ rd h 88 i ≤ 13 := by
  have q := rdP (a := 88) (i := i) (lo := -1) (hi := 13) (st := 1) hr (vldA (n := 250) (k := 1) (by decide +kernel) (by decide +kernel) hi) (Or.inl (lkd_1 (by decide +kernel))) (fun v hv => by rw [hB_88] at hv; exact hv)
  exact ⟨q.1, q.2.1⟩
theorem wB_88 {h : LH} (hh : INV h) {i v : Int} (h0 : -1 ≤ v) (h1 : v ≤ 13) : INV (wr h 88 i v) := wrP hh (by unfold sens; omega) (Or.inl (lkd_1 (by decide +kernel))) (fun v hv => by rw [hB_88]; exact hv) h0 h1 ⟨by omega, by omega⟩
theorem wS_88 {h : LH} (hr : RNG h) {i v : Int} (h0 : -1 ≤ v) (h1 : v ≤ 13) : RNG (wr h 88 i v) := wrR hr (Or.inl (lkd_1 (by decide +kernel))) (fun v hv => by rw [hB_88]; exact hv) h0 h1 ⟨by omega, by omega⟩
theorem hB_89 (i : Int) : hav 89 i = (0, 0, 249, 1) := by
  unfold hav
  rw [show RGL[(89 : Int).toNat]? = some [(0, 0, 249, 1)] by decide +kernel]
  simp only [List.length_singleton, Nat.mod_one]
  rfl
theorem rB_89 {h : LH} (hr : RNG h) {i : Int} (hi : 0 ≤ i ∧ i < 250) : 0 ≤ rd h 89 i ∧ rd h 89 i ≤ 249 := by
  have q := rdP (a := 89) (i := i) (lo := 0) (hi := 249) (st := 1) hr (vldA (n := 250) (k := 1) (by decide +kernel) (by decide +kernel) hi) (Or.inl (lkd_1 (by decide +kernel))) (fun v hv => by rw [hB_89] at hv; exact hv)
  exact ⟨q.1, q.2.1⟩
theorem wB_89 {h : LH} (hh : INV h) {i v : Int} (h0 : 0 ≤ v) (h1 : v ≤ 249) : INV (wr h 89 i v) := wrP hh (by unfold sens; omega) (Or.inl (lkd_1 (by decide +kernel))) (fun v hv => by rw [hB_89]; exact hv) h0 h1 ⟨by omega, by omega⟩
theorem wS_89 {h : LH} (hr : RNG h) {i v : Int} (h0 : 0 ≤ v) (h1 : v ≤ 249) : RNG (wr h 89 i v) := wrR hr (Or.inl (lkd_1 (by decide +kernel))) (fun v hv => by rw [hB_89]; exact hv) h0 h1 ⟨by omega, by omega⟩
theorem hB_63 (i : Int) : hav 63 i = (0, -1, 5, 1) := by
  unfold hav
  rw [show RGL[(63 : Int).toNat]? = some [(0, -1, 5, 1)] by decide +kernel]
  simp only [List.length_singleton, Nat.mod_one]
  rfl
theorem rB_63 {h : LH} (hr : RNG h) {i : Int} (hi : 0 ≤ i ∧ i < 24) : -1 ≤ rd h 63 i ∧ rd h 63 i ≤ 5 := by
  have q := rdP (a := 63) (i := i) (lo := -1) (hi := 5) (st := 1) hr (vldA (n := 24) (k := 1) (by decide +kernel) (by decide +kernel) hi) (Or.inl (lkd_1 (by decide +kernel))) (fun v hv => by rw [hB_63] at hv; exact hv)
  exact ⟨q.1, q.2.1⟩
theorem wS_63 {h : LH} (hr : RNG h) {i v : Int} (h0 : -1 ≤ v) (h1 : v ≤ 5) : RNG (wr h 63 i v) := wrR hr (Or.inl (lkd_1 (by decide +kernel))) (fun v hv => by rw [hB_63]; exact hv) h0 h1 ⟨by omega, by omega⟩
theorem hB_64 (i : Int) : hav 64 i = (0, -1, 13, 1) := by
  unfold hav
  rw [show RGL[(64 : Int).toNat]? = some [(0, -1, 13, 1)] by decide +kernel]
  simp only [List.length_singleton, Nat.mod_one]
  rfl
theorem rB_64 {h : LH} (hr : RNG h) {i : Int} (hi : 0 ≤ i ∧ i < 24) : -1 ≤ rd h 64 i ∧ rd h 64 i ≤ 13 := by
  have q := rdP (a := 64) (i := i) (lo := -1) (hi := 13) (st := 1) hr (vldA (n := 24) (k := 1) (by decide +kernel) (by decide +kernel) hi) (Or.inl (lkd_1 (by decide +kernel))) (fun v hv => by rw [hB_64] at hv; exact hv)
  exact ⟨q.1, q.2.1⟩
theorem wS_64 {h : LH} (hr : RNG h) {i v : Int} (h0 : -1 ≤ v) (h1 : v ≤ 13) : RNG (wr h 64 i v) := wrR hr (Or.inl (lkd_1 (by decide +kernel))) (fun v hv => by rw [hB_64]; exact hv) h0 h1 ⟨by omega, by omega⟩
theorem hB_71 (i : Int) : hav 71 i = (0, -1, 5, 1) := by
  unfold hav
  rw [show RGL[(71 : Int).toNat]? = some [(0, -1, 5, 1)] by decide +kernel]
  simp only [List.length_singleton, Nat.mod_one]
  rfl
theorem rB_71 {h : LH} (hr : RNG h) {i : Int} (hi : 0 ≤ i ∧ i < 24) : -1 ≤ rd h 71 i ∧ rd h 71 i ≤ 5 := by
  have q := rdP (a := 71) (i := i) (lo := -1) (hi := 5) (st := 1) hr (vldA (n := 24) (k := 1) (by decide +kernel) (by decide +kernel) hi) (Or.inl (lkd_1 (by decide +kernel))) (fun v hv => by rw [hB_71] at hv; exact hv)
  exact ⟨q.1, q.2.1⟩
theorem wS_71 {h : LH} (hr : RNG h) {i v : Int} (h0 : -1 ≤ v) (h1 : v ≤ 5) : RNG (wr h 71 i v) := wrR hr (Or.inl (lkd_1 (by decide +kernel))) (fun v hv => by rw [hB_71]; exact hv) h0 h1 ⟨by omega, by omega⟩
theorem hB_72 (i : Int) : hav 72 i = (0, -1, 13, 1) := by
  unfold hav
  rw [show RGL[(72 : Int).toNat]? = some [(0, -1, 13, 1)] by decide +kernel]
  simp only [List.length_singleton, Nat.mod_one]
  rfl
theorem rB_72 {h : LH} (hr : RNG h) {i : Int} (hi : 0 ≤ i ∧ i < 24) : -1 ≤ rd h 72 i ∧ rd h 72 i ≤ 13 := by
  have q := rdP (a := 72) (i := i) (lo := -1) (hi := 13) (st := 1) hr (vldA (n := 24) (k := 1) (by decide +kernel) (by decide +kernel) hi) (Or.inl (lkd_1 (by decide +kernel))) (fun v hv => by rw [hB_72] at hv; exact hv)
  exact ⟨q.1, q.2.1⟩
theorem wS_72 {h : LH} (hr : RNG h) {i v : Int} (h0 : -1 ≤ v) (h1 : v ≤ 13) : RNG (wr h 72 i v) := wrR hr (Or.inl (lkd_1 (by decide +kernel))) (fun v hv => by rw [hB_72]; exact hv) h0 h1 ⟨by omega, by omega⟩
theorem hB_106 (i : Int) : hav 106 i = (0, -1, 5, 1) := by
  unfold hav
  rw [show RGL[(106 : Int).toNat]? = some [(0, -1, 5, 1)] by decide +kernel]
  simp only [List.length_singleton, Nat.mod_one]
  rfl
theorem rB_106 {h : LH} (hr : RNG h) {i : Int} (hi : 0 ≤ i ∧ i < 24) : -1 ≤ rd h 106 i ∧ rd h 106 i ≤ 5 := by
  have q := rdP (a := 106) (i := i) (lo := -1) (hi := 5) (st := 1) hr (vldA (n := 24) (k := 1) (by decide +kernel) (by decide +kernel) hi) (Or.inl (lkd_1 (by decide +kernel))) (fun v hv => by rw [hB_106] at hv; exact hv)
  exact ⟨q.1, q.2.1⟩
theorem wS_106 {h : LH} (hr : RNG h) {i v : Int} (h0 : -1 ≤ v) (h1 : v ≤ 5) : RNG (wr h 106 i v) := wrR hr (Or.inl (lkd_1 (by decide +kernel))) (fun v hv => by rw [hB_106]; exact hv) h0 h1 ⟨by omega, by omega⟩
theorem hB_107 (i : Int) : hav 107 i = (0, -1, 13, 1) := by
  unfold hav
  rw [show RGL[(107 : Int).toNat]? = some [(0, -1, 13, 1)] by decide +kernel]
  simp only [List.length_singleton, Nat.mod_one]
  rfl
theorem rB_107 {h : LH} (hr : RNG h) {i : Int} (hi : 0 ≤ i ∧ i < 24) : -1 ≤ rd h 107 i ∧ rd h 107 i ≤ 13 := by
  have q := rdP (a := 107) (i := i) (lo := -1) (hi := 13) (st := 1) hr (vldA (n := 24) (k := 1) (by decide +kernel) (by decide +kernel) hi) (Or.inl (lkd_1 (by decide +kernel))) (fun v hv => by rw [hB_107] at hv; exact hv)
  exact ⟨q.1, q.2.1⟩
theorem wS_107 {h : LH} (hr : RNG h) {i v : Int} (h0 : -1 ≤ v) (h1 : v ≤ 13) : RNG (wr h 107 i v) := wrR hr (Or.inl (lkd_1 (by decide +kernel))) (fun v hv => by rw [hB_107]; exact hv) h0 h1 ⟨by omega, by omega⟩
theorem hB_114 (i : Int) : hav 114 i = (0, -1, 5, 1) := by
  unfold hav
  rw [show RGL[(114 : Int).toNat]? = some [(0, -1, 5, 1)] by decide +kernel]
  simp only [List.length_singleton, Nat.mod_one]
  rfl
theorem rB_114 {h : LH} (hr : RNG h) {i : Int} (hi : 0 ≤ i ∧ i < 24) : -1 ≤ rd h 114 i ∧ rd h 114 i ≤ 5 := by
  have q := rdP (a := 114) (i := i) (lo := -1) (hi := 5) (st := 1) hr (vldA (n := 24) (k := 1) (by decide +kernel) (by decide +kernel) hi) (Or.inl (lkd_1 (by decide +kernel))) (fun v hv => by rw [hB_114] at hv; exact hv)
  exact ⟨q.1, q.2.1⟩
theorem wS_114 {h : LH} (hr : RNG h) {i v : Int} (h0 : -1 ≤ v) (h1 : v ≤ 5) : RNG (wr h 114 i v) := wrR hr (Or.inl (lkd_1 (by decide +kernel))) (fun v hv => by rw [hB_114]; exact hv) h0 h1 ⟨by omega, by omega⟩
theorem hB_115 (i : Int) : hav 115 i = (0, -1, 13, 1) := by
  unfold hav
  rw [show RGL[(115 : Int).toNat]? = some [(0, -1, 13, 1)] by decide +kernel]
  simp only [List.length_singleton, Nat.mod_one]
  rfl
theorem rB_115 {h : LH} (hr : RNG h) {i : Int} (hi : 0 ≤ i ∧ i < 24) : -1 ≤ rd h 115 i ∧ rd h 115 i ≤ 13 := by
  have q := rdP (a := 115) (i := i) (lo := -1) (hi := 13) (st := 1) hr (vldA (n := 24) (k := 1) (by decide +kernel) (by decide +kernel) hi) (Or.inl (lkd_1 (by decide +kernel))) (fun v hv => by rw [hB_115] at hv; exact hv)
  exact ⟨q.1, q.2.1⟩
theorem wS_115 {h : LH} (hr : RNG h) {i v : Int} (h0 : -1 ≤ v) (h1 : v ≤ 13) : RNG (wr h 115 i v) := wrR hr (Or.inl (lkd_1 (by decide +kernel))) (fun v hv => by rw [hB_115]; exact hv) h0 h1 ⟨by omega, by omega⟩
theorem hB_122 (i : Int) : hav 122 i = (0, -1, 5, 1) := by
  unfold hav
  rw [show RGL[(122 : Int).toNat]? = some [(0, -1, 5, 1)] by decide +kernel]
  simp only [List.length_singleton, Nat.mod_one]
  rfl
theorem rB_122 {h : LH} (hr : RNG h) {i : Int} (hi : 0 ≤ i ∧ i < 24) : -1 ≤ rd h 122 i ∧ rd h 122 i ≤ 5 := by
  have q := rdP (a := 122) (i := i) (lo := -1) (hi := 5) (st := 1) hr (vldA (n := 24) (k := 1) (by decide +kernel) (by decide +kernel) hi) (Or.inl (lkd_1 (by decide +kernel))) (fun v hv => by rw [hB_122] at hv; exact hv)
  exact ⟨q.1, q.2.1⟩
theorem wS_122 {h : LH} (hr : RNG h) {i v : Int} (h0 : -1 ≤ v) (h1 : v ≤ 5) : RNG (wr h 122 i v) := wrR hr (Or.inl (lkd_1 (by decide +kernel))) (fun v hv => by rw [hB_122]; exact hv) h0 h1 ⟨by omega, by omega⟩
theorem hB_123 (i : Int) : hav 123 i = (0, -1, 13, 1) := by
  unfold hav
  rw [show RGL[(123 : Int).toNat]? = some [(0, -1, 13, 1)] by decide +kernel]
  simp only [List.length_singleton, Nat.mod_one]
  rfl
theorem rB_123 {h : LH} (hr : RNG h) {i : Int} (hi : 0 ≤ i ∧ i < 24) : -1 ≤ rd h 123 i ∧ rd h 123 i ≤ 13 := by
  have q := rdP (a := 123) (i := i) (lo := -1) (hi := 13) (st := 1) hr (vldA (n := 24) (k := 1) (by decide +kernel) (by decide +kernel) hi) (Or.inl (lkd_1 (by decide +kernel))) (fun v hv => by rw [hB_123] at hv; exact hv)
  exact ⟨q.1, q.2.1⟩
theorem wS_123 {h : LH} (hr : RNG h) {i v : Int} (h0 : -1 ≤ v) (h1 : v ≤ 13) : RNG (wr h 123 i v) := wrR hr (Or.inl (lkd_1 (by decide +kernel))) (fun v hv => by rw [hB_123]; exact hv) h0 h1 ⟨by omega, by omega⟩
theorem hB_130 (i : Int) : hav 130 i = (0, -1, 5, 1) := by
  unfold hav
  rw [show RGL[(130 : Int).toNat]? = some [(0, -1, 5, 1)] by decide +kernel]
  simp only [List.length_singleton, Nat.mod_one]
  rfl
theorem rB_130 {h : LH} (hr : RNG h) {i : Int} (hi : 0 ≤ i ∧ i < 24) : -1 ≤ rd h 130 i ∧ rd h 130 i ≤ 5 := by
  have q := rdP (a := 130) (i := i) (lo := -1) (hi := 5) (st := 1) hr (vldA (n := 24) (k := 1) (by decide +kernel) (by decide +kernel) hi) (Or.inl (lkd_1 (by decide +kernel))) (fun v hv => by rw [hB_130] at hv; exact hv)
  exact ⟨q.1, q.2.1⟩
theorem wS_130 {h : LH} (hr : RNG h) {i v : Int} (h0 : -1 ≤ v) (h1 : v ≤ 5) : RNG (wr h 130 i v) := wrR hr (Or.inl (lkd_1 (by decide +kernel))) (fun v hv => by rw [hB_130]; exact hv) h0 h1 ⟨by omega, by omega⟩
theorem hB_131 (i : Int) : hav 131 i = (0, -1, 13, 1) := by
  unfold hav
  rw [show RGL[(131 : Int).toNat]? = some [(0, -1, 13, 1)] by decide +kernel]
  simp only [List.length_singleton, Nat.mod_one]
  rfl
theorem rB_131 {h : LH} (hr : RNG h) {i : Int} (hi : 0 ≤ i ∧ i < 24) : -1 ≤ rd h 131 i ∧ rd h 131 i ≤ 13 := by
  have q := rdP (a := 131) (i := i) (lo := -1) (hi := 13) (st := 1) hr (vldA (n := 24) (k := 1) (by decide +kernel) (by decide +kernel) hi) (Or.inl (lkd_1 (by decide +kernel))) (fun v hv => by rw [hB_131] at hv; exact hv)
  exact ⟨q.1, q.2.1⟩
theorem wS_131 {h : LH} (hr : RNG h) {i v : Int} (h0 : -1 ≤ v) (h1 : v ≤ 13) : RNG (wr h 131 i v) := wrR hr (Or.inl (lkd_1 (by decide +kernel))) (fun v hv => by rw [hB_131]; exact hv) h0 h1 ⟨by omega, by omega⟩
theorem hB_65 (i : Int) : hav 65 i = (0, 0, 9, 1) := by
  unfold hav
  rw [show RGL[(65 : Int).toNat]? = some [(0, 0, 9, 1)] by decide +kernel]
  simp only [List.length_singleton, Nat.mod_one]
  rfl
theorem rB_65 {h : LH} (hr : RNG h) {i : Int} (hi : 0 ≤ i ∧ i < 10) : 0 ≤ rd h 65 i ∧ rd h 65 i ≤ 9 := by
  have q := rdP (a := 65) (i := i) (lo := 0) (hi := 9) (st := 1) hr (vldA (n := 10) (k := 1) (by decide +kernel) (by decide +kernel) hi) (Or.inl (lkd_1 (by decide +kernel))) (fun v hv => by rw [hB_65] at hv; exact hv)
  exact ⟨q.1, q.2.1⟩
theorem wS_65 {h : LH} (hr : RNG h) {i v : Int} (h0 : 0 ≤ v) (h1 : v ≤ 9) : RNG (wr h 65 i v) := wrR hr (Or.inl (lkd_1 (by decide +kernel))) (fun v hv => by rw [hB_65]; exact hv) h0 h1 ⟨by omega, by omega⟩
theorem hB_66 (i : Int) : hav 66 i = (0, 0, 9, 1) := by
  unfold hav
  rw [show RGL[(66 : Int).toNat]? = some [(0, 0, 9, 1)] by decide +kernel]
  simp only [List.length_singleton, Nat.mod_one]
  rfl
theorem rB_66 {h : LH} (hr : RNG h) {i : Int} (hi : 0 ≤ i ∧ i < 10) : 0 ≤ rd h 66 i ∧ rd h 66 i ≤ 9 := by
  have q := rdP (a := 66) (i := i) (lo := 0) (hi := 9) (st := 1) hr (vldA (n := 10) (k := 1) (by decide +kernel) (by decide +kernel) hi) (Or.inl (lkd_1 (by decide +kernel))) (fun v hv => by rw [hB_66] at hv; exact hv)
  exact ⟨q.1, q.2.1⟩
theorem wS_66 {h : LH} (hr : RNG h) {i v : Int} (h0 : 0 ≤ v) (h1 : v ≤ 9) : RNG (wr h 66 i v) := wrR hr (Or.inl (lkd_1 (by decide +kernel))) (fun v hv => by rw [hB_66]; exact hv) h0 h1 ⟨by omega, by omega⟩
theorem hB_108 (i : Int) : hav 108 i = (0, 0, 9, 1) := by
  unfold hav
  rw [show RGL[(108 : Int).toNat]? = some [(0, 0, 9, 1)] by decide +kernel]
  simp only [List.length_singleton, Nat.mod_one]
  rfl
theorem rB_108 {h : LH} (hr : RNG h) {i : Int} (hi : 0 ≤ i ∧ i < 10) : 0 ≤ rd h 108 i ∧ rd h 108 i ≤ 9 := by
  have q := rdP (a := 108) (i := i) (lo := 0) (hi := 9) (st := 1) hr (vldA (n := 10) (k := 1) (by decide +kernel) (by decide +kernel) hi) (Or.inl (lkd_1 (by decide +kernel))) (fun v hv => by rw [hB_108] at hv; exact hv)
  exact ⟨q.1, q.2.1⟩
theorem wS_108 {h : LH} (hr : RNG h) {i v : Int} (h0 : 0 ≤ v) (h1 : v ≤ 9) : RNG (wr h 108 i v) := wrR hr (Or.inl (lkd_1 (by decide +kernel))) (fun v hv => by rw [hB_108]; exact hv) h0 h1 ⟨by omega, by omega⟩
theorem hB_109 (i : Int) : hav 109 i = (0, 0, 9, 1) := by
  unfold hav
  rw [show RGL[(109 : Int).toNat]? = some [(0, 0, 9, 1)] by decide +kernel]
  simp only [List.length_singleton, Nat.mod_one]
  rfl
theorem rB_109 {h : LH} (hr : RNG h) {i : Int} (hi : 0 ≤ i ∧ i < 10) : 0 ≤ rd h 109 i ∧ rd h 109 i ≤ 9 := by
  have q := rdP (a := 109) (i := i) (lo := 0) (hi := 9) (st := 1) hr (vldA (n := 10) (k := 1) (by decide +kernel) (by decide +kernel) hi) (Or.inl (lkd_1 (by decide +kernel))) (fun v hv => by rw [hB_109] at hv; exact hv)
  exact ⟨q.1, q.2.1⟩
theorem wS_109 {h : LH} (hr : RNG h) {i v : Int} (h0 : 0 ≤ v) (h1 : v ≤ 9) : RNG (wr h 109 i v) := wrR hr (Or.inl (lkd_1 (by decide +kernel))) (fun v hv => by rw [hB_109]; exact hv) h0 h1 ⟨by omega, by omega⟩
theorem hB_116 (i : Int) : hav 116 i = (0, 0, 9, 1) := by
  unfold hav
  rw [show RGL[(116 : Int).toNat]? = some [(0, 0, 9, 1)] by decide +kernel]
  simp only [List.length_singleton, Nat.mod_one]
  rfl
theorem rB_116 {h : LH} (hr : RNG h) {i : Int} (hi : 0 ≤ i ∧ i < 10) : 0 ≤ rd h 116 i ∧ rd h 116 i ≤ 9 := by
  have q := rdP (a := 116) (i := i) (lo := 0) (hi := 9) (st := 1) hr (vldA (n := 10) (k := 1) (by decide +kernel) (by decide +kernel) hi) (Or.inl (lkd_1 (by decide +kernel))) (fun v hv => by rw [hB_116] at hv; exact hv)
  exact ⟨q.1, q.2.1⟩
theorem wS_116 {h : LH} (hr : RNG h) {i v : Int} (h0 : 0 ≤ v) (h1 : v ≤ 9) : RNG (wr h 116 i v) := wrR hr (Or.inl (lkd_1 (by decide +kernel))) (fun v hv => by rw [hB_116]; exact hv) h0 h1 ⟨by omega, by omega⟩
theorem hB_117 (i : Int) : hav 117 i = (0, 0, 9, 1) := by
  unfold hav
  rw [show RGL[(117 : Int).toNat]? = some [(0, 0, 9, 1)] by decide +kernel]
  simp only [List.length_singleton, Nat.mod_one]
  rfl
theorem rB_117 {h : LH} (hr : RNG h) {i : Int} (hi : 0 ≤ i ∧ i < 10) : 0 ≤ rd h 117 i ∧ rd h 117 i ≤ 9 := by
  have q := rdP (a := 117) (i := i) (lo := 0) (hi := 9) (st := 1) hr (vldA (n := 10) (k := 1) (by decide +kernel) (by decide +kernel) hi) (Or.inl (lkd_1 (by decide +kernel))) (fun v hv => by rw [hB_117] at hv; exact hv)
  exact ⟨q.1, q.2.1⟩
theorem wS_117 {h : LH} (hr : RNG h) {i v : Int} (h0 : 0 ≤ v) (h1 : v ≤ 9) : RNG (wr h 117 i v) := wrR hr (Or.inl (lkd_1 (by decide +kernel))) (fun v hv => by rw [hB_117]; exact hv) h0 h1 ⟨by omega, by omega⟩
theorem hB_124 (i : Int) : hav 124 i = (0, 0, 9, 1) := by
  unfold hav
  rw [show RGL[(124 : Int).toNat]? = some [(0, 0, 9, 1)] by decide +kernel]
  simp only [List.length_singleton, Nat.mod_one]
  rfl
theorem rB_124 {h : LH} (hr : RNG h) {i : Int} (hi : 0 ≤ i ∧ i < 10) : 0 ≤ rd h 124 i ∧ rd h 124 i ≤ 9 := by
  have q := rdP (a := 124) (i := i) (lo := 0) (hi := 9) (st := 1) hr (vldA (n := 10) (k := 1) (by decide +kernel) (by decide +kernel) hi) (Or.inl (lkd_1 (by decide +kernel))) (fun v hv => by rw [hB_124] at hv; exact hv)
  exact ⟨q.1, q.2.1⟩
theorem wS_124 {h : LH} (hr : RNG h) {i v : Int} (h0 : 0 ≤ v) (h1 : v ≤ 9) : RNG (wr h 124 i v) := wrR hr (Or.inl (lkd_1 (by decide +kernel))) (fun v hv => by rw [hB_124]; exact hv) h0 h1 ⟨by omega, by omega⟩
theorem hB_125 (i : Int) : hav 125 i = (0, 0, 9, 1) := by
  unfold hav
  rw [show RGL[(125 : Int).toNat]? = some [(0, 0, 9, 1)] by decide +kernel]
  simp only [List.length_singleton, Nat.mod_one]
  rfl
theorem rB_125 {h : LH} (hr : RNG h) {i : Int} (hi : 0 ≤ i ∧ i < 10) : 0 ≤ rd h 125 i ∧ rd h 125 i ≤ 9 := by
  have q := rdP (a := 125) (i := i) (lo := 0) (hi := 9) (st := 1) hr (vldA (n := 10) (k := 1) (by decide +kernel) (by decide +kernel) hi) (Or.inl (lkd_1 (by decide +kernel))) (fun v hv => by rw [hB_125] at hv; exact hv)
  exact ⟨q.1, q.2.1⟩
theorem wS_125 {h : LH} (hr : RNG h) {i v : Int} (h0 : 0 ≤ v) (h1 : v ≤ 9) : RNG (wr h 125 i v) := wrR hr (Or.inl (lkd_1 (by decide +kernel))) (fun v hv => by rw [hB_125]; exact hv) h0 h1 ⟨by omega, by omega⟩
theorem hB_132 (i : Int) : hav 132 i = (0, 0, 9, 1) := by
  unfold hav
  rw [show RGL[(132 : Int).toNat]? = some [(0, 0, 9, 1)] by decide +kernel]
  simp only [List.length_singleton, Nat.mod_one]
  rfl
theorem rB_132 {h : LH} (hr : RNG h) {i : Int} (hi : 0 ≤ i ∧ i < 10) : 0 ≤ rd h 132 i ∧ rd h 132 i ≤ 9 := by
  have q := rdP (a := 132) (i := i) (lo := 0) (hi := 9) (st := 1) hr (vldA (n := 10) (k := 1) (by decide +kernel) (by decide +kernel) hi) (Or.inl (lkd_1 (by decide +kernel))) (fun v hv => by rw [hB_132] at hv; exact hv)
  exact ⟨q.1, q.2.1⟩
theorem wS_132 {h : LH} (hr : RNG h) {i v : Int} (h0 : 0 ≤ v) (h1 : v ≤ 9) : RNG (wr h 132 i v) := wrR hr (Or.inl (lkd_1 (by decide +kernel))) (fun v hv => by rw [hB_132]; exact hv) h0 h1 ⟨by omega, by omega⟩
theorem hB_133 (i : Int) : hav 133 i = (0, 0, 9, 1) := by
  unfold hav
  rw [show RGL[(133 : Int).toNat]? = some [(0, 0, 9, 1)] by decide +kernel]
  simp only [List.length_singleton, Nat.mod_one]
  rfl
theorem rB_133 {h : LH} (hr : RNG h) {i : Int} (hi : 0 ≤ i ∧ i < 10) : 0 ≤ rd h 133 i ∧ rd h 133 i ≤ 9 := by
  have q := rdP (a := 133) (i := i) (lo := 0) (hi := 9) (st := 1) hr (vldA (n := 10) (k := 1) (by decide +kernel) (by decide +kernel) hi) (Or.inl (lkd_1 (by decide +kernel))) (fun v hv => by rw [hB_133] at hv; exact hv)
  exact ⟨q.1, q.2.1⟩
theorem wS_133 {h : LH} (hr : RNG h) {i v : Int} (h0 : 0 ≤ v) (h1 : v ≤ 9) : RNG (wr h 133 i v) := wrR hr (Or.inl (lkd_1 (by decide +kernel))) (fun v hv => by rw [hB_133]; exact hv) h0 h1 ⟨by omega, by omega⟩
-- copies of rows
theorem rd_cp0 {g h : LH} {a b x i : Int} : ∀ k : Nat, rd (cpyL g a 0 b 0 k ++ h) x i = if x = b ∧ 0 ≤ i ∧ i < k then rd g a i else rd h x i
  | 0 => by rw [if_neg (by omega)]; rfl
  | k + 1 => by
    have ih := rd_cp0 (g := g) (h := h) (a := a) (b := b) (x := x) (i := i) k
    have e : cpyL g a 0 b 0 (k + 1) ++ h = wr (cpyL g a 0 b 0 k ++ h) b (0 + k) (rd g a (0 + k)) := rfl
    rw [e, rd_wr, ih]
    by_cases c : b = x ∧ (0 + (k : Int)) = i
    · obtain ⟨rfl, rfl⟩ := c
      rw [if_pos ⟨rfl, rfl⟩, if_pos ⟨rfl, by omega, by omega⟩]
    · rw [if_neg c]
      by_cases c2 : x = b ∧ 0 ≤ i ∧ i < k
      · rw [if_pos c2, if_pos ⟨c2.1, by omega, by omega⟩]
      · rw [if_neg c2, if_neg (by omega)]
theorem rd_cp0n {g h : LH} {a b x i : Int} {k : Nat} (hx : x ≠ b) : rd (cpyL g a 0 b 0 k ++ h) x i = rd h x i := by rw [rd_cp0, if_neg (fun q => hx q.1)]
theorem RNG_cp0 {g h : LH} {a b : Int} (hw : ∀ (f : LH) (j : Nat), RNG f → RNG (wr f b (0 + (j : Int)) (rd g a (0 + (j : Int)))) ∨ ¬ True) (hr : RNG h) : ∀ k : Nat, RNG (cpyL g a 0 b 0 k ++ h)
  | 0 => hr
  | k + 1 => by
    have ih := RNG_cp0 (g := g) (h := h) hw hr k
    exact (hw _ k ih).elim id (fun q => absurd trivial q)
theorem RNG_cpk {g h : LH} {a b : Int} {n : Nat} (hw : ∀ (f : LH) (j : Nat), j < n → RNG f → RNG (wr f b (0 + (j : Int)) (rd g a (0 + (j : Int))))) (hr : RNG h) : ∀ k : Nat, k ≤ n → RNG (cpyL g a 0 b 0 k ++ h)
  | 0, _ => hr
  | k + 1, hk => hw _ k (by omega) (RNG_cpk (g := g) (h := h) hw hr k (by omega))
end
