/-! LM, by program (wip/p2/hand.py): rows of the class: the root of crowd -/
def mm_OneSided_crowd : LM_M := (⟨"OneSided", "crowd", "(III)I"⟩, prog_1_method_22_code, 4, (some .int), 11, 4, 0, 986, 984, 985)
def mm_OneSided_isRoom : LM_M := (⟨"OneSided", "isRoom", "(I)Z"⟩, prog_1_method_34_code, 2, (some .boolean), 11, 2, 0, 784, 783, 1000029)
theorem dd_OneSided_crowd_0 : decode mm_OneSided_crowd.2.1 0 = .ok (.aload_n 0, 1) := by decide +kernel
theorem dd_OneSided_crowd_1 : decode mm_OneSided_crowd.2.1 1 = .ok (.iload_n 1, 1) := by decide +kernel
theorem dd_OneSided_crowd_2 : decode mm_OneSided_crowd.2.1 2 = .ok (.invokevirtual 190, 3) := by decide +kernel
theorem cw_11_190 : cwOk 11 190 0 65 2 2 11 = true := by decide +kernel
theorem io_1 : isO NC 1 11 = true := by decide +kernel
theorem mt_OneSided_isRoom : MTB 65 = some mm_OneSided_isRoom := rfl
theorem dd_OneSided_isRoom_0 : decode mm_OneSided_isRoom.2.1 0 = .ok (.iload_n 1, 1) := by decide +kernel
theorem dd_OneSided_isRoom_1 : decode mm_OneSided_isRoom.2.1 1 = .ok (.ifCond .lt (18), 3) := by decide +kernel
theorem dd_OneSided_isRoom_19 : decode mm_OneSided_isRoom.2.1 19 = .ok (.iconst 0, 1) := by decide +kernel
theorem dd_OneSided_isRoom_20 : decode mm_OneSided_isRoom.2.1 20 = .ok (.ireturn, 1) := by decide +kernel
theorem dd_OneSided_crowd_5 : decode mm_OneSided_crowd.2.1 5 = .ok (.ifCond .eq (16), 3) := by decide +kernel
theorem dd_OneSided_crowd_21 : decode mm_OneSided_crowd.2.1 21 = .ok (.iconst (-1), 1) := by decide +kernel
theorem dd_OneSided_crowd_22 : decode mm_OneSided_crowd.2.1 22 = .ok (.ireturn, 1) := by decide +kernel
theorem dd_OneSided_isRoom_4 : decode mm_OneSided_isRoom.2.1 4 = .ok (.iload_n 1, 1) := by decide +kernel
theorem dd_OneSided_isRoom_5 : decode mm_OneSided_isRoom.2.1 5 = .ok (.aload_n 0, 1) := by decide +kernel
theorem dd_OneSided_isRoom_6 : decode mm_OneSided_isRoom.2.1 6 = .ok (.getfield 19, 3) := by decide +kernel
theorem fd_11_19 : fld 11 19 = some (11, 1) := by decide +kernel
theorem dd_OneSided_isRoom_9 : decode mm_OneSided_isRoom.2.1 9 = .ok (.getfield 267, 3) := by decide +kernel
theorem fd_11_267 : fld 11 267 = some (6, 0) := by decide +kernel
theorem dd_OneSided_isRoom_12 : decode mm_OneSided_isRoom.2.1 12 = .ok (.if_icmp .ge (7), 3) := by decide +kernel
theorem dd_OneSided_isRoom_15 : decode mm_OneSided_isRoom.2.1 15 = .ok (.iconst 1, 1) := by decide +kernel
theorem dd_OneSided_isRoom_16 : decode mm_OneSided_isRoom.2.1 16 = .ok (.goto 4, 3) := by decide +kernel
theorem dd_OneSided_crowd_8 : decode mm_OneSided_crowd.2.1 8 = .ok (.aload_n 0, 1) := by decide +kernel
theorem dd_OneSided_crowd_9 : decode mm_OneSided_crowd.2.1 9 = .ok (.iload_n 2, 1) := by decide +kernel
theorem dd_OneSided_crowd_10 : decode mm_OneSided_crowd.2.1 10 = .ok (.invokevirtual 190, 3) := by decide +kernel
theorem dd_OneSided_crowd_13 : decode mm_OneSided_crowd.2.1 13 = .ok (.ifCond .eq (8), 3) := by decide +kernel
theorem dd_OneSided_crowd_16 : decode mm_OneSided_crowd.2.1 16 = .ok (.iload_n 1, 1) := by decide +kernel
theorem dd_OneSided_crowd_17 : decode mm_OneSided_crowd.2.1 17 = .ok (.iload_n 2, 1) := by decide +kernel
theorem dd_OneSided_crowd_18 : decode mm_OneSided_crowd.2.1 18 = .ok (.if_icmp .ne (5), 3) := by decide +kernel
theorem dd_OneSided_crowd_23 : decode mm_OneSided_crowd.2.1 23 = .ok (.iload_n 3, 1) := by decide +kernel
theorem dd_OneSided_crowd_24 : decode mm_OneSided_crowd.2.1 24 = .ok (.aload_n 0, 1) := by decide +kernel
theorem dd_OneSided_crowd_25 : decode mm_OneSided_crowd.2.1 25 = .ok (.getfield 29, 3) := by decide +kernel
theorem fd_11_29 : fld 11 29 = some (11, 3) := by decide +kernel
theorem rf_1_3 {h : LH} (hF : RF h) : rd h 1 3 = 59 := hF 1 3 59 (by decide +kernel) (by decide +kernel)
theorem dd_OneSided_crowd_28 : decode mm_OneSided_crowd.2.1 28 = .ok (.getfield 149, 3) := by decide +kernel
theorem fd_11_149 : fld 11 149 = some (3, 0) := by decide +kernel
theorem rf_59_0 {h : LH} (hF : RF h) : rd h 59 0 = 60 := hF 59 0 60 (by decide +kernel) (by decide +kernel)
theorem io_59 : isO NC 59 3 = true := by decide +kernel
theorem dd_OneSided_crowd_31 : decode mm_OneSided_crowd.2.1 31 = .ok (.getfield 216, 3) := by decide +kernel
theorem fd_11_216 : fld 11 216 = some (9, 0) := by decide +kernel
theorem dd_OneSided_crowd_34 : decode mm_OneSided_crowd.2.1 34 = .ok (.if_icmp .lt (9), 3) := by decide +kernel
theorem dd_OneSided_crowd_43 : decode mm_OneSided_crowd.2.1 43 = .ok (.iconst (-1), 1) := by decide +kernel
theorem dd_OneSided_crowd_44 : decode mm_OneSided_crowd.2.1 44 = .ok (.ireturn, 1) := by decide +kernel
theorem dd_OneSided_crowd_37 : decode mm_OneSided_crowd.2.1 37 = .ok (.iload_n 3, 1) := by decide +kernel
theorem dd_OneSided_crowd_38 : decode mm_OneSided_crowd.2.1 38 = .ok (.bipush 24, 2) := by decide +kernel
theorem dd_OneSided_crowd_40 : decode mm_OneSided_crowd.2.1 40 = .ok (.if_icmp .lt (5), 3) := by decide +kernel
theorem dd_OneSided_crowd_45 : decode mm_OneSided_crowd.2.1 45 = .ok (.aload_n 0, 1) := by decide +kernel
theorem dd_OneSided_crowd_46 : decode mm_OneSided_crowd.2.1 46 = .ok (.getfield 63, 3) := by decide +kernel
theorem fd_11_63 : fld 11 63 = some (11, 12) := by decide +kernel
theorem rf_1_12 {h : LH} (hF : RF h) : rd h 1 12 = 84 := hF 1 12 84 (by decide +kernel) (by decide +kernel)
theorem dd_OneSided_crowd_49 : decode mm_OneSided_crowd.2.1 49 = .ok (.aload_n 0, 1) := by decide +kernel
theorem dd_OneSided_crowd_50 : decode mm_OneSided_crowd.2.1 50 = .ok (.getfield 19, 3) := by decide +kernel
theorem dd_OneSided_crowd_53 : decode mm_OneSided_crowd.2.1 53 = .ok (.aload_n 0, 1) := by decide +kernel
theorem dd_OneSided_crowd_54 : decode mm_OneSided_crowd.2.1 54 = .ok (.getfield 29, 3) := by decide +kernel
theorem dd_OneSided_crowd_57 : decode mm_OneSided_crowd.2.1 57 = .ok (.getfield 149, 3) := by decide +kernel
theorem dd_OneSided_crowd_60 : decode mm_OneSided_crowd.2.1 60 = .ok (.iload_n 1, 1) := by decide +kernel
theorem dd_OneSided_crowd_61 : decode mm_OneSided_crowd.2.1 61 = .ok (.iload_n 2, 1) := by decide +kernel
theorem dd_OneSided_crowd_62 : decode mm_OneSided_crowd.2.1 62 = .ok (.iload_n 3, 1) := by decide +kernel
theorem dd_OneSided_crowd_63 : decode mm_OneSided_crowd.2.1 63 = .ok (.invokevirtual 284, 3) := by decide +kernel
theorem cw_11_284 : cwOk 11 284 0 111 6 10 0 = true := by decide +kernel
theorem mt_Crowd_most : MTB 111 = some mm_Crowd_most := rfl
theorem dd_OneSided_crowd_66 : decode mm_OneSided_crowd.2.1 66 = .ok (.ireturn, 1) := by decide +kernel
theorem B_OneSided_crowd_0 {xs : Nat → Int} {xl e : Nat} {h : LH} {Q : Option LV → LH → Prop} {v1 v2 v3 : Int} {q : Int} (hq : q = 5 ∨ q = 32) (hQ : rd h 1 ((1 : Nat) : Int) = q) (hF : RF h) (he : 1 ≤ e)
    (k : (v1 < 0 →
        Q (some (.inl (-1))) h) ∧
      (0 ≤ v1 →
        ((rd h q 0) ≤ v1 →
          Q (some (.inl (-1))) h) ∧
        (v1 < (rd h q 0) →
          (v2 < 0 →
            Q (some (.inl (-1))) h) ∧
          (0 ≤ v2 →
            ((rd h q 0) ≤ v2 →
              Q (some (.inl (-1))) h) ∧
            (v2 < (rd h q 0) →
              (v1 ≠ v2 →
                (v3 < (rd h 60 0) →
                  Q (some (.inl (-1))) h) ∧
                ((rd h 60 0) ≤ v3 →
                  (v3 < 24 →
                    (∃ c, c < e ∧ Rn xs xl c mm_Crowd_most 0 [some (.inr (.inr 84)), some (.inr (.inr q)), some (.inr (.inr 60)), some (.inl v1), some (.inl v2), some (.inl v3), none, none, none, none] [] h (fun r h' => Rn xs xl e mm_OneSided_crowd 66 [some (.inr (.inr 1)), some (.inl v1), some (.inl v2), some (.inl v3)] (r.toList ++ []) h' Q))) ∧
                  (24 ≤ v3 →
                    Q (some (.inl (-1))) h))) ∧
              (v1 = v2 →
                Q (some (.inl (-1))) h)))))) :
    Rn xs xl e mm_OneSided_crowd 0 [some (.inr (.inr 1)), some (.inl v1), some (.inl v2), some (.inl v3)] [] h Q := by
  refine R_ld (v := .inr (.inr 1)) dd_OneSided_crowd_0 rfl rfl rfl rfl ?_
  refine R_ld (v := .inl v1) dd_OneSided_crowd_1 rfl rfl rfl rfl ?_
  refine R_call (as := [.inr (.inr 1), .inl v1]) (rest := []) (M' := mm_OneSided_isRoom) (ls0 := [some (.inr (.inr 1)), some (.inl v1)]) dd_OneSided_crowd_2 rfl rfl (cw_v cw_11_190 io_1 rfl rfl (Nat.le_of_ble_eq_true rfl) (Nat.le_of_ble_eq_true rfl)) mt_OneSided_isRoom rfl (c := e - 1) (by omega) rfl ?_
  refine R_ld (v := .inl v1) dd_OneSided_isRoom_0 rfl rfl rfl rfl ?_
  refine R_if dd_OneSided_isRoom_1 rfl rfl (fun (c2 : v1 < 0) => ?_) (fun (c2 : 0 ≤ v1) => ?_)
  · replace k := k.1 c2
    refine R_ic dd_OneSided_isRoom_19 (by decide) rfl ?_
    refine R_zret dd_OneSided_isRoom_20 rfl (by decide) ?_
    change Rn xs xl e mm_OneSided_crowd 5 [some (.inr (.inr 1)), some (.inl v1), some (.inl v2), some (.inl v3)] [.inl 0] h _
    refine R_if dd_OneSided_crowd_5 rfl rfl (fun (c3 : 0 = 0) => ?_) (fun (c3 : 0 ≠ 0) => ?_)
    · skip
      refine R_ic dd_OneSided_crowd_21 (by decide) rfl ?_
      exact R_iret dd_OneSided_crowd_22 rfl k
    · exact absurd c3 (by omega)
  · replace k := k.2 c2
    refine R_ld (v := .inl v1) dd_OneSided_isRoom_4 rfl rfl rfl rfl ?_
    refine R_ld (v := .inr (.inr 1)) dd_OneSided_isRoom_5 rfl rfl rfl rfl ?_
    refine R_gf (v := .inr (.inr q)) dd_OneSided_isRoom_6 fd_11_19 io_1 (congrArg (fun z : Int => (Sum.inr (Sum.inr z) : LV)) hQ) rfl ?_
    refine R_gf (v := .inl (rd h q 0)) dd_OneSided_isRoom_9 fd_11_267 (io_q hq) rfl rfl ?_
    refine R_icmp dd_OneSided_isRoom_12 rfl rfl (fun (c4 : (rd h q 0) ≤ v1) => ?_) (fun (c4 : v1 < (rd h q 0)) => ?_)
    · replace k := k.1 c4
      refine R_ic dd_OneSided_isRoom_19 (by decide) rfl ?_
      refine R_zret dd_OneSided_isRoom_20 rfl (by decide) ?_
      change Rn xs xl e mm_OneSided_crowd 5 [some (.inr (.inr 1)), some (.inl v1), some (.inl v2), some (.inl v3)] [.inl 0] h _
      refine R_if dd_OneSided_crowd_5 rfl rfl (fun (c5 : 0 = 0) => ?_) (fun (c5 : 0 ≠ 0) => ?_)
      · skip
        refine R_ic dd_OneSided_crowd_21 (by decide) rfl ?_
        exact R_iret dd_OneSided_crowd_22 rfl k
      · exact absurd c5 (by omega)
    · replace k := k.2 c4
      refine R_ic dd_OneSided_isRoom_15 (by decide) rfl ?_
      refine R_goto dd_OneSided_isRoom_16 rfl ?_
      refine R_zret dd_OneSided_isRoom_20 rfl (by decide) ?_
      change Rn xs xl e mm_OneSided_crowd 5 [some (.inr (.inr 1)), some (.inl v1), some (.inl v2), some (.inl v3)] [.inl 1] h _
      refine R_if dd_OneSided_crowd_5 rfl rfl (fun (c6 : 1 = 0) => ?_) (fun (c6 : 1 ≠ 0) => ?_)
      · exact absurd c6 (by omega)
      · skip
        refine R_ld (v := .inr (.inr 1)) dd_OneSided_crowd_8 rfl rfl rfl rfl ?_
        refine R_ld (v := .inl v2) dd_OneSided_crowd_9 rfl rfl rfl rfl ?_
        refine R_call (as := [.inr (.inr 1), .inl v2]) (rest := []) (M' := mm_OneSided_isRoom) (ls0 := [some (.inr (.inr 1)), some (.inl v2)]) dd_OneSided_crowd_10 rfl rfl (cw_v cw_11_190 io_1 rfl rfl (Nat.le_of_ble_eq_true rfl) (Nat.le_of_ble_eq_true rfl)) mt_OneSided_isRoom rfl (c := e - 1) (by omega) rfl ?_
        refine R_ld (v := .inl v2) dd_OneSided_isRoom_0 rfl rfl rfl rfl ?_
        refine R_if dd_OneSided_isRoom_1 rfl rfl (fun (c7 : v2 < 0) => ?_) (fun (c7 : 0 ≤ v2) => ?_)
        · replace k := k.1 c7
          refine R_ic dd_OneSided_isRoom_19 (by decide) rfl ?_
          refine R_zret dd_OneSided_isRoom_20 rfl (by decide) ?_
          change Rn xs xl e mm_OneSided_crowd 13 [some (.inr (.inr 1)), some (.inl v1), some (.inl v2), some (.inl v3)] [.inl 0] h _
          refine R_if dd_OneSided_crowd_13 rfl rfl (fun (c8 : 0 = 0) => ?_) (fun (c8 : 0 ≠ 0) => ?_)
          · skip
            refine R_ic dd_OneSided_crowd_21 (by decide) rfl ?_
            exact R_iret dd_OneSided_crowd_22 rfl k
          · exact absurd c8 (by omega)
        · replace k := k.2 c7
          refine R_ld (v := .inl v2) dd_OneSided_isRoom_4 rfl rfl rfl rfl ?_
          refine R_ld (v := .inr (.inr 1)) dd_OneSided_isRoom_5 rfl rfl rfl rfl ?_
          refine R_gf (v := .inr (.inr q)) dd_OneSided_isRoom_6 fd_11_19 io_1 (congrArg (fun z : Int => (Sum.inr (Sum.inr z) : LV)) hQ) rfl ?_
          refine R_gf (v := .inl (rd h q 0)) dd_OneSided_isRoom_9 fd_11_267 (io_q hq) rfl rfl ?_
          refine R_icmp dd_OneSided_isRoom_12 rfl rfl (fun (c9 : (rd h q 0) ≤ v2) => ?_) (fun (c9 : v2 < (rd h q 0)) => ?_)
          · replace k := k.1 c9
            refine R_ic dd_OneSided_isRoom_19 (by decide) rfl ?_
            refine R_zret dd_OneSided_isRoom_20 rfl (by decide) ?_
            change Rn xs xl e mm_OneSided_crowd 13 [some (.inr (.inr 1)), some (.inl v1), some (.inl v2), some (.inl v3)] [.inl 0] h _
            refine R_if dd_OneSided_crowd_13 rfl rfl (fun (c10 : 0 = 0) => ?_) (fun (c10 : 0 ≠ 0) => ?_)
            · skip
              refine R_ic dd_OneSided_crowd_21 (by decide) rfl ?_
              exact R_iret dd_OneSided_crowd_22 rfl k
            · exact absurd c10 (by omega)
          · replace k := k.2 c9
            refine R_ic dd_OneSided_isRoom_15 (by decide) rfl ?_
            refine R_goto dd_OneSided_isRoom_16 rfl ?_
            refine R_zret dd_OneSided_isRoom_20 rfl (by decide) ?_
            change Rn xs xl e mm_OneSided_crowd 13 [some (.inr (.inr 1)), some (.inl v1), some (.inl v2), some (.inl v3)] [.inl 1] h _
            refine R_if dd_OneSided_crowd_13 rfl rfl (fun (c11 : 1 = 0) => ?_) (fun (c11 : 1 ≠ 0) => ?_)
            · exact absurd c11 (by omega)
            · skip
              refine R_ld (v := .inl v1) dd_OneSided_crowd_16 rfl rfl rfl rfl ?_
              refine R_ld (v := .inl v2) dd_OneSided_crowd_17 rfl rfl rfl rfl ?_
              refine R_icmp dd_OneSided_crowd_18 rfl rfl (fun (c12 : v1 ≠ v2) => ?_) (fun (c12 : v1 = v2) => ?_)
              · replace k := k.1 c12
                refine R_ld (v := .inl v3) dd_OneSided_crowd_23 rfl rfl rfl rfl ?_
                refine R_ld (v := .inr (.inr 1)) dd_OneSided_crowd_24 rfl rfl rfl rfl ?_
                refine R_gf (v := .inr (.inr 59)) dd_OneSided_crowd_25 fd_11_29 io_1 (congrArg (fun z : Int => (Sum.inr (Sum.inr z) : LV)) (rf_1_3 hF)) rfl ?_
                refine R_gf (v := .inr (.inr 60)) dd_OneSided_crowd_28 fd_11_149 io_59 (congrArg (fun z : Int => (Sum.inr (Sum.inr z) : LV)) (rf_59_0 hF)) rfl ?_
                refine R_gf (v := .inl (rd h 60 0)) dd_OneSided_crowd_31 fd_11_216 io_60 (congrArg (fun z : Int => (Sum.inl z : LV)) (rfl)) rfl ?_
                refine R_icmp dd_OneSided_crowd_34 rfl rfl (fun (c13 : v3 < (rd h 60 0)) => ?_) (fun (c13 : (rd h 60 0) ≤ v3) => ?_)
                · replace k := k.1 c13
                  refine R_ic dd_OneSided_crowd_43 (by decide) rfl ?_
                  exact R_iret dd_OneSided_crowd_44 rfl k
                · replace k := k.2 c13
                  refine R_ld (v := .inl v3) dd_OneSided_crowd_37 rfl rfl rfl rfl ?_
                  refine R_bi dd_OneSided_crowd_38 (by decide) rfl ?_
                  refine R_icmp dd_OneSided_crowd_40 rfl rfl (fun (c14 : v3 < 24) => ?_) (fun (c14 : 24 ≤ v3) => ?_)
                  · replace k := k.1 c14
                    refine R_ld (v := .inr (.inr 1)) dd_OneSided_crowd_45 rfl rfl rfl rfl ?_
                    refine R_gf (v := .inr (.inr 84)) dd_OneSided_crowd_46 fd_11_63 io_1 (congrArg (fun z : Int => (Sum.inr (Sum.inr z) : LV)) (rf_1_12 hF)) rfl ?_
                    refine R_ld (v := .inr (.inr 1)) dd_OneSided_crowd_49 rfl rfl rfl rfl ?_
                    refine R_gf (v := .inr (.inr q)) dd_OneSided_crowd_50 fd_11_19 io_1 (congrArg (fun z : Int => (Sum.inr (Sum.inr z) : LV)) hQ) rfl ?_
                    refine R_ld (v := .inr (.inr 1)) dd_OneSided_crowd_53 rfl rfl rfl rfl ?_
                    refine R_gf (v := .inr (.inr 59)) dd_OneSided_crowd_54 fd_11_29 io_1 (congrArg (fun z : Int => (Sum.inr (Sum.inr z) : LV)) (rf_1_3 hF)) rfl ?_
                    refine R_gf (v := .inr (.inr 60)) dd_OneSided_crowd_57 fd_11_149 io_59 (congrArg (fun z : Int => (Sum.inr (Sum.inr z) : LV)) (rf_59_0 hF)) rfl ?_
                    refine R_ld (v := .inl v1) dd_OneSided_crowd_60 rfl rfl rfl rfl ?_
                    refine R_ld (v := .inl v2) dd_OneSided_crowd_61 rfl rfl rfl rfl ?_
                    refine R_ld (v := .inl v3) dd_OneSided_crowd_62 rfl rfl rfl rfl ?_
                    obtain ⟨c, hc, k⟩ := k
                    exact R_call (as := [.inr (.inr 84), .inr (.inr q), .inr (.inr 60), .inl v1, .inl v2, .inl v3]) (rest := []) (M' := mm_Crowd_most) (ls0 := [some (.inr (.inr 84)), some (.inr (.inr q)), some (.inr (.inr 60)), some (.inl v1), some (.inl v2), some (.inl v3), none, none, none, none]) dd_OneSided_crowd_63 rfl rfl (cw_v cw_11_284 io_84 rfl rfl (Nat.le_of_ble_eq_true rfl) (Nat.le_of_ble_eq_true rfl)) mt_Crowd_most rfl hc rfl k
                  · replace k := k.2 c14
                    refine R_ic dd_OneSided_crowd_43 (by decide) rfl ?_
                    exact R_iret dd_OneSided_crowd_44 rfl k
              · replace k := k.2 c12
                refine R_ic dd_OneSided_crowd_21 (by decide) rfl ?_
                exact R_iret dd_OneSided_crowd_22 rfl k
theorem B_OneSided_crowd_66 {xs : Nat → Int} {xl e : Nat} {h : LH} {Q : Option LV → LH → Prop} {v1 v2 v3 w0 : Int} (hF : RF h)
    (k : Q (some (.inl w0)) h) :
    Rn xs xl e mm_OneSided_crowd 66 [some (.inr (.inr 1)), some (.inl v1), some (.inl v2), some (.inl v3)] [.inl w0] h Q := by
  exact R_iret dd_OneSided_crowd_66 rfl k
