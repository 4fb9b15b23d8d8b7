/-! LM, by program (wip/p2/hand.py): rows of a scene -/
theorem dd_Scene_tryDoor_0 : decode mm_Scene_tryDoor.2.1 0 = .ok (.aload_n 0, 1) := by decide +kernel
theorem dd_Scene_tryDoor_1 : decode mm_Scene_tryDoor.2.1 1 = .ok (.getfield 18, 3) := by decide +kernel
theorem fd_9_18 : fld 9 18 = some (9, 0) := by decide +kernel
theorem dd_Scene_tryDoor_4 : decode mm_Scene_tryDoor.2.1 4 = .ok (.bipush 24, 2) := by decide +kernel
theorem dd_Scene_tryDoor_6 : decode mm_Scene_tryDoor.2.1 6 = .ok (.if_icmp .ge (14), 3) := by decide +kernel
theorem dd_Scene_tryDoor_20 : decode mm_Scene_tryDoor.2.1 20 = .ok (.iconst (-1), 1) := by decide +kernel
theorem dd_Scene_tryDoor_21 : decode mm_Scene_tryDoor.2.1 21 = .ok (.ireturn, 1) := by decide +kernel
theorem dd_Scene_tryDoor_9 : decode mm_Scene_tryDoor.2.1 9 = .ok (.aload_n 0, 1) := by decide +kernel
theorem dd_Scene_tryDoor_10 : decode mm_Scene_tryDoor.2.1 10 = .ok (.getfield 25, 3) := by decide +kernel
theorem fd_9_25 : fld 9 25 = some (9, 2) := by decide +kernel
theorem dd_Scene_tryDoor_13 : decode mm_Scene_tryDoor.2.1 13 = .ok (.iload_n 2, 1) := by decide +kernel
theorem dd_Scene_tryDoor_14 : decode mm_Scene_tryDoor.2.1 14 = .ok (.ishr, 1) := by decide +kernel
theorem dd_Scene_tryDoor_15 : decode mm_Scene_tryDoor.2.1 15 = .ok (.iconst 1, 1) := by decide +kernel
theorem dd_Scene_tryDoor_16 : decode mm_Scene_tryDoor.2.1 16 = .ok (.iand, 1) := by decide +kernel
theorem dd_Scene_tryDoor_17 : decode mm_Scene_tryDoor.2.1 17 = .ok (.ifCond .eq (5), 3) := by decide +kernel
theorem dd_Scene_tryDoor_22 : decode mm_Scene_tryDoor.2.1 22 = .ok (.aload_n 1, 1) := by decide +kernel
theorem dd_Scene_tryDoor_23 : decode mm_Scene_tryDoor.2.1 23 = .ok (.getfield 42, 3) := by decide +kernel
theorem fd_9_42 : fld 9 42 = some (6, 3) := by decide +kernel
theorem dd_Scene_tryDoor_26 : decode mm_Scene_tryDoor.2.1 26 = .ok (.iload_n 2, 1) := by decide +kernel
theorem dd_Scene_tryDoor_27 : decode mm_Scene_tryDoor.2.1 27 = .ok (.aaload, 1) := by decide +kernel
theorem dd_Scene_tryDoor_28 : decode mm_Scene_tryDoor.2.1 28 = .ok (.astore 4, 2) := by decide +kernel
theorem dd_Scene_tryDoor_30 : decode mm_Scene_tryDoor.2.1 30 = .ok (.aload_n 1, 1) := by decide +kernel
theorem dd_Scene_tryDoor_31 : decode mm_Scene_tryDoor.2.1 31 = .ok (.iload_n 3, 1) := by decide +kernel
theorem dd_Scene_tryDoor_32 : decode mm_Scene_tryDoor.2.1 32 = .ok (.aload 4, 2) := by decide +kernel
theorem dd_Scene_tryDoor_34 : decode mm_Scene_tryDoor.2.1 34 = .ok (.getfield 66, 3) := by decide +kernel
theorem fd_9_66 : fld 9 66 = some (4, 1) := by decide +kernel
theorem dd_Scene_tryDoor_37 : decode mm_Scene_tryDoor.2.1 37 = .ok (.aload_n 0, 1) := by decide +kernel
theorem dd_Scene_tryDoor_38 : decode mm_Scene_tryDoor.2.1 38 = .ok (.getfield 9, 3) := by decide +kernel
theorem fd_9_9 : fld 9 9 = some (9, 4) := by decide +kernel
theorem dd_Scene_tryDoor_41 : decode mm_Scene_tryDoor.2.1 41 = .ok (.iload_n 2, 1) := by decide +kernel
theorem dd_Scene_tryDoor_42 : decode mm_Scene_tryDoor.2.1 42 = .ok (.iaload, 1) := by decide +kernel
theorem dd_Scene_tryDoor_43 : decode mm_Scene_tryDoor.2.1 43 = .ok (.aload_n 0, 1) := by decide +kernel
theorem dd_Scene_tryDoor_44 : decode mm_Scene_tryDoor.2.1 44 = .ok (.getfield 18, 3) := by decide +kernel
theorem dd_Scene_tryDoor_47 : decode mm_Scene_tryDoor.2.1 47 = .ok (.aload_n 0, 1) := by decide +kernel
theorem dd_Scene_tryDoor_48 : decode mm_Scene_tryDoor.2.1 48 = .ok (.getfield 22, 3) := by decide +kernel
theorem fd_9_22 : fld 9 22 = some (9, 1) := by decide +kernel
theorem dd_Scene_tryDoor_51 : decode mm_Scene_tryDoor.2.1 51 = .ok (.invokevirtual 69, 3) := by decide +kernel
theorem cw_9_69 : cwOk 9 69 0 67 6 7 6 = true := by decide +kernel
theorem dd_Scene_tryDoor_54 : decode mm_Scene_tryDoor.2.1 54 = .ok (.istore 5, 2) := by decide +kernel
theorem dd_Scene_tryDoor_56 : decode mm_Scene_tryDoor.2.1 56 = .ok (.iload 5, 2) := by decide +kernel
theorem dd_Scene_tryDoor_58 : decode mm_Scene_tryDoor.2.1 58 = .ok (.iconst (-1), 1) := by decide +kernel
theorem dd_Scene_tryDoor_59 : decode mm_Scene_tryDoor.2.1 59 = .ok (.if_icmp .eq (21), 3) := by decide +kernel
theorem dd_Scene_tryDoor_80 : decode mm_Scene_tryDoor.2.1 80 = .ok (.iconst (-1), 1) := by decide +kernel
theorem dd_Scene_tryDoor_81 : decode mm_Scene_tryDoor.2.1 81 = .ok (.ireturn, 1) := by decide +kernel
theorem dd_Scene_tryDoor_62 : decode mm_Scene_tryDoor.2.1 62 = .ok (.aload_n 0, 1) := by decide +kernel
theorem dd_Scene_tryDoor_63 : decode mm_Scene_tryDoor.2.1 63 = .ok (.getfield 15, 3) := by decide +kernel
theorem fd_9_15 : fld 9 15 = some (9, 5) := by decide +kernel
theorem dd_Scene_tryDoor_66 : decode mm_Scene_tryDoor.2.1 66 = .ok (.iload_n 3, 1) := by decide +kernel
theorem dd_Scene_tryDoor_67 : decode mm_Scene_tryDoor.2.1 67 = .ok (.iaload, 1) := by decide +kernel
theorem dd_Scene_tryDoor_68 : decode mm_Scene_tryDoor.2.1 68 = .ok (.aload_n 1, 1) := by decide +kernel
theorem dd_Scene_tryDoor_69 : decode mm_Scene_tryDoor.2.1 69 = .ok (.getfield 73, 3) := by decide +kernel
theorem fd_9_73 : fld 9 73 = some (6, 1) := by decide +kernel
theorem dd_Scene_tryDoor_72 : decode mm_Scene_tryDoor.2.1 72 = .ok (.iload_n 3, 1) := by decide +kernel
theorem dd_Scene_tryDoor_73 : decode mm_Scene_tryDoor.2.1 73 = .ok (.aaload, 1) := by decide +kernel
theorem dd_Scene_tryDoor_74 : decode mm_Scene_tryDoor.2.1 74 = .ok (.getfield 77, 3) := by decide +kernel
theorem fd_9_77 : fld 9 77 = some (1, 7) := by decide +kernel
theorem dd_Scene_tryDoor_77 : decode mm_Scene_tryDoor.2.1 77 = .ok (.if_icmp .lt (5), 3) := by decide +kernel
theorem dd_Scene_tryDoor_82 : decode mm_Scene_tryDoor.2.1 82 = .ok (.aload_n 0, 1) := by decide +kernel
theorem dd_Scene_tryDoor_83 : decode mm_Scene_tryDoor.2.1 83 = .ok (.getfield 9, 3) := by decide +kernel
theorem dd_Scene_tryDoor_86 : decode mm_Scene_tryDoor.2.1 86 = .ok (.iload_n 2, 1) := by decide +kernel
theorem dd_Scene_tryDoor_87 : decode mm_Scene_tryDoor.2.1 87 = .ok (.iload 5, 2) := by decide +kernel
theorem dd_Scene_tryDoor_89 : decode mm_Scene_tryDoor.2.1 89 = .ok (.iastore, 1) := by decide +kernel
theorem dd_Scene_tryDoor_90 : decode mm_Scene_tryDoor.2.1 90 = .ok (.aload_n 0, 1) := by decide +kernel
theorem dd_Scene_tryDoor_91 : decode mm_Scene_tryDoor.2.1 91 = .ok (.getfield 15, 3) := by decide +kernel
theorem dd_Scene_tryDoor_94 : decode mm_Scene_tryDoor.2.1 94 = .ok (.iload_n 3, 1) := by decide +kernel
theorem dd_Scene_tryDoor_95 : decode mm_Scene_tryDoor.2.1 95 = .ok (.dup2, 1) := by decide +kernel
theorem dd_Scene_tryDoor_96 : decode mm_Scene_tryDoor.2.1 96 = .ok (.iaload, 1) := by decide +kernel
theorem dd_Scene_tryDoor_97 : decode mm_Scene_tryDoor.2.1 97 = .ok (.iconst 1, 1) := by decide +kernel
theorem dd_Scene_tryDoor_98 : decode mm_Scene_tryDoor.2.1 98 = .ok (.iadd, 1) := by decide +kernel
theorem dd_Scene_tryDoor_99 : decode mm_Scene_tryDoor.2.1 99 = .ok (.iastore, 1) := by decide +kernel
theorem dd_Scene_tryDoor_100 : decode mm_Scene_tryDoor.2.1 100 = .ok (.aload_n 0, 1) := by decide +kernel
theorem dd_Scene_tryDoor_101 : decode mm_Scene_tryDoor.2.1 101 = .ok (.dup, 1) := by decide +kernel
theorem dd_Scene_tryDoor_102 : decode mm_Scene_tryDoor.2.1 102 = .ok (.getfield 25, 3) := by decide +kernel
theorem dd_Scene_tryDoor_105 : decode mm_Scene_tryDoor.2.1 105 = .ok (.iconst 1, 1) := by decide +kernel
theorem dd_Scene_tryDoor_106 : decode mm_Scene_tryDoor.2.1 106 = .ok (.iload_n 2, 1) := by decide +kernel
theorem dd_Scene_tryDoor_107 : decode mm_Scene_tryDoor.2.1 107 = .ok (.ishl, 1) := by decide +kernel
theorem dd_Scene_tryDoor_108 : decode mm_Scene_tryDoor.2.1 108 = .ok (.ior, 1) := by decide +kernel
theorem dd_Scene_tryDoor_109 : decode mm_Scene_tryDoor.2.1 109 = .ok (.putfield 25, 3) := by decide +kernel
theorem fn_9_2 : fin 9 2 = false := by decide +kernel
theorem dd_Scene_tryDoor_112 : decode mm_Scene_tryDoor.2.1 112 = .ok (.aload_n 0, 1) := by decide +kernel
theorem dd_Scene_tryDoor_113 : decode mm_Scene_tryDoor.2.1 113 = .ok (.dup, 1) := by decide +kernel
theorem dd_Scene_tryDoor_114 : decode mm_Scene_tryDoor.2.1 114 = .ok (.getfield 28, 3) := by decide +kernel
theorem fd_9_28 : fld 9 28 = some (9, 3) := by decide +kernel
theorem dd_Scene_tryDoor_117 : decode mm_Scene_tryDoor.2.1 117 = .ok (.iload 5, 2) := by decide +kernel
theorem dd_Scene_tryDoor_119 : decode mm_Scene_tryDoor.2.1 119 = .ok (.aload 4, 2) := by decide +kernel
theorem dd_Scene_tryDoor_121 : decode mm_Scene_tryDoor.2.1 121 = .ok (.getfield 51, 3) := by decide +kernel
theorem fd_9_51 : fld 9 51 = some (4, 3) := by decide +kernel
theorem dd_Scene_tryDoor_124 : decode mm_Scene_tryDoor.2.1 124 = .ok (.if_icmp .ne (9), 3) := by decide +kernel
theorem dd_Scene_tryDoor_133 : decode mm_Scene_tryDoor.2.1 133 = .ok (.iconst 0, 1) := by decide +kernel
theorem dd_Scene_tryDoor_134 : decode mm_Scene_tryDoor.2.1 134 = .ok (.ior, 1) := by decide +kernel
theorem dd_Scene_tryDoor_135 : decode mm_Scene_tryDoor.2.1 135 = .ok (.putfield 28, 3) := by decide +kernel
theorem fn_9_3 : fin 9 3 = false := by decide +kernel
theorem dd_Scene_tryDoor_138 : decode mm_Scene_tryDoor.2.1 138 = .ok (.iload 5, 2) := by decide +kernel
theorem dd_Scene_tryDoor_140 : decode mm_Scene_tryDoor.2.1 140 = .ok (.ireturn, 1) := by decide +kernel
theorem dd_Scene_tryDoor_127 : decode mm_Scene_tryDoor.2.1 127 = .ok (.iconst 1, 1) := by decide +kernel
theorem dd_Scene_tryDoor_128 : decode mm_Scene_tryDoor.2.1 128 = .ok (.iload_n 2, 1) := by decide +kernel
theorem dd_Scene_tryDoor_129 : decode mm_Scene_tryDoor.2.1 129 = .ok (.ishl, 1) := by decide +kernel
theorem dd_Scene_tryDoor_130 : decode mm_Scene_tryDoor.2.1 130 = .ok (.goto 4, 3) := by decide +kernel
/-- a scene of the class -/
def scn (c : Int) : Prop := c = 60 ∨ c = 68 ∨ c = 103 ∨ c = 111 ∨ c = 119 ∨ c = 127 ∨ (134 ≤ c ∧ c ≤ 179 ∧ (c - 134) % 3 = 0)
theorem scn_all {c : Int} (hc : scn c) {P : Int → Prop} (p1 : P 60) (p2 : P 68) (p3 : P 103) (p4 : P 111) (p5 : P 119) (p6 : P 127) (p7 : ∀ k : Nat, k < 16 → P (134 + 3 * (k : Int))) : P c := by
  unfold scn at hc
  rcases hc with rfl | rfl | rfl | rfl | rfl | rfl | hc
  · exact p1
  · exact p2
  · exact p3
  · exact p4
  · exact p5
  · exact p6
  · have := p7 ((c - 134) / 3).toNat (by omega)
    rw [show 134 + 3 * ((((c - 134) / 3).toNat : Nat) : Int) = c by omega] at this
    exact this
theorem io_c {c : Int} (hc : scn c) : isO NC c 9 = true := by
  refine scn_all (P := fun c => isO NC c 9 = true) hc ?_ ?_ ?_ ?_ ?_ ?_ ?_ <;> decide +kernel
theorem ia_wc {c : Int} (hc : scn c) : isA NC (c + 1) 1 = true := by
  refine scn_all (P := fun c => isA NC (c + 1) 1 = true) hc ?_ ?_ ?_ ?_ ?_ ?_ ?_ <;> decide +kernel
theorem la_wc {c : Int} (hc : scn c) : (lay (c + 1).toNat).2.2 = 6 := by
  refine scn_all (P := fun c => (lay (c + 1).toNat).2.2 = 6) hc ?_ ?_ ?_ ?_ ?_ ?_ ?_ <;> decide +kernel
theorem ia_tc {c : Int} (hc : scn c) : isA NC (c + 2) 1 = true := by
  refine scn_all (P := fun c => isA NC (c + 2) 1 = true) hc ?_ ?_ ?_ ?_ ?_ ?_ ?_ <;> decide +kernel
theorem la_tc {c : Int} (hc : scn c) : (lay (c + 2).toNat).2.2 = 14 := by
  refine scn_all (P := fun c => (lay (c + 2).toNat).2.2 = 14) hc ?_ ?_ ?_ ?_ ?_ ?_ ?_ <;> decide +kernel
theorem rs_wh {h : LH} {c : Int} (hF : RF h) (hc : scn c) : rd h c ((4 : Nat) : Int) = c + 1 := by
  refine hF c 4 (c + 1) ?_ ?_
  · refine scn_all (P := fun c => vB c ((4 : Nat) : Int) = true) hc ?_ ?_ ?_ ?_ ?_ ?_ ?_ <;> decide +kernel
  · refine scn_all (P := fun c => hav c ((4 : Nat) : Int) = (2, c + 1, c + 1, 0)) hc ?_ ?_ ?_ ?_ ?_ ?_ ?_ <;> decide +kernel
theorem rs_th {h : LH} {c : Int} (hF : RF h) (hc : scn c) : rd h c ((5 : Nat) : Int) = c + 2 := by
  refine hF c 5 (c + 2) ?_ ?_
  · refine scn_all (P := fun c => vB c ((5 : Nat) : Int) = true) hc ?_ ?_ ?_ ?_ ?_ ?_ ?_ <;> decide +kernel
  · refine scn_all (P := fun c => hav c ((5 : Nat) : Int) = (2, c + 2, c + 2, 0)) hc ?_ ?_ ?_ ?_ ?_ ?_ ?_ <;> decide +kernel
theorem B_Scene_tryDoor_0 {xs : Nat → Int} {xl e : Nat} {h : LH} {Q : Option LV → LH → Prop} {v2 v3 : Int} {sc : Int} (hsc : scn sc) (hc0 : 60 ≤ sc) {q : Int} (hq : q = 5 ∨ q = 32) (hF : RF h) (hP : PT h) (r_v2 : 0 ≤ v2 ∧ v2 ≤ 5) (r_v3 : 0 ≤ v3 ∧ v3 ≤ 13)
    (k : (24 ≤ (rd h sc 0) →
        Q (some (.inl (-1))) h) ∧
      ((rd h sc 0) < 24 →
        ((zand (zshr (rd h sc 2) v2) 1) = 0 →
          (∃ c, c < e ∧ Rn xs xl c mm_Quarter_into 0 [some (.inr (.inr q)), some (.inl v3), some (.inl (rd h (q + 21 + v2) 1)), some (.inl (rd h (sc + 1) v2)), some (.inl (rd h sc 0)), some (.inl (rd h sc 1)), none] [] h (fun r h' => Rn xs xl e mm_Scene_tryDoor 54 [some (.inr (.inr sc)), some (.inr (.inr q)), some (.inl v2), some (.inl v3), some (.inr (.inr (q + 21 + v2))), none] (r.toList ++ []) h' Q))) ∧
        ((zand (zshr (rd h sc 2) v2) 1) ≠ 0 →
          Q (some (.inl (-1))) h))) :
    Rn xs xl e mm_Scene_tryDoor 0 [some (.inr (.inr sc)), some (.inr (.inr q)), some (.inl v2), some (.inl v3), none, none] [] h Q := by
  refine R_ld (v := .inr (.inr sc)) dd_Scene_tryDoor_0 rfl rfl rfl rfl ?_
  refine R_gf (v := .inl (rd h sc 0)) dd_Scene_tryDoor_1 fd_9_18 (io_c hsc) (congrArg (fun z : Int => (Sum.inl z : LV)) (rfl)) rfl ?_
  refine R_bi dd_Scene_tryDoor_4 (by decide) rfl ?_
  refine R_icmp dd_Scene_tryDoor_6 rfl rfl (fun (c2 : 24 ≤ (rd h sc 0)) => ?_) (fun (c2 : (rd h sc 0) < 24) => ?_)
  · replace k := k.1 c2
    refine R_ic dd_Scene_tryDoor_20 (by decide) rfl ?_
    exact R_iret dd_Scene_tryDoor_21 rfl k
  · replace k := k.2 c2
    refine R_ld (v := .inr (.inr sc)) dd_Scene_tryDoor_9 rfl rfl rfl rfl ?_
    refine R_gf (v := .inl (rd h sc 2)) dd_Scene_tryDoor_10 fd_9_25 (io_c hsc) (congrArg (fun z : Int => (Sum.inl z : LV)) (rfl)) rfl ?_
    refine R_ld (v := .inl v2) dd_Scene_tryDoor_13 rfl rfl rfl rfl ?_
    refine R_A dd_Scene_tryDoor_14 rfl rfl rfl rfl ?_
    refine R_ic dd_Scene_tryDoor_15 (by decide) rfl ?_
    refine R_A dd_Scene_tryDoor_16 rfl rfl rfl rfl ?_
    refine R_if dd_Scene_tryDoor_17 rfl rfl (fun (c3 : (zand (zshr (rd h sc 2) v2) 1) = 0) => ?_) (fun (c3 : (zand (zshr (rd h sc 2) v2) 1) ≠ 0) => ?_)
    · replace k := k.1 c3
      refine R_ld (v := .inr (.inr q)) dd_Scene_tryDoor_22 rfl rfl rfl rfl ?_
      refine R_gf (v := .inr (.inr (q + 2))) dd_Scene_tryDoor_23 fd_9_42 (io_q hq) (congrArg (fun z : Int => (Sum.inr (Sum.inr z) : LV)) (rq_ppl hF hq)) rfl ?_
      refine R_ld (v := .inl v2) dd_Scene_tryDoor_26 rfl rfl rfl rfl ?_
      refine R_aald (v := (q + 21 + v2)) (n := 6) dd_Scene_tryDoor_27 (ia_pq hq) (la_pq hq) (by omega) (rq_p hP hq (by omega)) rfl ?_
      refine R_st (ls' := [some (.inr (.inr sc)), some (.inr (.inr q)), some (.inl v2), some (.inl v3), some (.inr (.inr (q + 21 + v2))), none]) dd_Scene_tryDoor_28 rfl rfl rfl (Nat.le_of_ble_eq_true rfl) rfl rfl ?_
      refine R_ld (v := .inr (.inr q)) dd_Scene_tryDoor_30 rfl rfl rfl rfl ?_
      refine R_ld (v := .inl v3) dd_Scene_tryDoor_31 rfl rfl rfl rfl ?_
      refine R_ld (v := .inr (.inr (q + 21 + v2))) dd_Scene_tryDoor_32 rfl rfl rfl rfl ?_
      refine R_gf (v := .inl (rd h (q + 21 + v2) 1)) dd_Scene_tryDoor_34 fd_9_66 (io_p hq (by omega)) (congrArg (fun z : Int => (Sum.inl z : LV)) (rfl)) rfl ?_
      refine R_ld (v := .inr (.inr sc)) dd_Scene_tryDoor_37 rfl rfl rfl rfl ?_
      refine R_gf (v := .inr (.inr (sc + 1))) dd_Scene_tryDoor_38 fd_9_9 (io_c hsc) (congrArg (fun z : Int => (Sum.inr (Sum.inr z) : LV)) (rs_wh hF hsc)) rfl ?_
      refine R_ld (v := .inl v2) dd_Scene_tryDoor_41 rfl rfl rfl rfl ?_
      refine R_iald (v := (rd h (sc + 1) v2)) (n := 6) dd_Scene_tryDoor_42 (ia_wc hsc) (la_wc hsc) (by omega) (rfl) rfl ?_
      refine R_ld (v := .inr (.inr sc)) dd_Scene_tryDoor_43 rfl rfl rfl rfl ?_
      refine R_gf (v := .inl (rd h sc 0)) dd_Scene_tryDoor_44 fd_9_18 (io_c hsc) (congrArg (fun z : Int => (Sum.inl z : LV)) (rfl)) rfl ?_
      refine R_ld (v := .inr (.inr sc)) dd_Scene_tryDoor_47 rfl rfl rfl rfl ?_
      refine R_gf (v := .inl (rd h sc 1)) dd_Scene_tryDoor_48 fd_9_22 (io_c hsc) (congrArg (fun z : Int => (Sum.inl z : LV)) (rfl)) rfl ?_
      obtain ⟨c, hc, k⟩ := k
      exact R_call (as := [.inr (.inr q), .inl v3, .inl (rd h (q + 21 + v2) 1), .inl (rd h (sc + 1) v2), .inl (rd h sc 0), .inl (rd h sc 1)]) (rest := []) (M' := mm_Quarter_into) (ls0 := [some (.inr (.inr q)), some (.inl v3), some (.inl (rd h (q + 21 + v2) 1)), some (.inl (rd h (sc + 1) v2)), some (.inl (rd h sc 0)), some (.inl (rd h sc 1)), none]) dd_Scene_tryDoor_51 rfl rfl (cw_v cw_9_69 (io_q hq) rfl rfl (Nat.le_of_ble_eq_true rfl) (Nat.le_of_ble_eq_true rfl)) mt_Quarter_into rfl hc rfl k
    · replace k := k.2 c3
      refine R_ic dd_Scene_tryDoor_20 (by decide) rfl ?_
      exact R_iret dd_Scene_tryDoor_21 rfl k
theorem B_Scene_tryDoor_54 {xs : Nat → Int} {xl e : Nat} {h : LH} {Q : Option LV → LH → Prop} {v2 v3 w0 : Int} {sc : Int} (hsc : scn sc) (hc0 : 60 ≤ sc) {q : Int} (hq : q = 5 ∨ q = 32) (hF : RF h) (hP : PT h) (r_v2 : 0 ≤ v2 ∧ v2 ≤ 5) (r_v3 : 0 ≤ v3 ∧ v3 ≤ 13)
    (k : (w0 = (-1) →
        Q (some (.inl (-1))) h) ∧
      (w0 ≠ (-1) →
        ((rd h (sc + 2) v3) < (rd h (q + 7 + v3) 7) →
          (w0 ≠ (rd h (q + 21 + v2) 3) →
            Q (some (.inl w0)) (wr (wr (wr (wr h (sc + 1) v2 w0) (sc + 2) v3 (w32 ((rd h (sc + 2) v3) + 1))) sc 2 (zor (rd h sc 2) (zshl 1 v2))) sc 3 (zor (rd h sc 3) 0))) ∧
          (w0 = (rd h (q + 21 + v2) 3) →
            Q (some (.inl w0)) (wr (wr (wr (wr h (sc + 1) v2 w0) (sc + 2) v3 (w32 ((rd h (sc + 2) v3) + 1))) sc 2 (zor (rd h sc 2) (zshl 1 v2))) sc 3 (zor (rd h sc 3) (zshl 1 v2))))) ∧
        ((rd h (q + 7 + v3) 7) ≤ (rd h (sc + 2) v3) →
          Q (some (.inl (-1))) h))) :
    Rn xs xl e mm_Scene_tryDoor 54 [some (.inr (.inr sc)), some (.inr (.inr q)), some (.inl v2), some (.inl v3), some (.inr (.inr (q + 21 + v2))), none] [.inl w0] h Q := by
  refine R_st (ls' := [some (.inr (.inr sc)), some (.inr (.inr q)), some (.inl v2), some (.inl v3), some (.inr (.inr (q + 21 + v2))), some (.inl w0)]) dd_Scene_tryDoor_54 rfl rfl rfl (Nat.le_of_ble_eq_true rfl) rfl rfl ?_
  refine R_ld (v := .inl w0) dd_Scene_tryDoor_56 rfl rfl rfl rfl ?_
  refine R_ic dd_Scene_tryDoor_58 (by decide) rfl ?_
  refine R_icmp dd_Scene_tryDoor_59 rfl rfl (fun (c1 : w0 = (-1)) => ?_) (fun (c1 : w0 ≠ (-1)) => ?_)
  · replace k := k.1 c1
    refine R_ic dd_Scene_tryDoor_80 (by decide) rfl ?_
    exact R_iret dd_Scene_tryDoor_81 rfl k
  · replace k := k.2 c1
    refine R_ld (v := .inr (.inr sc)) dd_Scene_tryDoor_62 rfl rfl rfl rfl ?_
    refine R_gf (v := .inr (.inr (sc + 2))) dd_Scene_tryDoor_63 fd_9_15 (io_c hsc) (congrArg (fun z : Int => (Sum.inr (Sum.inr z) : LV)) (rs_th hF hsc)) rfl ?_
    refine R_ld (v := .inl v3) dd_Scene_tryDoor_66 rfl rfl rfl rfl ?_
    refine R_iald (v := (rd h (sc + 2) v3)) (n := 14) dd_Scene_tryDoor_67 (ia_tc hsc) (la_tc hsc) (by omega) (rfl) rfl ?_
    refine R_ld (v := .inr (.inr q)) dd_Scene_tryDoor_68 rfl rfl rfl rfl ?_
    refine R_gf (v := .inr (.inr (q + 1))) dd_Scene_tryDoor_69 fd_9_73 (io_q hq) (congrArg (fun z : Int => (Sum.inr (Sum.inr z) : LV)) (rq_arr hF hq)) rfl ?_
    refine R_ld (v := .inl v3) dd_Scene_tryDoor_72 rfl rfl rfl rfl ?_
    refine R_aald (v := (q + 7 + v3)) (n := 14) dd_Scene_tryDoor_73 (ia_dq hq) (la_dq hq) (by omega) (rq_d hP hq (by omega)) rfl ?_
    refine R_gf (v := .inl (rd h (q + 7 + v3) 7)) dd_Scene_tryDoor_74 fd_9_77 (io_d hq (by omega)) (congrArg (fun z : Int => (Sum.inl z : LV)) (rfl)) rfl ?_
    refine R_icmp dd_Scene_tryDoor_77 rfl rfl (fun (c2 : (rd h (sc + 2) v3) < (rd h (q + 7 + v3) 7)) => ?_) (fun (c2 : (rd h (q + 7 + v3) 7) ≤ (rd h (sc + 2) v3)) => ?_)
    · replace k := k.1 c2
      refine R_ld (v := .inr (.inr sc)) dd_Scene_tryDoor_82 rfl rfl rfl rfl ?_
      refine R_gf (v := .inr (.inr (sc + 1))) dd_Scene_tryDoor_83 fd_9_9 (io_c hsc) (congrArg (fun z : Int => (Sum.inr (Sum.inr z) : LV)) (rs_wh hF hsc)) rfl ?_
      refine R_ld (v := .inl v2) dd_Scene_tryDoor_86 rfl rfl rfl rfl ?_
      refine R_ld (v := .inl w0) dd_Scene_tryDoor_87 rfl rfl rfl rfl ?_
      refine R_iast (n := 6) dd_Scene_tryDoor_89 (ia_wc hsc) (la_wc hsc) (by omega) rfl ?_
      refine R_ld (v := .inr (.inr sc)) dd_Scene_tryDoor_90 rfl rfl rfl rfl ?_
      refine R_gf (v := .inr (.inr (sc + 2))) dd_Scene_tryDoor_91 fd_9_15 (io_c hsc) (congrArg (fun z : Int => (Sum.inr (Sum.inr z) : LV)) ((rdw_ne (by omega)).trans (rs_th hF hsc))) rfl ?_
      refine R_ld (v := .inl v3) dd_Scene_tryDoor_94 rfl rfl rfl rfl ?_
      refine R_A dd_Scene_tryDoor_95 rfl rfl rfl rfl ?_
      refine R_iald (v := (rd h (sc + 2) v3)) (n := 14) dd_Scene_tryDoor_96 (ia_tc hsc) (la_tc hsc) (by omega) (rdw_ne (by omega)) rfl ?_
      refine R_ic dd_Scene_tryDoor_97 (by decide) rfl ?_
      refine R_iaddw dd_Scene_tryDoor_98 rfl ?_
      refine R_iast (n := 14) dd_Scene_tryDoor_99 (ia_tc hsc) (la_tc hsc) (by omega) rfl ?_
      refine R_ld (v := .inr (.inr sc)) dd_Scene_tryDoor_100 rfl rfl rfl rfl ?_
      refine R_A dd_Scene_tryDoor_101 rfl rfl rfl rfl ?_
      refine R_gf (v := .inl (rd h sc 2)) dd_Scene_tryDoor_102 fd_9_25 (io_c hsc) (congrArg (fun z : Int => (Sum.inl z : LV)) ((rdw_ne (by omega)).trans (rdw_ne (by omega)))) rfl ?_
      refine R_ic dd_Scene_tryDoor_105 (by decide) rfl ?_
      refine R_ld (v := .inl v2) dd_Scene_tryDoor_106 rfl rfl rfl rfl ?_
      refine R_A dd_Scene_tryDoor_107 rfl rfl rfl rfl ?_
      refine R_A dd_Scene_tryDoor_108 rfl rfl rfl rfl ?_
      refine R_pf (z := (zor (rd h sc 2) (zshl 1 v2))) dd_Scene_tryDoor_109 fd_9_25 (io_c hsc) fn_9_2 rfl rfl ?_
      refine R_ld (v := .inr (.inr sc)) dd_Scene_tryDoor_112 rfl rfl rfl rfl ?_
      refine R_A dd_Scene_tryDoor_113 rfl rfl rfl rfl ?_
      refine R_gf (v := .inl (rd h sc 3)) dd_Scene_tryDoor_114 fd_9_28 (io_c hsc) (congrArg (fun z : Int => (Sum.inl z : LV)) ((rdw_nei (by omega)).trans ((rdw_ne (by omega)).trans (rdw_ne (by omega))))) rfl ?_
      refine R_ld (v := .inl w0) dd_Scene_tryDoor_117 rfl rfl rfl rfl ?_
      refine R_ld (v := .inr (.inr (q + 21 + v2))) dd_Scene_tryDoor_119 rfl rfl rfl rfl ?_
      refine R_gf (v := .inl (rd h (q + 21 + v2) 3)) dd_Scene_tryDoor_121 fd_9_51 (io_p hq (by omega)) (congrArg (fun z : Int => (Sum.inl z : LV)) ((rdw_ne (by omega)).trans ((rdw_ne (by omega)).trans (rdw_ne (by omega))))) rfl ?_
      refine R_icmp dd_Scene_tryDoor_124 rfl rfl (fun (c3 : w0 ≠ (rd h (q + 21 + v2) 3)) => ?_) (fun (c3 : w0 = (rd h (q + 21 + v2) 3)) => ?_)
      · replace k := k.1 c3
        refine R_ic dd_Scene_tryDoor_133 (by decide) rfl ?_
        refine R_A dd_Scene_tryDoor_134 rfl rfl rfl rfl ?_
        refine R_pf (z := (zor (rd h sc 3) 0)) dd_Scene_tryDoor_135 fd_9_28 (io_c hsc) fn_9_3 rfl rfl ?_
        refine R_ld (v := .inl w0) dd_Scene_tryDoor_138 rfl rfl rfl rfl ?_
        exact R_iret dd_Scene_tryDoor_140 rfl k
      · replace k := k.2 c3
        refine R_ic dd_Scene_tryDoor_127 (by decide) rfl ?_
        refine R_ld (v := .inl v2) dd_Scene_tryDoor_128 rfl rfl rfl rfl ?_
        refine R_A dd_Scene_tryDoor_129 rfl rfl rfl rfl ?_
        refine R_goto dd_Scene_tryDoor_130 rfl ?_
        refine R_A dd_Scene_tryDoor_134 rfl rfl rfl rfl ?_
        refine R_pf (z := (zor (rd h sc 3) (zshl 1 v2))) dd_Scene_tryDoor_135 fd_9_28 (io_c hsc) fn_9_3 rfl rfl ?_
        refine R_ld (v := .inl w0) dd_Scene_tryDoor_138 rfl rfl rfl rfl ?_
        exact R_iret dd_Scene_tryDoor_140 rfl k
    · replace k := k.2 c2
      refine R_ic dd_Scene_tryDoor_80 (by decide) rfl ?_
      exact R_iret dd_Scene_tryDoor_81 rfl k
