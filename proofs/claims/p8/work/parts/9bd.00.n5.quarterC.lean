/-! days, part n5: the class's quarter, and the names that it leaves -/
section NF5
variable {xs : Nat → Int} {xl e : Nat} {h : LH} {Q : Option LV → LH → Prop} {q R t : Int} {T : Int → Int} {n : Int} {W : Int → Int} {s : Int × Nat} {N ND NP : List Nat}
theorem DCK_w {y : QY} {g : LH} (hq : q = 5 ∨ q = 32) (hd : DCK T n g q R y) : DCK T n (wr g 2 0 0) q R y := by
  obtain ⟨d1, d2, d3, d4, d5⟩ := hd
  have l14 := d1.2.2.1
  refine ⟨NCK_fr d1 (fun a i ha => rdw_ne (by omega)), (rdw_ne (by omega)).trans d2, d3, d4, (rdw_ne (by omega)).trans d5.1, fun i hi => (rdw_ne (by omega)).trans (d5.2 i hi)⟩
theorem F_readQuarterN (he : 41 ≤ e) (hq : q = 5 ∨ q = 32) (hP : PT h) (hx : CX T n W h) (k : ∀ h', ((qF (tO T n) (tV T n 32) (tW T n 32 W) (tP T n)).1.1 = 0 → DCK T n h' q (qR (tV T n 32) (tW T n 32 W) (tP T n)) (qF (tO T n) (tV T n 32) (tW T n 32 W) (tP T n))) → Q (some (.inl (qF (tO T n) (tV T n 32) (tW T n 32 W) (tP T n)).1.1)) h') :
    Rn xs xl e mm_Reader_readQuarter 0 [some (.inr (.inr 2)), some (.inr (.inr q)), none] [] h Q := by
  generalize eF : qF (tO T n) (tV T n 32) (tW T n 32 W) (tP T n) = Y at k
  obtain ⟨R, hRq⟩ : ∃ R, R = qR (tV T n 32) (tW T n 32 W) (tP T n) := ⟨_, rfl⟩
  rw [← hRq] at k
  have nq : ∀ i, ¬ muR q i := fun i => by unfold muR; omega
  have loop : ∀ (c : Nat) (g : LH) (y : QY), c ≤ 1000 → qL (tO T n) (tV T n 32) (tW T n 32 W) (tP T n) R c y = Y → CSK T n W g y.1 → PT g → (y.1.1 = 0 → DCK T n g q R y) → Rn xs xl e mm_Reader_readQuarter 32 [some (.inr (.inr 2)), some (.inr (.inr q)), some (.inl (1000 - (c : Int)))] [] g Q := by
    intro c
    induction c with
    | zero =>
      intro g y _ eY hs gP hd
      have e8 := hs.2.1
      have eY' : y = Y := eY
      refine B_Reader_readQuarter_32 hq hs.1.1 (by omega) ⟨fun _ => B_Reader_readQuarter_127 hq hs.1.1 ?_, fun z => by omega⟩
      have := k (wr g 2 0 0)
      rw [← eY', ← e8] at this
      exact this (fun z => DCK_w hq (hd (e8.symm.trans z)))
    | succ c ih =>
      intro g y hc eY hs gP hd
      have gF := hs.1.1
      have e8 := hs.2.1
      have ep : ∀ c : Int, 1 ≤ c → (tkE (tP T n) c y.1).1 ≠ 0 := fun c hc => tkE_ne hs.1.2.1 hc
      have stop : ¬ (y.1.1 = 0 ∧ tO T n y.1.2 ≠ 0) → Rn xs xl e mm_Reader_readQuarter 127 [some (.inr (.inr 2)), some (.inr (.inr q)), some (.inl (1000 - ((c + 1 : Nat) : Int)))] [] g Q := by
        intro ns
        have eY' : y = Y := by rw [qL_stop ns] at eY; exact eY
        refine B_Reader_readQuarter_127 hq gF ?_
        have := k (wr g 2 0 0)
        rw [← eY', ← e8] at this
        exact this (fun z => DCK_w hq (hd (e8.symm.trans z)))
      refine B_Reader_readQuarter_32 hq gF (by omega) ⟨fun z => by omega, fun _ => ⟨fun z => stop (fun z2 => z (e8.trans z2.1)), fun z => ?_⟩⟩
      have z0 : y.1.1 = 0 := e8.symm.trans z
      have ek := CS_k hs z0
      have ew := CS_w hs z0
      refine ⟨fun z2 => stop (fun z3 => z3.2 (ck_0.mp (ek.symm.trans z2))), fun z2 => ?_⟩
      have no : tO T n y.1.2 ≠ 0 := fun z3 => z2 (ek.trans (ck_0.mpr z3))
      obtain ⟨d1, d2, d3, d4, d5⟩ := hd z0
      rw [qL_go ⟨z0, no⟩] at eY
      have next : ∀ g1 : LH, CSK T n W g1 (qS (tO T n) (tV T n 32) (tW T n 32 W) (tP T n) R y).1 → PT g1 → ((qS (tO T n) (tV T n 32) (tW T n 32 W) (tP T n) R y).1.1 = 0 → DCK T n g1 q R (qS (tO T n) (tV T n 32) (tW T n 32 W) (tP T n) R y)) → Rn xs xl e mm_Reader_readQuarter 121 [some (.inr (.inr 2)), some (.inr (.inr q)), some (.inl (1000 - ((c + 1 : Nat) : Int)))] [] g1 Q := by
        generalize qS (tO T n) (tV T n 32) (tW T n 32 W) (tP T n) R y = y' at eY
        intro g1 c1 p1 dd
        have := ih g1 y' (by omega) eY c1 p1 dd
        rw [show 1000 - (c : Int) = 1000 - ((c + 1 : Nat) : Int) + 1 by omega] at this
        exact B_Reader_readQuarter_121 hq c1.1.1 (by omega) this
      have bad : ∀ (g1 : LH) (c0 : Int), 1 ≤ c0 → (qS (tO T n) (tV T n 32) (tW T n 32 W) (tP T n) R y) = (tkE (tP T n) c0 y.1, y.2) → CSK T n W g1 (tkE (tP T n) c0 y.1) → frK g g1 → Rn xs xl e mm_Reader_readQuarter 121 [some (.inr (.inr 2)), some (.inr (.inr q)), some (.inl (1000 - ((c + 1 : Nat) : Int)))] [] g1 Q := by
        intro g1 c0 h0 eS c1 f1
        refine next g1 (by rw [eS]; exact c1) (PT_fr gP (fun a i ha => f1 _ _ (by unfold muR; omega))) (fun z3 => ?_)
        rw [eS] at z3
        exact absurd z3 (ep c0 h0)
      refine ⟨fun w1 => ?_, fun w7 => ?_, fun w11 => ?_, fun wd => ?_⟩
      · have w1' : tW T n 32 W y.1.2 = 1 := ew.symm.trans w1
        by_cases c14 : 14 ≤ y.2.2.1.length
        · have eS : (qS (tO T n) (tV T n 32) (tW T n 32 W) (tP T n) R y) = (tkE (tP T n) 5 y.1, y.2) := by unfold qS; rw [if_pos w1', if_pos c14]
          have dl := d1.1
          exact ⟨1, by omega, B_Reader_doorLine_0 hq gF gP ⟨fun z3 => by omega, fun _ => ⟨0, by omega, F_fl hs (by omega) (fun g1 c1 f1 => B_Reader_doorLine_14 hq c1.1.1 (B_Reader_readQuarter_97 hq c1.1.1 (bad g1 5 (by decide) eS c1 f1)))⟩⟩⟩
        · have eS : (qS (tO T n) (tV T n 32) (tW T n 32 W) (tP T n) R y) = (tkS (tO T n) (tV T n 32) (tP T n) 59 (drL (tO T n) (tV T n 32) (tW T n 32 W) (tP T n) R y.2.1 y.1), y.2.1 ++ [y.1.2 + 1], y.2.2.1 ++ [y.1.2 + 1], y.2.2.2.1, y.2.2.2.2) := by unfold qS; rw [if_pos w1', if_neg c14]
          refine ⟨5, by omega, F_doorLine (by omega) hq gP hs z0 no d1 (by omega) d4 d2 d3 (fun g1 c1 a1 n1 f1 => B_Reader_readQuarter_97 hq c1.1.1 (next g1 (by rw [eS]; exact c1) (PT_fr gP (fun a i ha => f1 _ _ (by unfold muR; omega) (by omega) (by omega))) (fun z3 => ?_)))⟩
          rw [eS] at z3 ⊢
          have a0 := (a1 z3).1
          obtain ⟨b1, b2, ⟨b3, b3'⟩, b4, b5⟩ := d1
          refine ⟨⟨?_, ?_, ⟨?_, b3'⟩, fun i hi => ?_, fun i hi => ?_⟩, ?_, d3, any_d _ d4, ?_, fun i hi => ?_⟩
          · show rd g1 q 2 = (((y.2.2.1 ++ [y.1.2 + 1]).length : Nat) : Int)
            rw [n1, List.length_append, List.length_singleton]; omega
          · exact (f1 _ _ (nq _) (by omega) (by omega)).trans b2
          · show (y.2.2.1 ++ [y.1.2 + 1]).length ≤ 14
            rw [List.length_append, List.length_singleton]; omega
          · have hi' : i < (y.2.2.1 ++ [y.1.2 + 1]).length := hi
            rw [List.length_append, List.length_singleton] at hi'
            show rd g1 (q + 7 + i) 0 = tV T n 32 ((y.2.2.1 ++ [y.1.2 + 1]).getD i 0)
            rcases Nat.lt_or_ge i y.2.2.1.length with u | u
            · rw [getD_l u, f1 _ _ (by unfold muR; omega) (by omega) (by omega)]
              exact b4 i u
            · have u' : i = y.2.2.1.length := by omega
              rw [u', getD_e]
              exact a0
          · have hi' : i < y.2.2.2.1.length := hi
            exact (f1 _ _ (by unfold muR; omega) (by omega) (by omega)).trans (b5 i hi)
          · exact (f1 _ _ (nq _) (by omega) (by omega)).trans d2
          · exact (f1 _ _ (nq _) (by omega) (by omega)).trans d5.1
          · exact (f1 _ _ (by unfold muR; omega) (by omega) (by omega)).trans (d5.2 i hi)
      · have w7' : tW T n 32 W y.1.2 = 7 := ew.symm.trans w7
        have n1' : ¬ tW T n 32 W y.1.2 = 1 := by omega
        by_cases c6 : 6 ≤ y.2.2.2.1.length
        · have eS : (qS (tO T n) (tV T n 32) (tW T n 32 W) (tP T n) R y) = (tkE (tP T n) 5 y.1, y.2) := by unfold qS; rw [if_neg n1', if_pos w7', if_pos c6]
          have dl := d1.2.1
          exact ⟨1, by omega, B_Reader_personLine_0 hq gF gP ⟨fun z3 => by omega, fun _ => ⟨0, by omega, F_fl hs (by omega) (fun g1 c1 f1 => B_Reader_personLine_14 hq c1.1.1 (B_Reader_readQuarter_105 hq c1.1.1 (bad g1 5 (by decide) eS c1 f1)))⟩⟩⟩
        · have eS : (qS (tO T n) (tV T n 32) (tW T n 32 W) (tP T n) R y) = (tkS (tO T n) (tV T n 32) (tP T n) 59 (psL (tO T n) (tV T n 32) (tW T n 32 W) (tP T n) R y.2.1 y.1), y.2.1 ++ [y.1.2 + 1], y.2.2.1, y.2.2.2.1 ++ [y.1.2 + 1], y.2.2.2.2) := by unfold qS; rw [if_neg n1', if_pos w7', if_neg c6]
          refine ⟨5, by omega, F_personLine (by omega) hq gP hs z0 no d1 (by omega) d4 d2 d3 (fun g1 c1 a1 n1 f1 => B_Reader_readQuarter_105 hq c1.1.1 (next g1 (by rw [eS]; exact c1) (PT_fr gP (fun a i ha => f1 _ _ (by unfold muR; omega) (by omega) (by omega))) (fun z3 => ?_)))⟩
          rw [eS] at z3 ⊢
          have a0 := (a1 z3).1
          obtain ⟨b1, b2, ⟨b3, b3'⟩, b4, b5⟩ := d1
          refine ⟨⟨?_, ?_, ⟨b3, ?_⟩, fun i hi => ?_, fun i hi => ?_⟩, ?_, d3, any_p _ d4, ?_, fun i hi => ?_⟩
          · exact (f1 _ _ (nq _) (by omega) (by omega)).trans b1
          · show rd g1 q 4 = (((y.2.2.2.1 ++ [y.1.2 + 1]).length : Nat) : Int)
            rw [n1, List.length_append, List.length_singleton]; omega
          · show (y.2.2.2.1 ++ [y.1.2 + 1]).length ≤ 6
            rw [List.length_append, List.length_singleton]; omega
          · have hi' : i < y.2.2.1.length := hi
            exact (f1 _ _ (by unfold muR; omega) (by omega) (by omega)).trans (b4 i hi)
          · have hi' : i < (y.2.2.2.1 ++ [y.1.2 + 1]).length := hi
            rw [List.length_append, List.length_singleton] at hi'
            show rd g1 (q + 21 + i) 0 = tV T n 32 ((y.2.2.2.1 ++ [y.1.2 + 1]).getD i 0)
            rcases Nat.lt_or_ge i y.2.2.2.1.length with u | u
            · rw [getD_l u, f1 _ _ (by unfold muR; omega) (by omega) (by omega)]
              exact b5 i u
            · have u' : i = y.2.2.2.1.length := by omega
              rw [u', getD_e]
              exact a0
          · exact (f1 _ _ (nq _) (by omega) (by omega)).trans d2
          · exact (f1 _ _ (nq _) (by omega) (by omega)).trans d5.1
          · exact (f1 _ _ (by unfold muR; omega) (by omega) (by omega)).trans (d5.2 i hi)
      · have w11' : tW T n 32 W y.1.2 = 11 := ew.symm.trans w11
        have n1' : ¬ tW T n 32 W y.1.2 = 1 := by omega
        have n7' : ¬ tW T n 32 W y.1.2 = 7 := by omega
        have dl := d5.1
        by_cases cl : 0 < y.2.2.2.2.length
        · have eS : (qS (tO T n) (tV T n 32) (tW T n 32 W) (tP T n) R y) = (tkE (tP T n) 3 y.1, y.2) := by unfold qS; rw [if_neg n1', if_neg n7', if_pos w11', if_pos cl]
          exact ⟨1, by omega, B_Reader_letLine_0 hq gF ⟨fun z3 => by omega, fun _ => ⟨0, by omega, F_fl hs (by omega) (fun g1 c1 f1 => B_Reader_letLine_12 hq c1.1.1 (B_Reader_readQuarter_113 hq c1.1.1 (bad g1 3 (by decide) eS c1 f1)))⟩⟩⟩
        · have eS : (qS (tO T n) (tV T n 32) (tW T n 32 W) (tP T n) R y) = (tkS (tO T n) (tV T n 32) (tP T n) 59 (qX (tO T n) (tV T n 32) (tW T n 32 W) (tP T n) y.1).1, y.2.1, y.2.2.1, y.2.2.2.1, (qX (tO T n) (tV T n 32) (tW T n 32 W) (tP T n) y.1).2) := by unfold qS; rw [if_neg n1', if_neg n7', if_pos w11', if_neg cl]
          refine ⟨40, by omega, F_letLine (by omega) hq hs z0 no (by omega) (fun g1 c1 a1 f1 => B_Reader_readQuarter_113 hq c1.1.1 (next g1 (by rw [eS]; exact c1) (PT_fr gP (fun a i ha => f1 _ _ (by unfold muE muR; omega))) (fun z3 => ?_)))⟩
          rw [eS] at z3 ⊢
          refine ⟨NCK_fr d1 (fun a i ha => f1 _ _ ?_), (f1 _ _ (by unfold muE muR; omega)).trans d2, d3, d4, a1 z3⟩
          have l14 := d1.2.2.1
          unfold muE muR
          omega
      · have n1' : ¬ tW T n 32 W y.1.2 = 1 := fun z3 => wd.1 (ew.trans z3)
        have n7' : ¬ tW T n 32 W y.1.2 = 7 := fun z3 => wd.2.1 (ew.trans z3)
        have n11' : ¬ tW T n 32 W y.1.2 = 11 := fun z3 => wd.2.2 (ew.trans z3)
        have eS : (qS (tO T n) (tV T n 32) (tW T n 32 W) (tP T n) R y) = (tkE (tP T n) 1 y.1, y.2) := by unfold qS; rw [if_neg n1', if_neg n7', if_neg n11']
        exact ⟨0, by omega, F_fl hs (by omega) (fun g1 c1 f1 => bad g1 1 (by decide) eS c1 f1)⟩
  refine B_Reader_readQuarter_0 hq hx.1 ⟨3, by omega, F_begin (by omega) hx (fun h1 s1 f1 => ?_)⟩
  have q4 : 4 < q := by omega
  have s2 : CSK T n W (wr (wr (wr (wr h1 q 0 2) q 2 0) q 4 0) q 6 0) (0, 0) := CSK_wn (CSK_wn (CSK_wn (CSK_wn s1 (hav_qf hq (by decide)) q4) (hav_qf hq (by decide)) q4) (hav_qf hq (by decide)) q4) (hav_qf hq (by decide)) q4
  refine B_Reader_readQuarter_4 hq s1.1.1 (by omega) ⟨3, by omega, F_takeWord (by omega) s2 (by decide) (fun h3 s3 f3 => ?_)⟩
  refine B_Reader_readQuarter_13 hq s3.1.1 ⟨3, by omega, F_takeNumber (by omega) s3 ⟨by unfold i32; omega, by unfold i32; omega⟩ (fun h4 r s4 f4 r0 r1 q4' => ?_)⟩
  refine B_Reader_readQuarter_21 hq s4.1.1 ⟨3, by omega, F_takeSign (by omega) (CSK_wn s4 (hav_qf hq (by decide)) q4) (fun h5 s5 f5 => B_Reader_readQuarter_30 hq s5.1.1 ?_)⟩
  have P5 : PT h5 := by
    refine PT_fr hP (fun a i ha => ?_)
    rw [f5 _ _ (by unfold muR; omega), rdw_ne (by omega), f4 _ _ (by unfold muR; omega), f3 _ _ (by unfold muR; omega), rdw_ne (by omega), rdw_ne (by omega), rdw_ne (by omega), rdw_ne (by omega), f1 _ _ (by unfold muR; omega)]
  have v : ∀ i, i ≠ 0 → rd h5 q i = rd (wr (wr (wr (wr h1 q 0 2) q 2 0) q 4 0) q 6 0) q i := by
    intro i hi
    rw [f5 _ _ (nq _), rdw_nei (Ne.symm hi), f4 _ _ (nq _), f3 _ _ (nq _)]
  refine loop 1000 h5 (qB (tO T n) (tV T n 32) (tW T n 32 W) (tP T n)) (Nat.le_refl _) (by rw [hRq]; exact eF) s5 P5 (fun z => ?_)
  have er : r = R := ((q4' (tkS_z z)).1).trans hRq.symm
  refine ⟨⟨?_, ?_, ⟨Nat.zero_le 14, Nat.zero_le 6⟩, fun i hi => absurd hi (Nat.not_lt_zero i), fun i hi => absurd hi (Nat.not_lt_zero i)⟩, ?_, ?_, fun f => rfl, ?_, fun i hi => absurd hi (Nat.not_lt_zero i)⟩
  · rw [v 2 (by decide), rdw_nei (by decide), rdw_nei (by decide), rdw_eq]; rfl
  · rw [v 4 (by decide), rdw_nei (by decide), rdw_eq]; rfl
  · rw [f5 _ _ (nq _), rdw_eq]; exact er
  · have := (q4' (tkS_z z)).2
    rw [← er]; omega
  · rw [v 6 (by decide), rdw_eq]; rfl
def bxo (bs : BX) (lo hi : Int) : Bool := bs.all (fun b => (decide (b.1 = 2) && decide (b.2.1 = 2)) || (decide (lo ≤ b.1) && decide (b.2.1 ≤ hi)))
theorem bxo_f {bs : BX} {lo hi a i : Int} (hb : bxo bs lo hi = true) (h1 : a ≠ 2) (h2 : ¬ (lo ≤ a ∧ a ≤ hi)) : inBx bs a i = false := by
  refine inBx_f (fun b hm z => ?_)
  have y := List.all_eq_true.mp hb b hm
  simp only [Bool.or_eq_true, Bool.and_eq_true, decide_eq_true_eq] at y
  omega
theorem K_readQuarterF (he : 39 ≤ e) (hq : q = 5 ∨ q = 32) (hI : INV h) (k : ∀ r h', INV h' → (∀ a i, a ≠ 2 → ¬ (q ≤ a ∧ a ≤ q + 26) → rd h' a i = rd h a i) → Q r h') : Rn xs xl e mm_Reader_readQuarter 0 [some (.inr (.inr 2)), some (.inr (.inr q)), none] [] h Q := by
  rcases hq with rfl | rfl
  · exact use_sm (tabC (j := 72) rfl) (as := [.inr (.inr 2), .inr (.inr 5)]) rfl he hI (gAr_c (g_ref 2) (gAr_c (g_ref 5) gAr_n)) rfl (Nat.le_of_ble_eq_true rfl) rfl (fun r h' i' f q => k r h' i' (fun a i n1 n2 => f a i (bxo_f (lo := 5) (hi := 31) (by decide +kernel) n1 (by omega))))
  · exact use_sm (tabC (j := 117) rfl) (as := [.inr (.inr 2), .inr (.inr 32)]) rfl he hI (gAr_c (g_ref 2) (gAr_c (g_ref 32) gAr_n)) rfl (Nat.le_of_ble_eq_true rfl) rfl (fun r h' i' f q => k r h' i' (fun a i n1 n2 => f a i (bxo_f (lo := 32) (hi := 58) (by decide +kernel) n1 (by omega))))
theorem K_settleF (he : 6 ≤ e) (hq : q = 5 ∨ q = 32) (hI : INV h) (k : ∀ h', INV h' → (∀ a i, a ≠ 2 → ¬ (q + 4 ≤ a ∧ a ≤ q + 6) → rd h' a i = rd h a i) → Q none h') : Rn xs xl e mm_Quarter_settle 0 [some (.inr (.inr q)), none, none] [] h Q := by
  rcases hq with rfl | rfl
  · exact use_sm (tabC (j := 124) rfl) (as := [.inr (.inr 5)]) rfl he hI (gAr_c (g_ref 5) gAr_n) rfl (Nat.le_of_ble_eq_true rfl) rfl (fun r h' i' f q => by rw [res_none q]; exact k h' i' (fun a i n1 n2 => f a i (bxo_f (lo := 9) (hi := 11) (by decide +kernel) n1 (by omega))))
  · exact use_sm (tabC (j := 129) rfl) (as := [.inr (.inr 32)]) rfl he hI (gAr_c (g_ref 32) gAr_n) rfl (Nat.le_of_ble_eq_true rfl) rfl (fun r h' i' f q => by rw [res_none q]; exact k h' i' (fun a i n1 n2 => f a i (bxo_f (lo := 36) (hi := 38) (by decide +kernel) n1 (by omega))))
theorem K_beginF (he : 3 ≤ e) (hq : q = 5 ∨ q = 32) (hI : INV h) (k : ∀ h', INV h' → (∀ a i, a ≠ 2 → ¬ (59 ≤ a ∧ a ≤ 62) → rd h' a i = rd h a i) → Q none h') : Rn xs xl e mm_Memory_begin 0 [some (.inr (.inr 59)), some (.inr (.inr q))] [] h Q := by
  rcases hq with rfl | rfl
  · exact use_sm (tabC (j := 132) rfl) (as := [.inr (.inr 59), .inr (.inr 5)]) rfl he hI (gAr_c (g_ref 59) (gAr_c (g_ref 5) gAr_n)) rfl (Nat.le_of_ble_eq_true rfl) rfl (fun r h' i' f q => by rw [res_none q]; exact k h' i' (fun a i n1 n2 => f a i (bxo_f (lo := 59) (hi := 62) (by decide +kernel) n1 n2)))
  · exact use_sm (tabC (j := 134) rfl) (as := [.inr (.inr 59), .inr (.inr 32)]) rfl he hI (gAr_c (g_ref 59) (gAr_c (g_ref 32) gAr_n)) rfl (Nat.le_of_ble_eq_true rfl) rfl (fun r h' i' f q => by rw [res_none q]; exact k h' i' (fun a i n1 n2 => f a i (bxo_f (lo := 59) (hi := 62) (by decide +kernel) n1 n2)))
/-- what the class's quarter leaves: with a fault, without -/
theorem E_quarterN (he : 42 ≤ e) (hI : INV h) (hP : PT h) (hT : TP T n h) (hW : rd h 4 = W) (k : ∀ h', ((qF (tO T n) (tV T n 32) (tW T n 32 W) (tP T n)).1.1 ≠ 0 → ∀ a i, a ≠ 2 → ¬ (rd h 1 2 ≤ a ∧ a ≤ rd h 1 2 + 26) → rd h' a i = rd h a i) → ((qF (tO T n) (tV T n 32) (tW T n 32 W) (tP T n)).1.1 = 0 → rd h' 1 1 = rd h 1 2 ∧ rd h' 1 2 = rd h 1 1 ∧ NCK T n h' (rd h 1 2) (qF (tO T n) (tV T n 32) (tW T n 32 W) (tP T n)).2.2.1 (qF (tO T n) (tV T n 32) (tW T n 32 W) (tP T n)).2.2.2.1) → Q (some (.inl (qF (tO T n) (tV T n 32) (tW T n 32 W) (tP T n)).1.1)) h') : Rn xs xl e mm_OneSided_quarter 0 [some (.inr (.inr 1)), none, none] [] h Q := by
  generalize eY : qF (tO T n) (tV T n 32) (tW T n 32 W) (tP T n) = Y at k
  have hS := rSf hI.1
  generalize eq : rd h 1 ((2 : Nat) : Int) = q at hS
  have eq' : rd h 1 2 = q := eq
  have A : Rn xs xl 41 mm_Reader_readQuarter 0 [some (.inr (.inr 2)), some (.inr (.inr q)), none] [] h (fun r g => r = some (.inl Y.1.1) ∧ (Y.1.1 = 0 → DCK T n g q (qR (tV T n 32) (tW T n 32 W) (tP T n)) Y)) := by
    refine F_readQuarterN (by omega) hS hP ⟨RF_of hI.1, hT, hW⟩ ?_
    rw [eY]
    exact fun h' d => ⟨rfl, d⟩
  have B : Rn xs xl 41 mm_Reader_readQuarter 0 [some (.inr (.inr 2)), some (.inr (.inr q)), none] [] h (fun r g => INV g ∧ (∀ a i, a ≠ 2 → ¬ (q ≤ a ∧ a ≤ q + 26) → rd g a i = rd h a i)) := K_readQuarterF (by omega) hS hI (fun r h' i' f' => ⟨i', f'⟩)
  refine B_OneSided_quarter_0 hS (rQf hI.1) eq rfl (RF_of hI.1) ⟨41, by omega, (A.and B).mono (fun r g z => ?_)⟩
  obtain ⟨⟨rfl, gD⟩, gI, gf⟩ := z
  have g2 : rd g 1 ((2 : Nat) : Int) = q := (gf 1 _ (by decide) (by omega)).trans eq
  rw [eq'] at k
  refine B_OneSided_quarter_11 hS (rQf gI.1) g2 rfl (RF_of gI.1) ⟨fun z => ?_, fun z => k g (fun _ => gf) (fun z2 => absurd z2 z)⟩
  have gD' := (gD z).1
  have g1 : rd g 1 ((1 : Nat) : Int) = rd h 1 1 := gf 1 _ (by decide) (by omega)
  have i1 := wQ_1 (wQ_2 gI (rQf gI.1)) hS
  refine B_OneSided_quarter_18 hS (rQf gI.1) g2 rfl (RF_of gI.1) ⟨6, by omega, K_settleF (by omega) hS i1 (fun g3 i3 f3 => ?_)⟩
  have e11 : rd g3 1 ((1 : Nat) : Int) = q := (f3 1 _ (by decide) (by omega)).trans rdw_eq
  have e12 : rd g3 1 ((2 : Nat) : Int) = rd h 1 1 := by
    rw [f3 1 _ (by decide) (by omega)]
    exact ((rdw_nei (by decide)).trans rdw_eq).trans g1
  refine B_OneSided_quarter_43 (rSf i3.1) hS rfl e11 (RF_of i3.1) ⟨3, by omega, K_beginF (by omega) hS i3 (fun g4 i4 f4 => ?_)⟩
  refine B_OneSided_quarter_54 (rSf i4.1) (rQf i4.1) rfl rfl (RF_of i4.1) ?_
  have := k (wr (wr g4 1 6 0) 1 9 0) (fun z2 => absurd z z2) (fun _ => ⟨?_, ?_, ?_⟩)
  · rw [z] at this; exact this
  · rw [rdw_nei (by decide), rdw_nei (by decide), f4 1 1 (by decide) (by decide)]
    exact e11
  · rw [rdw_nei (by decide), rdw_nei (by decide), f4 1 2 (by decide) (by decide)]
    exact e12
  · have l14 := gD'.2.2.1
    refine NCK_fr gD' (fun a i ha => ?_)
    rw [rdw_ne (by omega), rdw_ne (by omega), f4 a i (by omega) (by omega), f3 a i (by omega) (by omega), rdw_ne (by omega), rdw_ne (by omega)]
end NF5
