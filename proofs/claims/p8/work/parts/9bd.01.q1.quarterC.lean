/-! the quarter as read, part q1: the class keeps the fields -/
/-- fields of doors and people so far -/
def dDk (T : Int → Int) (n : Int) (W : Int → Int) (g : LH) (q : Int) (ND : List Nat) : Prop := ∀ i : Nat, i < ND.length → 1 ≤ ND.getD i 0 ∧ ∀ j : Nat, j < 8 → rd g (q + 7 + i) ((j : Int) + 1) = (dfl (tO T n) (tV T n 32) (tW T n 32 W) (tP T n) (ND.getD i 0 - 1)).getD j 0
def dPk (T : Int → Int) (n : Int) (W : Int → Int) (g : LH) (q : Int) (NP : List Nat) : Prop := ∀ i : Nat, i < NP.length → 1 ≤ NP.getD i 0 ∧ ∀ j : Nat, j < 4 → rd g (q + 21 + i) ((j : Int) + 1) = (pfl (tV T n 32) (tW T n 32 W) (NP.getD i 0 - 1)).getD j 0
def DCKf (T : Int → Int) (n : Int) (W : Int → Int) (g : LH) (q R : Int) (y : QY) : Prop := DCK T n g q R y ∧ dDk T n W g q y.2.2.1 ∧ dPk T n W g q y.2.2.2.1
section QG1
variable {xs : Nat → Int} {xl e : Nat} {h g g1 : LH} {Q : Option LV → LH → Prop} {q R t d : Int} {T : Int → Int} {n : Int} {W : Int → Int} {s : Int × Nat} {N ND NP : List Nat} {x : Nat}
theorem dD_same (hq : q = 5 ∨ q = 32) (h : dDk T n W g q ND) (f : ∀ (i : Nat) (j : Int), i < ND.length → rd g1 (q + 7 + i) j = rd g (q + 7 + i) j) : dDk T n W g1 q ND := fun i hi => ⟨(h i hi).1, fun j hj => (f i _ hi).trans ((h i hi).2 j hj)⟩
theorem dP_same (hq : q = 5 ∨ q = 32) (h : dPk T n W g q NP) (f : ∀ (i : Nat) (j : Int), i < NP.length → rd g1 (q + 21 + i) j = rd g (q + 21 + i) j) : dPk T n W g1 q NP := fun i hi => ⟨(h i hi).1, fun j hj => (f i _ hi).trans ((h i hi).2 j hj)⟩
theorem dD_app (hq : q = 5 ∨ q = 32) (hl : ND.length ≤ 14) (h : dDk T n W g q ND) (f : ∀ (i : Nat) (j : Int), i < ND.length → rd g1 (q + 7 + i) j = rd g (q + 7 + i) j) (hn : 1 ≤ x ∧ ∀ j : Nat, j < 8 → rd g1 (q + 7 + ND.length) ((j : Int) + 1) = (dfl (tO T n) (tV T n 32) (tW T n 32 W) (tP T n) (x - 1)).getD j 0) : dDk T n W g1 q (ND ++ [x]) := by
  intro i hi
  rw [List.length_append, List.length_singleton] at hi
  rcases Nat.lt_or_ge i ND.length with u | u
  · rw [getD_l u]
    exact ⟨(h i u).1, fun j hj => (f i _ u).trans ((h i u).2 j hj)⟩
  · have e : i = ND.length := by omega
    subst e
    rw [getD_e]
    exact hn
theorem dP_app (hq : q = 5 ∨ q = 32) (hl : NP.length ≤ 6) (h : dPk T n W g q NP) (f : ∀ (i : Nat) (j : Int), i < NP.length → rd g1 (q + 21 + i) j = rd g (q + 21 + i) j) (hn : 1 ≤ x ∧ ∀ j : Nat, j < 4 → rd g1 (q + 21 + NP.length) ((j : Int) + 1) = (pfl (tV T n 32) (tW T n 32 W) (x - 1)).getD j 0) : dPk T n W g1 q (NP ++ [x]) := by
  intro i hi
  rw [List.length_append, List.length_singleton] at hi
  rcases Nat.lt_or_ge i NP.length with u | u
  · rw [getD_l u]
    exact ⟨(h i u).1, fun j hj => (f i _ u).trans ((h i u).2 j hj)⟩
  · have e : i = NP.length := by omega
    subst e
    rw [getD_e]
    exact hn
theorem df_of (hp : ∀ k, 0 ≤ tP T n k) (hz : s.1 = 0) (hd : (drL (tO T n) (tV T n 32) (tW T n 32 W) (tP T n) R N s).1 = 0) (a : rd g d 1 = tW T n 32 W (drC (tO T n) (tV T n 32) (tW T n 32 W) (tP T n) R N s).2 - 14 ∧ rd g d 2 = tV T n 32 (drA (tO T n) (tV T n 32) (tW T n 32 W) (tP T n) N s).2 ∧ rd g d 3 = tV T n 32 (drB (tO T n) (tV T n 32) (tW T n 32 W) (tP T n) R N s).2 ∧ drFc T n W g d (drD (tO T n) (tV T n 32) (tW T n 32 W) (tP T n) R N s)) : ∀ j : Nat, j < 8 → rd g d ((j : Int) + 1) = (dfl (tO T n) (tV T n 32) (tW T n 32 W) (tP T n) (s.2 + 1 - 1)).getD j 0 := by
  obtain ⟨eA, eB, eC, eD, -, -⟩ := dr_at hp hz (opL_z hd)
  rw [eA, eB, eC, eD] at a
  obtain ⟨a1, a2, a3, a4, a5, a6, a7, a8⟩ := a
  rw [Nat.add_sub_cancel]
  intro j hj
  match j, hj with
  | 0, _ => exact a1
  | 1, _ => exact a2
  | 2, _ => exact a3
  | 3, _ => exact a4
  | 4, _ => exact a5
  | 5, _ => exact a6
  | 6, _ => exact a7
  | 7, _ => exact a8
  | j + 8, q => omega
theorem pf_of (hp : ∀ k, 0 ≤ tP T n k) (hz : s.1 = 0) (hd : (psL (tO T n) (tV T n 32) (tW T n 32 W) (tP T n) R N s).1 = 0) (a : rd g d 1 = tW T n 32 W (psA (tO T n) (tV T n 32) (tW T n 32 W) (tP T n) N s).2 - 18 ∧ rd g d 2 = tV T n 32 (psB (tO T n) (tV T n 32) (tW T n 32 W) (tP T n) N s).2 ∧ rd g d 3 = tV T n 32 (psC (tO T n) (tV T n 32) (tW T n 32 W) (tP T n) R N s).2 ∧ rd g d 4 = tV T n 32 (psD (tO T n) (tV T n 32) (tW T n 32 W) (tP T n) R N s).2) : ∀ j : Nat, j < 4 → rd g d ((j : Int) + 1) = (pfl (tV T n 32) (tW T n 32 W) (s.2 + 1 - 1)).getD j 0 := by
  obtain ⟨eA, eB, eC, eD, -, -, -⟩ := ps_at hp hz hd
  rw [eA, eB, eC, eD] at a
  obtain ⟨a1, a2, a3, a4⟩ := a
  rw [Nat.add_sub_cancel]
  intro j hj
  match j, hj with
  | 0, _ => exact a1
  | 1, _ => exact a2
  | 2, _ => exact a3
  | 3, _ => exact a4
  | j + 4, q => omega
theorem DCKf_w {y : QY} (hq : q = 5 ∨ q = 32) (hd : DCKf T n W g q R y) : DCKf T n W (wr g 2 0 0) q R y := ⟨DCK_w hq hd.1, dD_same hq hd.2.1 (fun i j hi => rdw_ne (by omega)), dP_same hq hd.2.2 (fun i j hi => rdw_ne (by omega))⟩
theorem F_readQuarterF (he : 41 ≤ e) (hq : q = 5 ∨ q = 32) (hP : PT h) (hx : CX T n W h) (k : ∀ h', ((qF (tO T n) (tV T n 32) (tW T n 32 W) (tP T n)).1.1 = 0 → DCKf T n W h' q (qR (tV T n 32) (tW T n 32 W) (tP T n)) (qF (tO T n) (tV T n 32) (tW T n 32 W) (tP T n))) → Q (some (.inl (qF (tO T n) (tV T n 32) (tW T n 32 W) (tP T n)).1.1)) h') :
    Rn xs xl e mm_Reader_readQuarter 0 [some (.inr (.inr 2)), some (.inr (.inr q)), none] [] h Q := by
  generalize eF : qF (tO T n) (tV T n 32) (tW T n 32 W) (tP T n) = Y at k
  obtain ⟨R, hRq⟩ : ∃ R, R = qR (tV T n 32) (tW T n 32 W) (tP T n) := ⟨_, rfl⟩
  rw [← hRq] at k
  have nq : ∀ i, ¬ muR q i := fun i => by unfold muR; omega
  have loop : ∀ (c : Nat) (g : LH) (y : QY), c ≤ 1000 → qL (tO T n) (tV T n 32) (tW T n 32 W) (tP T n) R c y = Y → CSK T n W g y.1 → PT g → (y.1.1 = 0 → DCKf T n W g q R y) → Rn xs xl e mm_Reader_readQuarter 32 [some (.inr (.inr 2)), some (.inr (.inr q)), some (.inl (1000 - (c : Int)))] [] g Q := by
    intro c
    induction c with
    | zero =>
      intro g y _ eY hs gP hd
      have e8 := hs.2.1
      have eY' : y = Y := eY
      refine B_Reader_readQuarter_32 hq hs.1.1 (by omega) ⟨fun _ => B_Reader_readQuarter_127 hq hs.1.1 ?_, fun z => by omega⟩
      have := k (wr g 2 0 0)
      rw [← eY', ← e8] at this
      exact this (fun z => DCKf_w hq (hd (e8.symm.trans z)))
    | succ c ih =>
      intro g y hc eY hs gP hd
      have gF := hs.1.1
      have e8 := hs.2.1
      have ep : ∀ c : Int, 1 ≤ c → (tkE (tP T n) c y.1).1 ≠ 0 := fun c hc => tkE_ne hs.1.2.1 hc
      have stop : ¬ (y.1.1 = 0 ∧ tO T n y.1.2 ≠ 0) → Rn xs xl e mm_Reader_readQuarter 127 [some (.inr (.inr 2)), some (.inr (.inr q)), some (.inl (1000 - ((c + 1 : Nat) : Int)))] [] g Q := by
        intro ns
        have eY' : y = Y := by rw [qL_stop ns] at eY; exact eY
        refine B_Reader_readQuarter_127 hq gF ?_
        have := k (wr g 2 0 0)
        rw [← eY', ← e8] at this
        exact this (fun z => DCKf_w hq (hd (e8.symm.trans z)))
      refine B_Reader_readQuarter_32 hq gF (by omega) ⟨fun z => by omega, fun _ => ⟨fun z => stop (fun z2 => z (e8.trans z2.1)), fun z => ?_⟩⟩
      have z0 : y.1.1 = 0 := e8.symm.trans z
      have ek := CS_k hs z0
      have ew := CS_w hs z0
      refine ⟨fun z2 => stop (fun z3 => z3.2 (ck_0.mp (ek.symm.trans z2))), fun z2 => ?_⟩
      have no : tO T n y.1.2 ≠ 0 := fun z3 => z2 (ek.trans (ck_0.mpr z3))
      obtain ⟨⟨d1, d2, d3, d4, d5⟩, dD, dP⟩ := hd z0
      rw [qL_go ⟨z0, no⟩] at eY
      have next : ∀ g1 : LH, CSK T n W g1 (qS (tO T n) (tV T n 32) (tW T n 32 W) (tP T n) R y).1 → PT g1 → ((qS (tO T n) (tV T n 32) (tW T n 32 W) (tP T n) R y).1.1 = 0 → DCKf T n W g1 q R (qS (tO T n) (tV T n 32) (tW T n 32 W) (tP T n) R y)) → Rn xs xl e mm_Reader_readQuarter 121 [some (.inr (.inr 2)), some (.inr (.inr q)), some (.inl (1000 - ((c + 1 : Nat) : Int)))] [] g1 Q := by
        generalize qS (tO T n) (tV T n 32) (tW T n 32 W) (tP T n) R y = y' at eY
        intro g1 c1 p1 dd
        have := ih g1 y' (by omega) eY c1 p1 dd
        rw [show 1000 - (c : Int) = 1000 - ((c + 1 : Nat) : Int) + 1 by omega] at this
        exact B_Reader_readQuarter_121 hq c1.1.1 (by omega) this
      have bad : ∀ (g1 : LH) (c0 : Int), 1 ≤ c0 → (qS (tO T n) (tV T n 32) (tW T n 32 W) (tP T n) R y) = (tkE (tP T n) c0 y.1, y.2) → CSK T n W g1 (tkE (tP T n) c0 y.1) → frK g g1 → Rn xs xl e mm_Reader_readQuarter 121 [some (.inr (.inr 2)), some (.inr (.inr q)), some (.inl (1000 - ((c + 1 : Nat) : Int)))] [] g1 Q := by
        intro g1 c0 h0 eS c1 f1
        refine next g1 (by rw [eS]; exact c1) (PT_fr gP (fun a i ha => f1 _ _ (by unfold muR; omega))) (fun z3 => ?_)
        rw [eS] at z3
        exact absurd z3 (ep c0 h0)
      refine ⟨fun w1 => ?_, fun w7 => ?_, fun w11 => ?_, fun wd => ?_⟩
      · have w1' : tW T n 32 W y.1.2 = 1 := ew.symm.trans w1
        by_cases c14 : 14 ≤ y.2.2.1.length
        · have eS : (qS (tO T n) (tV T n 32) (tW T n 32 W) (tP T n) R y) = (tkE (tP T n) 5 y.1, y.2) := by unfold qS; rw [if_pos w1', if_pos c14]
          have dl := d1.1
          exact ⟨1, by omega, B_Reader_doorLine_0 hq gF gP ⟨fun z3 => by omega, fun _ => ⟨0, by omega, F_fl hs (by omega) (fun g1 c1 f1 => B_Reader_doorLine_14 hq c1.1.1 (B_Reader_readQuarter_97 hq c1.1.1 (bad g1 5 (by decide) eS c1 f1)))⟩⟩⟩
        · have eS : (qS (tO T n) (tV T n 32) (tW T n 32 W) (tP T n) R y) = (tkS (tO T n) (tV T n 32) (tP T n) 59 (drL (tO T n) (tV T n 32) (tW T n 32 W) (tP T n) R y.2.1 y.1), y.2.1 ++ [y.1.2 + 1], y.2.2.1 ++ [y.1.2 + 1], y.2.2.2.1, y.2.2.2.2) := by unfold qS; rw [if_pos w1', if_neg c14]
          refine ⟨5, by omega, F_doorLine (by omega) hq gP hs z0 no d1 (by omega) d4 d2 d3 (fun g1 c1 a1 n1 f1 => B_Reader_readQuarter_97 hq c1.1.1 (next g1 (by rw [eS]; exact c1) (PT_fr gP (fun a i ha => f1 _ _ (by unfold muR; omega) (by omega) (by omega))) (fun z3 => ?_)))⟩
          rw [eS] at z3 ⊢
          have a0 := (a1 z3).1
          obtain ⟨b1, b2, ⟨b3, b3'⟩, b4, b5⟩ := d1
          have DF := dD_app (x := y.1.2 + 1) hq b3 dD (fun i j hi => f1 _ _ (by unfold muR; omega) (by omega) (by omega)) ⟨Nat.le_add_left 1 _, df_of (fun k => tP_0 hs.1.2.1.2.2.2 hs.1.2.1.2.2.1 k) z0 (tkS_z z3) (a1 z3).2⟩
          have PF := dP_same hq dP (fun i j hi => f1 _ _ (by unfold muR; omega) (by omega) (by omega))
          refine ⟨⟨⟨?_, ?_, ⟨?_, b3'⟩, fun i hi => ?_, fun i hi => ?_⟩, ?_, d3, any_d _ d4, ?_, fun i hi => ?_⟩, DF, PF⟩
          · show rd g1 q 2 = (((y.2.2.1 ++ [y.1.2 + 1]).length : Nat) : Int)
            rw [n1, List.length_append, List.length_singleton]; omega
          · exact (f1 _ _ (nq _) (by omega) (by omega)).trans b2
          · show (y.2.2.1 ++ [y.1.2 + 1]).length ≤ 14
            rw [List.length_append, List.length_singleton]; omega
          · have hi' : i < (y.2.2.1 ++ [y.1.2 + 1]).length := hi
            rw [List.length_append, List.length_singleton] at hi'
            show rd g1 (q + 7 + i) 0 = tV T n 32 ((y.2.2.1 ++ [y.1.2 + 1]).getD i 0)
            rcases Nat.lt_or_ge i y.2.2.1.length with u | u
            · rw [getD_l u, f1 _ _ (by unfold muR; omega) (by omega) (by omega)]
              exact b4 i u
            · have u' : i = y.2.2.1.length := by omega
              rw [u', getD_e]
              exact a0
          · have hi' : i < y.2.2.2.1.length := hi
            exact (f1 _ _ (by unfold muR; omega) (by omega) (by omega)).trans (b5 i hi)
          · exact (f1 _ _ (nq _) (by omega) (by omega)).trans d2
          · exact (f1 _ _ (nq _) (by omega) (by omega)).trans d5.1
          · exact (f1 _ _ (by unfold muR; omega) (by omega) (by omega)).trans (d5.2 i hi)
      · have w7' : tW T n 32 W y.1.2 = 7 := ew.symm.trans w7
        have n1' : ¬ tW T n 32 W y.1.2 = 1 := by omega
        by_cases c6 : 6 ≤ y.2.2.2.1.length
        · have eS : (qS (tO T n) (tV T n 32) (tW T n 32 W) (tP T n) R y) = (tkE (tP T n) 5 y.1, y.2) := by unfold qS; rw [if_neg n1', if_pos w7', if_pos c6]
          have dl := d1.2.1
          exact ⟨1, by omega, B_Reader_personLine_0 hq gF gP ⟨fun z3 => by omega, fun _ => ⟨0, by omega, F_fl hs (by omega) (fun g1 c1 f1 => B_Reader_personLine_14 hq c1.1.1 (B_Reader_readQuarter_105 hq c1.1.1 (bad g1 5 (by decide) eS c1 f1)))⟩⟩⟩
        · have eS : (qS (tO T n) (tV T n 32) (tW T n 32 W) (tP T n) R y) = (tkS (tO T n) (tV T n 32) (tP T n) 59 (psL (tO T n) (tV T n 32) (tW T n 32 W) (tP T n) R y.2.1 y.1), y.2.1 ++ [y.1.2 + 1], y.2.2.1, y.2.2.2.1 ++ [y.1.2 + 1], y.2.2.2.2) := by unfold qS; rw [if_neg n1', if_pos w7', if_neg c6]
          refine ⟨5, by omega, F_personLine (by omega) hq gP hs z0 no d1 (by omega) d4 d2 d3 (fun g1 c1 a1 n1 f1 => B_Reader_readQuarter_105 hq c1.1.1 (next g1 (by rw [eS]; exact c1) (PT_fr gP (fun a i ha => f1 _ _ (by unfold muR; omega) (by omega) (by omega))) (fun z3 => ?_)))⟩
          rw [eS] at z3 ⊢
          have a0 := (a1 z3).1
          obtain ⟨b1, b2, ⟨b3, b3'⟩, b4, b5⟩ := d1
          have PF := dP_app (x := y.1.2 + 1) hq b3' dP (fun i j hi => f1 _ _ (by unfold muR; omega) (by omega) (by omega)) ⟨Nat.le_add_left 1 _, pf_of (fun k => tP_0 hs.1.2.1.2.2.2 hs.1.2.1.2.2.1 k) z0 (tkS_z z3) (a1 z3).2⟩
          have DF := dD_same hq dD (fun i j hi => f1 _ _ (by unfold muR; omega) (by omega) (by omega))
          refine ⟨⟨⟨?_, ?_, ⟨b3, ?_⟩, fun i hi => ?_, fun i hi => ?_⟩, ?_, d3, any_p _ d4, ?_, fun i hi => ?_⟩, DF, PF⟩
          · exact (f1 _ _ (nq _) (by omega) (by omega)).trans b1
          · show rd g1 q 4 = (((y.2.2.2.1 ++ [y.1.2 + 1]).length : Nat) : Int)
            rw [n1, List.length_append, List.length_singleton]; omega
          · show (y.2.2.2.1 ++ [y.1.2 + 1]).length ≤ 6
            rw [List.length_append, List.length_singleton]; omega
          · have hi' : i < y.2.2.1.length := hi
            exact (f1 _ _ (by unfold muR; omega) (by omega) (by omega)).trans (b4 i hi)
          · have hi' : i < (y.2.2.2.1 ++ [y.1.2 + 1]).length := hi
            rw [List.length_append, List.length_singleton] at hi'
            show rd g1 (q + 21 + i) 0 = tV T n 32 ((y.2.2.2.1 ++ [y.1.2 + 1]).getD i 0)
            rcases Nat.lt_or_ge i y.2.2.2.1.length with u | u
            · rw [getD_l u, f1 _ _ (by unfold muR; omega) (by omega) (by omega)]
              exact b5 i u
            · have u' : i = y.2.2.2.1.length := by omega
              rw [u', getD_e]
              exact a0
          · exact (f1 _ _ (nq _) (by omega) (by omega)).trans d2
          · exact (f1 _ _ (nq _) (by omega) (by omega)).trans d5.1
          · exact (f1 _ _ (by unfold muR; omega) (by omega) (by omega)).trans (d5.2 i hi)
      · have w11' : tW T n 32 W y.1.2 = 11 := ew.symm.trans w11
        have n1' : ¬ tW T n 32 W y.1.2 = 1 := by omega
        have n7' : ¬ tW T n 32 W y.1.2 = 7 := by omega
        have dl := d5.1
        by_cases cl : 0 < y.2.2.2.2.length
        · have eS : (qS (tO T n) (tV T n 32) (tW T n 32 W) (tP T n) R y) = (tkE (tP T n) 3 y.1, y.2) := by unfold qS; rw [if_neg n1', if_neg n7', if_pos w11', if_pos cl]
          exact ⟨1, by omega, B_Reader_letLine_0 hq gF ⟨fun z3 => by omega, fun _ => ⟨0, by omega, F_fl hs (by omega) (fun g1 c1 f1 => B_Reader_letLine_12 hq c1.1.1 (B_Reader_readQuarter_113 hq c1.1.1 (bad g1 3 (by decide) eS c1 f1)))⟩⟩⟩
        · have eS : (qS (tO T n) (tV T n 32) (tW T n 32 W) (tP T n) R y) = (tkS (tO T n) (tV T n 32) (tP T n) 59 (qX (tO T n) (tV T n 32) (tW T n 32 W) (tP T n) y.1).1, y.2.1, y.2.2.1, y.2.2.2.1, (qX (tO T n) (tV T n 32) (tW T n 32 W) (tP T n) y.1).2) := by unfold qS; rw [if_neg n1', if_neg n7', if_pos w11', if_neg cl]
          refine ⟨40, by omega, F_letLine (by omega) hq hs z0 no (by omega) (fun g1 c1 a1 f1 => B_Reader_readQuarter_113 hq c1.1.1 (next g1 (by rw [eS]; exact c1) (PT_fr gP (fun a i ha => f1 _ _ (by unfold muE muR; omega))) (fun z3 => ?_)))⟩
          rw [eS] at z3 ⊢
          have l14' := d1.2.2.1
          refine ⟨⟨NCK_fr d1 (fun a i ha => f1 _ _ ?_), (f1 _ _ (by unfold muE muR; omega)).trans d2, d3, d4, a1 z3⟩, dD_same hq dD (fun i j hi => f1 _ _ (by unfold muE muR; omega)), dP_same hq dP (fun i j hi => f1 _ _ (by unfold muE muR; omega))⟩
          have l14 := d1.2.2.1
          unfold muE muR
          omega
      · have n1' : ¬ tW T n 32 W y.1.2 = 1 := fun z3 => wd.1 (ew.trans z3)
        have n7' : ¬ tW T n 32 W y.1.2 = 7 := fun z3 => wd.2.1 (ew.trans z3)
        have n11' : ¬ tW T n 32 W y.1.2 = 11 := fun z3 => wd.2.2 (ew.trans z3)
        have eS : (qS (tO T n) (tV T n 32) (tW T n 32 W) (tP T n) R y) = (tkE (tP T n) 1 y.1, y.2) := by unfold qS; rw [if_neg n1', if_neg n7', if_neg n11']
        exact ⟨0, by omega, F_fl hs (by omega) (fun g1 c1 f1 => bad g1 1 (by decide) eS c1 f1)⟩
  refine B_Reader_readQuarter_0 hq hx.1 ⟨3, by omega, F_begin (by omega) hx (fun h1 s1 f1 => ?_)⟩
  have q4 : 4 < q := by omega
  have s2 : CSK T n W (wr (wr (wr (wr h1 q 0 2) q 2 0) q 4 0) q 6 0) (0, 0) := CSK_wn (CSK_wn (CSK_wn (CSK_wn s1 (hav_qf hq (by decide)) q4) (hav_qf hq (by decide)) q4) (hav_qf hq (by decide)) q4) (hav_qf hq (by decide)) q4
  refine B_Reader_readQuarter_4 hq s1.1.1 (by omega) ⟨3, by omega, F_takeWord (by omega) s2 (by decide) (fun h3 s3 f3 => ?_)⟩
  refine B_Reader_readQuarter_13 hq s3.1.1 ⟨3, by omega, F_takeNumber (by omega) s3 ⟨by unfold i32; omega, by unfold i32; omega⟩ (fun h4 r s4 f4 r0 r1 q4' => ?_)⟩
  refine B_Reader_readQuarter_21 hq s4.1.1 ⟨3, by omega, F_takeSign (by omega) (CSK_wn s4 (hav_qf hq (by decide)) q4) (fun h5 s5 f5 => B_Reader_readQuarter_30 hq s5.1.1 ?_)⟩
  have P5 : PT h5 := by
    refine PT_fr hP (fun a i ha => ?_)
    rw [f5 _ _ (by unfold muR; omega), rdw_ne (by omega), f4 _ _ (by unfold muR; omega), f3 _ _ (by unfold muR; omega), rdw_ne (by omega), rdw_ne (by omega), rdw_ne (by omega), rdw_ne (by omega), f1 _ _ (by unfold muR; omega)]
  have v : ∀ i, i ≠ 0 → rd h5 q i = rd (wr (wr (wr (wr h1 q 0 2) q 2 0) q 4 0) q 6 0) q i := by
    intro i hi
    rw [f5 _ _ (nq _), rdw_nei (Ne.symm hi), f4 _ _ (nq _), f3 _ _ (nq _)]
  refine loop 1000 h5 (qB (tO T n) (tV T n 32) (tW T n 32 W) (tP T n)) (Nat.le_refl _) (by rw [hRq]; exact eF) s5 P5 (fun z => ?_)
  have er : r = R := ((q4' (tkS_z z)).1).trans hRq.symm
  refine ⟨⟨⟨?_, ?_, ⟨Nat.zero_le 14, Nat.zero_le 6⟩, fun i hi => absurd hi (Nat.not_lt_zero i), fun i hi => absurd hi (Nat.not_lt_zero i)⟩, ?_, ?_, fun f => rfl, ?_, fun i hi => absurd hi (Nat.not_lt_zero i)⟩, fun i hi => absurd hi (Nat.not_lt_zero i), fun i hi => absurd hi (Nat.not_lt_zero i)⟩
  · rw [v 2 (by decide), rdw_nei (by decide), rdw_nei (by decide), rdw_eq]; rfl
  · rw [v 4 (by decide), rdw_nei (by decide), rdw_eq]; rfl
  · rw [f5 _ _ (nq _), rdw_eq]; exact er
  · have := (q4' (tkS_z z)).2
    rw [← er]; omega
  · rw [v 6 (by decide), rdw_eq]; rfl
end QG1
