section
/-! LM, by program: the table D holds -/
section TB
variable {xs : Nat → Int} {xl : Nat}
def lowD (xs : Nat → Int) (xl : Nat) (S : SM) : Prop := ∀ k T, SMsD k = some T → T.2.1 < S.2.1 → SMok xs xl INV T
theorem all_cD {P : SM → Prop} {A : SM} {L : List SM} (h : P A) (hl : ∀ B ∈ L, P B) : ∀ B ∈ A :: L, P B := fun B hB => by
  rcases List.mem_cons.mp hB with rfl | q
  · exact h
  · exact hl B q
theorem all_nD {P : SM → Prop} : ∀ B ∈ ([] : List SM), P B := fun B hB => by cases hB
theorem all_lD {P : SM → Prop} {A : List SM} {L : List (List SM)} (h : ∀ B ∈ A, P B) (hl : ∀ C ∈ L, ∀ B ∈ C, P B) : ∀ C ∈ A :: L, ∀ B ∈ C, P B := fun C hC => by
  rcases List.mem_cons.mp hC with rfl | q
  · exact h
  · exact hl C q
theorem tbD_0 : ∀ S ∈ SMtD0, lowD xs xl S → SMok xs xl INV S := all_cD (fun hS => ai_ok INV_ok hS CKD0) (all_cD (fun hS => ai_ok INV_ok hS CKD1) (all_cD (fun hS => ai_ok INV_ok hS CKD2) (all_cD (fun hS => ai_ok INV_ok hS CKD3) (all_cD (fun hS => ai_ok INV_ok hS CKD4) (all_cD (fun hS => ai_ok INV_ok hS CKD5) (all_cD (fun hS => ai_ok INV_ok hS CKD6) (all_cD (fun hS => ai_ok INV_ok hS CKD7) (all_cD (fun _ => ok_dayLine) (all_cD (fun hS => ai_ok INV_ok hS CKD9) (all_cD (fun hS => ai_ok INV_ok hS CKD10) (all_cD (fun _ => ok_copyDay) (all_cD (fun hS => ai_ok INV_ok hS CKD12) (all_cD (fun hS => ai_ok INV_ok hS CKD13) (all_cD (fun hS => ai_ok INV_ok hS CKD14) (all_cD (fun hS => ai_ok INV_ok hS CKD15) (all_cD (fun hS => ai_ok INV_ok hS CKD16) (all_cD (fun _ => ok_play) (all_cD (fun hS => ai_ok INV_ok hS CKD18) (all_cD (fun _ => ok_copyA) (all_nD))))))))))))))))))))
theorem tbD_1 : ∀ S ∈ SMtD1, lowD xs xl S → SMok xs xl INV S := all_cD (fun _ => ok_copyB) (all_cD (fun hS => ai_ok INV_ok hS CKD21) (all_nD))
theorem tblD : ∀ C ∈ SMttD, ∀ S ∈ C, lowD xs xl S → SMok xs xl INV S := (all_lD tbD_0 (all_lD tbD_1 (fun C hC => by cases hC)))
theorem tabD {j : Nat} {S : SM} (hj : SMsD j = some S) : SMok xs xl INV S := by
  refine tab_ok (SMs := SMsD) (fun j S hS hl => ?_) S.2.1 j S hj (Nat.le_refl _)
  unfold SMsD at hS
  rw [Option.bind_eq_some_iff] at hS
  obtain ⟨C, c1, c2⟩ := hS
  exact tblD C (List.mem_of_getElem? c1) S (List.mem_of_getElem? c2) hl
theorem TD_day : SMok xs xl INV SMD12 := tabD (j := 12) rfl
theorem TD_judged : SMok xs xl INV SMD18 := tabD (j := 18) rfl
theorem TD_mark : SMok xs xl INV SMD21 := tabD (j := 21) rfl
end TB
end
section
/-! p3, part e2: the class's quarter() answers the text's fault -/
section EA
variable {xs : Nat → Int} {xl e : Nat} {h : LH} {Q : Option LV → LH → Prop} {T : Int → Int} {n : Int} {W : Int → Int} {q t : Int}
theorem rSf {h : LH} (hr : RNG h) : rd h 1 ((2 : Nat) : Int) = 5 ∨ rd h 1 ((2 : Nat) : Int) = 32 := by
  have g := hr 1 2 (vB_ok (by decide +kernel))
  have e : hval h 1 2 = .inr (.inr (rd h 1 2)) := by
    unfold hval
    rw [show lkd 1 2 = 2 by decide +kernel]
    rfl
  rw [e, show hav 1 2 = (2, 5, 32, 27) by decide +kernel] at g
  have a : 5 ≤ rd h 1 2 := g.2.1
  have b : rd h 1 2 ≤ 32 := g.2.2.1
  have c : (27 : Int) ∣ (rd h 1 2 - 5) := g.2.2.2
  show rd h 1 2 = 5 ∨ rd h 1 2 = 32
  omega
theorem g_527 {v : Int} (hv : v = 5 ∨ v = 32) : gV (2, 5, 32, 27) (.inr (.inr v)) := by
  rcases hv with rfl | rfl
  · exact ⟨rfl, by decide, by decide, by show (27 : Int) ∣ 5 - 5; decide⟩
  · exact ⟨rfl, by decide, by decide, by show (27 : Int) ∣ 32 - 5; decide⟩
theorem wQ_1 {v : Int} (hI : INV h) (hv : v = 5 ∨ v = 32) : INV (wr h 1 1 v) := by
  refine INV_wr hI (by unfold sens; omega) ?_
  rw [show hav 1 1 = (2, 5, 32, 27) by decide +kernel, show lkd 1 1 = 2 by decide +kernel]
  exact g_527 hv
theorem wQ_2 {v : Int} (hI : INV h) (hv : v = 5 ∨ v = 32) : INV (wr h 1 2 v) := by
  refine INV_wr hI (by unfold sens; omega) ?_
  rw [show hav 1 2 = (2, 5, 32, 27) by decide +kernel, show lkd 1 2 = 2 by decide +kernel]
  exact g_527 hv
theorem K_readQuarter (he : 39 ≤ e) (hq : q = 5 ∨ q = 32) (hI : INV h) (k : ∀ r h', INV h' → Q r h') : Rn xs xl e mm_Reader_readQuarter 0 [some (.inr (.inr 2)), some (.inr (.inr q)), none] [] h Q := by
  rcases hq with rfl | rfl
  · exact use_sm (tabC (j := 72) rfl) (as := [.inr (.inr 2), .inr (.inr 5)]) rfl he hI (gAr_c (g_ref 2) (gAr_c (g_ref 5) gAr_n)) rfl (Nat.le_of_ble_eq_true rfl) rfl (fun r h' i' f q => k r h' i')
  · exact use_sm (tabC (j := 117) rfl) (as := [.inr (.inr 2), .inr (.inr 32)]) rfl he hI (gAr_c (g_ref 2) (gAr_c (g_ref 32) gAr_n)) rfl (Nat.le_of_ble_eq_true rfl) rfl (fun r h' i' f q => k r h' i')
theorem K_settle (he : 6 ≤ e) (hq : q = 5 ∨ q = 32) (hI : INV h) (k : ∀ h', INV h' → Q none h') : Rn xs xl e mm_Quarter_settle 0 [some (.inr (.inr q)), none, none] [] h Q := by
  rcases hq with rfl | rfl
  · exact use_sm (tabC (j := 124) rfl) (as := [.inr (.inr 5)]) rfl he hI (gAr_c (g_ref 5) gAr_n) rfl (Nat.le_of_ble_eq_true rfl) rfl (fun r h' i' f q => by rw [res_none q]; exact k h' i')
  · exact use_sm (tabC (j := 129) rfl) (as := [.inr (.inr 32)]) rfl he hI (gAr_c (g_ref 32) gAr_n) rfl (Nat.le_of_ble_eq_true rfl) rfl (fun r h' i' f q => by rw [res_none q]; exact k h' i')
theorem K_begin (he : 3 ≤ e) (hq : q = 5 ∨ q = 32) (hI : INV h) (k : ∀ h', INV h' → Q none h') : Rn xs xl e mm_Memory_begin 0 [some (.inr (.inr 59)), some (.inr (.inr q))] [] h Q := by
  rcases hq with rfl | rfl
  · exact use_sm (tabC (j := 132) rfl) (as := [.inr (.inr 59), .inr (.inr 5)]) rfl he hI (gAr_c (g_ref 59) (gAr_c (g_ref 5) gAr_n)) rfl (Nat.le_of_ble_eq_true rfl) rfl (fun r h' i' f q => by rw [res_none q]; exact k h' i')
  · exact use_sm (tabC (j := 134) rfl) (as := [.inr (.inr 59), .inr (.inr 32)]) rfl he hI (gAr_c (g_ref 59) (gAr_c (g_ref 32) gAr_n)) rfl (Nat.le_of_ble_eq_true rfl) rfl (fun r h' i' f q => by rw [res_none q]; exact k h' i')
theorem E_quarterX (he : 42 ≤ e) (hI : INV h) (hP : PT h) (hT : TP T n h) (hW : rd h 4 = W) (k : ∀ h', Q (some (.inl (qF (tO T n) (tV T n 32) (tW T n 32 W) (tP T n)).1.1)) h') : Rn xs xl e mm_OneSided_quarter 0 [some (.inr (.inr 1)), none, none] [] h Q := by
  generalize eF : (qF (tO T n) (tV T n 32) (tW T n 32 W) (tP T n)).1.1 = F at k
  have A : Rn xs xl 41 mm_Reader_readQuarter 0 [some (.inr (.inr 2)), some (.inr (.inr (rd h 1 ((2 : Nat) : Int)))), none] [] h (fun r g => r = some (.inl F)) := F_readQuarter (by omega) (rSf hI.1) hP ⟨RF_of hI.1, hT, hW⟩ (fun h' => by rw [eF])
  have B : Rn xs xl 41 mm_Reader_readQuarter 0 [some (.inr (.inr 2)), some (.inr (.inr (rd h 1 ((2 : Nat) : Int)))), none] [] h (fun r g => INV g) := K_readQuarter (by omega) (rSf hI.1) hI (fun r h' i' => i')
  refine B_OneSided_quarter_0 (rSf hI.1) (rQf hI.1) rfl rfl (RF_of hI.1) ⟨41, by omega, (A.and B).mono (fun r g q => ?_)⟩
  obtain ⟨rfl, gI⟩ := q
  refine B_OneSided_quarter_11 (rSf gI.1) (rQf gI.1) rfl rfl (RF_of gI.1) ⟨fun z => ?_, fun _ => k g⟩
  rw [z] at k
  have i1 := wQ_1 (wQ_2 gI (rQf gI.1)) (rSf gI.1)
  refine B_OneSided_quarter_18 (rSf gI.1) (rQf gI.1) rfl rfl (RF_of gI.1) ⟨6, by omega, K_settle (by omega) (rSf gI.1) i1 (fun g2 i2 => ?_)⟩
  refine B_OneSided_quarter_43 (rSf i2.1) (rQf i2.1) rfl rfl (RF_of i2.1) ⟨3, by omega, K_begin (by omega) (rQf i2.1) i2 (fun g3 i3 => ?_)⟩
  exact B_OneSided_quarter_54 (rSf i3.1) (rQf i3.1) rfl rfl (RF_of i3.1) (k _)
end EA
end
section
/-! days, part n5: the class's quarter, and the names that it leaves -/
section NF5
variable {xs : Nat → Int} {xl e : Nat} {h : LH} {Q : Option LV → LH → Prop} {q R t : Int} {T : Int → Int} {n : Int} {W : Int → Int} {s : Int × Nat} {N ND NP : List Nat}
theorem DCK_w {y : QY} {g : LH} (hq : q = 5 ∨ q = 32) (hd : DCK T n g q R y) : DCK T n (wr g 2 0 0) q R y := by
  obtain ⟨d1, d2, d3, d4, d5⟩ := hd
  have l14 := d1.2.2.1
  refine ⟨NCK_fr d1 (fun a i ha => rdw_ne (by omega)), (rdw_ne (by omega)).trans d2, d3, d4, (rdw_ne (by omega)).trans d5.1, fun i hi => (rdw_ne (by omega)).trans (d5.2 i hi)⟩
theorem F_readQuarterN (he : 41 ≤ e) (hq : q = 5 ∨ q = 32) (hP : PT h) (hx : CX T n W h) (k : ∀ h', ((qF (tO T n) (tV T n 32) (tW T n 32 W) (tP T n)).1.1 = 0 → DCK T n h' q (qR (tV T n 32) (tW T n 32 W) (tP T n)) (qF (tO T n) (tV T n 32) (tW T n 32 W) (tP T n))) → Q (some (.inl (qF (tO T n) (tV T n 32) (tW T n 32 W) (tP T n)).1.1)) h') :
    Rn xs xl e mm_Reader_readQuarter 0 [some (.inr (.inr 2)), some (.inr (.inr q)), none] [] h Q := by
  generalize eF : qF (tO T n) (tV T n 32) (tW T n 32 W) (tP T n) = Y at k
  obtain ⟨R, hRq⟩ : ∃ R, R = qR (tV T n 32) (tW T n 32 W) (tP T n) := ⟨_, rfl⟩
  rw [← hRq] at k
  have nq : ∀ i, ¬ muR q i := fun i => by unfold muR; omega
  have loop : ∀ (c : Nat) (g : LH) (y : QY), c ≤ 1000 → qL (tO T n) (tV T n 32) (tW T n 32 W) (tP T n) R c y = Y → CSK T n W g y.1 → PT g → (y.1.1 = 0 → DCK T n g q R y) → Rn xs xl e mm_Reader_readQuarter 32 [some (.inr (.inr 2)), some (.inr (.inr q)), some (.inl (1000 - (c : Int)))] [] g Q := by
    intro c
    induction c with
    | zero =>
      intro g y _ eY hs gP hd
      have e8 := hs.2.1
      have eY' : y = Y := eY
      refine B_Reader_readQuarter_32 hq hs.1.1 (by omega) ⟨fun _ => B_Reader_readQuarter_127 hq hs.1.1 ?_, fun z => by omega⟩
      have := k (wr g 2 0 0)
      rw [← eY', ← e8] at this
      exact this (fun z => DCK_w hq (hd (e8.symm.trans z)))
    | succ c ih =>
      intro g y hc eY hs gP hd
      have gF := hs.1.1
      have e8 := hs.2.1
      have ep : ∀ c : Int, 1 ≤ c → (tkE (tP T n) c y.1).1 ≠ 0 := fun c hc => tkE_ne hs.1.2.1 hc
      have stop : ¬ (y.1.1 = 0 ∧ tO T n y.1.2 ≠ 0) → Rn xs xl e mm_Reader_readQuarter 127 [some (.inr (.inr 2)), some (.inr (.inr q)), some (.inl (1000 - ((c + 1 : Nat) : Int)))] [] g Q := by
        intro ns
        have eY' : y = Y := by rw [qL_stop ns] at eY; exact eY
        refine B_Reader_readQuarter_127 hq gF ?_
        have := k (wr g 2 0 0)
        rw [← eY', ← e8] at this
        exact this (fun z => DCK_w hq (hd (e8.symm.trans z)))
      refine B_Reader_readQuarter_32 hq gF (by omega) ⟨fun z => by omega, fun _ => ⟨fun z => stop (fun z2 => z (e8.trans z2.1)), fun z => ?_⟩⟩
      have z0 : y.1.1 = 0 := e8.symm.trans z
      have ek := CS_k hs z0
      have ew := CS_w hs z0
      refine ⟨fun z2 => stop (fun z3 => z3.2 (ck_0.mp (ek.symm.trans z2))), fun z2 => ?_⟩
      have no : tO T n y.1.2 ≠ 0 := fun z3 => z2 (ek.trans (ck_0.mpr z3))
      obtain ⟨d1, d2, d3, d4, d5⟩ := hd z0
      rw [qL_go ⟨z0, no⟩] at eY
      have next : ∀ g1 : LH, CSK T n W g1 (qS (tO T n) (tV T n 32) (tW T n 32 W) (tP T n) R y).1 → PT g1 → ((qS (tO T n) (tV T n 32) (tW T n 32 W) (tP T n) R y).1.1 = 0 → DCK T n g1 q R (qS (tO T n) (tV T n 32) (tW T n 32 W) (tP T n) R y)) → Rn xs xl e mm_Reader_readQuarter 121 [some (.inr (.inr 2)), some (.inr (.inr q)), some (.inl (1000 - ((c + 1 : Nat) : Int)))] [] g1 Q := by
        generalize qS (tO T n) (tV T n 32) (tW T n 32 W) (tP T n) R y = y' at eY
        intro g1 c1 p1 dd
        have := ih g1 y' (by omega) eY c1 p1 dd
        rw [show 1000 - (c : Int) = 1000 - ((c + 1 : Nat) : Int) + 1 by omega] at this
        exact B_Reader_readQuarter_121 hq c1.1.1 (by omega) this
      have bad : ∀ (g1 : LH) (c0 : Int), 1 ≤ c0 → (qS (tO T n) (tV T n 32) (tW T n 32 W) (tP T n) R y) = (tkE (tP T n) c0 y.1, y.2) → CSK T n W g1 (tkE (tP T n) c0 y.1) → frK g g1 → Rn xs xl e mm_Reader_readQuarter 121 [some (.inr (.inr 2)), some (.inr (.inr q)), some (.inl (1000 - ((c + 1 : Nat) : Int)))] [] g1 Q := by
        intro g1 c0 h0 eS c1 f1
        refine next g1 (by rw [eS]; exact c1) (PT_fr gP (fun a i ha => f1 _ _ (by unfold muR; omega))) (fun z3 => ?_)
        rw [eS] at z3
        exact absurd z3 (ep c0 h0)
      refine ⟨fun w1 => ?_, fun w7 => ?_, fun w11 => ?_, fun wd => ?_⟩
      · have w1' : tW T n 32 W y.1.2 = 1 := ew.symm.trans w1
        by_cases c14 : 14 ≤ y.2.2.1.length
        · have eS : (qS (tO T n) (tV T n 32) (tW T n 32 W) (tP T n) R y) = (tkE (tP T n) 5 y.1, y.2) := by unfold qS; rw [if_pos w1', if_pos c14]
          have dl := d1.1
          exact ⟨1, by omega, B_Reader_doorLine_0 hq gF gP ⟨fun z3 => by omega, fun _ => ⟨0, by omega, F_fl hs (by omega) (fun g1 c1 f1 => B_Reader_doorLine_14 hq c1.1.1 (B_Reader_readQuarter_97 hq c1.1.1 (bad g1 5 (by decide) eS c1 f1)))⟩⟩⟩
        · have eS : (qS (tO T n) (tV T n 32) (tW T n 32 W) (tP T n) R y) = (tkS (tO T n) (tV T n 32) (tP T n) 59 (drL (tO T n) (tV T n 32) (tW T n 32 W) (tP T n) R y.2.1 y.1), y.2.1 ++ [y.1.2 + 1], y.2.2.1 ++ [y.1.2 + 1], y.2.2.2.1, y.2.2.2.2) := by unfold qS; rw [if_pos w1', if_neg c14]
          refine ⟨5, by omega, F_doorLine (by omega) hq gP hs z0 no d1 (by omega) d4 d2 d3 (fun g1 c1 a1 n1 f1 => B_Reader_readQuarter_97 hq c1.1.1 (next g1 (by rw [eS]; exact c1) (PT_fr gP (fun a i ha => f1 _ _ (by unfold muR; omega) (by omega) (by omega))) (fun z3 => ?_)))⟩
          rw [eS] at z3 ⊢
          have a0 := (a1 z3).1
          obtain ⟨b1, b2, ⟨b3, b3'⟩, b4, b5⟩ := d1
          refine ⟨⟨?_, ?_, ⟨?_, b3'⟩, fun i hi => ?_, fun i hi => ?_⟩, ?_, d3, any_d _ d4, ?_, fun i hi => ?_⟩
          · show rd g1 q 2 = (((y.2.2.1 ++ [y.1.2 + 1]).length : Nat) : Int)
            rw [n1, List.length_append, List.length_singleton]; omega
          · exact (f1 _ _ (nq _) (by omega) (by omega)).trans b2
          · show (y.2.2.1 ++ [y.1.2 + 1]).length ≤ 14
            rw [List.length_append, List.length_singleton]; omega
          · have hi' : i < (y.2.2.1 ++ [y.1.2 + 1]).length := hi
            rw [List.length_append, List.length_singleton] at hi'
            show rd g1 (q + 7 + i) 0 = tV T n 32 ((y.2.2.1 ++ [y.1.2 + 1]).getD i 0)
            rcases Nat.lt_or_ge i y.2.2.1.length with u | u
            · rw [getD_l u, f1 _ _ (by unfold muR; omega) (by omega) (by omega)]
              exact b4 i u
            · have u' : i = y.2.2.1.length := by omega
              rw [u', getD_e]
              exact a0
          · have hi' : i < y.2.2.2.1.length := hi
            exact (f1 _ _ (by unfold muR; omega) (by omega) (by omega)).trans (b5 i hi)
          · exact (f1 _ _ (nq _) (by omega) (by omega)).trans d2
          · exact (f1 _ _ (nq _) (by omega) (by omega)).trans d5.1
          · exact (f1 _ _ (by unfold muR; omega) (by omega) (by omega)).trans (d5.2 i hi)
      · have w7' : tW T n 32 W y.1.2 = 7 := ew.symm.trans w7
        have n1' : ¬ tW T n 32 W y.1.2 = 1 := by omega
        by_cases c6 : 6 ≤ y.2.2.2.1.length
        · have eS : (qS (tO T n) (tV T n 32) (tW T n 32 W) (tP T n) R y) = (tkE (tP T n) 5 y.1, y.2) := by unfold qS; rw [if_neg n1', if_pos w7', if_pos c6]
          have dl := d1.2.1
          exact ⟨1, by omega, B_Reader_personLine_0 hq gF gP ⟨fun z3 => by omega, fun _ => ⟨0, by omega, F_fl hs (by omega) (fun g1 c1 f1 => B_Reader_personLine_14 hq c1.1.1 (B_Reader_readQuarter_105 hq c1.1.1 (bad g1 5 (by decide) eS c1 f1)))⟩⟩⟩
        · have eS : (qS (tO T n) (tV T n 32) (tW T n 32 W) (tP T n) R y) = (tkS (tO T n) (tV T n 32) (tP T n) 59 (psL (tO T n) (tV T n 32) (tW T n 32 W) (tP T n) R y.2.1 y.1), y.2.1 ++ [y.1.2 + 1], y.2.2.1, y.2.2.2.1 ++ [y.1.2 + 1], y.2.2.2.2) := by unfold qS; rw [if_neg n1', if_pos w7', if_neg c6]
          refine ⟨5, by omega, F_personLine (by omega) hq gP hs z0 no d1 (by omega) d4 d2 d3 (fun g1 c1 a1 n1 f1 => B_Reader_readQuarter_105 hq c1.1.1 (next g1 (by rw [eS]; exact c1) (PT_fr gP (fun a i ha => f1 _ _ (by unfold muR; omega) (by omega) (by omega))) (fun z3 => ?_)))⟩
          rw [eS] at z3 ⊢
          have a0 := (a1 z3).1
          obtain ⟨b1, b2, ⟨b3, b3'⟩, b4, b5⟩ := d1
          refine ⟨⟨?_, ?_, ⟨b3, ?_⟩, fun i hi => ?_, fun i hi => ?_⟩, ?_, d3, any_p _ d4, ?_, fun i hi => ?_⟩
          · exact (f1 _ _ (nq _) (by omega) (by omega)).trans b1
          · show rd g1 q 4 = (((y.2.2.2.1 ++ [y.1.2 + 1]).length : Nat) : Int)
            rw [n1, List.length_append, List.length_singleton]; omega
          · show (y.2.2.2.1 ++ [y.1.2 + 1]).length ≤ 6
            rw [List.length_append, List.length_singleton]; omega
          · have hi' : i < y.2.2.1.length := hi
            exact (f1 _ _ (by unfold muR; omega) (by omega) (by omega)).trans (b4 i hi)
          · have hi' : i < (y.2.2.2.1 ++ [y.1.2 + 1]).length := hi
            rw [List.length_append, List.length_singleton] at hi'
            show rd g1 (q + 21 + i) 0 = tV T n 32 ((y.2.2.2.1 ++ [y.1.2 + 1]).getD i 0)
            rcases Nat.lt_or_ge i y.2.2.2.1.length with u | u
            · rw [getD_l u, f1 _ _ (by unfold muR; omega) (by omega) (by omega)]
              exact b5 i u
            · have u' : i = y.2.2.2.1.length := by omega
              rw [u', getD_e]
              exact a0
          · exact (f1 _ _ (nq _) (by omega) (by omega)).trans d2
          · exact (f1 _ _ (nq _) (by omega) (by omega)).trans d5.1
          · exact (f1 _ _ (by unfold muR; omega) (by omega) (by omega)).trans (d5.2 i hi)
      · have w11' : tW T n 32 W y.1.2 = 11 := ew.symm.trans w11
        have n1' : ¬ tW T n 32 W y.1.2 = 1 := by omega
        have n7' : ¬ tW T n 32 W y.1.2 = 7 := by omega
        have dl := d5.1
        by_cases cl : 0 < y.2.2.2.2.length
        · have eS : (qS (tO T n) (tV T n 32) (tW T n 32 W) (tP T n) R y) = (tkE (tP T n) 3 y.1, y.2) := by unfold qS; rw [if_neg n1', if_neg n7', if_pos w11', if_pos cl]
          exact ⟨1, by omega, B_Reader_letLine_0 hq gF ⟨fun z3 => by omega, fun _ => ⟨0, by omega, F_fl hs (by omega) (fun g1 c1 f1 => B_Reader_letLine_12 hq c1.1.1 (B_Reader_readQuarter_113 hq c1.1.1 (bad g1 3 (by decide) eS c1 f1)))⟩⟩⟩
        · have eS : (qS (tO T n) (tV T n 32) (tW T n 32 W) (tP T n) R y) = (tkS (tO T n) (tV T n 32) (tP T n) 59 (qX (tO T n) (tV T n 32) (tW T n 32 W) (tP T n) y.1).1, y.2.1, y.2.2.1, y.2.2.2.1, (qX (tO T n) (tV T n 32) (tW T n 32 W) (tP T n) y.1).2) := by unfold qS; rw [if_neg n1', if_neg n7', if_pos w11', if_neg cl]
          refine ⟨40, by omega, F_letLine (by omega) hq hs z0 no (by omega) (fun g1 c1 a1 f1 => B_Reader_readQuarter_113 hq c1.1.1 (next g1 (by rw [eS]; exact c1) (PT_fr gP (fun a i ha => f1 _ _ (by unfold muE muR; omega))) (fun z3 => ?_)))⟩
          rw [eS] at z3 ⊢
          refine ⟨NCK_fr d1 (fun a i ha => f1 _ _ ?_), (f1 _ _ (by unfold muE muR; omega)).trans d2, d3, d4, a1 z3⟩
          have l14 := d1.2.2.1
          unfold muE muR
          omega
      · have n1' : ¬ tW T n 32 W y.1.2 = 1 := fun z3 => wd.1 (ew.trans z3)
        have n7' : ¬ tW T n 32 W y.1.2 = 7 := fun z3 => wd.2.1 (ew.trans z3)
        have n11' : ¬ tW T n 32 W y.1.2 = 11 := fun z3 => wd.2.2 (ew.trans z3)
        have eS : (qS (tO T n) (tV T n 32) (tW T n 32 W) (tP T n) R y) = (tkE (tP T n) 1 y.1, y.2) := by unfold qS; rw [if_neg n1', if_neg n7', if_neg n11']
        exact ⟨0, by omega, F_fl hs (by omega) (fun g1 c1 f1 => bad g1 1 (by decide) eS c1 f1)⟩
  refine B_Reader_readQuarter_0 hq hx.1 ⟨3, by omega, F_begin (by omega) hx (fun h1 s1 f1 => ?_)⟩
  have q4 : 4 < q := by omega
  have s2 : CSK T n W (wr (wr (wr (wr h1 q 0 2) q 2 0) q 4 0) q 6 0) (0, 0) := CSK_wn (CSK_wn (CSK_wn (CSK_wn s1 (hav_qf hq (by decide)) q4) (hav_qf hq (by decide)) q4) (hav_qf hq (by decide)) q4) (hav_qf hq (by decide)) q4
  refine B_Reader_readQuarter_4 hq s1.1.1 (by omega) ⟨3, by omega, F_takeWord (by omega) s2 (by decide) (fun h3 s3 f3 => ?_)⟩
  refine B_Reader_readQuarter_13 hq s3.1.1 ⟨3, by omega, F_takeNumber (by omega) s3 ⟨by unfold i32; omega, by unfold i32; omega⟩ (fun h4 r s4 f4 r0 r1 q4' => ?_)⟩
  refine B_Reader_readQuarter_21 hq s4.1.1 ⟨3, by omega, F_takeSign (by omega) (CSK_wn s4 (hav_qf hq (by decide)) q4) (fun h5 s5 f5 => B_Reader_readQuarter_30 hq s5.1.1 ?_)⟩
  have P5 : PT h5 := by
    refine PT_fr hP (fun a i ha => ?_)
    rw [f5 _ _ (by unfold muR; omega), rdw_ne (by omega), f4 _ _ (by unfold muR; omega), f3 _ _ (by unfold muR; omega), rdw_ne (by omega), rdw_ne (by omega), rdw_ne (by omega), rdw_ne (by omega), f1 _ _ (by unfold muR; omega)]
  have v : ∀ i, i ≠ 0 → rd h5 q i = rd (wr (wr (wr (wr h1 q 0 2) q 2 0) q 4 0) q 6 0) q i := by
    intro i hi
    rw [f5 _ _ (nq _), rdw_nei (Ne.symm hi), f4 _ _ (nq _), f3 _ _ (nq _)]
  refine loop 1000 h5 (qB (tO T n) (tV T n 32) (tW T n 32 W) (tP T n)) (Nat.le_refl _) (by rw [hRq]; exact eF) s5 P5 (fun z => ?_)
  have er : r = R := ((q4' (tkS_z z)).1).trans hRq.symm
  refine ⟨⟨?_, ?_, ⟨Nat.zero_le 14, Nat.zero_le 6⟩, fun i hi => absurd hi (Nat.not_lt_zero i), fun i hi => absurd hi (Nat.not_lt_zero i)⟩, ?_, ?_, fun f => rfl, ?_, fun i hi => absurd hi (Nat.not_lt_zero i)⟩
  · rw [v 2 (by decide), rdw_nei (by decide), rdw_nei (by decide), rdw_eq]; rfl
  · rw [v 4 (by decide), rdw_nei (by decide), rdw_eq]; rfl
  · rw [f5 _ _ (nq _), rdw_eq]; exact er
  · have := (q4' (tkS_z z)).2
    rw [← er]; omega
  · rw [v 6 (by decide), rdw_eq]; rfl
def bxo (bs : BX) (lo hi : Int) : Bool := bs.all (fun b => (decide (b.1 = 2) && decide (b.2.1 = 2)) || (decide (lo ≤ b.1) && decide (b.2.1 ≤ hi)))
theorem bxo_f {bs : BX} {lo hi a i : Int} (hb : bxo bs lo hi = true) (h1 : a ≠ 2) (h2 : ¬ (lo ≤ a ∧ a ≤ hi)) : inBx bs a i = false := by
  refine inBx_f (fun b hm z => ?_)
  have y := List.all_eq_true.mp hb b hm
  simp only [Bool.or_eq_true, Bool.and_eq_true, decide_eq_true_eq] at y
  omega
theorem K_readQuarterF (he : 39 ≤ e) (hq : q = 5 ∨ q = 32) (hI : INV h) (k : ∀ r h', INV h' → (∀ a i, a ≠ 2 → ¬ (q ≤ a ∧ a ≤ q + 26) → rd h' a i = rd h a i) → Q r h') : Rn xs xl e mm_Reader_readQuarter 0 [some (.inr (.inr 2)), some (.inr (.inr q)), none] [] h Q := by
  rcases hq with rfl | rfl
  · exact use_sm (tabC (j := 72) rfl) (as := [.inr (.inr 2), .inr (.inr 5)]) rfl he hI (gAr_c (g_ref 2) (gAr_c (g_ref 5) gAr_n)) rfl (Nat.le_of_ble_eq_true rfl) rfl (fun r h' i' f q => k r h' i' (fun a i n1 n2 => f a i (bxo_f (lo := 5) (hi := 31) (by decide +kernel) n1 (by omega))))
  · exact use_sm (tabC (j := 117) rfl) (as := [.inr (.inr 2), .inr (.inr 32)]) rfl he hI (gAr_c (g_ref 2) (gAr_c (g_ref 32) gAr_n)) rfl (Nat.le_of_ble_eq_true rfl) rfl (fun r h' i' f q => k r h' i' (fun a i n1 n2 => f a i (bxo_f (lo := 32) (hi := 58) (by decide +kernel) n1 (by omega))))
theorem K_settleF (he : 6 ≤ e) (hq : q = 5 ∨ q = 32) (hI : INV h) (k : ∀ h', INV h' → (∀ a i, a ≠ 2 → ¬ (q + 4 ≤ a ∧ a ≤ q + 6) → rd h' a i = rd h a i) → Q none h') : Rn xs xl e mm_Quarter_settle 0 [some (.inr (.inr q)), none, none] [] h Q := by
  rcases hq with rfl | rfl
  · exact use_sm (tabC (j := 124) rfl) (as := [.inr (.inr 5)]) rfl he hI (gAr_c (g_ref 5) gAr_n) rfl (Nat.le_of_ble_eq_true rfl) rfl (fun r h' i' f q => by rw [res_none q]; exact k h' i' (fun a i n1 n2 => f a i (bxo_f (lo := 9) (hi := 11) (by decide +kernel) n1 (by omega))))
  · exact use_sm (tabC (j := 129) rfl) (as := [.inr (.inr 32)]) rfl he hI (gAr_c (g_ref 32) gAr_n) rfl (Nat.le_of_ble_eq_true rfl) rfl (fun r h' i' f q => by rw [res_none q]; exact k h' i' (fun a i n1 n2 => f a i (bxo_f (lo := 36) (hi := 38) (by decide +kernel) n1 (by omega))))
theorem K_beginF (he : 3 ≤ e) (hq : q = 5 ∨ q = 32) (hI : INV h) (k : ∀ h', INV h' → (∀ a i, a ≠ 2 → ¬ (59 ≤ a ∧ a ≤ 62) → rd h' a i = rd h a i) → Q none h') : Rn xs xl e mm_Memory_begin 0 [some (.inr (.inr 59)), some (.inr (.inr q))] [] h Q := by
  rcases hq with rfl | rfl
  · exact use_sm (tabC (j := 132) rfl) (as := [.inr (.inr 59), .inr (.inr 5)]) rfl he hI (gAr_c (g_ref 59) (gAr_c (g_ref 5) gAr_n)) rfl (Nat.le_of_ble_eq_true rfl) rfl (fun r h' i' f q => by rw [res_none q]; exact k h' i' (fun a i n1 n2 => f a i (bxo_f (lo := 59) (hi := 62) (by decide +kernel) n1 n2)))
  · exact use_sm (tabC (j := 134) rfl) (as := [.inr (.inr 59), .inr (.inr 32)]) rfl he hI (gAr_c (g_ref 59) (gAr_c (g_ref 32) gAr_n)) rfl (Nat.le_of_ble_eq_true rfl) rfl (fun r h' i' f q => by rw [res_none q]; exact k h' i' (fun a i n1 n2 => f a i (bxo_f (lo := 59) (hi := 62) (by decide +kernel) n1 n2)))
/-- what the class's quarter leaves: with a fault, without -/
theorem E_quarterN (he : 42 ≤ e) (hI : INV h) (hP : PT h) (hT : TP T n h) (hW : rd h 4 = W) (k : ∀ h', ((qF (tO T n) (tV T n 32) (tW T n 32 W) (tP T n)).1.1 ≠ 0 → ∀ a i, a ≠ 2 → ¬ (rd h 1 2 ≤ a ∧ a ≤ rd h 1 2 + 26) → rd h' a i = rd h a i) → ((qF (tO T n) (tV T n 32) (tW T n 32 W) (tP T n)).1.1 = 0 → rd h' 1 1 = rd h 1 2 ∧ rd h' 1 2 = rd h 1 1 ∧ NCK T n h' (rd h 1 2) (qF (tO T n) (tV T n 32) (tW T n 32 W) (tP T n)).2.2.1 (qF (tO T n) (tV T n 32) (tW T n 32 W) (tP T n)).2.2.2.1) → Q (some (.inl (qF (tO T n) (tV T n 32) (tW T n 32 W) (tP T n)).1.1)) h') : Rn xs xl e mm_OneSided_quarter 0 [some (.inr (.inr 1)), none, none] [] h Q := by
  generalize eY : qF (tO T n) (tV T n 32) (tW T n 32 W) (tP T n) = Y at k
  have hS := rSf hI.1
  generalize eq : rd h 1 ((2 : Nat) : Int) = q at hS
  have eq' : rd h 1 2 = q := eq
  have A : Rn xs xl 41 mm_Reader_readQuarter 0 [some (.inr (.inr 2)), some (.inr (.inr q)), none] [] h (fun r g => r = some (.inl Y.1.1) ∧ (Y.1.1 = 0 → DCK T n g q (qR (tV T n 32) (tW T n 32 W) (tP T n)) Y)) := by
    refine F_readQuarterN (by omega) hS hP ⟨RF_of hI.1, hT, hW⟩ ?_
    rw [eY]
    exact fun h' d => ⟨rfl, d⟩
  have B : Rn xs xl 41 mm_Reader_readQuarter 0 [some (.inr (.inr 2)), some (.inr (.inr q)), none] [] h (fun r g => INV g ∧ (∀ a i, a ≠ 2 → ¬ (q ≤ a ∧ a ≤ q + 26) → rd g a i = rd h a i)) := K_readQuarterF (by omega) hS hI (fun r h' i' f' => ⟨i', f'⟩)
  refine B_OneSided_quarter_0 hS (rQf hI.1) eq rfl (RF_of hI.1) ⟨41, by omega, (A.and B).mono (fun r g z => ?_)⟩
  obtain ⟨⟨rfl, gD⟩, gI, gf⟩ := z
  have g2 : rd g 1 ((2 : Nat) : Int) = q := (gf 1 _ (by decide) (by omega)).trans eq
  rw [eq'] at k
  refine B_OneSided_quarter_11 hS (rQf gI.1) g2 rfl (RF_of gI.1) ⟨fun z => ?_, fun z => k g (fun _ => gf) (fun z2 => absurd z2 z)⟩
  have gD' := (gD z).1
  have g1 : rd g 1 ((1 : Nat) : Int) = rd h 1 1 := gf 1 _ (by decide) (by omega)
  have i1 := wQ_1 (wQ_2 gI (rQf gI.1)) hS
  refine B_OneSided_quarter_18 hS (rQf gI.1) g2 rfl (RF_of gI.1) ⟨6, by omega, K_settleF (by omega) hS i1 (fun g3 i3 f3 => ?_)⟩
  have e11 : rd g3 1 ((1 : Nat) : Int) = q := (f3 1 _ (by decide) (by omega)).trans rdw_eq
  have e12 : rd g3 1 ((2 : Nat) : Int) = rd h 1 1 := by
    rw [f3 1 _ (by decide) (by omega)]
    exact ((rdw_nei (by decide)).trans rdw_eq).trans g1
  refine B_OneSided_quarter_43 (rSf i3.1) hS rfl e11 (RF_of i3.1) ⟨3, by omega, K_beginF (by omega) hS i3 (fun g4 i4 f4 => ?_)⟩
  refine B_OneSided_quarter_54 (rSf i4.1) (rQf i4.1) rfl rfl (RF_of i4.1) ?_
  have := k (wr (wr g4 1 6 0) 1 9 0) (fun z2 => absurd z z2) (fun _ => ⟨?_, ?_, ?_⟩)
  · rw [z] at this; exact this
  · rw [rdw_nei (by decide), rdw_nei (by decide), f4 1 1 (by decide) (by decide)]
    exact e11
  · rw [rdw_nei (by decide), rdw_nei (by decide), f4 1 2 (by decide) (by decide)]
    exact e12
  · have l14 := gD'.2.2.1
    refine NCK_fr gD' (fun a i ha => ?_)
    rw [rdw_ne (by omega), rdw_ne (by omega), f4 a i (by omega) (by omega), f3 a i (by omega) (by omega), rdw_ne (by omega), rdw_ne (by omega)]
end NF5
end
section
/-! the quarter as read, part q1: the class keeps the fields -/
/-- fields of doors and people so far -/
def dDk (T : Int → Int) (n : Int) (W : Int → Int) (g : LH) (q : Int) (ND : List Nat) : Prop := ∀ i : Nat, i < ND.length → 1 ≤ ND.getD i 0 ∧ ∀ j : Nat, j < 8 → rd g (q + 7 + i) ((j : Int) + 1) = (dfl (tO T n) (tV T n 32) (tW T n 32 W) (tP T n) (ND.getD i 0 - 1)).getD j 0
def dPk (T : Int → Int) (n : Int) (W : Int → Int) (g : LH) (q : Int) (NP : List Nat) : Prop := ∀ i : Nat, i < NP.length → 1 ≤ NP.getD i 0 ∧ ∀ j : Nat, j < 4 → rd g (q + 21 + i) ((j : Int) + 1) = (pfl (tV T n 32) (tW T n 32 W) (NP.getD i 0 - 1)).getD j 0
def DCKf (T : Int → Int) (n : Int) (W : Int → Int) (g : LH) (q R : Int) (y : QY) : Prop := DCK T n g q R y ∧ dDk T n W g q y.2.2.1 ∧ dPk T n W g q y.2.2.2.1
section QG1
variable {xs : Nat → Int} {xl e : Nat} {h g g1 : LH} {Q : Option LV → LH → Prop} {q R t d : Int} {T : Int → Int} {n : Int} {W : Int → Int} {s : Int × Nat} {N ND NP : List Nat} {x : Nat}
theorem dD_same (hq : q = 5 ∨ q = 32) (h : dDk T n W g q ND) (f : ∀ (i : Nat) (j : Int), i < ND.length → rd g1 (q + 7 + i) j = rd g (q + 7 + i) j) : dDk T n W g1 q ND := fun i hi => ⟨(h i hi).1, fun j hj => (f i _ hi).trans ((h i hi).2 j hj)⟩
theorem dP_same (hq : q = 5 ∨ q = 32) (h : dPk T n W g q NP) (f : ∀ (i : Nat) (j : Int), i < NP.length → rd g1 (q + 21 + i) j = rd g (q + 21 + i) j) : dPk T n W g1 q NP := fun i hi => ⟨(h i hi).1, fun j hj => (f i _ hi).trans ((h i hi).2 j hj)⟩
theorem dD_app (hq : q = 5 ∨ q = 32) (hl : ND.length ≤ 14) (h : dDk T n W g q ND) (f : ∀ (i : Nat) (j : Int), i < ND.length → rd g1 (q + 7 + i) j = rd g (q + 7 + i) j) (hn : 1 ≤ x ∧ ∀ j : Nat, j < 8 → rd g1 (q + 7 + ND.length) ((j : Int) + 1) = (dfl (tO T n) (tV T n 32) (tW T n 32 W) (tP T n) (x - 1)).getD j 0) : dDk T n W g1 q (ND ++ [x]) := by
  intro i hi
  rw [List.length_append, List.length_singleton] at hi
  rcases Nat.lt_or_ge i ND.length with u | u
  · rw [getD_l u]
    exact ⟨(h i u).1, fun j hj => (f i _ u).trans ((h i u).2 j hj)⟩
  · have e : i = ND.length := by omega
    subst e
    rw [getD_e]
    exact hn
theorem dP_app (hq : q = 5 ∨ q = 32) (hl : NP.length ≤ 6) (h : dPk T n W g q NP) (f : ∀ (i : Nat) (j : Int), i < NP.length → rd g1 (q + 21 + i) j = rd g (q + 21 + i) j) (hn : 1 ≤ x ∧ ∀ j : Nat, j < 4 → rd g1 (q + 21 + NP.length) ((j : Int) + 1) = (pfl (tV T n 32) (tW T n 32 W) (x - 1)).getD j 0) : dPk T n W g1 q (NP ++ [x]) := by
  intro i hi
  rw [List.length_append, List.length_singleton] at hi
  rcases Nat.lt_or_ge i NP.length with u | u
  · rw [getD_l u]
    exact ⟨(h i u).1, fun j hj => (f i _ u).trans ((h i u).2 j hj)⟩
  · have e : i = NP.length := by omega
    subst e
    rw [getD_e]
    exact hn
theorem df_of (hp : ∀ k, 0 ≤ tP T n k) (hz : s.1 = 0) (hd : (drL (tO T n) (tV T n 32) (tW T n 32 W) (tP T n) R N s).1 = 0) (a : rd g d 1 = tW T n 32 W (drC (tO T n) (tV T n 32) (tW T n 32 W) (tP T n) R N s).2 - 14 ∧ rd g d 2 = tV T n 32 (drA (tO T n) (tV T n 32) (tW T n 32 W) (tP T n) N s).2 ∧ rd g d 3 = tV T n 32 (drB (tO T n) (tV T n 32) (tW T n 32 W) (tP T n) R N s).2 ∧ drFc T n W g d (drD (tO T n) (tV T n 32) (tW T n 32 W) (tP T n) R N s)) : ∀ j : Nat, j < 8 → rd g d ((j : Int) + 1) = (dfl (tO T n) (tV T n 32) (tW T n 32 W) (tP T n) (s.2 + 1 - 1)).getD j 0 := by
  obtain ⟨eA, eB, eC, eD, -, -⟩ := dr_at hp hz (opL_z hd)
  rw [eA, eB, eC, eD] at a
  obtain ⟨a1, a2, a3, a4, a5, a6, a7, a8⟩ := a
  rw [Nat.add_sub_cancel]
  intro j hj
  match j, hj with
  | 0, _ => exact a1
  | 1, _ => exact a2
  | 2, _ => exact a3
  | 3, _ => exact a4
  | 4, _ => exact a5
  | 5, _ => exact a6
  | 6, _ => exact a7
  | 7, _ => exact a8
  | j + 8, q => omega
theorem pf_of (hp : ∀ k, 0 ≤ tP T n k) (hz : s.1 = 0) (hd : (psL (tO T n) (tV T n 32) (tW T n 32 W) (tP T n) R N s).1 = 0) (a : rd g d 1 = tW T n 32 W (psA (tO T n) (tV T n 32) (tW T n 32 W) (tP T n) N s).2 - 18 ∧ rd g d 2 = tV T n 32 (psB (tO T n) (tV T n 32) (tW T n 32 W) (tP T n) N s).2 ∧ rd g d 3 = tV T n 32 (psC (tO T n) (tV T n 32) (tW T n 32 W) (tP T n) R N s).2 ∧ rd g d 4 = tV T n 32 (psD (tO T n) (tV T n 32) (tW T n 32 W) (tP T n) R N s).2) : ∀ j : Nat, j < 4 → rd g d ((j : Int) + 1) = (pfl (tV T n 32) (tW T n 32 W) (s.2 + 1 - 1)).getD j 0 := by
  obtain ⟨eA, eB, eC, eD, -, -, -⟩ := ps_at hp hz hd
  rw [eA, eB, eC, eD] at a
  obtain ⟨a1, a2, a3, a4⟩ := a
  rw [Nat.add_sub_cancel]
  intro j hj
  match j, hj with
  | 0, _ => exact a1
  | 1, _ => exact a2
  | 2, _ => exact a3
  | 3, _ => exact a4
  | j + 4, q => omega
theorem DCKf_w {y : QY} (hq : q = 5 ∨ q = 32) (hd : DCKf T n W g q R y) : DCKf T n W (wr g 2 0 0) q R y := ⟨DCK_w hq hd.1, dD_same hq hd.2.1 (fun i j hi => rdw_ne (by omega)), dP_same hq hd.2.2 (fun i j hi => rdw_ne (by omega))⟩
theorem F_readQuarterF (he : 41 ≤ e) (hq : q = 5 ∨ q = 32) (hP : PT h) (hx : CX T n W h) (k : ∀ h', ((qF (tO T n) (tV T n 32) (tW T n 32 W) (tP T n)).1.1 = 0 → DCKf T n W h' q (qR (tV T n 32) (tW T n 32 W) (tP T n)) (qF (tO T n) (tV T n 32) (tW T n 32 W) (tP T n))) → Q (some (.inl (qF (tO T n) (tV T n 32) (tW T n 32 W) (tP T n)).1.1)) h') :
    Rn xs xl e mm_Reader_readQuarter 0 [some (.inr (.inr 2)), some (.inr (.inr q)), none] [] h Q := by
  generalize eF : qF (tO T n) (tV T n 32) (tW T n 32 W) (tP T n) = Y at k
  obtain ⟨R, hRq⟩ : ∃ R, R = qR (tV T n 32) (tW T n 32 W) (tP T n) := ⟨_, rfl⟩
  rw [← hRq] at k
  have nq : ∀ i, ¬ muR q i := fun i => by unfold muR; omega
  have loop : ∀ (c : Nat) (g : LH) (y : QY), c ≤ 1000 → qL (tO T n) (tV T n 32) (tW T n 32 W) (tP T n) R c y = Y → CSK T n W g y.1 → PT g → (y.1.1 = 0 → DCKf T n W g q R y) → Rn xs xl e mm_Reader_readQuarter 32 [some (.inr (.inr 2)), some (.inr (.inr q)), some (.inl (1000 - (c : Int)))] [] g Q := by
    intro c
    induction c with
    | zero =>
      intro g y _ eY hs gP hd
      have e8 := hs.2.1
      have eY' : y = Y := eY
      refine B_Reader_readQuarter_32 hq hs.1.1 (by omega) ⟨fun _ => B_Reader_readQuarter_127 hq hs.1.1 ?_, fun z => by omega⟩
      have := k (wr g 2 0 0)
      rw [← eY', ← e8] at this
      exact this (fun z => DCKf_w hq (hd (e8.symm.trans z)))
    | succ c ih =>
      intro g y hc eY hs gP hd
      have gF := hs.1.1
      have e8 := hs.2.1
      have ep : ∀ c : Int, 1 ≤ c → (tkE (tP T n) c y.1).1 ≠ 0 := fun c hc => tkE_ne hs.1.2.1 hc
      have stop : ¬ (y.1.1 = 0 ∧ tO T n y.1.2 ≠ 0) → Rn xs xl e mm_Reader_readQuarter 127 [some (.inr (.inr 2)), some (.inr (.inr q)), some (.inl (1000 - ((c + 1 : Nat) : Int)))] [] g Q := by
        intro ns
        have eY' : y = Y := by rw [qL_stop ns] at eY; exact eY
        refine B_Reader_readQuarter_127 hq gF ?_
        have := k (wr g 2 0 0)
        rw [← eY', ← e8] at this
        exact this (fun z => DCKf_w hq (hd (e8.symm.trans z)))
      refine B_Reader_readQuarter_32 hq gF (by omega) ⟨fun z => by omega, fun _ => ⟨fun z => stop (fun z2 => z (e8.trans z2.1)), fun z => ?_⟩⟩
      have z0 : y.1.1 = 0 := e8.symm.trans z
      have ek := CS_k hs z0
      have ew := CS_w hs z0
      refine ⟨fun z2 => stop (fun z3 => z3.2 (ck_0.mp (ek.symm.trans z2))), fun z2 => ?_⟩
      have no : tO T n y.1.2 ≠ 0 := fun z3 => z2 (ek.trans (ck_0.mpr z3))
      obtain ⟨⟨d1, d2, d3, d4, d5⟩, dD, dP⟩ := hd z0
      rw [qL_go ⟨z0, no⟩] at eY
      have next : ∀ g1 : LH, CSK T n W g1 (qS (tO T n) (tV T n 32) (tW T n 32 W) (tP T n) R y).1 → PT g1 → ((qS (tO T n) (tV T n 32) (tW T n 32 W) (tP T n) R y).1.1 = 0 → DCKf T n W g1 q R (qS (tO T n) (tV T n 32) (tW T n 32 W) (tP T n) R y)) → Rn xs xl e mm_Reader_readQuarter 121 [some (.inr (.inr 2)), some (.inr (.inr q)), some (.inl (1000 - ((c + 1 : Nat) : Int)))] [] g1 Q := by
        generalize qS (tO T n) (tV T n 32) (tW T n 32 W) (tP T n) R y = y' at eY
        intro g1 c1 p1 dd
        have := ih g1 y' (by omega) eY c1 p1 dd
        rw [show 1000 - (c : Int) = 1000 - ((c + 1 : Nat) : Int) + 1 by omega] at this
        exact B_Reader_readQuarter_121 hq c1.1.1 (by omega) this
      have bad : ∀ (g1 : LH) (c0 : Int), 1 ≤ c0 → (qS (tO T n) (tV T n 32) (tW T n 32 W) (tP T n) R y) = (tkE (tP T n) c0 y.1, y.2) → CSK T n W g1 (tkE (tP T n) c0 y.1) → frK g g1 → Rn xs xl e mm_Reader_readQuarter 121 [some (.inr (.inr 2)), some (.inr (.inr q)), some (.inl (1000 - ((c + 1 : Nat) : Int)))] [] g1 Q := by
        intro g1 c0 h0 eS c1 f1
        refine next g1 (by rw [eS]; exact c1) (PT_fr gP (fun a i ha => f1 _ _ (by unfold muR; omega))) (fun z3 => ?_)
        rw [eS] at z3
        exact absurd z3 (ep c0 h0)
      refine ⟨fun w1 => ?_, fun w7 => ?_, fun w11 => ?_, fun wd => ?_⟩
      · have w1' : tW T n 32 W y.1.2 = 1 := ew.symm.trans w1
        by_cases c14 : 14 ≤ y.2.2.1.length
        · have eS : (qS (tO T n) (tV T n 32) (tW T n 32 W) (tP T n) R y) = (tkE (tP T n) 5 y.1, y.2) := by unfold qS; rw [if_pos w1', if_pos c14]
          have dl := d1.1
          exact ⟨1, by omega, B_Reader_doorLine_0 hq gF gP ⟨fun z3 => by omega, fun _ => ⟨0, by omega, F_fl hs (by omega) (fun g1 c1 f1 => B_Reader_doorLine_14 hq c1.1.1 (B_Reader_readQuarter_97 hq c1.1.1 (bad g1 5 (by decide) eS c1 f1)))⟩⟩⟩
        · have eS : (qS (tO T n) (tV T n 32) (tW T n 32 W) (tP T n) R y) = (tkS (tO T n) (tV T n 32) (tP T n) 59 (drL (tO T n) (tV T n 32) (tW T n 32 W) (tP T n) R y.2.1 y.1), y.2.1 ++ [y.1.2 + 1], y.2.2.1 ++ [y.1.2 + 1], y.2.2.2.1, y.2.2.2.2) := by unfold qS; rw [if_pos w1', if_neg c14]
          refine ⟨5, by omega, F_doorLine (by omega) hq gP hs z0 no d1 (by omega) d4 d2 d3 (fun g1 c1 a1 n1 f1 => B_Reader_readQuarter_97 hq c1.1.1 (next g1 (by rw [eS]; exact c1) (PT_fr gP (fun a i ha => f1 _ _ (by unfold muR; omega) (by omega) (by omega))) (fun z3 => ?_)))⟩
          rw [eS] at z3 ⊢
          have a0 := (a1 z3).1
          obtain ⟨b1, b2, ⟨b3, b3'⟩, b4, b5⟩ := d1
          have DF := dD_app (x := y.1.2 + 1) hq b3 dD (fun i j hi => f1 _ _ (by unfold muR; omega) (by omega) (by omega)) ⟨Nat.le_add_left 1 _, df_of (fun k => tP_0 hs.1.2.1.2.2.2 hs.1.2.1.2.2.1 k) z0 (tkS_z z3) (a1 z3).2⟩
          have PF := dP_same hq dP (fun i j hi => f1 _ _ (by unfold muR; omega) (by omega) (by omega))
          refine ⟨⟨⟨?_, ?_, ⟨?_, b3'⟩, fun i hi => ?_, fun i hi => ?_⟩, ?_, d3, any_d _ d4, ?_, fun i hi => ?_⟩, DF, PF⟩
          · show rd g1 q 2 = (((y.2.2.1 ++ [y.1.2 + 1]).length : Nat) : Int)
            rw [n1, List.length_append, List.length_singleton]; omega
          · exact (f1 _ _ (nq _) (by omega) (by omega)).trans b2
          · show (y.2.2.1 ++ [y.1.2 + 1]).length ≤ 14
            rw [List.length_append, List.length_singleton]; omega
          · have hi' : i < (y.2.2.1 ++ [y.1.2 + 1]).length := hi
            rw [List.length_append, List.length_singleton] at hi'
            show rd g1 (q + 7 + i) 0 = tV T n 32 ((y.2.2.1 ++ [y.1.2 + 1]).getD i 0)
            rcases Nat.lt_or_ge i y.2.2.1.length with u | u
            · rw [getD_l u, f1 _ _ (by unfold muR; omega) (by omega) (by omega)]
              exact b4 i u
            · have u' : i = y.2.2.1.length := by omega
              rw [u', getD_e]
              exact a0
          · have hi' : i < y.2.2.2.1.length := hi
            exact (f1 _ _ (by unfold muR; omega) (by omega) (by omega)).trans (b5 i hi)
          · exact (f1 _ _ (nq _) (by omega) (by omega)).trans d2
          · exact (f1 _ _ (nq _) (by omega) (by omega)).trans d5.1
          · exact (f1 _ _ (by unfold muR; omega) (by omega) (by omega)).trans (d5.2 i hi)
      · have w7' : tW T n 32 W y.1.2 = 7 := ew.symm.trans w7
        have n1' : ¬ tW T n 32 W y.1.2 = 1 := by omega
        by_cases c6 : 6 ≤ y.2.2.2.1.length
        · have eS : (qS (tO T n) (tV T n 32) (tW T n 32 W) (tP T n) R y) = (tkE (tP T n) 5 y.1, y.2) := by unfold qS; rw [if_neg n1', if_pos w7', if_pos c6]
          have dl := d1.2.1
          exact ⟨1, by omega, B_Reader_personLine_0 hq gF gP ⟨fun z3 => by omega, fun _ => ⟨0, by omega, F_fl hs (by omega) (fun g1 c1 f1 => B_Reader_personLine_14 hq c1.1.1 (B_Reader_readQuarter_105 hq c1.1.1 (bad g1 5 (by decide) eS c1 f1)))⟩⟩⟩
        · have eS : (qS (tO T n) (tV T n 32) (tW T n 32 W) (tP T n) R y) = (tkS (tO T n) (tV T n 32) (tP T n) 59 (psL (tO T n) (tV T n 32) (tW T n 32 W) (tP T n) R y.2.1 y.1), y.2.1 ++ [y.1.2 + 1], y.2.2.1, y.2.2.2.1 ++ [y.1.2 + 1], y.2.2.2.2) := by unfold qS; rw [if_neg n1', if_pos w7', if_neg c6]
          refine ⟨5, by omega, F_personLine (by omega) hq gP hs z0 no d1 (by omega) d4 d2 d3 (fun g1 c1 a1 n1 f1 => B_Reader_readQuarter_105 hq c1.1.1 (next g1 (by rw [eS]; exact c1) (PT_fr gP (fun a i ha => f1 _ _ (by unfold muR; omega) (by omega) (by omega))) (fun z3 => ?_)))⟩
          rw [eS] at z3 ⊢
          have a0 := (a1 z3).1
          obtain ⟨b1, b2, ⟨b3, b3'⟩, b4, b5⟩ := d1
          have PF := dP_app (x := y.1.2 + 1) hq b3' dP (fun i j hi => f1 _ _ (by unfold muR; omega) (by omega) (by omega)) ⟨Nat.le_add_left 1 _, pf_of (fun k => tP_0 hs.1.2.1.2.2.2 hs.1.2.1.2.2.1 k) z0 (tkS_z z3) (a1 z3).2⟩
          have DF := dD_same hq dD (fun i j hi => f1 _ _ (by unfold muR; omega) (by omega) (by omega))
          refine ⟨⟨⟨?_, ?_, ⟨b3, ?_⟩, fun i hi => ?_, fun i hi => ?_⟩, ?_, d3, any_p _ d4, ?_, fun i hi => ?_⟩, DF, PF⟩
          · exact (f1 _ _ (nq _) (by omega) (by omega)).trans b1
          · show rd g1 q 4 = (((y.2.2.2.1 ++ [y.1.2 + 1]).length : Nat) : Int)
            rw [n1, List.length_append, List.length_singleton]; omega
          · show (y.2.2.2.1 ++ [y.1.2 + 1]).length ≤ 6
            rw [List.length_append, List.length_singleton]; omega
          · have hi' : i < y.2.2.1.length := hi
            exact (f1 _ _ (by unfold muR; omega) (by omega) (by omega)).trans (b4 i hi)
          · have hi' : i < (y.2.2.2.1 ++ [y.1.2 + 1]).length := hi
            rw [List.length_append, List.length_singleton] at hi'
            show rd g1 (q + 21 + i) 0 = tV T n 32 ((y.2.2.2.1 ++ [y.1.2 + 1]).getD i 0)
            rcases Nat.lt_or_ge i y.2.2.2.1.length with u | u
            · rw [getD_l u, f1 _ _ (by unfold muR; omega) (by omega) (by omega)]
              exact b5 i u
            · have u' : i = y.2.2.2.1.length := by omega
              rw [u', getD_e]
              exact a0
          · exact (f1 _ _ (nq _) (by omega) (by omega)).trans d2
          · exact (f1 _ _ (nq _) (by omega) (by omega)).trans d5.1
          · exact (f1 _ _ (by unfold muR; omega) (by omega) (by omega)).trans (d5.2 i hi)
      · have w11' : tW T n 32 W y.1.2 = 11 := ew.symm.trans w11
        have n1' : ¬ tW T n 32 W y.1.2 = 1 := by omega
        have n7' : ¬ tW T n 32 W y.1.2 = 7 := by omega
        have dl := d5.1
        by_cases cl : 0 < y.2.2.2.2.length
        · have eS : (qS (tO T n) (tV T n 32) (tW T n 32 W) (tP T n) R y) = (tkE (tP T n) 3 y.1, y.2) := by unfold qS; rw [if_neg n1', if_neg n7', if_pos w11', if_pos cl]
          exact ⟨1, by omega, B_Reader_letLine_0 hq gF ⟨fun z3 => by omega, fun _ => ⟨0, by omega, F_fl hs (by omega) (fun g1 c1 f1 => B_Reader_letLine_12 hq c1.1.1 (B_Reader_readQuarter_113 hq c1.1.1 (bad g1 3 (by decide) eS c1 f1)))⟩⟩⟩
        · have eS : (qS (tO T n) (tV T n 32) (tW T n 32 W) (tP T n) R y) = (tkS (tO T n) (tV T n 32) (tP T n) 59 (qX (tO T n) (tV T n 32) (tW T n 32 W) (tP T n) y.1).1, y.2.1, y.2.2.1, y.2.2.2.1, (qX (tO T n) (tV T n 32) (tW T n 32 W) (tP T n) y.1).2) := by unfold qS; rw [if_neg n1', if_neg n7', if_pos w11', if_neg cl]
          refine ⟨40, by omega, F_letLine (by omega) hq hs z0 no (by omega) (fun g1 c1 a1 f1 => B_Reader_readQuarter_113 hq c1.1.1 (next g1 (by rw [eS]; exact c1) (PT_fr gP (fun a i ha => f1 _ _ (by unfold muE muR; omega))) (fun z3 => ?_)))⟩
          rw [eS] at z3 ⊢
          have l14' := d1.2.2.1
          refine ⟨⟨NCK_fr d1 (fun a i ha => f1 _ _ ?_), (f1 _ _ (by unfold muE muR; omega)).trans d2, d3, d4, a1 z3⟩, dD_same hq dD (fun i j hi => f1 _ _ (by unfold muE muR; omega)), dP_same hq dP (fun i j hi => f1 _ _ (by unfold muE muR; omega))⟩
          have l14 := d1.2.2.1
          unfold muE muR
          omega
      · have n1' : ¬ tW T n 32 W y.1.2 = 1 := fun z3 => wd.1 (ew.trans z3)
        have n7' : ¬ tW T n 32 W y.1.2 = 7 := fun z3 => wd.2.1 (ew.trans z3)
        have n11' : ¬ tW T n 32 W y.1.2 = 11 := fun z3 => wd.2.2 (ew.trans z3)
        have eS : (qS (tO T n) (tV T n 32) (tW T n 32 W) (tP T n) R y) = (tkE (tP T n) 1 y.1, y.2) := by unfold qS; rw [if_neg n1', if_neg n7', if_neg n11']
        exact ⟨0, by omega, F_fl hs (by omega) (fun g1 c1 f1 => bad g1 1 (by decide) eS c1 f1)⟩
  refine B_Reader_readQuarter_0 hq hx.1 ⟨3, by omega, F_begin (by omega) hx (fun h1 s1 f1 => ?_)⟩
  have q4 : 4 < q := by omega
  have s2 : CSK T n W (wr (wr (wr (wr h1 q 0 2) q 2 0) q 4 0) q 6 0) (0, 0) := CSK_wn (CSK_wn (CSK_wn (CSK_wn s1 (hav_qf hq (by decide)) q4) (hav_qf hq (by decide)) q4) (hav_qf hq (by decide)) q4) (hav_qf hq (by decide)) q4
  refine B_Reader_readQuarter_4 hq s1.1.1 (by omega) ⟨3, by omega, F_takeWord (by omega) s2 (by decide) (fun h3 s3 f3 => ?_)⟩
  refine B_Reader_readQuarter_13 hq s3.1.1 ⟨3, by omega, F_takeNumber (by omega) s3 ⟨by unfold i32; omega, by unfold i32; omega⟩ (fun h4 r s4 f4 r0 r1 q4' => ?_)⟩
  refine B_Reader_readQuarter_21 hq s4.1.1 ⟨3, by omega, F_takeSign (by omega) (CSK_wn s4 (hav_qf hq (by decide)) q4) (fun h5 s5 f5 => B_Reader_readQuarter_30 hq s5.1.1 ?_)⟩
  have P5 : PT h5 := by
    refine PT_fr hP (fun a i ha => ?_)
    rw [f5 _ _ (by unfold muR; omega), rdw_ne (by omega), f4 _ _ (by unfold muR; omega), f3 _ _ (by unfold muR; omega), rdw_ne (by omega), rdw_ne (by omega), rdw_ne (by omega), rdw_ne (by omega), f1 _ _ (by unfold muR; omega)]
  have v : ∀ i, i ≠ 0 → rd h5 q i = rd (wr (wr (wr (wr h1 q 0 2) q 2 0) q 4 0) q 6 0) q i := by
    intro i hi
    rw [f5 _ _ (nq _), rdw_nei (Ne.symm hi), f4 _ _ (nq _), f3 _ _ (nq _)]
  refine loop 1000 h5 (qB (tO T n) (tV T n 32) (tW T n 32 W) (tP T n)) (Nat.le_refl _) (by rw [hRq]; exact eF) s5 P5 (fun z => ?_)
  have er : r = R := ((q4' (tkS_z z)).1).trans hRq.symm
  refine ⟨⟨⟨?_, ?_, ⟨Nat.zero_le 14, Nat.zero_le 6⟩, fun i hi => absurd hi (Nat.not_lt_zero i), fun i hi => absurd hi (Nat.not_lt_zero i)⟩, ?_, ?_, fun f => rfl, ?_, fun i hi => absurd hi (Nat.not_lt_zero i)⟩, fun i hi => absurd hi (Nat.not_lt_zero i), fun i hi => absurd hi (Nat.not_lt_zero i)⟩
  · rw [v 2 (by decide), rdw_nei (by decide), rdw_nei (by decide), rdw_eq]; rfl
  · rw [v 4 (by decide), rdw_nei (by decide), rdw_eq]; rfl
  · rw [f5 _ _ (nq _), rdw_eq]; exact er
  · have := (q4' (tkS_z z)).2
    rw [← er]; omega
  · rw [v 6 (by decide), rdw_eq]; rfl
end QG1
end
section
/-! the quarter as read, part q3: both current quarters hold the same -/
section QI3
variable {o v w p u : Nat → Int} {R : Int} {y : QY}
/-- the fields of the lines so far are the same to both bases -/
def flS (o u v w p : Nat → Int) (y : QY) : Prop := (∀ k ∈ y.2.2.1, dfl o u w p (k - 1) = dfl o v w p (k - 1)) ∧ (∀ k ∈ y.2.2.2.1, pfl u w (k - 1) = pfl v w (k - 1))
theorem qS_fl (hs : SmV o p u v) (hz : y.1.1 = 0) (hy : flS o u v w p y) (h : (qS o v w p R y).1.1 = 0) : flS o u v w p (qS o v w p R y) := by
  obtain ⟨h1, h2⟩ := hy
  unfold qS at h ⊢
  by_cases w1 : w y.1.2 = 1
  · rw [if_pos w1] at h ⊢
    by_cases c1 : 14 ≤ y.2.2.1.length
    · rw [if_pos c1] at h
      exact absurd h (tkE_p hs.2.2 (by decide))
    · rw [if_neg c1] at h ⊢
      refine ⟨fun k hk => ?_, h2⟩
      have hk' : k ∈ y.2.2.1 ++ [y.1.2 + 1] := hk
      rw [List.mem_append, List.mem_singleton] at hk'
      rcases hk' with q | q
      · exact h1 k q
      · rw [q, Nat.add_sub_cancel]
        exact dfl_b hs hz (tkS_z h)
  · rw [if_neg w1] at h ⊢
    by_cases w7 : w y.1.2 = 7
    · rw [if_pos w7] at h ⊢
      by_cases c1 : 6 ≤ y.2.2.2.1.length
      · rw [if_pos c1] at h
        exact absurd h (tkE_p hs.2.2 (by decide))
      · rw [if_neg c1] at h ⊢
        refine ⟨h1, fun k hk => ?_⟩
        have hk' : k ∈ y.2.2.2.1 ++ [y.1.2 + 1] := hk
        rw [List.mem_append, List.mem_singleton] at hk'
        rcases hk' with q | q
        · exact h2 k q
        · rw [q, Nat.add_sub_cancel]
          exact pfl_b hs hz (tkS_z h)
    · rw [if_neg w7] at h ⊢
      by_cases w11 : w y.1.2 = 11
      · rw [if_pos w11] at h ⊢
        by_cases c1 : 0 < y.2.2.2.2.length
        · rw [if_pos c1] at h
          exact absurd h (tkE_p hs.2.2 (by decide))
        · rw [if_neg c1]; exact ⟨h1, h2⟩
      · rw [if_neg w11] at h
        exact absurd h (tkE_p hs.2.2 (by decide))
theorem qL_fl (hs : SmV o p u v) : ∀ (c : Nat) (y : QY), (y.1.1 = 0 → flS o u v w p y) → (qL o v w p R c y).1.1 = 0 → flS o u v w p (qL o v w p R c y)
  | 0, _, hy, h => hy h
  | c + 1, y, hy, h => by
    by_cases g : y.1.1 = 0 ∧ o y.1.2 ≠ 0
    · rw [qL_go g] at h ⊢
      exact qL_fl hs c _ (fun z => qS_fl hs g.1 (hy g.1) z) h
    · rw [qL_stop g] at h ⊢
      exact hy h
theorem qF_fl (hs : SmV o p u v) (h : (qF o v w p).1.1 = 0) : flS o u v w p (qF o v w p) :=
  qL_fl hs 1000 _ (fun _ => ⟨fun k hk => absurd hk List.not_mem_nil, fun k hk => absurd hk List.not_mem_nil⟩) h
end QI3
/-- both current quarters hold the same -/
def QFR (h : LH) : Prop := rd h (rd h 1 1) 0 = rd h 188 0 ∧ rd h (rd h 1 1) 2 = rd h 188 1 ∧ rd h (rd h 1 1) 4 = rd h 188 2 ∧
  (∀ i j : Nat, (i : Int) < rd h 188 1 → j < 8 → rd h (rd h 1 1 + 7 + i) ((j : Int) + 1) = rd h 188 (8 * (i : Int) + 4 + (j : Int))) ∧
  (∀ i j : Nat, (i : Int) < rd h 188 2 → j < 4 → rd h (rd h 1 1 + 21 + i) ((j : Int) + 1) = rd h 188 (116 + 4 * (i : Int) + (j : Int))) ∧
  (rd h (rd h 1 1) 6 = 0 → rd h 188 3 < 0) ∧
  (0 < rd h (rd h 1 1) 6 → 0 ≤ rd h 188 3 ∧ rd h 189 (rd h (rd h 1 1) 6) = 0 ∧ ∀ i : Nat, (i : Int) < rd h (rd h 1 1) 6 → rd h 189 i = cdO (rd h (rd h 1 1 + 3) i) ∧ rd h 190 i = cdA (rd h (rd h 1 1 + 3) i)) ∧ 0 ≤ rd h (rd h 1 1) 6
section QJ3
variable {h : LH} {T : Int → Int} {n : Int} {W V : Int → Int} {q : Int}
theorem mem_getD {L : List Nat} {i : Nat} (hi : i < L.length) : L.getD i 0 ∈ L := by
  rw [List.getD_eq_getElem?_getD, List.getElem?_eq_getElem hi]
  exact List.getElem_mem hi
theorem QFR_of (h1 : n ≤ 1000) (h2 : 0 ≤ n) (hw : SameW W V) (hq : rd h 1 1 = q) (hz : (qF (tO T n) (tV T n 37) (tW T n 37 V) (tP T n)).1.1 = 0) (hC : DCKf T n W h q (qR (tV T n 32) (tW T n 32 W) (tP T n)) (qF (tO T n) (tV T n 37) (tW T n 37 V) (tP T n))) (hR0 : rd h 188 0 = qR (tV T n 37) (tW T n 37 V) (tP T n)) (hqR : qR (tV T n 32) (tW T n 32 W) (tP T n) = qR (tV T n 37) (tW T n 37 V) (tP T n)) (hR : RFD T n V h (qF (tO T n) (tV T n 37) (tW T n 37 V) (tP T n))) : QFR h := by
  have hW : tW T n 32 W = tW T n 37 V := funext (fun k => tW_b h1 h2 hw k)
  obtain ⟨f1, f2⟩ := qF_fl (tV_sm (T := T) h1 h2) hz
  generalize qF (tO T n) (tV T n 37) (tW T n 37 V) (tP T n) = y at f1 f2 hC hR
  obtain ⟨⟨⟨c1, c2, ⟨c3, c3'⟩, -, -⟩, c5, -, -, ⟨c6, c7⟩⟩, cD, cP⟩ := hC
  obtain ⟨r1, r2, rD, rP, rL0, rL⟩ := hR
  unfold QFR
  rw [hq]
  refine ⟨by rw [c5, hR0, hqR], c1.trans r1.symm, c2.trans r2.symm, fun i j hi hj => ?_, fun i j hi hj => ?_, fun hl => rL0 (by omega), fun hl => ?_, by omega⟩
  · have hi' : i < y.2.2.1.length := by omega
    rw [(cD i hi').2 j hj, (rD i hi').2 j hj, hW, f1 _ (mem_getD hi')]
  · have hi' : i < y.2.2.2.1.length := by omega
    rw [(cP i hi').2 j hj, (rP i hi').2 j hj, hW, f2 _ (mem_getD hi')]
  · obtain ⟨a, b, c⟩ := rL (by omega)
    refine ⟨a, by rw [c6]; exact b, fun i hi => ?_⟩
    have hi' : i < y.2.2.2.2.length := by omega
    rw [(c i hi').1, (c i hi').2, c7 i hi']
    exact ⟨rfl, rfl⟩
end QJ3
end
section
/-! the quarter as read, part q4: the class's quarter() leaves all that was read -/
section QK4
variable {xs : Nat → Int} {xl e : Nat} {h g g1 : LH} {Q : Option LV → LH → Prop} {q R t : Int} {T : Int → Int} {n : Int} {W : Int → Int}
theorem DCKf_fr {y : QY} (hq : q = 5 ∨ q = 32) (hd : DCKf T n W g q R y) (f : ∀ a i, a = q ∨ a = q + 3 ∨ (q + 7 ≤ a ∧ a ≤ q + 26) → rd g1 a i = rd g a i) : DCKf T n W g1 q R y := by
  obtain ⟨⟨d1, d2, d3, d4, d5⟩, dD, dP⟩ := hd
  have l14 := d1.2.2.1
  refine ⟨⟨NCK_fr d1 (fun a i ha => f a i (by omega)), (f _ _ (by omega)).trans d2, d3, d4, (f _ _ (by omega)).trans d5.1, fun i hi => (f _ _ (by omega)).trans (d5.2 i hi)⟩, dD_same hq dD (fun i j hi => f _ _ (by omega)), dP_same hq dP (fun i j hi => f _ _ (by omega))⟩
/-- what the class's quarter leaves: all that was read -/
theorem E_quarterF (he : 42 ≤ e) (hI : INV h) (hP : PT h) (hT : TP T n h) (hW : rd h 4 = W) (k : ∀ h', ((qF (tO T n) (tV T n 32) (tW T n 32 W) (tP T n)).1.1 ≠ 0 → ∀ a i, a ≠ 2 → ¬ (rd h 1 2 ≤ a ∧ a ≤ rd h 1 2 + 26) → rd h' a i = rd h a i) → ((qF (tO T n) (tV T n 32) (tW T n 32 W) (tP T n)).1.1 = 0 → rd h' 1 1 = rd h 1 2 ∧ rd h' 1 2 = rd h 1 1 ∧ DCKf T n W h' (rd h 1 2) (qR (tV T n 32) (tW T n 32 W) (tP T n)) (qF (tO T n) (tV T n 32) (tW T n 32 W) (tP T n))) → Q (some (.inl (qF (tO T n) (tV T n 32) (tW T n 32 W) (tP T n)).1.1)) h') : Rn xs xl e mm_OneSided_quarter 0 [some (.inr (.inr 1)), none, none] [] h Q := by
  generalize eY : qF (tO T n) (tV T n 32) (tW T n 32 W) (tP T n) = Y at k
  have hS := rSf hI.1
  generalize eq : rd h 1 ((2 : Nat) : Int) = q at hS
  have eq' : rd h 1 2 = q := eq
  have A : Rn xs xl 41 mm_Reader_readQuarter 0 [some (.inr (.inr 2)), some (.inr (.inr q)), none] [] h (fun r g => r = some (.inl Y.1.1) ∧ (Y.1.1 = 0 → DCKf T n W g q (qR (tV T n 32) (tW T n 32 W) (tP T n)) Y)) := by
    refine F_readQuarterF (by omega) hS hP ⟨RF_of hI.1, hT, hW⟩ ?_
    rw [eY]
    exact fun h' d => ⟨rfl, d⟩
  have B : Rn xs xl 41 mm_Reader_readQuarter 0 [some (.inr (.inr 2)), some (.inr (.inr q)), none] [] h (fun r g => INV g ∧ (∀ a i, a ≠ 2 → ¬ (q ≤ a ∧ a ≤ q + 26) → rd g a i = rd h a i)) := K_readQuarterF (by omega) hS hI (fun r h' i' f' => ⟨i', f'⟩)
  refine B_OneSided_quarter_0 hS (rQf hI.1) eq rfl (RF_of hI.1) ⟨41, by omega, (A.and B).mono (fun r g z => ?_)⟩
  obtain ⟨⟨rfl, gD⟩, gI, gf⟩ := z
  have g2 : rd g 1 ((2 : Nat) : Int) = q := (gf 1 _ (by decide) (by omega)).trans eq
  rw [eq'] at k
  refine B_OneSided_quarter_11 hS (rQf gI.1) g2 rfl (RF_of gI.1) ⟨fun z => ?_, fun z => k g (fun _ => gf) (fun z2 => absurd z2 z)⟩
  have gD' := gD z
  have g1 : rd g 1 ((1 : Nat) : Int) = rd h 1 1 := gf 1 _ (by decide) (by omega)
  have i1 := wQ_1 (wQ_2 gI (rQf gI.1)) hS
  refine B_OneSided_quarter_18 hS (rQf gI.1) g2 rfl (RF_of gI.1) ⟨6, by omega, K_settleF (by omega) hS i1 (fun g3 i3 f3 => ?_)⟩
  have e11 : rd g3 1 ((1 : Nat) : Int) = q := (f3 1 _ (by decide) (by omega)).trans rdw_eq
  have e12 : rd g3 1 ((2 : Nat) : Int) = rd h 1 1 := by
    rw [f3 1 _ (by decide) (by omega)]
    exact ((rdw_nei (by decide)).trans rdw_eq).trans g1
  refine B_OneSided_quarter_43 (rSf i3.1) hS rfl e11 (RF_of i3.1) ⟨3, by omega, K_beginF (by omega) hS i3 (fun g4 i4 f4 => ?_)⟩
  refine B_OneSided_quarter_54 (rSf i4.1) (rQf i4.1) rfl rfl (RF_of i4.1) ?_
  have := k (wr (wr g4 1 6 0) 1 9 0) (fun z2 => absurd z z2) (fun _ => ⟨?_, ?_, ?_⟩)
  · rw [z] at this; exact this
  · rw [rdw_nei (by decide), rdw_nei (by decide), f4 1 1 (by decide) (by decide)]
    exact e11
  · rw [rdw_nei (by decide), rdw_nei (by decide), f4 1 2 (by decide) (by decide)]
    exact e12
  · refine DCKf_fr hS gD' (fun a i ha => ?_)
    rw [rdw_ne (by omega), rdw_ne (by omega), f4 a i (by omega) (by omega), f3 a i (by omega) (by omega), rdw_ne (by omega), rdw_ne (by omega)]
end QK4
end
section
/-! marks and walks, part m3: both marks -/
theorem mbit_chk : ∀ x : Nat, x < 16 → ∀ m : Nat, m < 4 → (0 ≤ zor (x : Int) (zshl 1 (m : Int)) ∧ zor (x : Int) (zshl 1 (m : Int)) ≤ 15) ∧ ∀ k : Nat, k < 4 → zand (zshr (zor (x : Int) (zshl 1 (m : Int))) (k : Int)) 1 = if k = m then 1 else zand (zshr (x : Int) (k : Int)) 1 := by decide +kernel
theorem mbit_01 : ∀ x : Nat, x < 16 → ∀ k : Nat, k < 4 → zand (zshr (x : Int) (k : Int)) 1 = 0 ∨ zand (zshr (x : Int) (k : Int)) 1 = 1 := by decide +kernel
theorem mbit_0 : ∀ k : Nat, k < 4 → zand (zshr 0 (k : Int)) 1 = 0 := by decide +kernel
theorem mbit_or {x m k : Int} (hx : 0 ≤ x ∧ x ≤ 15) (hm : 0 ≤ m ∧ m < 4) (hk : 0 ≤ k ∧ k < 4) : zand (zshr (zor x (zshl 1 m)) k) 1 = if k = m then 1 else zand (zshr x k) 1 := by
  have q := (mbit_chk x.toNat (by omega) m.toNat (by omega)).2 k.toNat (by omega)
  rw [show ((x.toNat : Nat) : Int) = x by omega, show ((m.toNat : Nat) : Int) = m by omega, show ((k.toNat : Nat) : Int) = k by omega] at q
  rw [q]
  by_cases e : k = m
  · rw [if_pos e, if_pos (by omega)]
  · rw [if_neg e, if_neg (by omega)]
theorem mbit_in {x m : Int} (hx : 0 ≤ x ∧ x ≤ 15) (hm : 0 ≤ m ∧ m < 4) : 0 ≤ zor x (zshl 1 m) ∧ zor x (zshl 1 m) ≤ 15 := by
  have q := (mbit_chk x.toNat (by omega) m.toNat (by omega)).1
  rw [show ((x.toNat : Nat) : Int) = x by omega, show ((m.toNat : Nat) : Int) = m by omega] at q
  exact q
/-- the class's marks stand where they were made; its marked bits are the reference's -/
def MKR (h : LH) : Prop := (∀ m, 0 ≤ m → m < 4 → rd h 75 m = 102 + 8 * m) ∧ (0 ≤ rd h 1 6 ∧ rd h 1 6 ≤ 15) ∧ ∀ m, 0 ≤ m → m < 4 → rd h 199 m = zand (zshr (rd h 1 6) m) 1
section MC
variable {xs : Nat → Int} {xl e : Nat} {h g : LH} {Q : Option LV → LH → Prop} {v1 v2 : Int}
theorem MKR_fr (hm : MKR h) (f1 : rd g 1 6 = rd h 1 6) (f2 : ∀ a i, a = 75 ∨ a = 199 → rd g a i = rd h a i) : MKR g := by
  obtain ⟨m1, m2, m3⟩ := hm
  refine ⟨fun m h0 h1 => (f2 _ _ (Or.inl rfl)).trans (m1 m h0 h1), by rw [f1]; exact m2, fun m h0 h1 => ?_⟩
  rw [f2 _ _ (Or.inr rfl), f1]
  exact m3 m h0 h1
theorem K_mcopy (he : 2 ≤ e) (hI : INV h) (hv : 0 ≤ v1 ∧ v1 < 4) (k : ∀ g, INV g → rd g 1 6 = rd h 1 6 → Q none g) : Rn xs xl e mm_Memory_copy 0 [some (.inr (.inr (102 + 8 * v1))), some (.inr (.inr 59))] [] h Q := by
  rcases (show v1 = 0 ∨ v1 = 1 ∨ v1 = 2 ∨ v1 = 3 by omega) with rfl | rfl | rfl | rfl
  · exact D_copy_102_59 he hI (fun g gI gf => k g gI (gf 1 6 (by decide)))
  · exact D_copy_110_59 he hI (fun g gI gf => k g gI (gf 1 6 (by decide)))
  · exact D_copy_118_59 he hI (fun g gI gf => k g gI (gf 1 6 (by decide)))
  · exact D_copy_126_59 he hI (fun g gI gf => k g gI (gf 1 6 (by decide)))
theorem K_mback (he : 2 ≤ e) (hI : INV h) (hv : 0 ≤ v1 ∧ v1 < 4) (k : ∀ g, INV g → rd g 1 6 = rd h 1 6 → Q none g) : Rn xs xl e mm_Memory_copy 0 [some (.inr (.inr 59)), some (.inr (.inr (102 + 8 * v1)))] [] h Q := by
  rcases (show v1 = 0 ∨ v1 = 1 ∨ v1 = 2 ∨ v1 = 3 by omega) with rfl | rfl | rfl | rfl
  · exact D_copy_59_102 he hI (fun g gI gf => k g gI (gf 1 6 (by decide)))
  · exact D_copy_59_110 he hI (fun g gI gf => k g gI (gf 1 6 (by decide)))
  · exact D_copy_59_118 he hI (fun g gI gf => k g gI (gf 1 6 (by decide)))
  · exact D_copy_59_126 he hI (fun g gI gf => k g gI (gf 1 6 (by decide)))
/-- whether mark answers yes -/
def mrkA (x v1 v2 : Int) : Prop := (0 ≤ v1 ∧ v1 < 4) ∧ (v2 = 0 ∨ zand (zshr x v1) 1 ≠ 0)
theorem E_markX (he : 3 ≤ e) (hI : INV h) (hm : MKR h) (k1 : ∀ g, mrkA (rd h 1 6) v1 v2 → rd g 1 6 = (if v2 = 0 then zor (rd h 1 6) (zshl 1 v1) else rd h 1 6) → Q (some (.inl 1)) g) (k0 : ¬ mrkA (rd h 1 6) v1 v2 → Q (some (.inl 0)) h) : Rn xs xl e mm_OneSided_mark 0 [some (.inr (.inr 1)), some (.inl v1), some (.inl v2)] [] h Q := by
  obtain ⟨m1, m2, m3⟩ := hm
  refine B_OneSided_mark_0 (RF_of hI.1) ⟨fun c => k0 (fun q => by have := q.1; omega), fun c => ⟨fun c2 => ⟨fun c3 => ?_, fun c3 => ?_⟩, fun c2 => k0 (fun q => by have := q.1; omega)⟩⟩
  · have hM := m1 v1 c c2
    refine B_OneSided_mark_42 (show 102 + 8 * v1 = 102 ∨ 102 + 8 * v1 = 110 ∨ 102 + 8 * v1 = 118 ∨ 102 + 8 * v1 = 126 by omega) hM (RF_of hI.1) ⟨fun c4 => ⟨⟨c, c2⟩, 2, by omega, K_mback (by omega) hI ⟨c, c2⟩ (fun g gI g6 => B_OneSided_mark_68 (RF_of gI.1) (k1 _ ⟨⟨c, c2⟩, Or.inr c4⟩ ?_))⟩, fun c4 => k0 (fun q => q.2.elim c3 (fun q => q c4))⟩
    rw [if_neg c3, rdw_nei (by decide), g6]
  · have hM := m1 v1 c c2
    refine B_OneSided_mark_15 (show 102 + 8 * v1 = 102 ∨ 102 + 8 * v1 = 110 ∨ 102 + 8 * v1 = 118 ∨ 102 + 8 * v1 = 126 by omega) hM (RF_of hI.1) ⟨⟨c, c2⟩, 2, by omega, K_mcopy (by omega) hI ⟨c, c2⟩ (fun g gI g6 => B_OneSided_mark_28 (RF_of gI.1) (k1 _ ⟨⟨c, c2⟩, Or.inl c3⟩ ?_))⟩
    rw [if_pos c3, rdw_eq, g6]
theorem hav_ln {a : Int} (ha : a = 195 ∨ a = 200) (i : Int) : (hav a i).1 ≠ 2 := by
  rcases ha with rfl | rfl
  · exact hav_nr (by decide +kernel) i
  · exact hav_nr (by decide +kernel) i
theorem G_markX (he : 1 ≤ e) (hI : INV h) (k1 : ∀ g, (0 ≤ v1 ∧ v1 < 4) → (v2 = 0 ∨ rd h 199 v1 ≠ 0) → (∀ i, rd g 199 i = if i = v1 then 1 else rd h 199 i) → Q (some (.inl 1)) g) (k0 : ∀ g, ¬ ((0 ≤ v1 ∧ v1 < 4) ∧ (v2 = 0 ∨ rd h 199 v1 ≠ 0)) → (∀ i, rd g 199 i = rd h 199 i) → Q (some (.inl 0)) g) : Rn xs xl e mm_mark 0 [some (.inr (.inr 182)), some (.inl v1), some (.inl v2), none] [] h Q := by
  have i0 : INV (wr h 182 0 0) := wF_thrown hI (by omega) (by omega)
  have no : ¬ ((0 ≤ v1 ∧ v1 < 4) ∧ (v2 = 0 ∨ rd h 199 v1 ≠ 0)) → Q (some (.inl 0)) (wr h 182 0 0) := fun q => k0 _ q (fun i => rdw_ne (by decide))
  have loop : (0 ≤ v1 ∧ v1 < 4) → (v2 = 0 ∨ rd h 199 v1 ≠ 0) → ∀ (d : Nat) (g : LH) (b : Int), 50 - b ≤ d → 0 ≤ b → b ≤ 50 → RF g → (∀ i, rd g 199 i = if i = v1 then 1 else rd h 199 i) → Rn xs xl e mm_mark 72 [some (.inr (.inr 182)), some (.inl v1), some (.inl v2), some (.inl b)] [] g Q := by
    intro hv hq d
    induction d with
    | zero =>
      intro g b hd b0 b1 gF g9
      exact B_mark_72 gF (by omega) ⟨b0, b1⟩ ⟨fun _ => ⟨fun _ => k1 _ hv hq (fun i => (rdw_ne (by decide)).trans (g9 i)), fun _ => k1 _ hv hq (fun i => (rdw_ne (by decide)).trans (g9 i))⟩, fun c => by omega⟩
    | succ d ih =>
      intro g b hd b0 b1 gF g9
      exact B_mark_72 gF (by omega) ⟨b0, b1⟩ ⟨fun _ => ⟨fun _ => k1 _ hv hq (fun i => (rdw_ne (by decide)).trans (g9 i)), fun _ => k1 _ hv hq (fun i => (rdw_ne (by decide)).trans (g9 i))⟩, fun c => ⟨fun _ => ⟨by omega, ih _ (b + 1) (by omega) (by omega) (by omega) (RF_wn (hav_ln (Or.inr rfl) _) gF) (fun i => (rdw_ne (by decide)).trans (g9 i))⟩, fun _ => ⟨by omega, ih _ (b + 1) (by omega) (by omega) (by omega) (RF_wn (hav_ln (Or.inl rfl) _) gF) (fun i => (rdw_ne (by decide)).trans (g9 i))⟩⟩⟩
  have s9 : ∀ i, rd (wr (wr h 182 0 0) 199 v1 1) 199 i = if i = v1 then 1 else rd h 199 i := by
    intro i
    rw [rd_wr]
    by_cases z : i = v1
    · rw [if_pos z, if_pos ⟨rfl, z.symm⟩]
    · rw [if_neg z, if_neg (fun q => z q.2.symm), rdw_ne (by decide)]
  have r2 : RNG (wr (wr h 182 0 0) 199 v1 1) := wR_isMarked i0.1 (by omega) (by omega)
  refine B_mark_0 (RF_of hI.1) he ⟨fun c => no (fun q => by have := q.1; omega), fun c => ⟨fun c2 => no (fun q => by have := q.1; omega), fun c2 => ⟨fun c3 => ⟨by omega, by omega, by omega, 0, by omega, D_copies r2 (by omega) (by omega) (by omega) (fun g gr gf _ => B_mark_70 (RF_of gr) (loop (by omega) (Or.inl c3) 50 g 0 (by omega) (by omega) (by omega) (RF_of gr) (fun i => (gf 199 i (by omega)).trans (s9 i))))⟩, fun c3 => ⟨by omega, fun c4 => ⟨by omega, by omega, by omega, 0, by omega, D_copies r2 (by omega) (by omega) (by omega) (fun g gr gf _ => B_mark_70 (RF_of gr) (loop (by omega) (Or.inr c4) 50 g 0 (by omega) (by omega) (by omega) (RF_of gr) (fun i => (gf 199 i (by omega)).trans (s9 i))))⟩, fun c4 => no (fun q => q.2.elim c3 (fun q => q c4))⟩⟩⟩⟩
end MC
end
section
/-! the scene, part sa: the class's quarter(): settled, a day begun -/
def cbx (L : List Int) (bs : BX) : Bool := bs.all (fun b => L.all (fun c => !(decide (b.1 ≤ c) && decide (c ≤ b.2.1))))
theorem cbx_ok {L : List Int} {bs : BX} (hb : cbx L bs = true) {a i : Int} (ha : a ∈ L) : inBx bs a i = false := by
  refine inBx_f (fun b hm q => ?_)
  unfold cbx at hb
  have z := List.all_eq_true.mp hb b hm
  rw [List.all_eq_true] at z
  have y := z a ha
  rw [decide_eq_true q.1, decide_eq_true q.2.1] at y
  cases y
section SCa
variable {o v w p : Nat → Int} {R : Int} {y : QY}
/-- no law, or one expression -/
def lwO (y : QY) : Prop := y.2.2.2.2 = [] ∨ one 25 y.2.2.2.2
theorem qS_lw (hp : ∀ k, 0 ≤ p k) (hv : ∀ k, o k = 2 → 0 ≤ v k ∧ v k ≤ 9999) (hw : ∀ k, w k ≤ 28) (hy : lwO y) (h : (qS o v w p R y).1.1 = 0) : lwO (qS o v w p R y) := by
  unfold qS at h ⊢
  by_cases w1 : w y.1.2 = 1
  · rw [if_pos w1]
    by_cases c1 : 14 ≤ y.2.2.1.length
    · rw [if_pos c1]; exact hy
    · rw [if_neg c1]; exact hy
  · rw [if_neg w1] at h ⊢
    by_cases w7 : w y.1.2 = 7
    · rw [if_pos w7]
      by_cases c1 : 6 ≤ y.2.2.2.1.length
      · rw [if_pos c1]; exact hy
      · rw [if_neg c1]; exact hy
    · rw [if_neg w7] at h ⊢
      by_cases w11 : w y.1.2 = 11
      · rw [if_pos w11] at h ⊢
        by_cases c1 : 0 < y.2.2.2.2.length
        · rw [if_pos c1]; exact hy
        · rw [if_neg c1] at h ⊢
          exact Or.inr (qX_one hp hv hw (tkS_z h))
      · rw [if_neg w11]; exact hy
theorem qL_lw (hp : ∀ k, 0 ≤ p k) (hv : ∀ k, o k = 2 → 0 ≤ v k ∧ v k ≤ 9999) (hw : ∀ k, w k ≤ 28) : ∀ (c : Nat) (y : QY), (y.1.1 = 0 → lwO y) → (qL o v w p R c y).1.1 = 0 → lwO (qL o v w p R c y)
  | 0, _, hy, h => hy h
  | c + 1, y, hy, h => by
    by_cases g : y.1.1 = 0 ∧ o y.1.2 ≠ 0
    · rw [qL_go g] at h ⊢
      exact qL_lw hp hv hw c _ (fun z => qS_lw hp hv hw (hy g.1) z) h
    · rw [qL_stop g] at h ⊢
      exact hy h
theorem qF_lw (hp : ∀ k, 0 ≤ p k) (hv : ∀ k, o k = 2 → 0 ≤ v k ∧ v k ≤ 9999) (hw : ∀ k, w k ≤ 28) (h : (qF o v w p).1.1 = 0) : lwO (qF o v w p) :=
  qL_lw hp hv hw 1000 _ (fun _ => Or.inl rfl) h
end SCa
theorem rG_q6 {h : LH} {q : Int} (hq : q = 5 ∨ q = 32) (hr : RNG h) : 0 ≤ rd h q 6 ∧ rd h q 6 ≤ 1000 := by
  rcases hq with rfl | rfl
  · have q := rdP (a := 5) (i := 6) (lo := 0) (hi := 1000) (st := 1) hr (vB_ok (by decide +kernel)) (Or.inl (by decide +kernel)) (leA1 (by decide +kernel))
    exact ⟨q.1, q.2.1⟩
  · have q := rdP (a := 32) (i := 6) (lo := 0) (hi := 1000) (st := 1) hr (vB_ok (by decide +kernel)) (Or.inl (by decide +kernel)) (leA1 (by decide +kernel))
    exact ⟨q.1, q.2.1⟩
/-- the class's new quarter: its law, settled, a day begun -/
def QSN (g : LH) (q : Int) (L : List Int) : Prop := LWQ g q L ∧ (∀ s hr, 0 ≤ s → s ≤ 3 → 0 ≤ hr → hr ≤ 23 → stl g q L g s hr) ∧ sbg 60 q (rd g q 4) g ∧ rd g 1 6 = 0 ∧ rd g 1 9 = 0
section SCb
variable {xs : Nat → Int} {xl e : Nat} {h g g1 h0 h1 : LH} {Q : Option LV → LH → Prop} {q c s hr : Int} {T : Int → Int} {n : Int} {W : Int → Int} {L : List Int}
theorem LWQ_frs (hl : LWQ h q L) (f : ∀ a i, a = q ∨ a = q + 3 → rd g a i = rd h a i) : LWQ g q L := by
  obtain ⟨a, b, c⟩ := hl
  exact ⟨(f _ _ (Or.inl rfl)).trans a, fun i hi => (f _ _ (Or.inr rfl)).trans (b i hi), c⟩
theorem LWQ_of {y : QY} (hq : q = 5 ∨ q = 32) (hr : RNG g) (hk : LWK g q y.2.2.2.2) (hy : lwO y) : LWQ g q y.2.2.2.2 := by
  obtain ⟨a, b⟩ := hk
  have z := rG_q6 hq hr
  refine ⟨a, b, by omega, ?_⟩
  unfold lwO at hy
  rcases hy with e | o
  · rw [e]
    exact ⟨trivial, fun z => absurd z (by decide), fun c hc => absurd hc List.not_mem_nil⟩
  · exact ⟨o.2.1 32 0 (by decide) (by decide), fun _ => o.1 0, o.2.2⟩
theorem stl_frs (hs : stl h0 q L g s hr) (f0 : rd h1 q 2 = rd h0 q 2) (f1 : ∀ j, 0 ≤ j → j < 14 → rd h1 (q + 7 + j) = rd h0 (q + 7 + j)) (f5 : ∀ i, rd g1 (q + 5) i = rd g (q + 5) i) (f6 : ∀ i, rd g1 (q + 6) i = rd g (q + 6) i) : stl h1 q L g1 s hr := by
  refine ⟨fun j j0 j1 => ?_, fun j j0 j1 => ?_⟩
  · show bitZ _ j ↔ (j < rd h1 q 2 ∧ wAh (rd h1 (q + 7 + j)) L s hr (rd h1 (q + 7 + j) 8) 0)
    rw [f5, f0, f1 j j0 j1]
    exact hs.1 j j0 j1
  · show bitZ _ j ↔ (j < rd h1 q 2 ∧ wBk (rd h1 (q + 7 + j)) L s hr (rd h1 (q + 7 + j) 8) 0)
    rw [f6, f0, f1 j j0 j1]
    exact hs.2 j j0 j1
theorem sbg_fr {m : Int} (hq : q = 5 ∨ q = 32) (hn : m ≤ 6) (hb : sbg 60 q m g) (f : ∀ a i, (q ≤ a ∧ a ≤ q + 26) ∨ (60 ≤ a ∧ a ≤ 62) → rd g1 a i = rd g a i) : sbg 60 q m g1 := by
  obtain ⟨b0, b1, b2, b3, b4, b5⟩ := hb
  refine ⟨(f _ _ (by omega)).trans b0, (f _ _ (by omega)).trans b1, (f _ _ (by omega)).trans b2, fun p p0 p1 => ?_, fun p p0 p1 => ?_, fun i i0 i1 => (f _ _ (by omega)).trans (b5 i i0 i1)⟩
  · rw [f 60 3 (by omega), b3 p p0 p1]
    constructor
    · rintro ⟨y, z⟩
      exact ⟨y, by rw [f _ _ (by omega), f _ _ (by omega)]; exact z⟩
    · rintro ⟨y, z⟩
      rw [f _ _ (by omega), f _ _ (by omega)] at z
      exact ⟨y, z⟩
  · rw [f (60 + 1) _ (by omega), f _ _ (by omega)]
    exact b4 p p0 p1
theorem K_readQuarterP (he : 39 ≤ e) (hq : q = 5 ∨ q = 32) (hI : INV h) (k : ∀ r h', (∀ a i, a ∈ ([6, 7, 33, 34] : List Int) → rd h' a i = rd h a i) → Q r h') : Rn xs xl e mm_Reader_readQuarter 0 [some (.inr (.inr 2)), some (.inr (.inr q)), none] [] h Q := by
  rcases hq with rfl | rfl
  · exact use_sm (tabC (j := 72) rfl) (as := [.inr (.inr 2), .inr (.inr 5)]) rfl he hI (gAr_c (g_ref 2) (gAr_c (g_ref 5) gAr_n)) rfl (Nat.le_of_ble_eq_true rfl) rfl (fun r h' i' f q => k r h' (fun a i ha => f a i (cbx_ok (L := [6, 7, 33, 34]) (by decide +kernel) ha)))
  · exact use_sm (tabC (j := 117) rfl) (as := [.inr (.inr 2), .inr (.inr 32)]) rfl he hI (gAr_c (g_ref 2) (gAr_c (g_ref 32) gAr_n)) rfl (Nat.le_of_ble_eq_true rfl) rfl (fun r h' i' f q => k r h' (fun a i ha => f a i (cbx_ok (L := [6, 7, 33, 34]) (by decide +kernel) ha)))
theorem F_mbegin (he : 3 ≤ e) (hq : q = 5 ∨ q = 32) (hF : RF h) (hP : PT h) (hn : 0 ≤ rd h q 4 ∧ rd h q 4 ≤ 6) (k : ∀ g, sbg 60 q (rd h q 4) g → Q none g) : Rn xs xl e mm_Memory_begin 0 [some (.inr (.inr 59)), some (.inr (.inr q))] [] h Q := by
  refine B_Memory_begin_0 hq hF ⟨2, by omega, F_sbegin (by omega) scn_60 (by decide) hq hF hP hn (fun g bg bf bF => B_Memory_begin_8 hq bF (k _ ?_))⟩
  refine sbg_fr hq hn.2 bg (fun a i ha => ?_)
  rw [rdw_ne (by omega), rdw_ne (by omega), rdw_ne (by omega)]
/-- what the class's quarter leaves: all that was read, settled, a day begun -/
theorem E_quarterS (he : 42 ≤ e) (hI : INV h) (hP : PT h) (hT : TP T n h) (hW : rd h 4 = W) (k : ∀ h', ((qF (tO T n) (tV T n 32) (tW T n 32 W) (tP T n)).1.1 ≠ 0 → ∀ a i, a ≠ 2 → ¬ (rd h 1 2 ≤ a ∧ a ≤ rd h 1 2 + 26) → rd h' a i = rd h a i) → ((qF (tO T n) (tV T n 32) (tW T n 32 W) (tP T n)).1.1 = 0 → rd h' 1 1 = rd h 1 2 ∧ rd h' 1 2 = rd h 1 1 ∧ DCKf T n W h' (rd h 1 2) (qR (tV T n 32) (tW T n 32 W) (tP T n)) (qF (tO T n) (tV T n 32) (tW T n 32 W) (tP T n)) ∧ QSN h' (rd h 1 2) (qF (tO T n) (tV T n 32) (tW T n 32 W) (tP T n)).2.2.2.2) → Q (some (.inl (qF (tO T n) (tV T n 32) (tW T n 32 W) (tP T n)).1.1)) h') : Rn xs xl e mm_OneSided_quarter 0 [some (.inr (.inr 1)), none, none] [] h Q := by
  have lwF : (qF (tO T n) (tV T n 32) (tW T n 32 W) (tP T n)).1.1 = 0 → lwO (qF (tO T n) (tV T n 32) (tW T n 32 W) (tP T n)) := qF_lw (fun k => tP_0 hT.2.2.2 hT.2.2.1 k) (fun k hk => tV_num hT.2.2.2 hT.2.2.1 hk) (fun k => (tW_in k).2)
  generalize eY : qF (tO T n) (tV T n 32) (tW T n 32 W) (tP T n) = Y at k lwF
  have hS := rSf hI.1
  generalize eq : rd h 1 ((2 : Nat) : Int) = q at hS
  have eq' : rd h 1 2 = q := eq
  have A : Rn xs xl 41 mm_Reader_readQuarter 0 [some (.inr (.inr 2)), some (.inr (.inr q)), none] [] h (fun r g => r = some (.inl Y.1.1) ∧ (Y.1.1 = 0 → DCKf T n W g q (qR (tV T n 32) (tW T n 32 W) (tP T n)) Y)) := by
    refine F_readQuarterF (by omega) hS hP ⟨RF_of hI.1, hT, hW⟩ ?_
    rw [eY]
    exact fun h' d => ⟨rfl, d⟩
  have B : Rn xs xl 41 mm_Reader_readQuarter 0 [some (.inr (.inr 2)), some (.inr (.inr q)), none] [] h (fun r g => INV g ∧ (∀ a i, a ≠ 2 → ¬ (q ≤ a ∧ a ≤ q + 26) → rd g a i = rd h a i)) := K_readQuarterF (by omega) hS hI (fun r h' i' f' => ⟨i', f'⟩)
  have C : Rn xs xl 41 mm_Reader_readQuarter 0 [some (.inr (.inr 2)), some (.inr (.inr q)), none] [] h (fun r g => ∀ a i, a ∈ ([6, 7, 33, 34] : List Int) → rd g a i = rd h a i) := K_readQuarterP (by omega) hS hI (fun r h' f' => f')
  refine B_OneSided_quarter_0 hS (rQf hI.1) eq rfl (RF_of hI.1) ⟨41, by omega, ((A.and B).and C).mono (fun r g z => ?_)⟩
  obtain ⟨⟨⟨rfl, gD⟩, gI, gf⟩, gp⟩ := z
  have g2 : rd g 1 ((2 : Nat) : Int) = q := (gf 1 _ (by decide) (by omega)).trans eq
  rw [eq'] at k
  refine B_OneSided_quarter_11 hS (rQf gI.1) g2 rfl (RF_of gI.1) ⟨fun z => ?_, fun z => k g (fun _ => gf) (fun z2 => absurd z2 z)⟩
  have gD' := gD z
  have gP : PT g := PT_fr hP (fun a i ha => gp a i (by simp only [List.mem_cons, List.not_mem_nil, or_false]; exact ha))
  have g1 : rd g 1 ((1 : Nat) : Int) = rd h 1 1 := gf 1 _ (by decide) (by omega)
  have hl0 : LWQ g q Y.2.2.2.2 := LWQ_of hS gI.1 gD'.1.2.2.2.2 (lwF z)
  have i1 : INV (wr (wr g 1 2 (rd g 1 ((1 : Nat) : Int))) 1 1 q) := wQ_1 (wQ_2 gI (rQf gI.1)) hS
  have e11 : rd (wr (wr g 1 2 (rd g 1 ((1 : Nat) : Int))) 1 1 q) 1 ((1 : Nat) : Int) = q := rdw_eq
  have e12 : rd (wr (wr g 1 2 (rd g 1 ((1 : Nat) : Int))) 1 1 q) 1 ((2 : Nat) : Int) = rd h 1 1 := ((rdw_nei (by decide)).trans rdw_eq).trans g1
  have fH : ∀ a i, a ≠ 1 → rd (wr (wr g 1 2 (rd g 1 ((1 : Nat) : Int))) 1 1 q) a i = rd g a i := fun a i n => by rw [rdw_ne (fun z => n z.symm), rdw_ne (fun z => n z.symm)]
  refine B_OneSided_quarter_18 hS (rQf gI.1) g2 rfl (RF_of gI.1) ⟨6, by omega, ?_⟩
  generalize wr (wr g 1 2 (rd g 1 ((1 : Nat) : Int))) 1 1 q = H at *
  have hl1 : LWQ H q Y.2.2.2.2 := LWQ_frs hl0 (fun a i ha => fH a i (by omega))
  have P1 : PT H := PT_fr gP (fun a i ha => fH a i (by omega))
  have d2 : rd H q 2 = (Y.2.2.1.length : Int) := (fH _ _ (by omega)).trans gD'.1.1.1
  have d4 : rd H q 4 = (Y.2.2.2.1.length : Int) := (fH _ _ (by omega)).trans gD'.1.1.2.1
  have l14 := gD'.1.1.2.2.1
  have SA : Rn xs xl 6 mm_Quarter_settle 0 [some (.inr (.inr q)), none, none] [] H (fun r g3 => r = none ∧ ∀ s hr, 0 ≤ s → s ≤ 3 → 0 ≤ hr → hr ≤ 23 → stl H q Y.2.2.2.2 g3 s hr) := F_settle (by omega) hS (RF_of i1.1) P1 hl1 (by omega) (fun h' _ _ a => ⟨rfl, a⟩)
  have SB : Rn xs xl 6 mm_Quarter_settle 0 [some (.inr (.inr q)), none, none] [] H (fun r g3 => INV g3 ∧ (∀ a i, a ≠ 2 → ¬ (q + 4 ≤ a ∧ a ≤ q + 6) → rd g3 a i = rd H a i)) := K_settleF (by omega) hS i1 (fun g3 i3 f3 => ⟨i3, f3⟩)
  refine (SA.and SB).mono (fun r g3 z3 => ?_)
  obtain ⟨⟨rfl, st3⟩, i3, f3⟩ := z3
  have t11 : rd g3 1 ((1 : Nat) : Int) = q := (f3 1 _ (by decide) (by omega)).trans e11
  have t12 : rd g3 1 ((2 : Nat) : Int) = rd h 1 1 := (f3 1 _ (by decide) (by omega)).trans e12
  have P3 : PT g3 := PT_fr P1 (fun a i ha => f3 a i (by omega) (by omega))
  have d4' : rd g3 q 4 = (Y.2.2.2.1.length : Int) := (f3 _ _ (by omega) (by omega)).trans d4
  have BA : Rn xs xl 3 mm_Memory_begin 0 [some (.inr (.inr 59)), some (.inr (.inr q))] [] g3 (fun r g4 => r = none ∧ sbg 60 q (rd g3 q 4) g4) := F_mbegin (by omega) hS (RF_of i3.1) P3 (by omega) (fun g a => ⟨rfl, a⟩)
  have BB : Rn xs xl 3 mm_Memory_begin 0 [some (.inr (.inr 59)), some (.inr (.inr q))] [] g3 (fun r g4 => INV g4 ∧ (∀ a i, a ≠ 2 → ¬ (59 ≤ a ∧ a ≤ 62) → rd g4 a i = rd g3 a i)) := K_beginF (by omega) hS i3 (fun g4 i4 f4 => ⟨i4, f4⟩)
  refine B_OneSided_quarter_43 (rSf i3.1) hS rfl t11 (RF_of i3.1) ⟨3, by omega, (BA.and BB).mono (fun r g4 z4 => ?_)⟩
  obtain ⟨⟨rfl, bg4⟩, i4, f4⟩ := z4
  refine B_OneSided_quarter_54 (rSf i4.1) (rQf i4.1) rfl rfl (RF_of i4.1) ?_
  have w0 : ∀ a i, a ≠ 1 → rd (wr (wr g4 1 6 0) 1 9 0) a i = rd g4 a i := fun a i n => by rw [rdw_ne (fun z => n z.symm), rdw_ne (fun z => n z.symm)]
  have w11 : rd (wr (wr g4 1 6 0) 1 9 0) 1 1 = q := by
    rw [rdw_nei (by decide), rdw_nei (by decide), f4 1 1 (by decide) (by decide)]
    exact t11
  have w12 : rd (wr (wr g4 1 6 0) 1 9 0) 1 2 = rd h 1 1 := by
    rw [rdw_nei (by decide), rdw_nei (by decide), f4 1 2 (by decide) (by decide)]
    exact t12
  have w16 : rd (wr (wr g4 1 6 0) 1 9 0) 1 6 = 0 := by
    rw [rdw_nei (by decide), rdw_eq]
  have w19 : rd (wr (wr g4 1 6 0) 1 9 0) 1 9 = 0 := rdw_eq
  have this := k (wr (wr g4 1 6 0) 1 9 0) (fun z2 => absurd z z2)
  rw [z] at this
  generalize wr (wr g4 1 6 0) 1 9 0 = g5 at *
  have fg : ∀ a i, a = q ∨ a = q + 3 ∨ (q + 7 ≤ a ∧ a ≤ q + 26) → rd g5 a i = rd H a i := fun a i ha => by
    rw [w0 a i (by omega), f4 a i (by omega) (by omega), f3 a i (by omega) (by omega)]
  refine this (fun _ => ⟨w11, w12, DCKf_fr hS gD' (fun a i ha => (fg a i ha).trans (fH a i (by omega))), LWQ_frs hl1 (fun a i ha => fg a i (by omega)), fun s hr s0 s1 h0 h1 => stl_frs (st3 s hr s0 s1 h0 h1) (fg _ _ (by omega)) (fun j j0 j1 => funext (fun i => fg _ _ (by omega))) (fun i => by rw [w0 _ i (by omega), f4 _ i (by omega) (by omega)]) (fun i => by rw [w0 _ i (by omega), f4 _ i (by omega) (by omega)]), ?_, w16, w19⟩)
  rw [w0 q 4 (by omega), f4 q 4 (by omega) (by omega)]
  exact sbg_fr hS (by omega) bg4 (fun a i ha => w0 a i (by omega))
end SCb
end
section
/-! the scene, part sb: what the law's loop keeps -/
theorem g_i {x : Int} (h : i32 x) : gV (0, -2147483648, 2147483647, 1) (.inl x) := in1 h.1 h.2 h
theorem g_z0 : gV (0, 0, 1, 1) (.inl 0) := in1 (by decide) (by decide) (by unfold i32; omega)
theorem g_z1 : gV (0, 0, 1, 1) (.inl 1) := in1 (by decide) (by decide) (by unfold i32; omega)
/-- places that hold what is kept: cells from .. to, all their entries or some -/
def kB : List (Int × Int × Bool × Int × Int) := [(1, 1, false, 1, 2), (1, 1, false, 6, 6), (1, 1, false, 8, 9), (3, 8, true, 0, 0), (10, 35, true, 0, 0), (37, 58, true, 0, 0), (60, 62, true, 0, 0), (75, 76, true, 0, 0), (103, 105, true, 0, 0), (111, 113, true, 0, 0), (119, 121, true, 0, 0), (127, 129, true, 0, 0), (134, 181, true, 0, 0), (182, 182, false, 25, 25), (182, 182, false, 28, 29), (183, 183, true, 0, 0), (187, 187, true, 0, 0), (188, 188, false, 0, 149), (189, 190, false, 0, 1099), (198, 198, false, 0, 33), (198, 198, false, 70, 1433), (199, 199, true, 0, 0)]
def inK (a i : Int) : Prop := ∃ b ∈ kB, b.1 ≤ a ∧ a ≤ b.2.1 ∧ (b.2.2.1 = true ∨ (b.2.2.2.1 ≤ i ∧ i ≤ b.2.2.2.2))
def dsj (bs : BX) : Bool := bs.all (fun x => kB.all (fun b => decide (x.2.1 < b.1) || decide (b.2.1 < x.1) || (!b.2.2.1 && (decide (x.2.2.2 < b.2.2.2.1) || decide (b.2.2.2.2 < x.2.2.1)))))
theorem dsj_ok {bs : BX} (hb : dsj bs = true) {a i : Int} (ha : inK a i) : inBx bs a i = false := by
  refine inBx_f (fun x hm q => ?_)
  obtain ⟨b, b0, b1, b2, b3⟩ := ha
  unfold dsj at hb
  have z := List.all_eq_true.mp (List.all_eq_true.mp hb x hm) b b0
  simp only [Bool.or_eq_true, Bool.and_eq_true, Bool.not_eq_true', decide_eq_true_eq] at z
  rcases z with (z | z) | ⟨z, w⟩
  · omega
  · omega
  · rcases b3 with b3 | b3
    · rw [b3] at z; cases z
    · omega
theorem inK_all {lo hi a i : Int} (hb : (lo, hi, true, 0, 0) ∈ kB) (h1 : lo ≤ a) (h2 : a ≤ hi) : inK a i := ⟨_, hb, h1, h2, Or.inl rfl⟩
theorem inK_i {lo hi l u a i : Int} (hb : (lo, hi, false, l, u) ∈ kB) (h1 : lo ≤ a) (h2 : a ≤ hi) (h3 : l ≤ i) (h4 : i ≤ u) : inK a i := ⟨_, hb, h1, h2, Or.inr ⟨h3, h4⟩⟩
/-- what isn't kept -/
theorem inK_p {a i : Int} (h : inK a i) : ((a = 1 ∧ (i = 1 ∨ i = 2 ∨ i = 6 ∨ i = 8 ∨ i = 9)) ∨ (3 ≤ a ∧ a ≤ 58) ∨ (60 ≤ a ∧ a ≤ 62) ∨ (75 ≤ a ∧ a ≤ 76) ∨ (103 ≤ a ∧ a ≤ 129) ∨ (134 ≤ a ∧ a ≤ 183) ∨ (187 ≤ a ∧ a ≤ 190) ∨ a = 198 ∨ a = 199) ∧ (a = 182 → i = 25 ∨ i = 28 ∨ i = 29) ∧ (a = 198 → (0 ≤ i ∧ i ≤ 33) ∨ (70 ≤ i ∧ i ≤ 1433)) ∧ (a = 188 → 0 ≤ i ∧ i < 150) ∧ (a = 189 ∨ a = 190 → 0 ≤ i ∧ i < 1100) := by
  obtain ⟨b, b0, b1, b2, b3⟩ := h
  unfold kB at b0
  simp only [List.mem_cons, List.not_mem_nil, or_false] at b0
  rcases b0 with rfl | rfl | rfl | rfl | rfl | rfl | rfl | rfl | rfl | rfl | rfl | rfl | rfl | rfl | rfl | rfl | rfl | rfl | rfl | rfl | rfl | rfl <;> simp only [Bool.false_eq_true, false_or, true_or] at b1 b2 b3 <;> exact ⟨by omega, by omega, by omega, by omega, by omega⟩
/-- the doors as settled -/
def QST (h : LH) : Prop := ∃ L, LWQ h (rd h 1 1) L ∧ ∀ s hr, 0 ≤ s → s ≤ 3 → 0 ≤ hr → hr ≤ 23 → stl h (rd h 1 1) L h s hr
/-- both scenes, quarters, what can be undone, marks -/
def SCR (h : LH) : Prop := QFR h ∧ QST h ∧ rd h 182 28 = -1 ∧ rd h 182 29 = -1 ∧ SR h 60 0 ∧ UN h ∧ MKS h ∧ PK h
def EQS (h : LH) : Prop := PT h ∧ rd h 4 = rd hc_556 4 ∧ rd h 187 = rd hc_556 187 ∧ rd h 1 1 + rd h 1 2 = 37 ∧ MKR h ∧ SCR h
def EQL (h : LH) : Prop := rd h 2 0 = rd h 182 2 ∧ (∀ i, 0 ≤ i → i < rd h 2 0 → rd h 3 i = rd h 183 i) ∧ EQS h
section SCc
variable {xs : Nat → Int} {xl e : Nat} {h g : LH} {Q : Option LV → LH → Prop} {q : Int}
theorem QFR_fr (hI : INV h) (hq : rd h 1 1 = q) (q5 : q = 5 ∨ q = 32) (hf : QFR h) (e1 : rd g 1 1 = rd h 1 1) (fq : ∀ a i, a = q ∨ a = q + 3 ∨ (q + 7 ≤ a ∧ a ≤ q + 26) → rd g a i = rd h a i) (f8 : ∀ i, 0 ≤ i → i < 150 → rd g 188 i = rd h 188 i) (f9 : ∀ i, 0 ≤ i → i < 1100 → rd g 189 i = rd h 189 i ∧ rd g 190 i = rd h 190 i) : QFR g := by
  obtain ⟨a1, a2, a3, a4, a5, a6, a7, a8⟩ := hf
  rw [hq] at a1 a2 a3 a4 a5 a6 a7 a8
  have d1 := rq_doors hI.1
  have d2 := rq_people hI.1
  have d6 := rG_q6 q5 hI.1
  have t1 := f8 1 (by decide) (by decide)
  have t2 := f8 2 (by decide) (by decide)
  have t6 := fq q 6 (Or.inl rfl)
  unfold QFR
  rw [e1, hq]
  refine ⟨?_, ?_, ?_, fun i j hi hj => ?_, fun i j hi hj => ?_, fun z => ?_, fun z => ?_, ?_⟩
  · rw [fq q 0 (Or.inl rfl), f8 0 (by decide) (by decide)]; exact a1
  · rw [fq q 2 (Or.inl rfl), t1]; exact a2
  · rw [fq q 4 (Or.inl rfl), t2]; exact a3
  · rw [t1] at hi
    rw [fq _ _ (by omega), f8 _ (by omega) (by omega)]
    exact a4 i j hi hj
  · rw [t2] at hi
    rw [fq _ _ (by omega), f8 _ (by omega) (by omega)]
    exact a5 i j hi hj
  · rw [t6] at z
    rw [f8 3 (by decide) (by decide)]
    exact a6 z
  · rw [t6] at z ⊢
    obtain ⟨b1, b2, b3⟩ := a7 z
    refine ⟨by rw [f8 3 (by decide) (by decide)]; exact b1, by rw [(f9 _ (by omega) (by omega)).1]; exact b2, fun i hi => ?_⟩
    rw [(f9 _ (by omega) (by omega)).1, (f9 _ (by omega) (by omega)).2, fq _ _ (Or.inr (Or.inl rfl))]
    exact b3 i hi
  · rw [t6]; exact a8
theorem QST_fr (hq : rd h 1 1 = q) (hs : QST h) (e1 : rd g 1 1 = rd h 1 1) (fq : ∀ a i, a = q ∨ a = q + 3 ∨ a = q + 5 ∨ a = q + 6 ∨ (q + 7 ≤ a ∧ a ≤ q + 26) → rd g a i = rd h a i) : QST g := by
  obtain ⟨L, a, b⟩ := hs
  rw [hq] at a b
  refine ⟨L, ?_, ?_⟩
  · rw [e1, hq]
    exact LWQ_frs a (fun a i ha => fq a i (by omega))
  · rw [e1, hq]
    exact fun s hr s0 s1 h0 h1 => stl_frs (b s hr s0 s1 h0 h1) (fq _ _ (Or.inl rfl)) (fun j j0 j1 => funext (fun i => fq _ _ (by omega))) (fun i => fq _ _ (by omega)) (fun i => fq _ _ (by omega))
theorem UN_fr (hp : 0 ≤ rd h 188 2 ∧ rd h 188 2 ≤ 6) (hu : UN h) (e2 : rd g 188 2 = rd h 188 2) (e8 : rd g 1 8 = rd h 1 8) (e9 : rd g 1 9 = rd h 1 9) (e25 : rd g 182 25 = rd h 182 25) (fs : ∀ a i, 134 ≤ a → a ≤ 181 → rd g a i = rd h a i) (fb : ∀ i, 350 ≤ i → i ≤ 1433 → rd g 198 i = rd h 198 i) : UN g := by
  obtain ⟨a, b, c, d⟩ := hu
  unfold UN
  rw [e8, e9, e25]
  exact ⟨a, b, c, fun k k0 k1 => SR_fr (d k k0 k1) (fun a i ha => fs a i (by omega) (by omega)) (fun i i0 i1 => fb i (by omega) (by omega)) e2 hp⟩
theorem MKS_fr (hp : 0 ≤ rd h 188 2 ∧ rd h 188 2 ≤ 6) (hm : MKS h) (e2 : rd g 188 2 = rd h 188 2) (f9 : ∀ i, rd g 199 i = rd h 199 i) (fs : ∀ m, 0 ≤ m → m < 4 → ∀ a i, 103 + 8 * m ≤ a → a ≤ 105 + 8 * m → rd g a i = rd h a i) (fb : ∀ i, 70 ≤ i → i ≤ 349 → rd g 198 i = rd h 198 i) : MKS g := by
  intro m m0 m1 hm'
  rw [f9] at hm'
  exact SR_fr (hm m m0 m1 hm') (fun a i ha => fs m m0 m1 a i (by omega) (by omega)) (fun i i0 i1 => fb i (by omega) (by omega)) e2 hp
theorem inK_m {m a i : Int} (m0 : 0 ≤ m) (m1 : m < 4) (h1 : 103 + 8 * m ≤ a) (h2 : a ≤ 105 + 8 * m) : inK a i := by
  rcases (show m = 0 ∨ m = 1 ∨ m = 2 ∨ m = 3 by omega) with rfl | rfl | rfl | rfl
  · exact inK_all (lo := 103) (hi := 105) (by decide) (by omega) (by omega)
  · exact inK_all (lo := 111) (hi := 113) (by decide) (by omega) (by omega)
  · exact inK_all (lo := 119) (hi := 121) (by decide) (by omega) (by omega)
  · exact inK_all (lo := 127) (hi := 129) (by decide) (by omega) (by omega)
theorem inK_q {a i : Int} (q5 : q = 5 ∨ q = 32) (h : a = q ∨ a = q + 1 ∨ a = q + 2 ∨ a = q + 3 ∨ a = q + 5 ∨ a = q + 6 ∨ (q + 7 ≤ a ∧ a ≤ q + 26)) : inK a i := by
  by_cases c1 : a ≤ 8
  · exact inK_all (lo := 3) (hi := 8) (by decide) (by omega) (by omega)
  · by_cases c2 : a ≤ 35
    · exact inK_all (lo := 10) (hi := 35) (by decide) (by omega) (by omega)
    · exact inK_all (lo := 37) (hi := 58) (by decide) (by omega) (by omega)
/-- of the quarters the current one must be left alone -/
def kq (q a : Int) : Prop := a = 6 ∨ a = 7 ∨ a = 33 ∨ a = 34 ∨ a < 5 ∨ 58 < a ∨ (q ≤ a ∧ a ≤ q + 26)
theorem EQS_fr (hI : INV h) (hE : EQS h) (f : ∀ a i, inK a i → a ≠ 3 → a ≠ 183 → kq (rd h 1 1) a → rd g a i = rd h a i) : EQS g := by
  obtain ⟨p, w, v, s, m, ⟨k1, k2, k3, k4, k5, k6, k7, k8⟩⟩ := hE
  have hq : rd h 1 1 = 5 ∨ rd h 1 1 = 32 := rQf hI.1
  have hp := rq_people hI.1
  have fl : ∀ a i, inK a i → a ≠ 3 → a ≠ 183 → (a < 5 ∨ 58 < a) → rd g a i = rd h a i := fun a i ha n1 n2 hb => f a i ha n1 n2 (by unfold kq; omega)
  have e11 : rd g 1 1 = rd h 1 1 := fl 1 1 (inK_i (lo := 1) (hi := 1) (l := 1) (u := 2) (by decide) (by decide) (by decide) (by decide) (by decide)) (by decide) (by decide) (by decide)
  have e12 : rd g 1 2 = rd h 1 2 := fl 1 2 (inK_i (lo := 1) (hi := 1) (l := 1) (u := 2) (by decide) (by decide) (by decide) (by decide) (by decide)) (by decide) (by decide) (by decide)
  have e16 : rd g 1 6 = rd h 1 6 := fl 1 6 (inK_i (lo := 1) (hi := 1) (l := 6) (u := 6) (by decide) (by decide) (by decide) (by decide) (by decide)) (by decide) (by decide) (by decide)
  have e18 : rd g 1 8 = rd h 1 8 := fl 1 8 (inK_i (lo := 1) (hi := 1) (l := 8) (u := 9) (by decide) (by decide) (by decide) (by decide) (by decide)) (by decide) (by decide) (by decide)
  have e19 : rd g 1 9 = rd h 1 9 := fl 1 9 (inK_i (lo := 1) (hi := 1) (l := 8) (u := 9) (by decide) (by decide) (by decide) (by decide) (by decide)) (by decide) (by decide) (by decide)
  have e25 : rd g 182 25 = rd h 182 25 := fl 182 25 (inK_i (lo := 182) (hi := 182) (l := 25) (u := 25) (by decide) (by decide) (by decide) (by decide) (by decide)) (by decide) (by decide) (by decide)
  have e28 : rd g 182 28 = rd h 182 28 := fl 182 28 (inK_i (lo := 182) (hi := 182) (l := 28) (u := 29) (by decide) (by decide) (by decide) (by decide) (by decide)) (by decide) (by decide) (by decide)
  have e29 : rd g 182 29 = rd h 182 29 := fl 182 29 (inK_i (lo := 182) (hi := 182) (l := 28) (u := 29) (by decide) (by decide) (by decide) (by decide) (by decide)) (by decide) (by decide) (by decide)
  have f188 : ∀ i, 0 ≤ i → i < 150 → rd g 188 i = rd h 188 i := fun i i0 i1 => fl 188 i (inK_i (lo := 188) (hi := 188) (l := 0) (u := 149) (by decide) (by decide) (by decide) (by omega) (by omega)) (by decide) (by decide) (by decide)
  have f189 : ∀ i, 0 ≤ i → i < 1100 → rd g 189 i = rd h 189 i ∧ rd g 190 i = rd h 190 i := fun i i0 i1 => ⟨fl 189 i (inK_i (lo := 189) (hi := 190) (l := 0) (u := 1099) (by decide) (by decide) (by decide) (by omega) (by omega)) (by decide) (by decide) (by decide), fl 190 i (inK_i (lo := 189) (hi := 190) (l := 0) (u := 1099) (by decide) (by decide) (by decide) (by omega) (by omega)) (by decide) (by decide) (by decide)⟩
  have f198 : ∀ i, 0 ≤ i → i ≤ 33 → rd g 198 i = rd h 198 i := fun i i0 i1 => fl 198 i (inK_i (lo := 198) (hi := 198) (l := 0) (u := 33) (by decide) (by decide) (by decide) i0 i1) (by decide) (by decide) (by decide)
  have f198b : ∀ i, 70 ≤ i → i ≤ 1433 → rd g 198 i = rd h 198 i := fun i i0 i1 => fl 198 i (inK_i (lo := 198) (hi := 198) (l := 70) (u := 1433) (by decide) (by decide) (by decide) i0 i1) (by decide) (by decide) (by decide)
  have fpq : ∀ a i, a = rd h 1 1 ∨ a = rd h 1 1 + 3 ∨ a = rd h 1 1 + 5 ∨ a = rd h 1 1 + 6 ∨ (rd h 1 1 + 7 ≤ a ∧ a ≤ rd h 1 1 + 26) → rd g a i = rd h a i := fun a i ha => f a i (inK_q hq (by omega)) (by omega) (by omega) (by unfold kq; omega)
  have fpt : ∀ a i, (a = 6 ∨ a = 7 ∨ a = 33 ∨ a = 34) → rd g a i = rd h a i := fun a i ha => f a i (by
    by_cases c : a ≤ 8
    · exact inK_all (lo := 3) (hi := 8) (by decide) (by omega) (by omega)
    · exact inK_all (lo := 10) (hi := 35) (by decide) (by omega) (by omega)) (by omega) (by omega) (by unfold kq; omega)
  have f60 : ∀ a i, (a = 60 ∨ a = 60 + 1 ∨ a = 60 + 2) → rd g a i = rd h a i := fun a i ha => fl a i (inK_all (lo := 60) (hi := 62) (by decide) (by omega) (by omega)) (by omega) (by omega) (by omega)
  have fpa : ∀ a i, 134 ≤ a → a ≤ 181 → rd g a i = rd h a i := fun a i h1 h2 => fl a i (inK_all (lo := 134) (hi := 181) (by decide) h1 h2) (by omega) (by omega) (by omega)
  have fmm : ∀ m, 0 ≤ m → m < 4 → ∀ a i, 103 + 8 * m ≤ a → a ≤ 105 + 8 * m → rd g a i = rd h a i := fun m m0 m1 a i h1 h2 => fl a i (inK_m m0 m1 h1 h2) (by omega) (by omega) (by omega)
  have f199 : ∀ i, rd g 199 i = rd h 199 i := fun i => fl 199 i (inK_all (lo := 199) (hi := 199) (by decide) (by decide) (by decide)) (by decide) (by decide) (by decide)
  have f75 : ∀ i, rd g 75 i = rd h 75 i := fun i => fl 75 i (inK_all (lo := 75) (hi := 76) (by decide) (by decide) (by decide)) (by decide) (by decide) (by decide)
  have f76 : ∀ i, rd g 76 i = rd h 76 i := fun i => fl 76 i (inK_all (lo := 75) (hi := 76) (by decide) (by decide) (by decide)) (by decide) (by decide) (by decide)
  have f4 : ∀ i, rd g 4 i = rd h 4 i := fun i => fl 4 i (inK_all (lo := 3) (hi := 8) (by decide) (by decide) (by decide)) (by decide) (by decide) (by decide)
  have f187 : ∀ i, rd g 187 i = rd h 187 i := fun i => fl 187 i (inK_all (lo := 187) (hi := 187) (by decide) (by decide) (by decide)) (by decide) (by decide) (by decide)
  clear f fl
  have t2 := f188 2 (by decide) (by decide)
  refine ⟨PT_fr p fpt, ?_, ?_, by rw [e11, e12]; exact s, MKR_fr m e16 (fun a i ha => ?_), QFR_fr hI rfl hq k1 e11 (fun a i ha => fpq a i (by omega)) f188 f189, QST_fr rfl k2 e11 fpq, by rw [e28]; exact k3, by rw [e29]; exact k4, SR_fr k5 f60 (fun i i0 i1 => f198 i i0 (by omega)) t2 hp, UN_fr hp k6 t2 e18 e19 e25 fpa (fun i i0 i1 => f198b i (by omega) i1), MKS_fr hp k7 t2 f199 fmm (fun i i0 i1 => f198b i i0 (by omega)), fun i i0 i1 => by rw [f76]; exact k8 i i0 i1⟩
  · rw [← w]; exact funext f4
  · rw [← v]; exact funext f187
  · rcases ha with rfl | rfl
    · exact f75 i
    · exact f199 i
theorem EQL_fr (hI : INV h) (hE : EQL h) (e1 : rd g 2 0 = rd h 2 0) (e2 : rd g 182 2 = rd h 182 2) (f : ∀ a i, inK a i → rd g a i = rd h a i) : EQL g := by
  refine ⟨by rw [e1, e2]; exact hE.1, fun i i0 i1 => ?_, EQS_fr hI hE.2.2 (fun a i ha _ _ _ => f a i ha)⟩
  rw [e1] at i1
  rw [f 3 i (inK_all (lo := 3) (hi := 8) (by decide) (by decide) (by decide)), f 183 i (inK_all (lo := 183) (hi := 183) (by decide) (by decide) (by decide))]
  exact hE.2.1 i i0 i1
theorem EQL_0 (e1 : rd g 2 0 = 0) (e2 : rd g 182 2 = 0) (p : EQS g) : EQL g := by
  refine ⟨by rw [e1, e2], fun i i0 i1 => ?_, p⟩
  rw [e1] at i1
  omega
theorem root_i {S : SM} {a : AV} {p : PV} {l : List (Nat × AV)} {f : FA} (ok : SMok xs xl INV S) {M : LM_M} {as : List LV} {ls0 : LL} (hM : MTB S.1 = some M) (he : S.2.1 ≤ e) (hI : INV h) (ha : gAr S.2.2.1 as) (hf : S.2.2.2.2.2 = []) (hl : (lent as).length ≤ M.2.2.1) (hp : lpad M.2.2.1 (lent as) = ls0) (hc : S.2.2.2.1 = [(some a, p, l, f)]) (hk : a.1 = 0) (b1 : inBx S.2.2.2.2.1 2 0 = false) (b2 : inBx S.2.2.2.2.1 182 2 = false) (b3 : dsj S.2.2.2.2.1 = true) (hE : EQL h) (k : ∀ r g, INV g → EQL g → Q (some (.inl r)) g) : Rn xs xl e M 0 ls0 [] h Q :=
  use_sm ok hM he hI ha hf hl hp (fun r g gI gf gq => by
    rw [hc] at gq
    obtain ⟨x, rfl, _⟩ := res_int gq hk
    exact k x g gI (EQL_fr hI hE (gf 2 0 b1) (gf 182 2 b2) (fun a i ha => gf a i (dsj_ok b3 ha))))
theorem root_b {S : SM} {a b : AV} {p p' : PV} {l l' : List (Nat × AV)} {f f' : FA} (ok : SMok xs xl INV S) {M : LM_M} {as : List LV} {ls0 : LL} (hM : MTB S.1 = some M) (he : S.2.1 ≤ e) (hI : INV h) (ha : gAr S.2.2.1 as) (hf : S.2.2.2.2.2 = []) (hl : (lent as).length ≤ M.2.2.1) (hp : lpad M.2.2.1 (lent as) = ls0) (hc : S.2.2.2.1 = [(some a, p, l, f), (some b, p', l', f')]) (hk : a.1 = 0) (hk' : b.1 = 0) (b1 : inBx S.2.2.2.2.1 2 0 = false) (b2 : inBx S.2.2.2.2.1 182 2 = false) (b3 : dsj S.2.2.2.2.1 = true) (hE : EQL h) (k : ∀ r g, INV g → EQL g → Q (some (.inl r)) g) : Rn xs xl e M 0 ls0 [] h Q :=
  use_sm ok hM he hI ha hf hl hp (fun r g gI gf gq => by
    rw [hc] at gq
    obtain ⟨x, rfl⟩ := res_bool gq hk hk'
    exact k x g gI (EQL_fr hI hE (gf 2 0 b1) (gf 182 2 b2) (fun a i ha => gf a i (dsj_ok b3 ha))))
theorem root_0 {S : SM} {a : AV} {p : PV} {l : List (Nat × AV)} (ok : SMok xs xl INV S) {M : LM_M} {as : List LV} {ls0 : LL} (hM : MTB S.1 = some M) (he : S.2.1 ≤ e) (hI : INV h) (ha : gAr S.2.2.1 as) (hf : S.2.2.2.2.2 = []) (hl : (lent as).length ≤ M.2.2.1) (hp : lpad M.2.2.1 (lent as) = ls0) (hc : S.2.2.2.1 = [(some a, p, l, [(2, 0, (0, 0, 0, 0))])]) (hk : a.1 = 0) (k : ∀ r g, INV g → rd g 2 0 = 0 → frm S.2.2.2.2.1 h g → Q (some (.inl r)) g) : Rn xs xl e M 0 ls0 [] h Q :=
  use_sm ok hM he hI ha hf hl hp (fun r g gI gf gq => by
    rw [hc] at gq
    have gq2 := gq
    obtain ⟨x, rfl, _⟩ := res_int gq hk
    refine k x g gI ?_ gf
    obtain ⟨c, hc, -, -, q3⟩ := gq2
    rw [List.mem_singleton] at hc
    subst hc
    have v := q3 _ (List.mem_singleton.mpr rfl)
    have e : hval g 2 0 = .inl (rd g 2 0) := by
      unfold hval
      rw [show lkd 2 0 = 0 by decide +kernel]
      rfl
    rw [e] at v
    exact inV_c v.2.2 rfl)
end SCc
end
section
/-! the scene, part sd: door, person, leads -/
section SCd
variable {xs : Nat → Int} {xl e : Nat} {h g : LH} {Q : Option LV → LH → Prop} {v1 v2 v3 v4 q : Int} {L : List Int}
/-- thrown is put -/
theorem thr (hI : INV h) (hE : EQL h) : INV (wr h 182 0 0) ∧ EQL (wr h 182 0 0) := by
  refine ⟨wF_thrown hI (by omega) (by omega), EQL_fr hI hE (rdw_ne (by decide)) (rdw_nei (by decide)) (fun a i ha => ?_)⟩
  have z := (inK_p ha).2.1
  rw [rd_wr, if_neg (by omega)]
theorem bt_v {x p v : Int} (hb : bt x p v) : zand (zshr x p) 1 = v := by
  have := bitZ_01 x p
  unfold bt bitZ at hb
  omega
theorem LRQ_of (hI : INV h) (hf : QFR h) (hl : LWQ h (rd h 1 1) L) : LRQ h L := by
  obtain ⟨-, -, -, -, -, a6, a7, -⟩ := hf
  obtain ⟨l1, l2, l3⟩ := hl
  have z := rq_let hI.1
  refine ⟨fun n => a6 (by omega), fun n => ?_, l3⟩
  obtain ⟨b1, b2, b3⟩ := a7 (by omega)
  rw [l1] at b2
  refine ⟨by omega, b2, fun i hi => ?_⟩
  have := b3 i (by omega)
  rw [l2 i hi] at this
  exact this
theorem fdD (hf : QFR h) (eq : rd h 1 1 = q) (z0 : 0 ≤ v1) (z1 : v1 < rd h 188 1) : ∀ j : Nat, j < 8 → rd h (q + 7 + v1) ((j : Int) + 1) = rd h 188 (8 * v1 + 4 + (j : Int)) := fun j hj => by
  have := hf.2.2.2.1 v1.toNat j (by omega) hj
  rw [Int.toNat_of_nonneg z0, eq] at this
  exact this
theorem fdP (hf : QFR h) (eq : rd h 1 1 = q) (z0 : 0 ≤ v1) (z1 : v1 < rd h 188 2) : ∀ j : Nat, j < 4 → rd h (q + 21 + v1) ((j : Int) + 1) = rd h 188 (116 + 4 * v1 + (j : Int)) := fun j hj => by
  have := hf.2.2.2.2.1 v1.toNat j (by omega) hj
  rw [Int.toNat_of_nonneg z0, eq] at this
  exact this
/-- what door answers -/
def dorV (h : LH) (d w : Int) : Int := if 0 ≤ d ∧ d < rd h 188 1 ∧ 0 ≤ w ∧ w ≤ 9 then (if w < 8 then rd h 188 (8 * d + 4 + w) else if w = 8 then zand (zshr (rd h 198 1) d) 1 else rd h 198 (d + 20)) else -1
theorem E_doorS (he : 1 ≤ e) (hI : INV h) (hE : EQL h) (k : Q (some (.inl (dorV h v1 v2))) h) : Rn xs xl e mm_OneSided_door 0 [some (.inr (.inr 1)), some (.inl v1), some (.inl v2), none] [] h Q := by
  obtain ⟨-, -, hP, -, -, -, -, ⟨k1, -, -, -, k5, -⟩⟩ := id hE
  have hq : rd h 1 1 = 5 ∨ rd h 1 1 = 32 := rQf hI.1
  have d1 := rq_doors hI.1
  have a2 := k1.2.1
  generalize eq : rd h 1 1 = q at hq a2
  have fd := fdD (v1 := v1) k1 eq
  obtain ⟨s1, s2, s3, s4, s5⟩ := k5
  unfold dorV at k
  have neg : ¬ (0 ≤ v1 ∧ v1 < rd h 188 1 ∧ 0 ≤ v2 ∧ v2 ≤ 9) → Q (some (.inl (-1))) h := fun z => by
    rw [if_neg z] at k; exact k
  have pos : 0 ≤ v1 → v1 < rd h 188 1 → ∀ j : Nat, j < 8 → v2 = (j : Int) → Q (some (.inl (rd h (q + 7 + v1) ((j : Int) + 1)))) h := fun z0 z1 j hj e => by
    rw [if_pos ⟨z0, z1, by omega, by omega⟩, if_pos (by omega), e] at k
    rw [fd z0 z1 j hj]
    exact k
  refine B_OneSided_door_0 hq eq (RF_of hI.1) hP he ⟨fun c => neg (by omega), fun c => ⟨fun c2 => neg (by omega), fun c2 => ⟨by omega, fun z => pos c (by omega) 0 (by decide) z, fun z => pos c (by omega) 1 (by decide) z, fun z => pos c (by omega) 2 (by decide) z, fun z => pos c (by omega) 3 (by decide) z, fun z => pos c (by omega) 4 (by decide) z, fun z => pos c (by omega) 5 (by decide) z, fun z => pos c (by omega) 6 (by decide) z, fun z => pos c (by omega) 7 (by decide) z, fun z => ?_, fun z => ⟨by omega, ?_⟩, fun z => neg (by omega)⟩⟩⟩
  · rw [if_pos ⟨c, by omega, by omega, by omega⟩, if_neg (by omega), if_pos z] at k
    have s2' : rd h 60 1 = rd h 198 1 := s2
    rw [s2']
    exact k
  · rw [if_pos ⟨c, by omega, by omega, by omega⟩, if_neg (by omega), if_neg (by omega)] at k
    have t := (s4 v1 c (by omega)).1
    rw [show (0 : Int) + v1 + 20 = v1 + 20 by omega] at t
    have t' : rd h 62 v1 = rd h 198 (v1 + 20) := t
    rw [t']
    exact k
theorem G_doorS (he : 2 ≤ e) (hI : INV h) (hE : EQL h) (k : ∀ g, INV g → EQL g → Q (some (.inl (dorV h v1 v2))) g) : Rn xs xl e mm_door 0 [some (.inr (.inr 182)), some (.inl v1), some (.inl v2)] [] h Q := by
  obtain ⟨i1, e1⟩ := thr hI hE
  have k' := k _ i1 e1
  have d1 := rq_doors hI.1
  unfold dorV at k'
  have neg : ¬ (0 ≤ v1 ∧ v1 < rd h 188 1 ∧ 0 ≤ v2 ∧ v2 ≤ 9) → Q (some (.inl (-1))) (wr h 182 0 0) := fun z => by
    rw [if_neg z] at k'; exact k'
  refine B_door_0 (RF_of hI.1) he ⟨fun c => neg (by omega), fun c => ⟨fun c2 => neg (by omega), fun c2 => ⟨fun c3 => neg (by omega), fun c3 => ⟨fun c4 => neg (by omega), fun c4 => ⟨fun c5 => ⟨fun c6 => ⟨by omega, by omega, ?_⟩, fun c6 => ?_⟩, fun c5 => ⟨by omega, by omega, by omega, by omega, ?_⟩⟩⟩⟩⟩⟩
  · rw [if_pos ⟨c, c2, c3, c4⟩, if_neg (by omega), if_neg c6] at k'
    exact k'
  · rw [if_pos ⟨c, c2, c3, c4⟩, if_neg (by omega), if_pos c6] at k'
    exact k'
  · rw [if_pos ⟨c, c2, c3, c4⟩, if_pos c5] at k'
    rw [show 8 * v1 + v2 + 4 = 8 * v1 + 4 + v2 by omega]
    exact k'
/-- what person answers -/
def perV (h : LH) (p w : Int) : Int := if 0 ≤ p ∧ p < rd h 188 2 ∧ 0 ≤ w ∧ w ≤ 6 then (if w < 4 then rd h 188 (116 + 4 * p + w) else if w = 4 then rd h 198 (p + 2) else if w = 5 then rd h 198 (p + 8) else rd h 198 (p + 14)) else -1
theorem E_personS (he : 1 ≤ e) (hI : INV h) (hE : EQL h) (k : Q (some (.inl (perV h v1 v2))) h) : Rn xs xl e mm_OneSided_person 0 [some (.inr (.inr 1)), some (.inl v1), some (.inl v2), none] [] h Q := by
  obtain ⟨-, -, hP, -, -, -, -, ⟨k1, -, -, -, k5, -⟩⟩ := id hE
  have hq : rd h 1 1 = 5 ∨ rd h 1 1 = 32 := rQf hI.1
  have d1 := rq_people hI.1
  have a2 := k1.2.2.1
  generalize eq : rd h 1 1 = q at hq a2
  have fd := fdP (v1 := v1) k1 eq
  obtain ⟨s1, s2, s3, s4, s5⟩ := k5
  unfold perV at k
  have neg : ¬ (0 ≤ v1 ∧ v1 < rd h 188 2 ∧ 0 ≤ v2 ∧ v2 ≤ 6) → Q (some (.inl (-1))) h := fun z => by
    rw [if_neg z] at k; exact k
  have pos : 0 ≤ v1 → v1 < rd h 188 2 → ∀ j : Nat, j < 4 → v2 = (j : Int) → Q (some (.inl (rd h (q + 21 + v1) ((j : Int) + 1)))) h := fun z0 z1 j hj e => by
    rw [if_pos ⟨z0, z1, by omega, by omega⟩, if_pos (by omega), e] at k
    rw [fd z0 z1 j hj]
    exact k
  have s3' : 0 ≤ v1 → v1 < rd h 188 2 → rd h 61 v1 = rd h 198 (v1 + 2) ∧ zand (zshr (rd h 60 3) v1) 1 = rd h 198 (v1 + 8) ∧ zand (zshr (rd h 60 2) v1) 1 = rd h 198 (v1 + 14) := fun z0 z1 => by
    obtain ⟨b1, b2, b3⟩ := s3 v1 z0 z1
    rw [show (0 : Int) + v1 + 2 = v1 + 2 by omega] at b1
    rw [show (0 : Int) + v1 + 8 = v1 + 8 by omega] at b2
    rw [show (0 : Int) + v1 + 14 = v1 + 14 by omega] at b3
    exact ⟨b1, bt_v b2, bt_v b3⟩
  refine B_OneSided_person_0 hq eq (RF_of hI.1) hP he ⟨fun c => neg (by omega), fun c => ⟨fun c2 => neg (by omega), fun c2 => ⟨by omega, fun z => pos c (by omega) 0 (by decide) z, fun z => pos c (by omega) 1 (by decide) z, fun z => pos c (by omega) 2 (by decide) z, fun z => pos c (by omega) 3 (by decide) z, fun z => ⟨by omega, ?_⟩, fun z => ?_, fun z => ?_, fun z => neg (by omega)⟩⟩⟩
  · rw [if_pos ⟨c, by omega, by omega, by omega⟩, if_neg (by omega), if_pos z] at k
    rw [(s3' c (by omega)).1]
    exact k
  · rw [if_pos ⟨c, by omega, by omega, by omega⟩, if_neg (by omega), if_neg (by omega), if_pos z] at k
    rw [(s3' c (by omega)).2.1]
    exact k
  · rw [if_pos ⟨c, by omega, by omega, by omega⟩, if_neg (by omega), if_neg (by omega), if_neg (by omega)] at k
    rw [(s3' c (by omega)).2.2]
    exact k
theorem G_personS (he : 2 ≤ e) (hI : INV h) (hE : EQL h) (k : ∀ g, INV g → EQL g → Q (some (.inl (perV h v1 v2))) g) : Rn xs xl e mm_person 0 [some (.inr (.inr 182)), some (.inl v1), some (.inl v2)] [] h Q := by
  obtain ⟨i1, e1⟩ := thr hI hE
  have k' := k _ i1 e1
  have d1 := rq_people hI.1
  unfold perV at k'
  have neg : ¬ (0 ≤ v1 ∧ v1 < rd h 188 2 ∧ 0 ≤ v2 ∧ v2 ≤ 6) → Q (some (.inl (-1))) (wr h 182 0 0) := fun z => by
    rw [if_neg z] at k'; exact k'
  refine B_person_0 (RF_of hI.1) he ⟨fun c => neg (by omega), fun c => ⟨fun c2 => neg (by omega), fun c2 => ⟨fun c3 => neg (by omega), fun c3 => ⟨fun c4 => neg (by omega), fun c4 => ⟨fun c5 => ⟨fun c6 => ⟨fun c7 => ⟨by omega, by omega, ?_⟩, fun c7 => ⟨by omega, by omega, ?_⟩⟩, fun c6 => ⟨by omega, by omega, ?_⟩⟩, fun c5 => ⟨by omega, by omega, by omega, by omega, ?_⟩⟩⟩⟩⟩⟩
  · rw [if_pos ⟨c, c2, c3, c4⟩, if_neg (by omega), if_neg c6, if_neg c7] at k'
    exact k'
  · rw [if_pos ⟨c, c2, c3, c4⟩, if_neg (by omega), if_neg c6, if_pos c7] at k'
    exact k'
  · rw [if_pos ⟨c, c2, c3, c4⟩, if_neg (by omega), if_pos c6] at k'
    exact k'
  · rw [if_pos ⟨c, c2, c3, c4⟩, if_pos c5] at k'
    rw [show 4 * v1 + v2 + 116 = 116 + 4 * v1 + v2 by omega]
    exact k'
/-- what leads answers -/
noncomputable def ledV (h : LH) (d s room hr : Int) : Int := if 0 ≤ d ∧ d < rd h 188 1 ∧ 0 ≤ s ∧ s ≤ 3 ∧ 0 ≤ room ∧ room < rd h 188 0 ∧ 0 ≤ hr ∧ hr ≤ 23 then NW (key h) (rd h 198 1) s d room hr else -1
theorem E_leadsS (he : 2 ≤ e) (hI : INV h) (hE : EQL h) (k : Q (some (.inl (ledV h v1 v2 v3 v4))) h) : Rn xs xl e mm_OneSided_leads 0 [some (.inr (.inr 1)), some (.inl v1), some (.inl v2), some (.inl v3), some (.inl v4)] [] h Q := by
  obtain ⟨-, -, hP, -, -, -, -, ⟨k1, ⟨L, l1, l2⟩, p28, p29, k5, -⟩⟩ := id hE
  have hq : rd h 1 1 = 5 ∨ rd h 1 1 = 32 := rQf hI.1
  have d1 := rq_doors hI.1
  have d0 := rq_rooms hI.1
  have lr := LRQ_of hI k1 l1
  have a2 := k1.2.1
  have a0 := k1.1
  generalize eq : rd h 1 1 = q at hq a2 a0 l1 l2
  have s2 : rd h 60 1 = rd h 198 1 := k5.2.1
  unfold ledV at k
  have neg : ¬ (0 ≤ v1 ∧ v1 < rd h 188 1 ∧ 0 ≤ v2 ∧ v2 ≤ 3 ∧ 0 ≤ v3 ∧ v3 < rd h 188 0 ∧ 0 ≤ v4 ∧ v4 ≤ 23) → Q (some (.inl (-1))) h := fun z => by
    rw [if_neg z] at k; exact k
  refine B_OneSided_leads_0 hq eq (RF_of hI.1) (by omega) ⟨fun c => neg (by omega), fun c => ⟨fun c2 => neg (by omega), fun c2 => ⟨fun c3 => neg (by omega), fun c3 => ⟨fun c4 => neg (by omega), fun c4 => ⟨fun c5 => neg (by omega), fun c5 => ⟨fun c6 => neg (by omega), fun c6 => ⟨fun c7 => neg (by omega), fun c7 => ⟨fun c8 => neg (by omega), fun c8 => ⟨1, by omega, ?_⟩⟩⟩⟩⟩⟩⟩⟩⟩
  have fd := fdD (v1 := v1) k1 eq c (by omega)
  have f5 : rd h (q + 7 + v1) 5 = rd h 188 (8 * v1 + 4 + 4) := fd 4 (by decide)
  have f2 : rd h (q + 7 + v1) 2 = rd h 188 (8 * v1 + 4 + 1) := fd 1 (by decide)
  have f3 : rd h (q + 7 + v1) 3 = rd h 188 (8 * v1 + 4 + 2) := fd 2 (by decide)
  have f6 : rd h (q + 7 + v1) 6 = rd h 188 (8 * v1 + 4 + 5) := fd 5 (by decide)
  have r5 := rq_d4 hI.1 (i := 8 * v1 + 4 + 4) (d := v1) (by omega) c (by omega)
  have r2 := rq_d1 hI.1 (i := 8 * v1 + 4 + 1) (d := v1) (by omega) c (by omega)
  have r3 := rq_d2 hI.1 (i := 8 * v1 + 4 + 2) (d := v1) (by omega) c (by omega)
  have r6 := rq_d5 hI.1 (i := 8 * v1 + 4 + 5) (d := v1) (by omega) c (by omega)
  refine F_into (L := L) (by omega) hq (by omega) c2 (by omega) (by omega) (RF_of hI.1) hP (by omega) l2 ?_
  refine B_OneSided_leads_50 (RF_of hI.1) ?_
  rw [if_pos ⟨c, by omega, by omega, by omega, by omega, by omega, by omega, by omega⟩] at k
  unfold NW at k
  rw [if_pos c8, LF_in hI (by omega) (by omega) (by omega) (by omega) fd (by omega) (by omega) (by omega) p28 p29 lr] at k
  rw [s2]
  exact k
theorem G_leadsS (he : 5 ≤ e) (hI : INV h) (hE : EQL h) (k : ∀ g, INV g → EQL g → Q (some (.inl (ledV h v1 v2 v3 v4))) g) : Rn xs xl e mm_leads 0 [some (.inr (.inr 182)), some (.inl v1), some (.inl v2), some (.inl v3), some (.inl v4)] [] h Q := by
  obtain ⟨i1, e1⟩ := thr hI hE
  have d1 := rq_doors hI.1
  have d0 := rq_rooms hI.1
  have ek : key (wr h 182 0 0) = key h := by
    unfold key
    rw [show rd (wr h 182 0 0) 188 = rd h 188 from funext (fun j => rdw_ne (by decide)), show rd (wr h 182 0 0) 189 = rd h 189 from funext (fun j => rdw_ne (by decide)), show rd (wr h 182 0 0) 190 = rd h 190 from funext (fun j => rdw_ne (by decide)), rdw_nei (by decide), rdw_nei (by decide), rdw_nei (by decide), rdw_nei (by decide)]
  have es : rd (wr h 182 0 0) 198 1 = rd h 198 1 := rdw_ne (by decide)
  have neg : ¬ (0 ≤ v1 ∧ v1 < rd h 188 1 ∧ 0 ≤ v2 ∧ v2 ≤ 3 ∧ 0 ≤ v3 ∧ v3 < rd h 188 0 ∧ 0 ≤ v4 ∧ v4 ≤ 23) → Q (some (.inl (-1))) (wr h 182 0 0) := fun z => by
    have k' := k _ i1 e1
    unfold ledV at k'
    rw [if_neg z] at k'; exact k'
  refine B_leads_0 (RF_of hI.1) (by omega) ⟨fun c => neg (by omega), fun c => ⟨fun c2 => neg (by omega), fun c2 => ⟨fun c3 => neg (by omega), fun c3 => ⟨fun c4 => neg (by omega), fun c4 => ⟨fun c5 => neg (by omega), fun c5 => ⟨fun c6 => neg (by omega), fun c6 => ⟨fun c7 => neg (by omega), fun c7 => ⟨fun c8 => neg (by omega), fun c8 => ⟨4, by omega, ?_⟩⟩⟩⟩⟩⟩⟩⟩⟩
  refine D_leadsNow (K := key (wr h 182 0 0)) (S := rd (wr h 182 0 0) 198) (by omega) ⟨i1, rfl, rfl⟩ (by omega) (by omega) (by omega) (by omega) (by omega) (fun g w gf => ?_)
  have gE : EQL g := EQL_fr i1 e1 (gf 2 0 (by decide) (by decide)) (gf 182 2 (by decide) (by decide)) (fun a i ha => gf a i (by have := (inK_p ha).1; omega) (by have := (inK_p ha).1; omega))
  have k' := k g w.1 gE
  unfold ledV at k'
  rw [if_pos ⟨c, c2, c3, c4, c5, c6, c7, c8⟩, ← ek, ← es] at k'
  exact B_leads_51 (RF_of w.1.1) k'
end SCd
end
section
/-! the scene, part se: hours, shut, undo -/
/-- the class has kept its scene: all but scenes 60, 68 and one of past is as before -/
def KCJ (h g : LH) : Prop := kpn h g ∧ scq h g 60 (134 + 3 * ((rd h 1 8 + rd h 1 9) % 16)) ∧ ∀ a i, ¬ scp 60 a i → ¬ scp 68 a i → ¬ scp (134 + 3 * ((rd h 1 8 + rd h 1 9) % 16)) a i → ¬ (a = 1 ∧ (i = 8 ∨ i = 9)) → rd g a i = rd h a i
/-- the reference has kept its block -/
def KRJ (h g : LH) : Prop := kpx h g ∧ ∀ a i, a ≠ 196 → a ≠ 197 → ¬ (a = 198 ∧ ((0 ≤ i ∧ i < 34) ∨ 350 ≤ i)) → ¬ (a = 182 ∧ (i = 0 ∨ i = 25)) → rd g a i = rd h a i
/-- places of what only quarter changes -/
def stt (a i : Int) : Prop := (a = 1 ∧ (i = 1 ∨ i = 2)) ∨ (3 ≤ a ∧ a ≤ 58) ∨ a = 76 ∨ a = 183 ∨ (187 ≤ a ∧ a ≤ 190) ∨ (a = 182 ∧ (i = 28 ∨ i = 29))
section SCe
variable {xs : Nat → Int} {xl e : Nat} {h g g' : LH} {Q : Option LV → LH → Prop} {v1 v2 r q c d : Int}
theorem EQL_mk (hI : INV h) (hE : EQL h) (e1 : rd g 2 0 = rd h 2 0) (e2 : rd g 182 2 = rd h 182 2) (f : ∀ a i, stt a i → rd g a i = rd h a i) (mk : MKR g) (s : SR g 60 0) (u : UN g) (ms : MKS g) : EQL g := by
  obtain ⟨c1, c2, p, w, v, t, m, ⟨k1, k2, k3, k4, -, -, -, k8⟩⟩ := hE
  have hq : rd h 1 1 = 5 ∨ rd h 1 1 = 32 := rQf hI.1
  have f' : ∀ a i, (3 ≤ a ∧ a ≤ 58) ∨ a = 76 ∨ a = 183 ∨ (187 ≤ a ∧ a ≤ 190) → rd g a i = rd h a i := fun a i ha => f a i (by unfold stt; omega)
  have e11 := f 1 1 (by unfold stt; omega)
  have e12 := f 1 2 (by unfold stt; omega)
  have e28 := f 182 28 (by unfold stt; omega)
  have e29 := f 182 29 (by unfold stt; omega)
  clear f
  refine ⟨by rw [e1, e2]; exact c1, fun i i0 i1 => ?_, PT_fr p (fun a i ha => f' a i (by omega)), ?_, ?_, by rw [e11, e12]; exact t, mk, QFR_fr hI rfl hq k1 e11 (fun a i ha => f' a i (by omega)) (fun i _ _ => f' 188 i (by omega)) (fun i _ _ => ⟨f' 189 i (by omega), f' 190 i (by omega)⟩), QST_fr rfl k2 e11 (fun a i ha => f' a i (by omega)), by rw [e28]; exact k3, by rw [e29]; exact k4, s, u, ms, fun i i0 i1 => by rw [f' 76 i (by omega)]; exact k8 i i0 i1⟩
  · rw [e1] at i1
    rw [f' 3 i (by omega), f' 183 i (by omega)]
    exact c2 i i0 i1
  · rw [← w]; exact funext (fun i => f' 4 i (by omega))
  · rw [← v]; exact funext (fun i => f' 187 i (by omega))
theorem scp_lt {a i : Int} (hc : c ≤ 179) (hs : scp c a i) : a < 182 := by
  unfold scp at hs; omega
theorem scq_lo (hs : scq h g d c) (f : ∀ a i, scp c a i → rd g' a i = rd g a i) : scq h g' d c :=
  ⟨fun i i0 i1 => (f _ _ (Or.inl ⟨rfl, i0, i1⟩)).trans (hs.1 i i0 i1), fun i i0 i1 => (f _ _ (Or.inr (Or.inl ⟨rfl, i0, i1⟩))).trans (hs.2.1 i i0 i1), fun i i0 i1 => (f _ _ (Or.inr (Or.inr ⟨rfl, i0, i1⟩))).trans (hs.2.2 i i0 i1)⟩
theorem kpx_l (hk : kpx g g') (e : ∀ i, rd g 198 i = rd h 198 i) (e2 : rd g 182 25 = rd h 182 25) : kpx h g' := by
  unfold kpx at hk ⊢
  rw [e2] at hk
  have b : ∀ {b c}, blq g g' b c → blq h g' b c := fun hb i i0 i1 => (hb i i0 i1).trans (e _)
  exact ⟨fun z => ⟨(hk.1 z).1, fun k k0 k1 => b ((hk.1 z).2.1 k k0 k1), b (hk.1 z).2.2⟩, fun z => ⟨(hk.2 z).1, fun k k0 k1 => b ((hk.2 z).2.1 k k0 k1), b (hk.2 z).2.2⟩⟩
/-- both have kept -/
theorem EQL_keep (hI : INV h) (hE : EQL h) (kc : KCJ h g) (kr : KRJ g g') (s0 : SR g' 60 0) : EQL g' := by
  obtain ⟨kn, ks, kf⟩ := kc
  obtain ⟨kx, rf⟩ := kr
  obtain ⟨-, -, -, -, -, -, m, ⟨-, -, -, -, k5, k6, k7, -⟩⟩ := id hE
  have hp := rq_people hI.1
  obtain ⟨o1, n1, e1, -⟩ := id k6
  generalize er : (rd h 1 8 + rd h 1 9) % 16 = r at ks kf
  have hr : 0 ≤ r ∧ r < 16 := by omega
  have lo : ∀ a i, a < 182 → rd g' a i = rd g a i := fun a i n => rf a i (by omega) (by omega) (by omega) (by omega)
  have hi : ∀ a i, 182 ≤ a → rd g a i = rd h a i := fun a i n => kf a i (by unfold scp; omega) (by unfold scp; omega) (by unfold scp; omega) (by omega)
  have cl : ∀ a i, (a < 60 ∨ (63 ≤ a ∧ a < 68) ∨ (71 ≤ a ∧ a < 134)) → ¬ (a = 1 ∧ (i = 8 ∨ i = 9)) → rd g' a i = rd h a i := fun a i n1 n2 => (lo a i (by omega)).trans (kf a i (by unfold scp; omega) (by unfold scp; omega) (by unfold scp; omega) n2)
  have rl : ∀ a i, 182 ≤ a → a ≠ 196 → a ≠ 197 → ¬ (a = 198 ∧ ((0 ≤ i ∧ i < 34) ∨ 350 ≤ i)) → ¬ (a = 182 ∧ (i = 0 ∨ i = 25)) → rd g' a i = rd h a i := fun a i n0 n1 n2 n3 n4 => (rf a i n1 n2 n3 n4).trans (hi a i n0)
  have t2 : rd g' 188 2 = rd h 188 2 := rl 188 2 (by decide) (by decide) (by decide) (by decide) (by decide)
  have sto : ∀ a i, stt a i → rd g' a i = rd h a i := fun a i ha => by
    unfold stt at ha
    by_cases z : a < 182
    · exact cl a i (by omega) (by omega)
    · exact rl a i (by omega) (by omega) (by omega) (by omega) (by omega)
  have ko : ∀ j, 0 ≤ j → j < 16 → j ≠ r → scq h g' (134 + 3 * j) (134 + 3 * j) := fun j j0 j1 jn => scq_same (fun a i ha => (lo a i (scp_lt (by omega) ha)).trans (kf a i (by unfold scp at ha ⊢; omega) (by unfold scp at ha ⊢; omega) (by unfold scp at ha ⊢; omega) (by unfold scp at ha; omega)))
  have ks' : scq h g' 60 (134 + 3 * r) := scq_lo ks (fun a i ha => lo a i (scp_lt (by omega) ha))
  have kn' : kpn h g' := by
    unfold kpn at kn ⊢
    rw [lo 1 9 (by decide), lo 1 8 (by decide)]
    exact kn
  have kx' : kpx h g' := kpx_l kx (fun i => hi 198 i (by decide)) (hi 182 25 (by decide))
  refine EQL_mk hI hE (cl 2 0 (by decide) (by decide)) (rl 182 2 (by decide) (by decide) (by decide) (by decide) (by decide)) sto (MKR_fr m (cl 1 6 (by decide) (by decide)) (fun a i ha => ?_)) s0 (UN_keep k6 k5 hp t2 kn' (by rw [er]; exact ks') (by rw [er]; exact ko) kx') (MKS_fr hp k7 t2 (fun i => rl 199 i (by decide) (by decide) (by decide) (by omega) (by omega)) (fun m m0 m1 a i h1 h2 => cl a i (by omega) (by omega)) (fun i i0 i1 => rl 198 i (by decide) (by decide) (by decide) (by omega) (by omega)))
  rcases ha with rfl | rfl
  · exact cl 75 i (by decide) (by omega)
  · exact rl 199 i (by decide) (by decide) (by decide) (by omega) (by omega)
def samP (h g : LH) : Prop := ∀ a i, rd g a i = rd h a i
theorem EQL_sam (hI : INV h) (hE : EQL h) (hs : samP h g) : EQL g := EQL_fr hI hE (hs _ _) (hs _ _) (fun a i _ => hs a i)
/-- hours -/
def hrsJ (v1 : Int) (h g : LH) (r : Int) : Prop := (¬ (1 ≤ v1 ∧ v1 ≤ 24) ∧ r = -1 ∧ samP h g) ∨ ((1 ≤ v1 ∧ v1 ≤ 24) ∧ r = rd g 60 0 ∧ KCJ h g ∧ spd 60 v1 h g)
theorem E_hoursS (he : 8 ≤ e) (hI : INV h) (hE : EQL h) (h1 : i32 v1) (k : ∀ r g, INV g → hrsJ v1 h g r → Q (some (.inl r)) g) : Rn xs xl e mm_OneSided_hours 0 [some (.inr (.inr 1)), some (.inl v1)] [] h Q := by
  obtain ⟨-, -, -, -, -, -, -, ⟨-, -, -, -, -, k6, -, k8⟩⟩ := id hE
  obtain ⟨o1, n1, -, -⟩ := k6
  have h60 := rG_60_0 hI.1
  have A : Rn xs xl e mm_OneSided_hours 0 [some (.inr (.inr 1)), some (.inl v1)] [] h (fun r g => ∃ x, r = some (.inl x) ∧ hrsJ v1 h g x) := by
    refine B_OneSided_hours_0 (RF_of hI.1) ⟨fun c => ⟨-1, rfl, Or.inl ⟨by omega, rfl, fun _ _ => rfl⟩⟩, fun c => ⟨fun c2 => ⟨2, by omega, F_keep (by omega) scn_60 (fun k _ _ => by omega) (RF_of hI.1) k8 o1 n1 (fun g kn ks kf gF => ?_)⟩, fun c2 => ⟨-1, rfl, Or.inl ⟨by omega, rfl, fun _ _ => rfl⟩⟩⟩⟩
    generalize er : (rd h 1 8 + rd h 1 9) % 16 = r at ks kf
    have hr : 0 ≤ r ∧ r < 16 := by omega
    have f60 : ∀ a i, (60 ≤ a ∧ a ≤ 62) → rd g a i = rd h a i := fun a i ha => kf a i (by unfold scp; omega) (by omega)
    have t60 := f60 60 0 (by omega)
    refine B_OneSided_hours_24 gF ⟨1, by omega, F_spass (by omega) scn_60 (by decide) gF (by omega) (by omega) (fun g2 sp sf gF2 => B_OneSided_hours_35 gF2 ⟨rd g2 60 0, rfl, Or.inr ⟨⟨c, c2⟩, rfl, ⟨?_, ?_, fun a i n1 n2 n3 n4 => ?_⟩, ?_⟩⟩)⟩
    · unfold kpn at kn ⊢
      rw [sf 1 9 (by unfold scp; omega), sf 1 8 (by unfold scp; omega)]
      exact kn
    · rw [er]
      exact scq_lo ks (fun a i ha => sf a i (by unfold scp at ha ⊢; omega))
    · rw [er] at n3
      exact (sf a i n1).trans (kf a i n3 n4)
    · obtain ⟨b0, b1, b2, b3, b4, b5⟩ := sp
      refine ⟨?_, ?_, b2, ?_, fun i => (b4 i).trans (f60 _ i (by omega)), b5⟩
      · rw [b0, t60]
      · rw [b1, f60 60 1 (by omega)]
      · rw [b3, f60 60 3 (by omega)]
  have B : Rn xs xl e mm_OneSided_hours 0 [some (.inr (.inr 1)), some (.inl v1)] [] h (fun r g => INV g) := use_sm TC_hours (as := [.inr (.inr 1), .inl v1]) rfl (Nat.le_trans (Nat.le_of_ble_eq_true rfl) he) hI (gAr_c (g_ref 1) (gAr_c (g_i h1) gAr_n)) rfl (Nat.le_of_ble_eq_true rfl) rfl (fun r g gI gf gq => gI)
  refine (A.and B).mono (fun r g z => ?_)
  obtain ⟨⟨x, rfl, a⟩, b⟩ := z
  exact k x g b a
theorem SR_hours (hs : SR h 60 0) (sp : spd 60 v1 h g) (lo : ∀ a i, (60 ≤ a ∧ a ≤ 62) → rd g' a i = rd g a i) (hx : rd g' 198 0 = (if rd h 198 0 + v1 ≤ 24 then rd h 198 0 + v1 else 24)) (hz : ∀ i, 14 ≤ i → i ≤ 33 → rd g' 198 i = 0) (ho : ∀ i, 1 ≤ i → i < 14 → rd g' 198 i = rd h 198 i) (e2 : rd g' 188 2 = rd h 188 2) (hp : rd h 188 2 ≤ 6) : SR g' 60 0 := by
  obtain ⟨s1, s2, s3, s4, s5⟩ := hs
  obtain ⟨b0, b1, b2, b3, b4, b5⟩ := sp
  refine ⟨?_, ?_, fun p p0 p1 => ?_, fun d d0 d1 => ?_, fun p p0 p1 => ?_⟩
  · rw [lo 60 0 (by omega), b0, hx, s1]
  · rw [lo 60 1 (by omega), b1, s2]
    exact (ho 1 (by decide) (by decide)).symm
  · rw [e2] at p1
    obtain ⟨a1, a2, a3⟩ := s3 p p0 p1
    rw [lo _ _ (by omega), lo 60 3 (by omega), lo 60 2 (by omega), b4, b3, b2, ho _ (by omega) (by omega), ho _ (by omega) (by omega), hz _ (by omega) (by omega)]
    exact ⟨a1, a2, Or.inl ⟨rfl, bit_zero⟩⟩
  · rw [lo _ _ (by omega), b5 d d0 d1, hz _ (by omega) (by omega)]
    exact ⟨rfl, by decide, by decide⟩
  · rw [e2] at p0
    rw [lo 60 3 (by omega), b3]
    exact s5 p p0 p1
theorem G_hoursS (he : 8 ≤ e) (hI : INV h) (hE : EQL h) (gI : INV g) (hj : hrsJ v1 h g r) (k : ∀ g', INV g' → EQL g' → Q (some (.inl r)) g') : Rn xs xl e mm_hours 0 [some (.inr (.inr 182)), some (.inl v1), none] [] g Q := by
  rcases hj with ⟨n, rfl, sm⟩ | ⟨hv, er, kc, sp⟩
  · obtain ⟨i1, e1⟩ := thr gI (EQL_sam hI hE sm)
    exact B_hours_0 (RF_of gI.1) (by omega) ⟨fun _ => k _ i1 e1, fun c => ⟨fun _ => k _ i1 e1, fun c2 => by omega⟩⟩
  · have i1 : INV (wr g 182 0 0) := wF_thrown gI (by omega) (by omega)
    refine B_hours_0 (RF_of gI.1) (by omega) ⟨fun c => by omega, fun c => ⟨fun c2 => by omega, fun c2 => ⟨1, by omega, G_keepsX (by omega) i1 (fun u uI uf ux => ?_)⟩⟩⟩
    have u1 : kpx g u := kpx_l ux (fun i => rdw_ne (by decide)) (rdw_nei (by decide))
    have f1 : ∀ a i, ¬ (a = 198 ∧ 350 ≤ i) → ¬ (a = 182 ∧ (i = 0 ∨ i = 25)) → rd u a i = rd g a i := fun a i n1 n2 => by
      rw [uf a i (by omega) (by omega), rd_wr, if_neg (by omega)]
    have hu := rs_now uI.1 (i := 0) 0 0 (by omega) (by omega) (by omega) (by omega) (by omega) (by omega)
    have l23 : ∀ (n : Nat) (w : LH) (v2 : Int), v1 - v2 ≤ n → 0 ≤ v2 → v2 ≤ v1 → INV w → (∀ a i, ¬ (a = 198 ∧ (i = 0 ∨ (14 ≤ i ∧ i ≤ 33))) → rd w a i = rd u a i) → rd w 198 0 = (if rd u 198 0 + v2 ≤ 24 then rd u 198 0 + v2 else 24) → (1 ≤ v2 → ∀ i, 14 ≤ i → i ≤ 33 → rd w 198 i = 0) → Rn xs xl e mm_hours 23 [some (.inr (.inr 182)), some (.inl v1), some (.inl v2)] [] w Q := by
      intro n
      have fin : ∀ (w : LH), INV w → (∀ a i, ¬ (a = 198 ∧ (i = 0 ∨ (14 ≤ i ∧ i ≤ 33))) → rd w a i = rd u a i) → rd w 198 0 = (if rd u 198 0 + v1 ≤ 24 then rd u 198 0 + v1 else 24) → (∀ i, 14 ≤ i → i ≤ 33 → rd w 198 i = 0) → Q (some (.inl (rd w 198 0))) w := by
        intro w wI wf w0 wz
        obtain ⟨kn, ks, kf⟩ := id kc
        have n1 := hE.2.2.2.2.2.2.2.2.2.2.2.2.1
        have hr : 0 ≤ (rd h 1 8 + rd h 1 9) % 16 ∧ (rd h 1 8 + rd h 1 9) % 16 < 16 := by omega
        generalize (rd h 1 8 + rd h 1 9) % 16 = ρ at ks kf hr
        have gh : ∀ a i, 182 ≤ a → rd g a i = rd h a i := fun a i n => kf a i (by unfold scp; omega) (by unfold scp; omega) (by unfold scp; omega) (by omega)
        have lo : ∀ a i, (60 ≤ a ∧ a ≤ 62) → rd w a i = rd g a i := fun a i ha => (wf a i (by omega)).trans (f1 a i (by omega) (by omega))
        have e0 : rd u 198 0 = rd h 198 0 := (f1 198 0 (by decide) (by decide)).trans (gh 198 0 (by decide))
        have sr : SR w 60 0 := SR_hours hE.2.2.2.2.2.2.2.2.2.2.2.1 sp lo (by rw [w0, e0]) wz (fun i i0 i1 => (wf 198 i (by omega)).trans ((f1 198 i (by omega) (by omega)).trans (gh 198 i (by decide)))) ((wf 188 2 (by decide)).trans ((f1 188 2 (by decide) (by decide)).trans (gh 188 2 (by decide)))) (rq_people hI.1).2
        have kr : KRJ g w := by
          refine ⟨?_, fun a i n1 n2 n3 n4 => (wf a i (by omega)).trans (f1 a i (by omega) n4)⟩
          unfold kpx at u1 ⊢
          have b : ∀ {b c}, 350 ≤ c → blq g u b c → blq g w b c := fun hc hb i i0 i1 => (wf 198 _ (by omega)).trans (hb i i0 i1)
          rw [wf 182 25 (by decide)]
          have n2 := rF_undos gI.1
          exact ⟨fun z => ⟨(u1.1 z).1, fun k k0 k1 => b (by omega) ((u1.1 z).2.1 k k0 k1), b (by omega) (u1.1 z).2.2⟩, fun z => ⟨(u1.2 z).1, fun k k0 k1 => b (by omega) ((u1.2 z).2.1 k k0 k1), b (by omega) (u1.2 z).2.2⟩⟩
        have ans : rd w 198 0 = r := by
          rw [er, ← sr.1]
          exact lo 60 0 (by omega)
        rw [ans]
        exact k w wI (EQL_keep hI hE kc kr sr)
      induction n with
      | zero =>
        intro w v2 hn a0 a1 wI wf w0 wz
        have : v2 = v1 := by omega
        subst this
        exact B_hours_23 (RF_of wI.1) ⟨fun _ => fin w wI wf w0 (wz (by omega)), fun c => by omega⟩
      | succ n ih =>
        intro w v2 hn a0 a1 wI wf w0 wz
        refine B_hours_23 (RF_of wI.1) ⟨fun c => ?_, fun c => ⟨0, by omega, G_passesX wI (by decide) (by decide) (fun w2 w2I w2f w2x => B_hours_33 (RF_of w2I.1) (by omega) (ih w2 (v2 + 1) (by omega) (by omega) (by omega) w2I (fun a i n => (w2f a i (by omega)).trans (wf a i n)) ?_ (fun _ i i0 i1 => ?_)))⟩⟩
        · have : v2 = v1 := by omega
          subst this
          exact fin w wI wf w0 (wz (by omega))
        · rw [w2x.1, w0]
          split <;> split <;> split <;> omega
        · by_cases z : i < 20
          · have := w2x.2.1 (i - 14) (by omega) (by omega)
            rw [show 0 + (i - 14) + 14 = i by omega] at this
            exact this
          · have := w2x.2.2 (i - 20) (by omega) (by omega)
            rw [show 0 + (i - 20) + 20 = i by omega] at this
            exact this
    exact B_hours_21 (RF_of uI.1) (l23 24 u 0 (by omega) (by omega) (by omega) uI (fun _ _ _ => rfl) (by rw [if_pos (by omega), Int.add_zero]) (fun z => absurd z (by decide)))
/-- shut -/
def shC (h : LH) (v1 v2 : Int) : Prop := 0 ≤ v1 ∧ v1 < rd h 188 1 ∧ zand (zshr (rd h 198 1) v1) 1 ≠ v2
def shtJ (v1 v2 : Int) (h g : LH) (r : Int) : Prop := (¬ shC h v1 v2 ∧ r = 0 ∧ samP h g) ∨ (shC h v1 v2 ∧ r = 1 ∧ KCJ h g ∧ rd g 60 1 = zxor (rd h 60 1) (zshl 1 v1) ∧ ∀ a i, (60 ≤ a ∧ a ≤ 62) → ¬ (a = 60 ∧ i = 1) → rd g a i = rd h a i)
theorem E_shutS (he : 8 ≤ e) (hI : INV h) (hE : EQL h) (h1 : i32 v1) (h2 : gV (0, 0, 1, 1) (.inl v2)) (h2' : v2 = 0 ∨ v2 = 1) (k : ∀ r g, INV g → shtJ v1 v2 h g r → Q (some (.inl r)) g) : Rn xs xl e mm_OneSided_shut 0 [some (.inr (.inr 1)), some (.inl v1), some (.inl v2), none] [] h Q := by
  obtain ⟨-, -, -, -, -, -, -, ⟨k1, -, -, -, k5, k6, -, k8⟩⟩ := id hE
  obtain ⟨o1, n1, -, -⟩ := k6
  have hq : rd h 1 1 = 5 ∨ rd h 1 1 = 32 := rQf hI.1
  have d1 := rq_doors hI.1
  have a2 := k1.2.1
  have s2 : rd h 60 1 = rd h 198 1 := k5.2.1
  have bb := bitZ_01 (rd h 60 1) v1
  generalize eq : rd h 1 1 = q at hq a2
  have A : Rn xs xl e mm_OneSided_shut 0 [some (.inr (.inr 1)), some (.inl v1), some (.inl v2), none] [] h (fun r g => ∃ x, r = some (.inl x) ∧ shtJ v1 v2 h g x) := by
    have no : ¬ shC h v1 v2 → ∃ x, (some (.inl 0) : Option LV) = some (.inl x) ∧ shtJ v1 v2 h h x := fun z => ⟨0, rfl, Or.inl ⟨z, rfl, fun _ _ => rfl⟩⟩
    have yes : shC h v1 v2 → ∀ v3 : Int, ∃ c, c < e ∧ Rn xs xl c mm_OneSided_keepForUndo 0 [some (.inr (.inr 1)), some (.inr (.inr 60))] [] h (fun r h' => Rn xs xl e mm_OneSided_shut 51 [some (.inr (.inr 1)), some (.inl v1), some (.inl v2), some (.inl v3)] (r.toList ++ []) h' (fun r g => ∃ x, r = some (.inl x) ∧ shtJ v1 v2 h g x)) := by
      intro z v3
      refine ⟨2, by omega, F_keep (by omega) scn_60 (fun k _ _ => by omega) (RF_of hI.1) k8 o1 n1 (fun g kn ks kf gF => B_OneSided_shut_51 gF ⟨1, rfl, Or.inr ⟨z, rfl, ⟨?_, ?_, fun a i n1 n2 n3 n4 => ?_⟩, ?_, fun a i ha n => ?_⟩⟩)⟩
      · unfold kpn at kn ⊢
        rw [rdw_ne (by decide), rdw_ne (by decide)]
        exact kn
      · exact scq_lo ks (fun a i ha => rdw_ne (by unfold scp at ha; omega))
      · rw [rd_wr, if_neg (by unfold scp at n1; omega)]
        exact kf a i n3 n4
      · rw [rdw_eq, kf 60 1 (by unfold scp; omega) (by omega)]
      · rw [rd_wr, if_neg (by omega)]
        exact kf a i (by unfold scp; omega) (by omega)
    unfold shC at no yes
    rw [← s2] at no yes
    refine B_OneSided_shut_0 hq eq (RF_of hI.1) (by omega) ⟨fun c => no (fun z => by omega), fun c => ⟨fun c2 => no (fun z => by omega), fun c2 => ⟨fun c3 => ⟨fun c4 => yes ⟨c, by omega, by omega⟩ _, fun c4 => no (fun z => by omega)⟩, fun c3 => ⟨fun c4 => yes ⟨c, by omega, by omega⟩ _, fun c4 => no (fun z => by omega)⟩⟩⟩⟩
  have B : Rn xs xl e mm_OneSided_shut 0 [some (.inr (.inr 1)), some (.inl v1), some (.inl v2), none] [] h (fun r g => INV g) := use_sm TC_shut (as := [.inr (.inr 1), .inl v1, .inl v2]) rfl (Nat.le_trans (Nat.le_of_ble_eq_true rfl) he) hI (gAr_c (g_ref 1) (gAr_c (g_i h1) (gAr_c h2 gAr_n))) rfl (Nat.le_of_ble_eq_true rfl) rfl (fun r g gI gf gq => gI)
  refine (A.and B).mono (fun r g z => ?_)
  obtain ⟨⟨x, rfl, a⟩, b⟩ := z
  exact k x g b a
theorem G_shutS (he : 8 ≤ e) (hI : INV h) (hE : EQL h) (gI : INV g) (h2' : v2 = 0 ∨ v2 = 1) (hj : shtJ v1 v2 h g r) (k : ∀ g', INV g' → EQL g' → Q (some (.inl r)) g') : Rn xs xl e mm_shut 0 [some (.inr (.inr 182)), some (.inl v1), some (.inl v2)] [] g Q := by
  have d1 := rq_doors gI.1
  have bb := bitZ_01 (rd g 198 1) v1
  rcases hj with ⟨n, rfl, sm⟩ | ⟨hv, rfl, kc, sx, so⟩
  · obtain ⟨i1, e1⟩ := thr gI (EQL_sam hI hE sm)
    unfold shC at n
    rw [← sm 188 1, ← sm 198 1] at n
    exact B_shut_0 (RF_of gI.1) (by omega) ⟨fun _ => k _ i1 e1, fun c => ⟨fun _ => k _ i1 e1, fun c2 => ⟨fun c3 => ⟨fun c4 => absurd ⟨c, c2, by omega⟩ n, fun _ => k _ i1 e1⟩, fun c3 => ⟨fun c4 => absurd ⟨c, c2, by omega⟩ n, fun _ => k _ i1 e1⟩⟩⟩⟩
  · obtain ⟨kn, ks, kf⟩ := id kc
    have n1 := hE.2.2.2.2.2.2.2.2.2.2.2.2.1
    have hr : 0 ≤ (rd h 1 8 + rd h 1 9) % 16 ∧ (rd h 1 8 + rd h 1 9) % 16 < 16 := by omega
    generalize (rd h 1 8 + rd h 1 9) % 16 = ρ at ks kf hr
    have gh : ∀ a i, 182 ≤ a → rd g a i = rd h a i := fun a i n => kf a i (by unfold scp; omega) (by unfold scp; omega) (by unfold scp; omega) (by omega)
    clear ks kn kf
    unfold shC at hv
    rw [← gh 188 1 (by decide), ← gh 198 1 (by decide)] at hv
    have i1 : INV (wr g 182 0 0) := wF_thrown gI (by omega) (by omega)
    have go : ∃ c, c < e ∧ Rn xs xl c mm_keeps 0 [some (.inr (.inr 182)), none] [] (wr g 182 0 0) (fun r h' => Rn xs xl e mm_shut 33 [some (.inr (.inr 182)), some (.inl v1), some (.inl v2)] (r.toList ++ []) h' Q) := by
      refine ⟨1, by omega, G_keepsX (by omega) i1 (fun u uI uf ux => B_shut_33 (RF_of uI.1) ?_)⟩
      have u1 : kpx g u := kpx_l ux (fun i => rdw_ne (by decide)) (rdw_nei (by decide))
      have f1 : ∀ a i, ¬ (a = 198 ∧ 350 ≤ i) → ¬ (a = 182 ∧ (i = 0 ∨ i = 25)) → rd u a i = rd g a i := fun a i n1 n2 => by
        rw [uf a i (by omega) (by omega), rd_wr, if_neg (by omega)]
      have zx : i32 (zxor (rd u 198 1) (zshl 1 v1)) := x_in _
      have wI : INV (wr u 198 1 (zxor (rd u 198 1) (zshl 1 v1))) := INV_ws uI (ws uI.1 (i := 1) (v := zxor (rd u 198 1) (zshl 1 v1)) 1 1 (-2147483648) 2147483647 (by omega) (by omega) (by omega) (by decide +kernel) zx.1 zx.2 zx) (by omega)
      have wf : ∀ a i, ¬ (a = 198 ∧ i = 1) → rd (wr u 198 1 (zxor (rd u 198 1) (zshl 1 v1))) a i = rd u a i := fun a i n => by rw [rd_wr, if_neg (by omega)]
      have w1 : rd (wr u 198 1 (zxor (rd u 198 1) (zshl 1 v1))) 198 1 = zxor (rd h 198 1) (zshl 1 v1) := by
        rw [rdw_eq, f1 198 1 (by decide) (by decide), gh 198 1 (by decide)]
      generalize wr u 198 1 (zxor (rd u 198 1) (zshl 1 v1)) = w at wI wf w1 ⊢
      have kr : KRJ g w := by
        refine ⟨?_, fun a i n1 n2 n3 n4 => (wf a i (by omega)).trans (f1 a i (by omega) n4)⟩
        unfold kpx at u1 ⊢
        have b : ∀ {b c}, 350 ≤ c → blq g u b c → blq g w b c := fun hc hb i i0 i1 => (wf 198 _ (by omega)).trans (hb i i0 i1)
        rw [wf 182 25 (by decide)]
        have n2 := rF_undos gI.1
        exact ⟨fun z => ⟨(u1.1 z).1, fun k k0 k1 => b (by omega) ((u1.1 z).2.1 k k0 k1), b (by omega) (u1.1 z).2.2⟩, fun z => ⟨(u1.2 z).1, fun k k0 k1 => b (by omega) ((u1.2 z).2.1 k k0 k1), b (by omega) (u1.2 z).2.2⟩⟩
      have lo : ∀ a i, (60 ≤ a ∧ a ≤ 62) → rd w a i = rd g a i := fun a i ha => (wf a i (by omega)).trans (f1 a i (by omega) (by omega))
      have bo : ∀ i, 0 ≤ i → i < 34 → i ≠ 1 → rd w 198 i = rd h 198 i := fun i i0 i1 n => (wf 198 i (by omega)).trans ((f1 198 i (by omega) (by omega)).trans (gh 198 i (by decide)))
      have e2 : rd w 188 2 = rd h 188 2 := (wf 188 2 (by decide)).trans ((f1 188 2 (by decide) (by decide)).trans (gh 188 2 (by decide)))
      have hp := rq_people hI.1
      have sr : SR w 60 0 := by
        obtain ⟨s1, s2, s3, s4, s5⟩ := hE.2.2.2.2.2.2.2.2.2.2.2.1
        refine ⟨?_, ?_, fun p p0 p1 => ?_, fun d d0 d1 => ?_, fun p p0 p1 => ?_⟩
        · rw [lo 60 0 (by omega), so 60 0 (by omega) (by decide), bo 0 (by decide) (by decide) (by decide)]
          exact s1
        · rw [lo 60 1 (by omega), sx, s2]
          exact w1.symm
        · rw [e2] at p1
          rw [lo _ _ (by omega), lo 60 3 (by omega), lo 60 2 (by omega), so _ _ (by omega) (by omega), so 60 3 (by omega) (by decide), so 60 2 (by omega) (by decide), bo _ (by omega) (by omega) (by omega), bo _ (by omega) (by omega) (by omega), bo _ (by omega) (by omega) (by omega)]
          exact s3 p p0 p1
        · rw [lo _ _ (by omega), so _ _ (by omega) (by omega), bo _ (by omega) (by omega) (by omega)]
          exact s4 d d0 d1
        · rw [e2] at p0
          rw [lo 60 3 (by omega), so 60 3 (by omega) (by decide)]
          exact s5 p p0 p1
      exact k w wI (EQL_keep hI hE kc kr sr)
    exact B_shut_0 (RF_of gI.1) (by omega) ⟨fun c => by omega, fun c => ⟨fun c2 => by omega, fun c2 => ⟨fun c3 => ⟨fun c4 => go, fun c4 => by omega⟩, fun c3 => ⟨fun c4 => go, fun c4 => by omega⟩⟩⟩⟩
end SCe
end
section
/-! the scene, part sf: undo, go -/
/-- undo -/
def undJ (h g : LH) (r : Int) : Prop := (rd h 1 9 = 0 ∧ r = 0 ∧ samP h g) ∨ (rd h 1 9 ≠ 0 ∧ r = 1 ∧ rd g 1 9 = rd h 1 9 - 1 ∧ scq h g (134 + 3 * ((rd h 1 8 + (rd h 1 9 - 1)) % 16)) 60 ∧ ∀ a i, ¬ scp 60 a i → ¬ (a = 1 ∧ i = 9) → rd g a i = rd h a i)
section SCf
variable {xs : Nat → Int} {xl e : Nat} {h g g' : LH} {Q : Option LV → LH → Prop} {v1 v2 r q c d b b' p : Int} {L : List Int}
theorem scq_hi (hs : scq h g d c) (f : ∀ a i, scp d a i → rd h a i = rd g' a i) : scq g' g d c :=
  ⟨fun i i0 i1 => (hs.1 i i0 i1).trans (f _ _ (Or.inl ⟨rfl, i0, i1⟩)), fun i i0 i1 => (hs.2.1 i i0 i1).trans (f _ _ (Or.inr (Or.inl ⟨rfl, i0, i1⟩))), fun i i0 i1 => (hs.2.2 i i0 i1).trans (f _ _ (Or.inr (Or.inr ⟨rfl, i0, i1⟩)))⟩
theorem kpx_r (hk : kpx h g) (n0 : 0 ≤ rd h 182 25 ∧ rd h 182 25 ≤ 16) (e : ∀ i, 350 ≤ i → i ≤ 1433 → rd g' 198 i = rd g 198 i) (e2 : rd g' 182 25 = rd g 182 25) : kpx h g' := by
  unfold kpx at hk ⊢
  rw [e2]
  have b : ∀ {b c : Int}, 350 ≤ c → c ≤ 1400 → blq h g b c → blq h g' b c := fun h1 h2 hb i i0 i1 => (e _ (by omega) (by omega)).trans (hb i i0 i1)
  exact ⟨fun z => ⟨(hk.1 z).1, fun k k0 k1 => b (by omega) (by omega) ((hk.1 z).2.1 k k0 k1), b (by omega) (by omega) (hk.1 z).2.2⟩, fun z => ⟨(hk.2 z).1, fun k k0 k1 => b (by omega) (by omega) ((hk.2 z).2.1 k k0 k1), b (by decide) (by decide) (hk.2 z).2.2⟩⟩
theorem kpx_l2 (hk : kpx g g') (n0 : 0 ≤ rd h 182 25 ∧ rd h 182 25 ≤ 16) (e : ∀ i, 0 ≤ i → i ≤ 1433 → rd g 198 i = rd h 198 i) (e2 : rd g 182 25 = rd h 182 25) : kpx h g' := by
  unfold kpx at hk ⊢
  rw [e2] at hk
  have b : ∀ {b c : Int}, 0 ≤ b → b ≤ 1400 → blq g g' b c → blq h g' b c := fun h1 h2 hb i i0 i1 => (hb i i0 i1).trans (e _ (by omega) (by omega))
  exact ⟨fun z => ⟨(hk.1 z).1, fun k k0 k1 => b (by omega) (by omega) ((hk.1 z).2.1 k k0 k1), b (by decide) (by decide) (hk.1 z).2.2⟩, fun z => ⟨(hk.2 z).1, fun k k0 k1 => b (by omega) (by omega) ((hk.2 z).2.1 k k0 k1), b (by decide) (by decide) (hk.2 z).2.2⟩⟩
theorem E_undoS (he : 8 ≤ e) (hI : INV h) (hE : EQL h) (k : ∀ r g, INV g → undJ h g r → Q (some (.inl r)) g) : Rn xs xl e mm_OneSided_undo 0 [some (.inr (.inr 1))] [] h Q := by
  obtain ⟨-, -, -, -, -, -, -, ⟨-, -, -, -, -, k6, -, k8⟩⟩ := hE
  obtain ⟨o1, n1, -, -⟩ := k6
  have A : Rn xs xl e mm_OneSided_undo 0 [some (.inr (.inr 1))] [] h (fun r g => ∃ x, r = some (.inl x) ∧ undJ h g x) := by
    by_cases z : rd h 1 9 = 0
    · exact B_OneSided_undo_0 (sd := 134 + 3 * 0) (scn_past (by decide) (by decide)) (by decide) (RF_of hI.1) ⟨fun c => absurd z c, fun _ => ⟨0, rfl, Or.inl ⟨z, rfl, fun _ _ => rfl⟩⟩⟩
    · have ez := zfm16' (a := rd h 1 8 + (rd h 1 9 - 1)) (by omega) (by omega)
      generalize er : (rd h 1 8 + (rd h 1 9 - 1)) % 16 = ρ at ez
      have hr : 0 ≤ ρ ∧ ρ < 16 := by omega
      have sr := scn_past hr.1 hr.2
      refine B_OneSided_undo_0 (sd := 134 + 3 * ρ) sr (by omega) (RF_of hI.1) ⟨fun _ => ⟨by omega, by omega, by omega, ?_, 0, by omega, F_scopy scn_60 (by decide) sr (by omega) (RF_18 (RF_of hI.1) (Or.inr rfl)) (fun g gq gf gF => B_OneSided_undo_48 gF ⟨1, rfl, Or.inr ⟨z, rfl, ?_, ?_, fun a i n1 n2 => ?_⟩⟩)⟩, fun c => absurd c z⟩
      · rw [ez]
        exact k8 ρ hr.1 hr.2
      · rw [gf 1 9 (by unfold scp; omega), rdw_eq]
      · rw [er]
        exact scq_hi gq (fun a i ha => rdw_ne (by unfold scp at ha; omega))
      · rw [gf a i n1, rd_wr, if_neg (by omega)]
  have B : Rn xs xl e mm_OneSided_undo 0 [some (.inr (.inr 1))] [] h (fun r g => INV g) := use_sm TC_undo (as := [.inr (.inr 1)]) rfl (Nat.le_trans (Nat.le_of_ble_eq_true rfl) he) hI (gAr_c (g_ref 1) gAr_n) rfl (Nat.le_of_ble_eq_true rfl) rfl (fun r g gI gf gq => gI)
  refine (A.and B).mono (fun r g z => ?_)
  obtain ⟨⟨x, rfl, a⟩, b⟩ := z
  exact k x g b a
theorem G_undoX (he : 1 ≤ e) (hI : INV h) (k0 : rd h 182 25 = 0 → Q (some (.inl 0)) (wr h 182 0 0)) (k1 : rd h 182 25 ≠ 0 → ∀ g, rd g 182 25 = rd h 182 25 - 1 → blq h g (70 * (rd h 182 25 - 1) + 350) 0 → (∀ a i, ¬ (a = 198 ∧ 0 ≤ i ∧ i < 34) → ¬ (a = 182 ∧ (i = 25 ∨ i = 0)) → rd g a i = rd h a i) → Q (some (.inl 1)) g) : Rn xs xl e mm_undo 0 [some (.inr (.inr 182))] [] h Q := by
  have i0 : INV (wr h 182 0 0) := wF_thrown hI (by omega) (by omega)
  have n0 := rF_undos hI.1
  refine B_undo_0 (RF_of hI.1) ⟨fun c => ⟨by omega, by omega, by omega, 0, by omega, ?_⟩, fun c => k0 c⟩
  have r1 := wu i0.1 (v := rd h 182 25 - 1) (by omega) (by omega)
  have f1 : ∀ a i, ¬ (a = 182 ∧ (i = 25 ∨ i = 0)) → rd (wr (wr h 182 0 0) 182 25 (rd h 182 25 - 1)) a i = rd h a i := fun a i n => by
    rw [rd_wr, if_neg (by omega), rd_wr, if_neg (by omega)]
  have e1 : rd (wr (wr h 182 0 0) 182 25 (rd h 182 25 - 1)) 182 25 = rd h 182 25 - 1 := rdw_eq
  generalize wr (wr h 182 0 0) 182 25 (rd h 182 25 - 1) = g at *
  refine D_copies r1 (by omega) (by omega) (by omega) (fun u ur uf uc => B_undo_40 (RF_of ur) (k1 c u ((uf 182 25 (by omega)).trans e1) (fun i i0 i1 => (uc i i0 i1).trans (f1 198 _ (by omega))) (fun a i m1 m2 => (uf a i (by omega)).trans (f1 a i m2))))
theorem G_undoS (he : 8 ≤ e) (hI : INV h) (hE : EQL h) (gI : INV g) (hj : undJ h g r) (k : ∀ g', INV g' → EQL g' → Q (some (.inl r)) g') : Rn xs xl e mm_undo 0 [some (.inr (.inr 182))] [] g Q := by
  obtain ⟨-, -, -, -, -, -, m, ⟨k1, k2, k3, k4, k5, k6, k7, k8⟩⟩ := id hE
  obtain ⟨o1, n1, e1, ks⟩ := id k6
  have hp := rq_people hI.1
  rcases hj with ⟨z, rfl, sm⟩ | ⟨z, rfl, e9, sc, fr⟩
  · obtain ⟨i1, e2⟩ := thr gI (EQL_sam hI hE sm)
    have e3 := sm 182 25
    exact G_undoX (by omega) gI (fun _ => k _ i1 e2) (fun c => absurd (by omega) c)
  · have gh : ∀ a i, 182 ≤ a → rd g a i = rd h a i := fun a i n => fr a i (by unfold scp; omega) (by omega)
    have ne : rd g 182 25 = rd h 1 9 := (gh 182 25 (by decide)).trans e1
    have A : Rn xs xl e mm_undo 0 [some (.inr (.inr 182))] [] g (fun q g' => q = some (.inl 1) ∧ rd g' 182 25 = rd h 1 9 - 1 ∧ blq g g' (70 * (rd h 1 9 - 1) + 350) 0 ∧ (∀ a i, ¬ (a = 198 ∧ 0 ≤ i ∧ i < 34) → ¬ (a = 182 ∧ (i = 25 ∨ i = 0)) → rd g' a i = rd g a i)) := G_undoX (by omega) gI (fun c => absurd (ne.symm.trans c) z) (fun _ g' a b c => by
      rw [ne] at a b
      exact ⟨rfl, a, b, c⟩)
    have B : Rn xs xl e mm_undo 0 [some (.inr (.inr 182))] [] g (fun q g' => INV g') := D_undo (by omega) gI (fun r g' a _ => a)
    refine (A.and B).mono (fun q g' y => ?_)
    obtain ⟨⟨rfl, a1, a2, a3⟩, gI'⟩ := y
    clear A B
    have lo : ∀ a i, a < 182 → rd g' a i = rd g a i := fun a i n => a3 a i (by omega) (by omega)
    have cl : ∀ a i, ¬ scp 60 a i → ¬ (a = 1 ∧ i = 9) → a < 182 → rd g' a i = rd h a i := fun a i n1 n2 n3 => (lo a i n3).trans (fr a i n1 n2)
    have rl : ∀ a i, 182 ≤ a → ¬ (a = 198 ∧ 0 ≤ i ∧ i < 34) → ¬ (a = 182 ∧ (i = 25 ∨ i = 0)) → rd g' a i = rd h a i := fun a i n1 n2 n3 => (a3 a i n2 n3).trans (gh a i n1)
    have t2 : rd g' 188 2 = rd h 188 2 := rl 188 2 (by decide) (by decide) (by decide)
    have r16 : 0 ≤ (rd h 1 8 + (rd h 1 9 - 1)) % 16 ∧ (rd h 1 8 + (rd h 1 9 - 1)) % 16 < 16 := by omega
    have sc' : scq h g' (134 + 3 * ((rd h 1 8 + (rd h 1 9 - 1)) % 16)) 60 := scq_lo sc (fun a i ha => lo a i (scp_lt (by decide) ha))
    have bl' : blq h g' (70 * (rd h 1 9 - 1) + 350) 0 := fun i i0 i1 => (a2 i i0 i1).trans (gh 198 _ (by decide))
    have sr : SR g' 60 0 := SR_mv (ks (rd h 1 9 - 1) (by omega) (by omega)) sc' bl' t2 hp
    have un : UN g' := by
      have e8 : rd g' 1 8 = rd h 1 8 := cl 1 8 (by unfold scp; omega) (by decide) (by decide)
      have e9' : rd g' 1 9 = rd h 1 9 - 1 := (lo 1 9 (by decide)).trans e9
      unfold UN
      rw [e8, e9']
      exact ⟨o1, by omega, a1, fun k k0 k1 => SR_fr (ks k k0 (by omega)) (fun a i ha => cl a i (by unfold scp; omega) (by omega) (by omega)) (fun i i0 i1 => rl 198 i (by decide) (by omega) (by omega)) t2 hp⟩
    have ms : MKS g' := MKS_fr hp k7 t2 (fun i => rl 199 i (by decide) (by omega) (by omega)) (fun m m0 m1 a i h1 h2 => cl a i (by unfold scp; omega) (by omega) (by omega)) (fun i i0 i1 => rl 198 i (by decide) (by omega) (by omega))
    have sto : ∀ a i, stt a i → rd g' a i = rd h a i := fun a i ha => by
      unfold stt at ha
      by_cases y : a < 182
      · exact cl a i (by unfold scp; omega) (by omega) y
      · exact rl a i (by omega) (by omega) (by omega)
    exact k g' gI' (EQL_mk hI hE (cl 2 0 (by unfold scp; omega) (by decide) (by decide)) (rl 182 2 (by decide) (by decide) (by decide)) sto (MKR_fr m (cl 1 6 (by unfold scp; omega) (by decide) (by decide)) (fun a i ha => by
      rcases ha with rfl | rfl
      · exact cl 75 i (by unfold scp; omega) (by omega) (by decide)
      · exact rl 199 i (by decide) (by omega) (by omega))) sr un ms)
/-- one can go -/
def goC (h : LH) (p d : Int) : Prop := (0 ≤ p ∧ p < rd h 188 2) ∧ (0 ≤ d ∧ d < rd h 188 1) ∧ 0 ≤ goF h 0 p d
theorem goF_eq (e1 : key g = key h) (e2 : ∀ i, 0 ≤ i → i < 34 → rd g 198 (b' + i) = rd h 198 (b + i)) (e3 : ∀ i, rd g 188 i = rd h 188 i) (hp : 0 ≤ p ∧ p ≤ 5) (hd : 0 ≤ d ∧ d ≤ 13) : goF g b' p d = goF h b p d := by
  have z0 : rd g 198 b' = rd h 198 b := by
    have := e2 0 (by decide) (by decide)
    rw [Int.add_zero, Int.add_zero] at this
    exact this
  have z1 : rd g 198 (b' + 1) = rd h 198 (b + 1) := e2 1 (by decide) (by decide)
  have z2 : rd g 198 (b' + p + 2) = rd h 198 (b + p + 2) := by
    have := e2 (p + 2) (by omega) (by omega)
    rw [show b' + (p + 2) = b' + p + 2 by omega, show b + (p + 2) = b + p + 2 by omega] at this
    exact this
  have z3 : rd g 198 (b' + p + 14) = rd h 198 (b + p + 14) := by
    have := e2 (p + 14) (by omega) (by omega)
    rw [show b' + (p + 14) = b' + p + 14 by omega, show b + (p + 14) = b + p + 14 by omega] at this
    exact this
  have z4 : rd g 198 (b' + d + 20) = rd h 198 (b + d + 20) := by
    have := e2 (d + 20) (by omega) (by omega)
    rw [show b' + (d + 20) = b' + d + 20 by omega, show b + (d + 20) = b + d + 20 by omega] at this
    exact this
  unfold goF
  rw [e1, z0, z1, z2, z3, z4, e3, e3]
theorem goF_in (hI : INV h) (b0 : b % 70 = 0) (hb : 0 ≤ b ∧ b ≤ 1540) (hp : 0 ≤ p ∧ p ≤ 5) (hd : 0 ≤ d ∧ d ≤ 13) : -1 ≤ goF h b p d ∧ goF h b p d ≤ 9 := by
  have qs := rq_p0 hI.1 (i := 4 * p + 116) (d := p) (by omega) (by omega) (by omega)
  have qr := rs_where hI.1 (i := b + p + 2) b p (by omega) (by omega) (by omega) (by omega) (by omega) (by omega)
  have qh := rs_now hI.1 (i := b) b 0 (by omega) (by omega) (by omega) (by omega) (by omega) (by omega)
  unfold goF
  split
  · exact (NW_ok (key h) (rd h 198 (b + 1)) hd qs qr (by omega)).1
  · omega
theorem G_goesI (he : 5 ≤ e) (hI : INV h) (hb : b = 0 ∨ b = 1470 ∨ b = 1540) (hp : 0 ≤ p ∧ p ≤ 5) (hd : 0 ≤ d ∧ d ≤ 13) (hdoor : b = 0 → d < rd h 188 1) (hct : 0 ≤ rd h 198 (b + d + 20) ∧ rd h 198 (b + d + 20) ≤ 100000) (k0 : goF h b p d = -1 → ∀ g, INV g → frL h g → Q (some (.inl (-1))) g) (k1 : 0 ≤ goF h b p d → ∀ g, INV g → gone b p d (goF h b p d) h g → Q (some (.inl (goF h b p d))) g) : Rn xs xl e mm_goes 0 [some (.inr (.inr 182)), some (.inl b), some (.inl p), some (.inl d), none] [] h Q := by
  have qs := rq_p0 hI.1 (i := 4 * p + 116) (d := p) (by omega) (by omega) (by omega)
  have qr := rs_where hI.1 (i := b + p + 2) b p (by omega) (by omega) (by omega) (by omega) (by omega) (by omega)
  have qh := rs_now hI.1 (i := b) b 0 (by omega) (by omega) (by omega) (by omega) (by omega) (by omega)
  have A : Rn xs xl e mm_goes 0 [some (.inr (.inr 182)), some (.inl b), some (.inl p), some (.inl d), none] [] h (fun q g => (goF h b p d = -1 ∧ q = some (.inl (-1)) ∧ frL h g) ∨ (0 ≤ goF h b p d ∧ q = some (.inl (goF h b p d)) ∧ gone b p d (goF h b p d) h g)) := G_goes he hI (by omega) hp hd qs qr (by omega) hct (goF_in hI (by omega) (by omega) hp hd) (fun z g gf => Or.inl ⟨z, rfl, gf⟩) (fun z g gg => Or.inr ⟨z, rfl, gg⟩)
  have B : Rn xs xl e mm_goes 0 [some (.inr (.inr 182)), some (.inl b), some (.inl p), some (.inl d), none] [] h (fun q g => INV g) := D_goes he hI hb hp hd hdoor (fun r g gI _ _ _ _ => gI)
  refine (A.and B).mono (fun q g z => ?_)
  obtain ⟨⟨z, rfl, gf⟩ | ⟨z, rfl, gg⟩, gI⟩ := z
  · exact k0 z g gI gf
  · exact k1 z g gI gg
theorem gone_W (hg : gone b p d r h g) : wntR b p d r h g := by
  obtain ⟨a1, a2, a3, a4, a5⟩ := hg
  exact ⟨a1, a2, a3, a4, fun i _ _ n => a5 198 i (by decide) (by decide) (fun z => n z.2)⟩
theorem key_frs (f : ∀ a i, 188 ≤ a → a ≤ 190 → rd g a i = rd h a i) (f2 : ∀ i, 28 ≤ i → i ≤ 31 → rd g 182 i = rd h 182 i) : key g = key h := by
  unfold key
  rw [show rd g 188 = rd h 188 from funext (fun j => f _ _ (by decide) (by decide)), show rd g 189 = rd h 189 from funext (fun j => f _ _ (by decide) (by decide)), show rd g 190 = rd h 190 from funext (fun j => f _ _ (by decide) (by decide)), f2 28 (by decide) (by decide), f2 29 (by decide) (by decide), f2 30 (by decide) (by decide), f2 31 (by decide) (by decide)]
/-- the reference's go: it can't be, or it has gone once all was kept -/
theorem G_goX (he : 6 ≤ e) (hI : INV h) (hct : ∀ d, 0 ≤ d → d < 14 → 0 ≤ rd h 198 (d + 20) ∧ rd h 198 (d + 20) ≤ 9) (k0 : ¬ goC h v1 v2 → ∀ g, INV g → (∀ a i, a ≠ 196 → a ≠ 197 → ¬ (a = 198 ∧ 1470 ≤ i) → ¬ (a = 182 ∧ i = 0) → rd g a i = rd h a i) → Q (some (.inl (-1))) g) (k1 : goC h v1 v2 → ∀ g, INV g → kpx h g → wntR 0 v1 v2 (goF h 0 v1 v2) h g → (∀ a i, a ≠ 196 → a ≠ 197 → ¬ (a = 198 ∧ ((0 ≤ i ∧ i < 34) ∨ 350 ≤ i)) → ¬ (a = 182 ∧ (i = 0 ∨ i = 25)) → rd g a i = rd h a i) → Q (some (.inl (goF h 0 v1 v2))) g) : Rn xs xl e mm_go 0 [some (.inr (.inr 182)), some (.inl v1), some (.inl v2)] [] h Q := by
  have i0 : INV (wr h 182 0 0) := wF_thrown hI (by omega) (by omega)
  have f0 : ∀ a i, ¬ (a = 182 ∧ i = 0) → rd (wr h 182 0 0) a i = rd h a i := fun a i n => by
    rw [rd_wr, if_neg (by omega)]
  have wrong : ¬ goC h v1 v2 → Q (some (.inl (-1))) (wr h 182 0 0) := fun z => k0 z _ i0 (fun a i _ _ _ n => f0 a i n)
  have np := rq_people hI.1
  have nd := rq_doors hI.1
  have nu := rF_undos hI.1
  refine B_go_0 (RF_of hI.1) (by omega) ⟨fun c => wrong (fun z => by have := z.1; omega), fun c1 => ⟨fun c => wrong (fun z => by have := z.1; omega), fun c2 => ⟨fun c => wrong (fun z => by have := z.2.1; omega), fun c3 => ⟨fun c => wrong (fun z => by have := z.2.1; omega), fun c4 => ⟨0, by omega, ?_⟩⟩⟩⟩⟩
  refine D_copies i0.1 (by omega) (by omega) (by omega) (fun u ur uf uc => ?_)
  have uI : INV u := INV_far i0 ur (fun a i n _ _ => uf a i (by omega))
  have fu : ∀ a i, ¬ (a = 198 ∧ 1470 ≤ i) → ¬ (a = 182 ∧ i = 0) → rd u a i = rd h a i := fun a i n1 n2 => (uf a i (by omega)).trans (f0 a i n2)
  have ku : key u = key h := key_frs (fun a i a0 a1 => fu a i (by omega) (by omega)) (fun i a0 a1 => fu 182 i (by omega) (by omega))
  have gu : goF u 1470 v1 v2 = goF h 0 v1 v2 := goF_eq ku (fun i i0 i1 => (uc i i0 i1).trans (f0 198 _ (by omega))) (fun i => fu 188 i (by omega) (by omega)) (by omega) (by omega)
  have ct : 0 ≤ rd u 198 (1470 + v2 + 20) ∧ rd u 198 (1470 + v2 + 20) ≤ 100000 := by
    have y := (uc (v2 + 20) (by omega) (by omega)).trans (f0 198 _ (by omega))
    rw [show (1470 : Int) + (v2 + 20) = 1470 + v2 + 20 by omega, Int.zero_add] at y
    have := hct v2 (by omega) (by omega)
    omega
  refine B_go_33 (RF_of ur) ⟨5, by omega, G_goesI (by omega) uI (by omega) (by omega) (by omega) (fun z => absurd z (by decide)) ct (fun z g gI gf => ?_) (fun z g gI gg => ?_)⟩
  · rw [gu] at z
    exact B_go_42 (RF_of gI.1) ⟨fun y => absurd y (by decide), fun _ => k0 (fun y => by have := y.2.2; omega) g gI (fun a i n1 n2 n3 n4 => (gf a i n1 n2).trans (fu a i n3 n4))⟩
  · rw [gu] at z gg ⊢
    have fg : ∀ a i, a ≠ 196 → a ≠ 197 → ¬ (a = 198 ∧ 1470 ≤ i) → ¬ (a = 182 ∧ i = 0) → rd g a i = rd h a i := fun a i n1 n2 n3 n4 => (gg.2.2.2.2 a i n1 n2 (by omega)).trans (fu a i n3 n4)
    refine B_go_42 (RF_of gI.1) ⟨fun _ => ⟨1, by omega, G_keepsX (by omega) gI (fun w wI wf wx => ?_)⟩, fun y => absurd y (by omega)⟩
    have fw : ∀ a i, a ≠ 196 → a ≠ 197 → ¬ (a = 198 ∧ 350 ≤ i) → ¬ (a = 182 ∧ (i = 0 ∨ i = 25)) → rd w a i = rd h a i := fun a i n1 n2 n3 n4 => (wf a i (by omega) (by omega)).trans (fg a i n1 n2 (by omega) (by omega))
    have kw : kpx h w := kpx_l2 wx nu (fun i i0 i1 => fg 198 i (by decide) (by decide) (by omega) (by omega)) (fg 182 25 (by decide) (by decide) (by decide) (by decide))
    have ekw : key w = key h := key_frs (fun a i a0 a1 => fw a i (by omega) (by omega) (by omega) (by omega)) (fun i a0 a1 => fw 182 i (by omega) (by omega) (by omega) (by omega))
    have gw : goF w 0 v1 v2 = goF h 0 v1 v2 := goF_eq ekw (fun i i0 i1 => fw 198 _ (by decide) (by decide) (by omega) (by omega)) (fun i => fw 188 i (by decide) (by decide) (by omega) (by omega)) (by omega) (by omega)
    have ctw : 0 ≤ rd w 198 (0 + v2 + 20) ∧ rd w 198 (0 + v2 + 20) ≤ 100000 := by
      rw [fw 198 _ (by decide) (by decide) (by omega) (by omega), Int.zero_add]
      have := hct v2 (by omega) (by omega)
      omega
    refine B_go_51 (RF_of wI.1) ⟨5, by omega, G_goesI (by omega) wI (by omega) (by omega) (by omega) (fun _ => by rw [fw 188 1 (by decide) (by decide) (by decide) (by decide)]; exact c4) ctw (fun y => absurd y (by omega)) (fun y x xI xg => ?_)⟩
    rw [gw] at xg ⊢
    have xf := xg.2.2.2.2
    have xw := gone_W xg
    refine B_go_58 (RF_of xI.1) (k1 ⟨⟨c1, c2⟩, ⟨c3, c4⟩, z⟩ x xI (kpx_r kw nu (fun i i0 i1 => xf 198 i (by decide) (by decide) (by omega)) (xf 182 25 (by decide) (by decide) (by omega))) ?_ (fun a i n1 n2 n3 n4 => (xf a i n1 n2 (by omega)).trans (fw a i n1 n2 (by omega) n4)))
    obtain ⟨w1, w2, w3, w4, w5⟩ := xw
    refine ⟨w1, w2, ?_, ?_, fun i i0 i1 n => (w5 i i0 i1 n).trans (fw 198 i (by decide) (by decide) (by omega) (by omega))⟩
    · rw [w3, fw 198 _ (by decide) (by decide) (by omega) (by omega)]
    · rw [w4, fw 188 _ (by decide) (by decide) (by omega) (by omega), fw 198 _ (by decide) (by decide) (by omega) (by omega)]
end SCf
end
