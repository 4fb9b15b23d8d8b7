/-! p3, part e2: the class's quarter() answers the text's fault -/
section EA
variable {xs : Nat → Int} {xl e : Nat} {h : LH} {Q : Option LV → LH → Prop} {T : Int → Int} {n : Int} {W : Int → Int} {q t : Int}
theorem rSf {h : LH} (hr : RNG h) : rd h 1 ((2 : Nat) : Int) = 5 ∨ rd h 1 ((2 : Nat) : Int) = 32 := by
  have g := hr 1 2 (vB_ok (by decide +kernel))
  have e : hval h 1 2 = .inr (.inr (rd h 1 2)) := by
    unfold hval
    rw [show lkd 1 2 = 2 by decide +kernel]
    rfl
  rw [e, show hav 1 2 = (2, 5, 32, 27) by decide +kernel] at g
  have a : 5 ≤ rd h 1 2 := g.2.1
  have b : rd h 1 2 ≤ 32 := g.2.2.1
  have c : (27 : Int) ∣ (rd h 1 2 - 5) := g.2.2.2
  show rd h 1 2 = 5 ∨ rd h 1 2 = 32
  omega
theorem g_527 {v : Int} (hv : v = 5 ∨ v = 32) : gV (2, 5, 32, 27) (.inr (.inr v)) := by
  rcases hv with rfl | rfl
  · exact ⟨rfl, by decide, by decide, by show (27 : Int) ∣ 5 - 5; decide⟩
  · exact ⟨rfl, by decide, by decide, by show (27 : Int) ∣ 32 - 5; decide⟩
theorem wQ_1 {v : Int} (hI : INV h) (hv : v = 5 ∨ v = 32) : INV (wr h 1 1 v) := by
  refine INV_wr hI (by unfold sens; omega) ?_
  rw [show hav 1 1 = (2, 5, 32, 27) by decide +kernel, show lkd 1 1 = 2 by decide +kernel]
  exact g_527 hv
theorem wQ_2 {v : Int} (hI : INV h) (hv : v = 5 ∨ v = 32) : INV (wr h 1 2 v) := by
  refine INV_wr hI (by unfold sens; omega) ?_
  rw [show hav 1 2 = (2, 5, 32, 27) by decide +kernel, show lkd 1 2 = 2 by decide +kernel]
  exact g_527 hv
theorem K_readQuarter (he : 39 ≤ e) (hq : q = 5 ∨ q = 32) (hI : INV h) (k : ∀ r h', INV h' → Q r h') : Rn xs xl e mm_Reader_readQuarter 0 [some (.inr (.inr 2)), some (.inr (.inr q)), none] [] h Q := by
  rcases hq with rfl | rfl
  · exact use_sm (tabC (j := 72) rfl) (as := [.inr (.inr 2), .inr (.inr 5)]) rfl he hI (gAr_c (g_ref 2) (gAr_c (g_ref 5) gAr_n)) rfl (Nat.le_of_ble_eq_true rfl) rfl (fun r h' i' f q => k r h' i')
  · exact use_sm (tabC (j := 117) rfl) (as := [.inr (.inr 2), .inr (.inr 32)]) rfl he hI (gAr_c (g_ref 2) (gAr_c (g_ref 32) gAr_n)) rfl (Nat.le_of_ble_eq_true rfl) rfl (fun r h' i' f q => k r h' i')
theorem K_settle (he : 6 ≤ e) (hq : q = 5 ∨ q = 32) (hI : INV h) (k : ∀ h', INV h' → Q none h') : Rn xs xl e mm_Quarter_settle 0 [some (.inr (.inr q)), none, none] [] h Q := by
  rcases hq with rfl | rfl
  · exact use_sm (tabC (j := 124) rfl) (as := [.inr (.inr 5)]) rfl he hI (gAr_c (g_ref 5) gAr_n) rfl (Nat.le_of_ble_eq_true rfl) rfl (fun r h' i' f q => by rw [res_none q]; exact k h' i')
  · exact use_sm (tabC (j := 129) rfl) (as := [.inr (.inr 32)]) rfl he hI (gAr_c (g_ref 32) gAr_n) rfl (Nat.le_of_ble_eq_true rfl) rfl (fun r h' i' f q => by rw [res_none q]; exact k h' i')
theorem K_begin (he : 3 ≤ e) (hq : q = 5 ∨ q = 32) (hI : INV h) (k : ∀ h', INV h' → Q none h') : Rn xs xl e mm_Memory_begin 0 [some (.inr (.inr 59)), some (.inr (.inr q))] [] h Q := by
  rcases hq with rfl | rfl
  · exact use_sm (tabC (j := 132) rfl) (as := [.inr (.inr 59), .inr (.inr 5)]) rfl he hI (gAr_c (g_ref 59) (gAr_c (g_ref 5) gAr_n)) rfl (Nat.le_of_ble_eq_true rfl) rfl (fun r h' i' f q => by rw [res_none q]; exact k h' i')
  · exact use_sm (tabC (j := 134) rfl) (as := [.inr (.inr 59), .inr (.inr 32)]) rfl he hI (gAr_c (g_ref 59) (gAr_c (g_ref 32) gAr_n)) rfl (Nat.le_of_ble_eq_true rfl) rfl (fun r h' i' f q => by rw [res_none q]; exact k h' i')
theorem E_quarterX (he : 42 ≤ e) (hI : INV h) (hP : PT h) (hT : TP T n h) (hW : rd h 4 = W) (k : ∀ h', Q (some (.inl (qF (tO T n) (tV T n 32) (tW T n 32 W) (tP T n)).1.1)) h') : Rn xs xl e mm_OneSided_quarter 0 [some (.inr (.inr 1)), none, none] [] h Q := by
  generalize eF : (qF (tO T n) (tV T n 32) (tW T n 32 W) (tP T n)).1.1 = F at k
  have A : Rn xs xl 41 mm_Reader_readQuarter 0 [some (.inr (.inr 2)), some (.inr (.inr (rd h 1 ((2 : Nat) : Int)))), none] [] h (fun r g => r = some (.inl F)) := F_readQuarter (by omega) (rSf hI.1) hP ⟨RF_of hI.1, hT, hW⟩ (fun h' => by rw [eF])
  have B : Rn xs xl 41 mm_Reader_readQuarter 0 [some (.inr (.inr 2)), some (.inr (.inr (rd h 1 ((2 : Nat) : Int)))), none] [] h (fun r g => INV g) := K_readQuarter (by omega) (rSf hI.1) hI (fun r h' i' => i')
  refine B_OneSided_quarter_0 (rSf hI.1) (rQf hI.1) rfl rfl (RF_of hI.1) ⟨41, by omega, (A.and B).mono (fun r g q => ?_)⟩
  obtain ⟨rfl, gI⟩ := q
  refine B_OneSided_quarter_11 (rSf gI.1) (rQf gI.1) rfl rfl (RF_of gI.1) ⟨fun z => ?_, fun _ => k g⟩
  rw [z] at k
  have i1 := wQ_1 (wQ_2 gI (rQf gI.1)) (rSf gI.1)
  refine B_OneSided_quarter_18 (rSf gI.1) (rQf gI.1) rfl rfl (RF_of gI.1) ⟨6, by omega, K_settle (by omega) (rSf gI.1) i1 (fun g2 i2 => ?_)⟩
  refine B_OneSided_quarter_43 (rSf i2.1) (rQf i2.1) rfl rfl (RF_of i2.1) ⟨3, by omega, K_begin (by omega) (rQf i2.1) i2 (fun g3 i3 => ?_)⟩
  exact B_OneSided_quarter_54 (rSf i3.1) (rQf i3.1) rfl rfl (RF_of i3.1) (k _)
end EA
