/-! marks and walks, part m1: the class's quarter and its marks -/
section MB
variable {xs : Nat → Int} {xl e : Nat} {h : LH} {Q : Option LV → LH → Prop} {T : Int → Int} {n : Int} {W : Int → Int} {q t : Int}
theorem K_readQuarterM (he : 39 ≤ e) (hq : q = 5 ∨ q = 32) (hI : INV h) (k : ∀ r h', INV h' → rd h' 1 6 = rd h 1 6 → Q r h') : Rn xs xl e mm_Reader_readQuarter 0 [some (.inr (.inr 2)), some (.inr (.inr q)), none] [] h Q := by
  rcases hq with rfl | rfl
  · exact use_sm (tabC (j := 72) rfl) (as := [.inr (.inr 2), .inr (.inr 5)]) rfl he hI (gAr_c (g_ref 2) (gAr_c (g_ref 5) gAr_n)) rfl (Nat.le_of_ble_eq_true rfl) rfl (fun r h' i' f q => k r h' i' (f 1 6 (by decide +kernel)))
  · exact use_sm (tabC (j := 117) rfl) (as := [.inr (.inr 2), .inr (.inr 32)]) rfl he hI (gAr_c (g_ref 2) (gAr_c (g_ref 32) gAr_n)) rfl (Nat.le_of_ble_eq_true rfl) rfl (fun r h' i' f q => k r h' i' (f 1 6 (by decide +kernel)))
theorem E_quarterM (he : 42 ≤ e) (hI : INV h) (hP : PT h) (hT : TP T n h) (hW : rd h 4 = W) (k : ∀ h', ((qF (tO T n) (tV T n 32) (tW T n 32 W) (tP T n)).1.1 ≠ 0 → rd h' 1 6 = rd h 1 6) → ((qF (tO T n) (tV T n 32) (tW T n 32 W) (tP T n)).1.1 = 0 → rd h' 1 6 = 0) → Q (some (.inl (qF (tO T n) (tV T n 32) (tW T n 32 W) (tP T n)).1.1)) h') : Rn xs xl e mm_OneSided_quarter 0 [some (.inr (.inr 1)), none, none] [] h Q := by
  generalize eF : (qF (tO T n) (tV T n 32) (tW T n 32 W) (tP T n)).1.1 = F at k
  have A : Rn xs xl 41 mm_Reader_readQuarter 0 [some (.inr (.inr 2)), some (.inr (.inr (rd h 1 ((2 : Nat) : Int)))), none] [] h (fun r g => r = some (.inl F)) := F_readQuarter (by omega) (rSf hI.1) hP ⟨RF_of hI.1, hT, hW⟩ (fun h' => by rw [eF])
  have B : Rn xs xl 41 mm_Reader_readQuarter 0 [some (.inr (.inr 2)), some (.inr (.inr (rd h 1 ((2 : Nat) : Int)))), none] [] h (fun r g => INV g ∧ rd g 1 6 = rd h 1 6) := K_readQuarterM (by omega) (rSf hI.1) hI (fun r h' i' m' => ⟨i', m'⟩)
  refine B_OneSided_quarter_0 (rSf hI.1) (rQf hI.1) rfl rfl (RF_of hI.1) ⟨41, by omega, (A.and B).mono (fun r g q => ?_)⟩
  obtain ⟨rfl, gI, gM⟩ := q
  refine B_OneSided_quarter_11 (rSf gI.1) (rQf gI.1) rfl rfl (RF_of gI.1) ⟨fun z => ?_, fun z => k g (fun _ => gM) (fun z2 => absurd z2 z)⟩
  rw [z] at k
  have i1 := wQ_1 (wQ_2 gI (rQf gI.1)) (rSf gI.1)
  refine B_OneSided_quarter_18 (rSf gI.1) (rQf gI.1) rfl rfl (RF_of gI.1) ⟨6, by omega, K_settle (by omega) (rSf gI.1) i1 (fun g2 i2 => ?_)⟩
  refine B_OneSided_quarter_43 (rSf i2.1) (rQf i2.1) rfl rfl (RF_of i2.1) ⟨3, by omega, K_begin (by omega) (rQf i2.1) i2 (fun g3 i3 => ?_)⟩
  exact B_OneSided_quarter_54 (rSf i3.1) (rQf i3.1) rfl rfl (RF_of i3.1) (k _ (fun z2 => absurd rfl z2) (fun _ => (rdw_nei (by decide)).trans rdw_eq))
end MB
