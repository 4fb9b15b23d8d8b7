/-! walks, part w4: the class's quarter, its rooms and walks -/
section WE4
variable {xs : Nat → Int} {xl e : Nat} {h : LH} {Q : Option LV → LH → Prop} {q R t : Int} {T : Int → Int} {n : Int} {W : Int → Int}
theorem K_sbegin (he : 2 ≤ e) (hq : q = 5 ∨ q = 32) (hI : INV h) (k : ∀ h', INV h' → Q none h') : Rn xs xl e mm_Scene_begin 0 [some (.inr (.inr 60)), some (.inr (.inr q)), none, none] [] h Q := by
  rcases hq with rfl | rfl
  · exact use_sm (tabC (j := 131) rfl) (as := [.inr (.inr 60), .inr (.inr 5)]) rfl he hI (gAr_c (g_ref 60) (gAr_c (g_ref 5) gAr_n)) rfl (Nat.le_of_ble_eq_true rfl) rfl (fun r h' i' f q => by rw [res_none q]; exact k h' i')
  · exact use_sm (tabC (j := 133) rfl) (as := [.inr (.inr 60), .inr (.inr 32)]) rfl he hI (gAr_c (g_ref 60) (gAr_c (g_ref 32) gAr_n)) rfl (Nat.le_of_ble_eq_true rfl) rfl (fun r h' i' f q => by rw [res_none q]; exact k h' i')
theorem K_beginW (he : 3 ≤ e) (hq : q = 5 ∨ q = 32) (hI : INV h) (k : ∀ h', INV h' → (∀ a i, a ≠ 2 → ¬ (59 ≤ a ∧ a ≤ 62) → rd h' a i = rd h a i) → rd h' 59 4 = 0 → Q none h') : Rn xs xl e mm_Memory_begin 0 [some (.inr (.inr 59)), some (.inr (.inr q))] [] h Q := by
  have A : Rn xs xl e mm_Memory_begin 0 [some (.inr (.inr 59)), some (.inr (.inr q))] [] h (fun r g => rd g 59 4 = 0) := B_Memory_begin_0 hq (RF_of hI.1) ⟨2, by omega, K_sbegin (by omega) hq hI (fun g gI => B_Memory_begin_8 hq (RF_of gI.1) ((rdw_nei (by decide)).trans rdw_eq))⟩
  have B : Rn xs xl e mm_Memory_begin 0 [some (.inr (.inr 59)), some (.inr (.inr q))] [] h (fun r g => r = none ∧ INV g ∧ (∀ a i, a ≠ 2 → ¬ (59 ≤ a ∧ a ≤ 62) → rd g a i = rd h a i)) := K_beginF he hq hI (fun h' a b => ⟨rfl, a, b⟩)
  refine (A.and B).mono (fun r g z => ?_)
  obtain ⟨a, rfl, b, c⟩ := z
  exact k g b c a
/-- what the class's quarter leaves of rooms and walks -/
theorem E_quarterW (he : 42 ≤ e) (hI : INV h) (hP : PT h) (hT : TP T n h) (hW : rd h 4 = W) (k : ∀ h', ((qF (tO T n) (tV T n 32) (tW T n 32 W) (tP T n)).1.1 ≠ 0 → ∀ a i, a ≠ 2 → ¬ (rd h 1 2 ≤ a ∧ a ≤ rd h 1 2 + 26) → rd h' a i = rd h a i) → ((qF (tO T n) (tV T n 32) (tW T n 32 W) (tP T n)).1.1 = 0 → rd h' 1 1 = rd h 1 2 ∧ rd h' 1 2 = rd h 1 1 ∧ rd h' (rd h 1 2) 0 = qR (tV T n 32) (tW T n 32 W) (tP T n) ∧ rd h' 59 4 = 0 ∧ rd h' 1 6 = 0) → Q (some (.inl (qF (tO T n) (tV T n 32) (tW T n 32 W) (tP T n)).1.1)) h') : Rn xs xl e mm_OneSided_quarter 0 [some (.inr (.inr 1)), none, none] [] h Q := by
  generalize eY : qF (tO T n) (tV T n 32) (tW T n 32 W) (tP T n) = Y at k
  have hS := rSf hI.1
  generalize eq : rd h 1 ((2 : Nat) : Int) = q at hS
  have eq' : rd h 1 2 = q := eq
  have A : Rn xs xl 41 mm_Reader_readQuarter 0 [some (.inr (.inr 2)), some (.inr (.inr q)), none] [] h (fun r g => r = some (.inl Y.1.1) ∧ (Y.1.1 = 0 → DCK T n g q (qR (tV T n 32) (tW T n 32 W) (tP T n)) Y)) := by
    refine F_readQuarterN (by omega) hS hP ⟨RF_of hI.1, hT, hW⟩ ?_
    rw [eY]
    exact fun h' d => ⟨rfl, d⟩
  have B : Rn xs xl 41 mm_Reader_readQuarter 0 [some (.inr (.inr 2)), some (.inr (.inr q)), none] [] h (fun r g => INV g ∧ (∀ a i, a ≠ 2 → ¬ (q ≤ a ∧ a ≤ q + 26) → rd g a i = rd h a i)) := K_readQuarterF (by omega) hS hI (fun r h' i' f' => ⟨i', f'⟩)
  refine B_OneSided_quarter_0 hS (rQf hI.1) eq rfl (RF_of hI.1) ⟨41, by omega, (A.and B).mono (fun r g z => ?_)⟩
  obtain ⟨⟨rfl, gD⟩, gI, gf⟩ := z
  have g2 : rd g 1 ((2 : Nat) : Int) = q := (gf 1 _ (by decide) (by omega)).trans eq
  rw [eq'] at k
  refine B_OneSided_quarter_11 hS (rQf gI.1) g2 rfl (RF_of gI.1) ⟨fun z => ?_, fun z => k g (fun _ => gf) (fun z2 => absurd z2 z)⟩
  have gD' := (gD z).2.1
  have g1 : rd g 1 ((1 : Nat) : Int) = rd h 1 1 := gf 1 _ (by decide) (by omega)
  have i1 := wQ_1 (wQ_2 gI (rQf gI.1)) hS
  refine B_OneSided_quarter_18 hS (rQf gI.1) g2 rfl (RF_of gI.1) ⟨6, by omega, K_settleF (by omega) hS i1 (fun g3 i3 f3 => ?_)⟩
  have e11 : rd g3 1 ((1 : Nat) : Int) = q := (f3 1 _ (by decide) (by omega)).trans rdw_eq
  have e12 : rd g3 1 ((2 : Nat) : Int) = rd h 1 1 := by
    rw [f3 1 _ (by decide) (by omega)]
    exact ((rdw_nei (by decide)).trans rdw_eq).trans g1
  refine B_OneSided_quarter_43 (rSf i3.1) hS rfl e11 (RF_of i3.1) ⟨3, by omega, K_beginW (by omega) hS i3 (fun g4 i4 f4 w4 => ?_)⟩
  refine B_OneSided_quarter_54 (rSf i4.1) (rQf i4.1) rfl rfl (RF_of i4.1) ?_
  have := k (wr (wr g4 1 6 0) 1 9 0) (fun z2 => absurd z z2) (fun _ => ⟨?_, ?_, ?_, ?_, ?_⟩)
  · rw [z] at this; exact this
  · rw [rdw_nei (by decide), rdw_nei (by decide), f4 1 1 (by decide) (by decide)]
    exact e11
  · rw [rdw_nei (by decide), rdw_nei (by decide), f4 1 2 (by decide) (by decide)]
    exact e12
  · rw [rdw_ne (by omega), rdw_ne (by omega), f4 q 0 (by omega) (by omega), f3 q 0 (by omega) (by omega), rdw_ne (by omega), rdw_ne (by omega)]
    exact gD'
  · rw [rdw_ne (by decide), rdw_ne (by decide)]
    exact w4
  · rw [rdw_nei (by decide)]
    exact rdw_eq
/-- both bases give the same rooms -/
theorem qR_same {V : Int → Int} (h1 : n ≤ 1000) (h2 : 0 ≤ n) (hw : SameW W V) (hz : (qF (tO T n) (tV T n 37) (tW T n 37 V) (tP T n)).1.1 = 0) : qR (tV T n 32) (tW T n 32 W) (tP T n) = qR (tV T n 37) (tW T n 37 V) (tP T n) := by
  have hW : tW T n 32 W = tW T n 37 V := funext (fun k => tW_b h1 h2 hw k)
  rw [hW]
  have sm := tV_sm (T := T) h1 h2
  by_cases z : (qA (tO T n) (tV T n 37) (tW T n 37 V) (tP T n)).1 = 0
  · have k := (tkN_ok (tkS_z z) (fun c hc => tkE_p sm.2.2 hc)).2.1
    unfold qR
    exact sm.1 _ (by omega)
  · exfalso
    unfold qF at hz
    rw [qL_stop (fun q => z q.1)] at hz
    exact z hz
end WE4
