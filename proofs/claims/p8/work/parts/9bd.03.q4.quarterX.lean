/-! the quarter as read, part q4: the class's quarter() leaves all that was read -/
section QK4
variable {xs : Nat → Int} {xl e : Nat} {h g g1 : LH} {Q : Option LV → LH → Prop} {q R t : Int} {T : Int → Int} {n : Int} {W : Int → Int}
theorem DCKf_fr {y : QY} (hq : q = 5 ∨ q = 32) (hd : DCKf T n W g q R y) (f : ∀ a i, a = q ∨ a = q + 3 ∨ (q + 7 ≤ a ∧ a ≤ q + 26) → rd g1 a i = rd g a i) : DCKf T n W g1 q R y := by
  obtain ⟨⟨d1, d2, d3, d4, d5⟩, dD, dP⟩ := hd
  have l14 := d1.2.2.1
  refine ⟨⟨NCK_fr d1 (fun a i ha => f a i (by omega)), (f _ _ (by omega)).trans d2, d3, d4, (f _ _ (by omega)).trans d5.1, fun i hi => (f _ _ (by omega)).trans (d5.2 i hi)⟩, dD_same hq dD (fun i j hi => f _ _ (by omega)), dP_same hq dP (fun i j hi => f _ _ (by omega))⟩
/-- what the class's quarter leaves: all that was read -/
theorem E_quarterF (he : 42 ≤ e) (hI : INV h) (hP : PT h) (hT : TP T n h) (hW : rd h 4 = W) (k : ∀ h', ((qF (tO T n) (tV T n 32) (tW T n 32 W) (tP T n)).1.1 ≠ 0 → ∀ a i, a ≠ 2 → ¬ (rd h 1 2 ≤ a ∧ a ≤ rd h 1 2 + 26) → rd h' a i = rd h a i) → ((qF (tO T n) (tV T n 32) (tW T n 32 W) (tP T n)).1.1 = 0 → rd h' 1 1 = rd h 1 2 ∧ rd h' 1 2 = rd h 1 1 ∧ DCKf T n W h' (rd h 1 2) (qR (tV T n 32) (tW T n 32 W) (tP T n)) (qF (tO T n) (tV T n 32) (tW T n 32 W) (tP T n))) → Q (some (.inl (qF (tO T n) (tV T n 32) (tW T n 32 W) (tP T n)).1.1)) h') : Rn xs xl e mm_OneSided_quarter 0 [some (.inr (.inr 1)), none, none] [] h Q := by
  generalize eY : qF (tO T n) (tV T n 32) (tW T n 32 W) (tP T n) = Y at k
  have hS := rSf hI.1
  generalize eq : rd h 1 ((2 : Nat) : Int) = q at hS
  have eq' : rd h 1 2 = q := eq
  have A : Rn xs xl 41 mm_Reader_readQuarter 0 [some (.inr (.inr 2)), some (.inr (.inr q)), none] [] h (fun r g => r = some (.inl Y.1.1) ∧ (Y.1.1 = 0 → DCKf T n W g q (qR (tV T n 32) (tW T n 32 W) (tP T n)) Y)) := by
    refine F_readQuarterF (by omega) hS hP ⟨RF_of hI.1, hT, hW⟩ ?_
    rw [eY]
    exact fun h' d => ⟨rfl, d⟩
  have B : Rn xs xl 41 mm_Reader_readQuarter 0 [some (.inr (.inr 2)), some (.inr (.inr q)), none] [] h (fun r g => INV g ∧ (∀ a i, a ≠ 2 → ¬ (q ≤ a ∧ a ≤ q + 26) → rd g a i = rd h a i)) := K_readQuarterF (by omega) hS hI (fun r h' i' f' => ⟨i', f'⟩)
  refine B_OneSided_quarter_0 hS (rQf hI.1) eq rfl (RF_of hI.1) ⟨41, by omega, (A.and B).mono (fun r g z => ?_)⟩
  obtain ⟨⟨rfl, gD⟩, gI, gf⟩ := z
  have g2 : rd g 1 ((2 : Nat) : Int) = q := (gf 1 _ (by decide) (by omega)).trans eq
  rw [eq'] at k
  refine B_OneSided_quarter_11 hS (rQf gI.1) g2 rfl (RF_of gI.1) ⟨fun z => ?_, fun z => k g (fun _ => gf) (fun z2 => absurd z2 z)⟩
  have gD' := gD z
  have g1 : rd g 1 ((1 : Nat) : Int) = rd h 1 1 := gf 1 _ (by decide) (by omega)
  have i1 := wQ_1 (wQ_2 gI (rQf gI.1)) hS
  refine B_OneSided_quarter_18 hS (rQf gI.1) g2 rfl (RF_of gI.1) ⟨6, by omega, K_settleF (by omega) hS i1 (fun g3 i3 f3 => ?_)⟩
  have e11 : rd g3 1 ((1 : Nat) : Int) = q := (f3 1 _ (by decide) (by omega)).trans rdw_eq
  have e12 : rd g3 1 ((2 : Nat) : Int) = rd h 1 1 := by
    rw [f3 1 _ (by decide) (by omega)]
    exact ((rdw_nei (by decide)).trans rdw_eq).trans g1
  refine B_OneSided_quarter_43 (rSf i3.1) hS rfl e11 (RF_of i3.1) ⟨3, by omega, K_beginF (by omega) hS i3 (fun g4 i4 f4 => ?_)⟩
  refine B_OneSided_quarter_54 (rSf i4.1) (rQf i4.1) rfl rfl (RF_of i4.1) ?_
  have := k (wr (wr g4 1 6 0) 1 9 0) (fun z2 => absurd z z2) (fun _ => ⟨?_, ?_, ?_⟩)
  · rw [z] at this; exact this
  · rw [rdw_nei (by decide), rdw_nei (by decide), f4 1 1 (by decide) (by decide)]
    exact e11
  · rw [rdw_nei (by decide), rdw_nei (by decide), f4 1 2 (by decide) (by decide)]
    exact e12
  · refine DCKf_fr hS gD' (fun a i ha => ?_)
    rw [rdw_ne (by omega), rdw_ne (by omega), f4 a i (by omega) (by omega), f3 a i (by omega) (by omega), rdw_ne (by omega), rdw_ne (by omega)]
end QK4
