/-! LM, part 66: the reference's keeps and undo -/
def CP (h g : LH) (v1 v2 v3 : Int) : Prop := (∀ a i, ¬ (a = 198 ∧ v2 ≤ i ∧ i < v2 + v3) → rd g a i = rd h a i) ∧ ∀ i, 0 ≤ i → i < v3 → rd g 198 (v2 + i) = rd h 198 (v1 + i)
theorem wOk_of {h g : LH} {b c : Int} (e2 : rd g 188 2 = rd h 188 2) (e0 : rd g 188 0 = rd h 188 0) (e : ∀ p, 0 ≤ p → p ≤ 5 → rd g 198 (c + 2 + p) = rd h 198 (b + 2 + p)) (w : wOk h b) : wOk g c := by
  intro p p0 p1 p2
  rw [e2] at p2
  rw [e0, e p p0 p1]
  exact w p p0 p1 p2
theorem wOk_cp1 {h g : LH} {v1 v2 v3 : Int} (c : CP h g v1 v2 v3) (h3 : 8 ≤ v3) (w : wOk h v1) : wOk g v2 := by
  refine wOk_of (c.1 188 2 (by omega)) (c.1 188 0 (by omega)) (fun p p0 p1 => ?_) w
  rw [show v2 + 2 + p = v2 + (2 + p) by omega, c.2 (2 + p) (by omega) (by omega), show v1 + (2 + p) = v1 + 2 + p by omega]
theorem wOk_cp2 {h g : LH} {v1 v2 v3 b : Int} (c : CP h g v1 v2 v3) (hb : b % 70 = 0) (h2 : v2 % 70 = 0) (h3 : v3 ≤ 70) (n : b ≠ v2) (w : wOk h b) : wOk g b :=
  wOk_of (c.1 188 2 (by omega)) (c.1 188 0 (by omega)) (fun p p0 p1 => c.1 198 _ (by omega)) w
theorem INV4 {h : LH} (hI : INV h) : SP4 h := ⟨hI.2.1, hI.2.2.1, hI.2.2.2.1, hI.2.2.2.2.1⟩
theorem INVw {h : LH} (hI : INV h) : SPw h := hI.2.2.2.2.2
theorem INV_of {h : LH} (hr : RNG h) (s : SP4 h) (w : SPw h) : INV h := ⟨hr, s.1, s.2.1, s.2.2.1, s.2.2.2, w⟩
section KU
variable {xs : Nat → Int} {xl e : Nat} {h : LH} {Q : Option LV → LH → Prop}
/-- keeps -/
theorem D_keeps (he : 1 ≤ e) (hI : INV h) (k : ∀ g, INV g → (∀ a i, ¬ (a = 198 ∧ 350 ≤ i ∧ i < 1434) → ¬ (a = 182 ∧ i = 25) → rd g a i = rd h a i) → Q none g) : Rn xs xl e mm_keeps 0 [some (.inr (.inr 182)), none] [] h Q := by
  have hw := INVw hI
  have t53 : ∀ (g : LH) (o1 : Option LV), RNG g → (∀ a i, ¬ (a = 198 ∧ 350 ≤ i ∧ i < 1434) → ¬ (a = 182 ∧ i = 25) → rd g a i = rd h a i) → rd g 182 25 ≤ 15 → (∀ j, 0 ≤ j → j < rd g 182 25 → wOk g (70 * (5 + j))) → Rn xs xl e mm_keeps 53 [some (.inr (.inr 182)), o1] [] g Q := by
    intro g o1 gr gf n1 gw
    have n0 := rF_undos gr
    refine B_keeps_53 (RF_of gr) ⟨by omega, by omega, 0, by omega, D_copies gr (by omega) (by omega) (by omega) (fun u ur uf uc => ?_)⟩
    have cp : CP g u 0 (70 * rd g 182 25 + 350) 34 := ⟨uf, uc⟩
    have un : rd u 182 25 = rd g 182 25 := uf 182 25 (by omega)
    have r1 := wu ur (v := rd u 182 25 + 1) (by omega) (by omega)
    have fr : ∀ a i, ¬ (a = 198 ∧ 350 ≤ i ∧ i < 1434) → ¬ (a = 182 ∧ i = 25) → rd (wr u 182 25 (rd u 182 25 + 1)) a i = rd h a i := by
      intro a i m1 m2
      rw [rd_wr, if_neg (fun q => m2 ⟨q.1.symm, q.2.symm⟩), uf a i (by omega)]
      exact gf a i m1 m2
    refine B_keeps_69 (RF_of ur) ⟨by omega, k _ (INV_of r1 (SP4_of (fun b j _ m1 _ m3 => fr b j (fun q => m1 q.1) (fun q => m3 q.1)) (INV4 hI)) ⟨?_, ?_, ?_⟩) fr⟩
    · exact wOk_of (fr 188 2 (by omega) (by omega)) (fr 188 0 (by omega) (by omega)) (fun p p0 p1 => fr 198 _ (by omega) (by omega)) hw.1
    · intro m m0 m1 q
      rw [fr 199 m (by omega) (by omega)] at q
      exact wOk_of (fr 188 2 (by omega) (by omega)) (fr 188 0 (by omega) (by omega)) (fun p p0 p1 => fr 198 _ (by omega) (by omega)) (hw.2.1 m m0 m1 q)
    · intro j j0 j1 q
      rw [rdw_eq, un] at q
      have step : wOk u (70 * (5 + j)) := by
        by_cases z : j = rd g 182 25
        · have w1 := wOk_cp1 cp (by omega) (wOk_of (gf 188 2 (by omega) (by omega)) (gf 188 0 (by omega) (by omega)) (fun p p0 p1 => gf 198 _ (by omega) (by omega)) hw.1)
          rw [show 70 * (5 + j) = 70 * rd g 182 25 + 350 by omega]
          exact w1
        · exact wOk_cp2 cp (by omega) (by omega) (by omega) (by omega) (gw j j0 (by omega))
      exact wOk_of (rdw_ne (by decide)) (rdw_ne (by decide)) (fun p _ _ => rdw_ne (by decide)) step
  have l11 : ∀ (n : Nat) (g : LH) (v1 : Int), 16 - v1 < n → 1 ≤ v1 → v1 ≤ 16 → RNG g → (∀ a i, ¬ (a = 198 ∧ 350 ≤ i ∧ i < 1434) → rd g a i = rd h a i) → rd h 182 25 = 16 → (∀ j, 0 ≤ j → j ≤ 15 → wOk g (70 * (5 + j))) → Rn xs xl e mm_keeps 11 [some (.inr (.inr 182)), some (.inl v1)] [] g Q := by
    intro n
    induction n with
    | zero =>
      intro g v1 hn
      omega
    | succ n ih =>
      intro g v1 hn a0 a1 gr gf h16 gw
      have g16 : rd g 182 25 = 16 := (gf 182 25 (by omega)).trans h16
      refine B_keeps_11 (RF_of gr) ⟨a0, a1⟩ ⟨fun c => ⟨by omega, ?_⟩, fun c => ⟨0, by omega, D_copies gr (by omega) (by omega) (by omega) (fun u ur uf uc => B_keeps_37 (RF_of ur) (by omega) (ih u (v1 + 1) (by omega) (by omega) (by omega) ur (fun a i m => (uf a i (by omega)).trans (gf a i m)) h16 (fun j j0 j1 => ?_)))⟩⟩
      · have r1 := wu gr (v := rd g 182 25 - 1) (by omega) (by omega)
        refine t53 _ _ r1 (fun a i m1 m2 => ?_) (by rw [rdw_eq]; omega) (fun j j0 j1 => ?_)
        · rw [rd_wr, if_neg (fun q => m2 ⟨q.1.symm, q.2.symm⟩)]
          exact gf a i m1
        · rw [rdw_eq] at j1
          exact wOk_of (rdw_ne (by decide)) (rdw_ne (by decide)) (fun p _ _ => rdw_ne (by decide)) (gw j j0 (by omega))
      · have cp : CP g u (70 * v1 + 350) (70 * v1 + 280) 34 := ⟨uf, uc⟩
        by_cases z : j = v1 - 1
        · have w0 := gw v1 (by omega) (by omega)
          rw [show 70 * (5 + v1) = 70 * v1 + 350 by omega] at w0
          have w1 := wOk_cp1 cp (by omega) w0
          rw [show 70 * (5 + j) = 70 * v1 + 280 by omega]
          exact w1
        · exact wOk_cp2 cp (by omega) (by omega) (by omega) (by omega) (gw j j0 j1)
  have n0 := rF_undos hI.1
  exact B_keeps_0 (RF_of hI.1) ⟨fun c => t53 h _ hI.1 (fun _ _ _ _ => rfl) (by omega) (fun j j0 j1 => hw.2.2 j j0 (by omega) j1), fun c => l11 16 h 1 (by omega) (by omega) (by omega) hI.1 (fun _ _ _ => rfl) c (fun j j0 j1 => hw.2.2 j j0 j1 (by omega))⟩
/-- undo, a root -/
theorem D_undo (he : 1 ≤ e) (hI : INV h) (k : ∀ r g, INV g → (∀ a i, ¬ (a = 198 ∧ 0 ≤ i ∧ i < 34) → ¬ (a = 182 ∧ (i = 25 ∨ i = 0)) → rd g a i = rd h a i) → Q (some (.inl r)) g) : Rn xs xl e mm_undo 0 [some (.inr (.inr 182))] [] h Q := by
  have i0 : INV (wr h 182 0 0) := wF_thrown hI (by omega) (by omega)
  have f0 : ∀ a i, ¬ (a = 182 ∧ (i = 25 ∨ i = 0)) → rd (wr h 182 0 0) a i = rd h a i := fun a i n => by
    rw [rd_wr, if_neg (by omega)]
  have n0 := rF_undos hI.1
  refine B_undo_0 (RF_of hI.1) ⟨fun c => ⟨by omega, by omega, by omega, 0, by omega, ?_⟩, fun _ => k _ _ i0 (fun a i _ n => f0 a i n)⟩
  have r1 := wu i0.1 (v := rd h 182 25 - 1) (by omega) (by omega)
  have f1 : ∀ a i, ¬ (a = 182 ∧ (i = 25 ∨ i = 0)) → rd (wr (wr h 182 0 0) 182 25 (rd h 182 25 - 1)) a i = rd h a i := fun a i n => by
    rw [rd_wr, if_neg (by omega)]
    exact f0 a i n
  have e1 : rd (wr (wr h 182 0 0) 182 25 (rd h 182 25 - 1)) 182 25 = rd h 182 25 - 1 := rdw_eq
  generalize wr (wr h 182 0 0) 182 25 (rd h 182 25 - 1) = g at *
  have hw := INVw hI
  have gw : ∀ b, wOk h b → wOk g b := fun b w => wOk_of (f1 188 2 (by omega)) (f1 188 0 (by omega)) (fun p _ _ => f1 198 _ (by omega)) w
  refine D_copies r1 (by omega) (by omega) (by omega) (fun u ur uf uc => B_undo_40 (RF_of ur) (k _ _ (INV_of ur (SP4_of (fun b j _ m1 _ m3 => (uf b j (by omega)).trans (f1 b j (by omega))) (INV4 hI)) ⟨?_, ?_, ?_⟩) (fun a i m1 m2 => (uf a i (by omega)).trans (f1 a i m2))))
  · have cp : CP g u (70 * (rd h 182 25 - 1) + 350) 0 34 := ⟨uf, uc⟩
    have w0 := gw _ (hw.2.2 (rd h 182 25 - 1) (by omega) (by omega) (by omega))
    rw [show 70 * (5 + (rd h 182 25 - 1)) = 70 * (rd h 182 25 - 1) + 350 by omega] at w0
    exact wOk_cp1 cp (by omega) w0
  · intro m m0 m1 q
    have cp : CP g u (70 * (rd h 182 25 - 1) + 350) 0 34 := ⟨uf, uc⟩
    rw [uf 199 m (by omega), f1 199 m (by omega)] at q
    exact wOk_cp2 cp (by omega) (by omega) (by omega) (by omega) (gw _ (hw.2.1 m m0 m1 q))
  · intro j j0 j1 q
    have cp : CP g u (70 * (rd h 182 25 - 1) + 350) 0 34 := ⟨uf, uc⟩
    rw [uf 182 25 (by omega), e1] at q
    exact wOk_cp2 cp (by omega) (by omega) (by omega) (by omega) (gw _ (hw.2.2 j j0 j1 (by omega)))
end KU
