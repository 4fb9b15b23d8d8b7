/-! LM, part 67: the reference's mark -/
theorem SP3_of {h h' : LH} (e : ∀ b j, sens b j → b ≠ 195 → b ≠ 198 → b ≠ 199 → b ≠ 200 → b ≠ 182 → rd h' b j = rd h b j) (p1 : pairsOk h' 195 1) (p2 : ∀ m : Int, 0 ≤ m → m < 4 → pairsOk h' 200 (50 * m + 1)) (hs : SP4 h) : SP4 h' := by
  obtain ⟨⟨h1, h2, h3, h4, h5, h6, h7, h8⟩, hl, ht, hq⟩ := hs
  have c : ∀ b j, (b = 63 ∨ b = 64 ∨ b = 71 ∨ b = 72 ∨ b = 106 ∨ b = 107 ∨ b = 114 ∨ b = 115 ∨ b = 122 ∨ b = 123 ∨ b = 130 ∨ b = 131) → rd h' b j = rd h b j := fun b j hb => e b j (sens_c (by omega)) (by rintro rfl; revert hb; decide) (by rintro rfl; revert hb; decide) (by rintro rfl; revert hb; decide) (by rintro rfl; revert hb; decide) (by rintro rfl; revert hb; decide)
  have e0 : ∀ j, 0 ≤ j → j < 150 → rd h' 188 j = rd h 188 j := fun j j0 j1 => e 188 j (by unfold sens; omega) (by decide) (by decide) (by decide) (by decide) (by decide)
  refine ⟨⟨lines_same (fun j => c _ j (by omega)) (fun j => c _ j (by omega)) h1, lines_same (fun j => c _ j (by omega)) (fun j => c _ j (by omega)) h2, lines_same (fun j => c _ j (by omega)) (fun j => c _ j (by omega)) h3, lines_same (fun j => c _ j (by omega)) (fun j => c _ j (by omega)) h4, lines_same (fun j => c _ j (by omega)) (fun j => c _ j (by omega)) h5, lines_same (fun j => c _ j (by omega)) (fun j => c _ j (by omega)) h6, p1, p2⟩, ?_, ?_, ?_⟩
  · intro q
    rw [e0 3 (by decide) (by decide)] at q
    obtain ⟨n, n1, n2, n3⟩ := hl q
    exact ⟨n, n1, seg_same n2 (fun k k1 k2 => ⟨e 189 k (by unfold sens; omega) (by decide) (by decide) (by decide) (by decide) (by decide), e 190 k (by unfold sens; omega) (by decide) (by decide) (by decide) (by decide) (by decide)⟩), by rw [e 189 n (by unfold sens; omega) (by decide) (by decide) (by decide) (by decide) (by decide)]; exact n3⟩
  · unfold SPtok
    rw [e 184 1000 (by unfold sens; omega) (by decide) (by decide) (by decide) (by decide) (by decide)]
    exact ht
  · refine ⟨fun d d0 d1 d2 => ?_, fun p p0 p1 p2 => ?_⟩
    · rw [e0 1 (by decide) (by decide)] at d2
      rw [e0 (5 + 8 * d) (by omega) (by omega), e0 (6 + 8 * d) (by omega) (by omega), e0 0 (by decide) (by decide)]
      exact hq.1 d d0 d1 d2
    · rw [e0 2 (by decide) (by decide)] at p2
      rw [e0 (117 + 4 * p) (by omega) (by omega), e0 0 (by decide) (by decide)]
      exact hq.2 p p0 p1 p2
theorem hav_lines {v1 v3 : Int} (h1 : 0 ≤ v1 ∧ v1 ≤ 3) (h3 : 0 ≤ v3 ∧ v3 < 50) : hav 200 (50 * v1 + v3) = hav 195 v3 := by
  rw [havM (a := 200) (i := 50 * v1 + v3) (L := RGr65) (n := 50) (r := v3.toNat) (by decide +kernel) (by decide +kernel) (by omega), havM (a := 195) (i := v3) (L := RGr62) (n := 100) (r := v3.toNat) (by decide +kernel) (by decide +kernel) (by omega)]
  have a : ((List.range 50).all (fun r => decide (RGr65.getD r top0 = RGr62.getD r top0))) = true := by decide +kernel
  exact of_decide_eq_true (List.all_eq_true.mp a v3.toNat (List.mem_range.mpr (by omega)))
section MK
variable {xs : Nat → Int} {xl e : Nat} {h : LH} {Q : Option LV → LH → Prop}
/-- mark, a root -/
theorem D_mark {v1 v2 : Int} (he : 1 ≤ e) (hI : INV h) (k : ∀ r g, INV g → (∀ a i, a ≠ 195 → a ≠ 198 → a ≠ 199 → a ≠ 200 → ¬ (a = 182 ∧ (i = 0 ∨ i = 25)) → rd g a i = rd h a i) → Q (some (.inl r)) g) : Rn xs xl e mm_mark 0 [some (.inr (.inr 182)), some (.inl v1), some (.inl v2), none] [] h Q := by
  have i0 : INV (wr h 182 0 0) := wF_thrown hI (by omega) (by omega)
  have f0 : ∀ a i, ¬ (a = 182 ∧ i = 0) → rd (wr h 182 0 0) a i = rd h a i := fun a i n => by
    rw [rd_wr, if_neg (by omega)]
  have wrong : Q (some (.inl 0)) (wr h 182 0 0) := k _ _ i0 (fun a i _ _ _ _ n => f0 a i (by omega))
  have hw := INVw hI
  have h4 := INV4 hI
  have hl := h4.1.2.2.2.2.2.2
  have lk : ∀ i j : Int, lkd 200 i = lkd 195 j := fun i j => by
    rw [lkd_1 (by decide +kernel), lkd_1 (by decide +kernel)]
  have f2 : ∀ a i, ¬ (a = 182 ∧ i = 0) → a ≠ 199 → rd (wr (wr h 182 0 0) 199 v1 1) a i = rd h a i := fun a i n1 n2 => by
    rw [rdw_ne (fun q => n2 q.symm)]
    exact f0 a i n1
  have m2 : ∀ i, i ≠ v1 → rd (wr (wr h 182 0 0) 199 v1 1) 199 i = rd h 199 i := fun i n => by
    rw [rdw_nei (fun q => n q.symm)]
    exact f0 199 i (by omega)
  have r2 : RNG (wr (wr h 182 0 0) 199 v1 1) := wR_isMarked i0.1 (by omega) (by omega)
  have gw : ∀ b, wOk h b → wOk (wr (wr h 182 0 0) 199 v1 1) b := fun b w => wOk_of (f2 188 2 (by omega) (by decide)) (f2 188 0 (by omega) (by decide)) (fun p _ _ => f2 198 _ (by omega) (by decide)) w
  have n0 := rF_undos hI.1
  -- the lines go to the mark
  have la : ∀ (n : Nat) (g : LH) (v3 : Int), 0 ≤ v1 ∧ v1 ≤ 3 → v2 = 0 → 50 - v3 < n → 0 ≤ v3 → v3 ≤ 50 → RNG g → SPw g → (∀ a i, a ≠ 198 → a ≠ 199 → a ≠ 200 → ¬ (a = 182 ∧ i = 0) → rd g a i = rd h a i) → (∀ i, ¬ (50 * v1 ≤ i ∧ i < 50 * v1 + v3) → rd g 200 i = rd h 200 i) → (∀ i, 0 ≤ i → i < v3 → rd g 200 (50 * v1 + i) = rd h 195 i) → Rn xs xl e mm_mark 72 [some (.inr (.inr 182)), some (.inl v1), some (.inl v2), some (.inl v3)] [] g Q := by
    intro n
    induction n with
    | zero =>
      intro g v3 hv hz hn
      omega
    | succ n ih =>
      intro g v3 hv hz hn a0 a1 gr gs gf g2 gc
      refine B_mark_72 (RF_of gr) hv ⟨a0, a1⟩ ⟨fun c => ⟨fun _ => ?_, fun q => absurd hz q⟩, fun c => ⟨fun _ => ⟨by omega, ?_⟩, fun q => absurd hz q⟩⟩
      · have e25 : rd g 182 25 = rd h 182 25 := gf 182 25 (by decide) (by decide) (by decide) (by omega)
        have r3 := wu gr (v := rd g 182 25) (by omega) (by omega)
        have same : ∀ a i, rd (wr g 182 25 (rd g 182 25)) a i = rd g a i := fun a i => by
          rw [rd_wr]
          split
          · next q => rw [← q.1, ← q.2]
          · rfl
        have fr : ∀ a i, a ≠ 198 → a ≠ 199 → a ≠ 200 → ¬ (a = 182 ∧ i = 0) → rd (wr g 182 25 (rd g 182 25)) a i = rd h a i := fun a i n1 n2 n3 n4 => (same a i).trans (gf a i n1 n2 n3 n4)
        refine k _ _ (INV_of r3 (SP3_of (fun b j _ _ m1 m2 m3 m4 => fr b j m1 m2 m3 (fun q => m4 q.1)) ?_ ?_ h4) ⟨?_, ?_, ?_⟩) (fun a i m0 m1 m2 m3 m4 => fr a i m1 m2 m3 (by omega))
        · intro j j0 j1 q
          rw [fr 195 _ (by decide) (by decide) (by decide) (by omega)] at q ⊢
          exact hl.1 j j0 j1 q
        · intro m m0 m1 j j0 j1 q
          rw [same] at q ⊢
          by_cases z : m = v1
          · subst z
            rw [show 50 * m + 1 + 2 * j = 50 * m + (1 + 2 * j) by omega, gc _ (by omega) (by omega)] at q
            rw [show 50 * m + 1 + 2 * j + 1 = 50 * m + (1 + 2 * j + 1) by omega, gc _ (by omega) (by omega)]
            exact hl.1 j j0 j1 q
          · rw [g2 _ (by omega)] at q ⊢
            exact hl.2 m m0 m1 j j0 j1 q
        · exact wOk_of (same _ _) (same _ _) (fun p _ _ => same _ _) gs.1
        · intro m m0 m1 q
          rw [same] at q
          exact wOk_of (same _ _) (same _ _) (fun p _ _ => same _ _) (gs.2.1 m m0 m1 q)
        · intro j j0 j1 q
          rw [same] at q
          exact wOk_of (same _ _) (same _ _) (fun p _ _ => same _ _) (gs.2.2 j j0 j1 q)
      · have hv2 := gr 195 v3 (vldA (n := 100) (k := 1) (by decide +kernel) (by decide +kernel) (by omega))
        have r3 : RNG (wr g 200 (50 * v1 + v3) (rd g 195 v3)) := by
          refine RNG_wr gr ?_
          unfold hval at hv2
          rw [hav_lines hv (by omega), lk _ v3]
          exact hv2
        have s3 : SPw (wr g 200 (50 * v1 + v3) (rd g 195 v3)) := by
          have w : ∀ b, wOk g b → wOk (wr g 200 (50 * v1 + v3) (rd g 195 v3)) b := fun b w => wOk_of (rdw_ne (by decide)) (rdw_ne (by decide)) (fun p _ _ => rdw_ne (by decide)) w
          refine ⟨w _ gs.1, fun m m0 m1 q => ?_, fun j j0 j1 q => ?_⟩
          · rw [rdw_ne (by decide)] at q
            exact w _ (gs.2.1 m m0 m1 q)
          · rw [rdw_ne (by decide)] at q
            exact w _ (gs.2.2 j j0 j1 q)
        have e5 : rd g 195 v3 = rd h 195 v3 := gf 195 v3 (by decide) (by decide) (by decide) (by omega)
        refine ih _ (v3 + 1) hv hz (by omega) (by omega) (by omega) r3 s3 (fun a i n1 n2 n3 n4 => ?_) (fun i q => ?_) (fun i i0 i1 => ?_)
        · rw [rdw_ne (fun q => n3 q.symm)]
          exact gf a i n1 n2 n3 n4
        · rw [rdw_nei (by omega)]
          exact g2 i (by omega)
        · by_cases z : v3 = i
          · rw [← z, rdw_eq, e5]
          · rw [rdw_nei (by omega)]
            exact gc i i0 (by omega)
  -- the lines come back
  have lb : ∀ (n : Nat) (g : LH) (v3 : Int), 0 ≤ v1 ∧ v1 ≤ 3 → v2 ≠ 0 → 50 - v3 < n → 0 ≤ v3 → v3 ≤ 50 → RNG g → SPw g → (∀ a i, a ≠ 195 → a ≠ 198 → a ≠ 199 → ¬ (a = 182 ∧ i = 0) → rd g a i = rd h a i) → (∀ i, 0 ≤ i → i < v3 → rd g 195 i = rd h 200 (50 * v1 + i)) → Rn xs xl e mm_mark 72 [some (.inr (.inr 182)), some (.inl v1), some (.inl v2), some (.inl v3)] [] g Q := by
    intro n
    induction n with
    | zero =>
      intro g v3 hv hz hn
      omega
    | succ n ih =>
      intro g v3 hv hz hn a0 a1 gr gs gf gc
      refine B_mark_72 (RF_of gr) hv ⟨a0, a1⟩ ⟨fun c => ⟨fun q => absurd q hz, fun _ => ?_⟩, fun c => ⟨fun q => absurd q hz, fun _ => ⟨by omega, ?_⟩⟩⟩
      · have r3 := wu gr (v := 0) (by omega) (by omega)
        have same : ∀ a i, a ≠ 182 → rd (wr g 182 25 0) a i = rd g a i := fun a i n => rdw_ne (fun q => n q.symm)
        have fr : ∀ a i, a ≠ 195 → a ≠ 198 → a ≠ 199 → ¬ (a = 182 ∧ (i = 0 ∨ i = 25)) → rd (wr g 182 25 0) a i = rd h a i := fun a i n1 n2 n3 n4 => by
          rw [rd_wr, if_neg (by omega)]
          exact gf a i n1 n2 n3 (by omega)
        refine k _ _ (INV_of r3 (SP3_of (fun b j _ m0 m1 m2 m3 m4 => fr b j m0 m1 m2 (fun q => m4 q.1)) ?_ ?_ h4) ⟨?_, ?_, ?_⟩) (fun a i m0 m1 m2 m3 m4 => fr a i m0 m1 m2 (by omega))
        · intro j j0 j1 q
          rw [same _ _ (by decide), gc _ (by omega) (by omega), show 50 * v1 + (1 + 2 * j) = 50 * v1 + 1 + 2 * j by omega] at q
          rw [same _ _ (by decide), gc _ (by omega) (by omega), show 50 * v1 + (1 + 2 * j + 1) = 50 * v1 + 1 + 2 * j + 1 by omega]
          exact hl.2 v1 (by omega) (by omega) j j0 j1 q
        · intro m m0 m1 j j0 j1 q
          rw [fr 200 _ (by decide) (by decide) (by decide) (by omega)] at q ⊢
          exact hl.2 m m0 m1 j j0 j1 q
        · exact wOk_of (same _ _ (by decide)) (same _ _ (by decide)) (fun p _ _ => same _ _ (by decide)) gs.1
        · intro m m0 m1 q
          rw [same _ _ (by decide)] at q
          exact wOk_of (same _ _ (by decide)) (same _ _ (by decide)) (fun p _ _ => same _ _ (by decide)) (gs.2.1 m m0 m1 q)
        · intro j j0 j1 q
          rw [rdw_eq] at q
          omega
      · have hv2 := gr 200 (50 * v1 + v3) (vldA (n := 200) (k := 1) (by decide +kernel) (by decide +kernel) (by omega))
        have r3 : RNG (wr g 195 v3 (rd g 200 (50 * v1 + v3))) := by
          refine RNG_wr gr ?_
          unfold hval at hv2
          rw [← hav_lines hv (by omega), ← lk (50 * v1 + v3) v3]
          exact hv2
        have s3 : SPw (wr g 195 v3 (rd g 200 (50 * v1 + v3))) := by
          have w : ∀ b, wOk g b → wOk (wr g 195 v3 (rd g 200 (50 * v1 + v3))) b := fun b w => wOk_of (rdw_ne (by decide)) (rdw_ne (by decide)) (fun p _ _ => rdw_ne (by decide)) w
          refine ⟨w _ gs.1, fun m m0 m1 q => ?_, fun j j0 j1 q => ?_⟩
          · rw [rdw_ne (by decide)] at q
            exact w _ (gs.2.1 m m0 m1 q)
          · rw [rdw_ne (by decide)] at q
            exact w _ (gs.2.2 j j0 j1 q)
        have e5 : rd g 200 (50 * v1 + v3) = rd h 200 (50 * v1 + v3) := gf 200 _ (by decide) (by decide) (by decide) (by omega)
        refine ih _ (v3 + 1) hv hz (by omega) (by omega) (by omega) r3 s3 (fun a i n1 n2 n3 n4 => ?_) (fun i i0 i1 => ?_)
        · rw [rdw_ne (fun q => n1 q.symm)]
          exact gf a i n1 n2 n3 n4
        · by_cases z : v3 = i
          · rw [← z, rdw_eq, e5]
          · rw [rdw_nei (by omega)]
            exact gc i i0 (by omega)
  refine B_mark_0 (RF_of hI.1) he ⟨fun _ => wrong, fun c1 => ⟨fun _ => wrong, fun c2 => ⟨fun c3 => ⟨by omega, by omega, by omega, 0, by omega, ?_⟩, fun c3 => ⟨by omega, fun c4 => ⟨by omega, by omega, by omega, 0, by omega, ?_⟩, fun _ => wrong⟩⟩⟩⟩
  · refine D_copies r2 (by omega) (by omega) (by omega) (fun u ur uf uc => B_mark_70 (RF_of ur) (la 51 u 0 ⟨c1, c2⟩ c3 (by omega) (by omega) (by omega) ur ⟨?_, ?_, ?_⟩ (fun a i n1 n2 n3 n4 => (uf a i (by omega)).trans (f2 a i n4 n2)) (fun i _ => (uf 200 i (by omega)).trans (f2 200 i (by omega) (by decide))) (fun i i0 i1 => by omega)))
    · exact wOk_cp2 ⟨uf, uc⟩ (by omega) (by omega) (by omega) (by omega) (gw _ hw.1)
    · intro m m0 m1 q
      by_cases z : m = v1
      · have w1 := wOk_cp1 ⟨uf, uc⟩ (by omega) (gw _ hw.1)
        rw [show 70 * (1 + m) = 70 * v1 + 70 by omega]
        exact w1
      · rw [uf 199 m (by omega), m2 m z] at q
        exact wOk_cp2 ⟨uf, uc⟩ (by omega) (by omega) (by omega) (by omega) (gw _ (hw.2.1 m m0 m1 q))
    · intro j j0 j1 q
      rw [uf 182 25 (by omega), f2 182 25 (by omega) (by decide)] at q
      exact wOk_cp2 ⟨uf, uc⟩ (by omega) (by omega) (by omega) (by omega) (gw _ (hw.2.2 j j0 j1 q))
  · have mk := rA_isMarked hI.1 (i := v1) (by omega)
    have wm := hw.2.1 v1 c1 (by omega) (by omega)
    refine D_copies r2 (by omega) (by omega) (by omega) (fun u ur uf uc => B_mark_70 (RF_of ur) (lb 51 u 0 ⟨c1, c2⟩ c3 (by omega) (by omega) (by omega) ur ⟨?_, ?_, ?_⟩ (fun a i n1 n2 n3 n4 => (uf a i (by omega)).trans (f2 a i n4 n3)) (fun i i0 i1 => by omega)))
    · rw [show 70 * (1 + v1) = 70 * v1 + 70 by omega] at wm
      exact wOk_cp1 ⟨uf, uc⟩ (by omega) (gw _ wm)
    · intro m m0 m1 q
      refine wOk_cp2 ⟨uf, uc⟩ (by omega) (by omega) (by omega) (by omega) (gw _ ?_)
      by_cases z : m = v1
      · rw [z]
        exact wm
      · rw [uf 199 m (by omega), m2 m z] at q
        exact hw.2.1 m m0 m1 q
    · intro j j0 j1 q
      rw [uf 182 25 (by omega), f2 182 25 (by omega) (by decide)] at q
      exact wOk_cp2 ⟨uf, uc⟩ (by omega) (by omega) (by omega) (by omega) (gw _ (hw.2.2 j j0 j1 q))
end MK
