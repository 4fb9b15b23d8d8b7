/-! walks, part w3: both marks and the walks -/
section WD3
variable {xs : Nat → Int} {xl e : Nat} {h g : LH} {Q : Option LV → LH → Prop} {v1 v2 : Int}
/-- what a copy to a mark leaves of the walks -/
def cpTo (h g : LH) (v1 : Int) : Prop := rd g (102 + 8 * v1) 4 = rd h 59 4 ∧ rd g 59 4 = rd h 59 4 ∧ ∀ m, 0 ≤ m → m < 4 → m ≠ v1 → rd g (102 + 8 * m) 4 = rd h (102 + 8 * m) 4
def cpFr (h g : LH) (v1 : Int) : Prop := rd g 59 4 = rd h (102 + 8 * v1) 4 ∧ ∀ m, 0 ≤ m → m < 4 → rd g (102 + 8 * m) 4 = rd h (102 + 8 * m) 4
theorem K_mcopyW (he : 2 ≤ e) (hI : INV h) (hv : 0 ≤ v1 ∧ v1 < 4) (k : ∀ g, INV g → rd g 1 6 = rd h 1 6 → cpTo h g v1 → Q none g) : Rn xs xl e mm_Memory_copy 0 [some (.inr (.inr (102 + 8 * v1))), some (.inr (.inr 59))] [] h Q := by
  rcases (show v1 = 0 ∨ v1 = 1 ∨ v1 = 2 ∨ v1 = 3 by omega) with rfl | rfl | rfl | rfl
  · exact D_copyW_102_59 he hI (fun g gI gf gw => k g gI (gf 1 6 (by decide)) ⟨gw, gf 59 4 (by decide), fun m h0 h1 h2 => gf _ _ (by omega)⟩)
  · exact D_copyW_110_59 he hI (fun g gI gf gw => k g gI (gf 1 6 (by decide)) ⟨gw, gf 59 4 (by decide), fun m h0 h1 h2 => gf _ _ (by omega)⟩)
  · exact D_copyW_118_59 he hI (fun g gI gf gw => k g gI (gf 1 6 (by decide)) ⟨gw, gf 59 4 (by decide), fun m h0 h1 h2 => gf _ _ (by omega)⟩)
  · exact D_copyW_126_59 he hI (fun g gI gf gw => k g gI (gf 1 6 (by decide)) ⟨gw, gf 59 4 (by decide), fun m h0 h1 h2 => gf _ _ (by omega)⟩)
theorem K_mbackW (he : 2 ≤ e) (hI : INV h) (hv : 0 ≤ v1 ∧ v1 < 4) (k : ∀ g, INV g → rd g 1 6 = rd h 1 6 → cpFr h g v1 → Q none g) : Rn xs xl e mm_Memory_copy 0 [some (.inr (.inr 59)), some (.inr (.inr (102 + 8 * v1)))] [] h Q := by
  rcases (show v1 = 0 ∨ v1 = 1 ∨ v1 = 2 ∨ v1 = 3 by omega) with rfl | rfl | rfl | rfl
  · exact D_copyW_59_102 he hI (fun g gI gf gw => k g gI (gf 1 6 (by decide)) ⟨gw, fun m h0 h1 => gf _ _ (by omega)⟩)
  · exact D_copyW_59_110 he hI (fun g gI gf gw => k g gI (gf 1 6 (by decide)) ⟨gw, fun m h0 h1 => gf _ _ (by omega)⟩)
  · exact D_copyW_59_118 he hI (fun g gI gf gw => k g gI (gf 1 6 (by decide)) ⟨gw, fun m h0 h1 => gf _ _ (by omega)⟩)
  · exact D_copyW_59_126 he hI (fun g gI gf gw => k g gI (gf 1 6 (by decide)) ⟨gw, fun m h0 h1 => gf _ _ (by omega)⟩)
theorem E_markW (he : 3 ≤ e) (hI : INV h) (hm : MKR h) (k1 : ∀ g, mrkA (rd h 1 6) v1 v2 → rd g 1 6 = (if v2 = 0 then zor (rd h 1 6) (zshl 1 v1) else rd h 1 6) → (v2 = 0 → cpTo h g v1) → (v2 ≠ 0 → cpFr h g v1) → Q (some (.inl 1)) g) (k0 : ¬ mrkA (rd h 1 6) v1 v2 → Q (some (.inl 0)) h) : Rn xs xl e mm_OneSided_mark 0 [some (.inr (.inr 1)), some (.inl v1), some (.inl v2)] [] h Q := by
  obtain ⟨m1, m2, m3⟩ := hm
  refine B_OneSided_mark_0 (RF_of hI.1) ⟨fun c => k0 (fun q => by have := q.1; omega), fun c => ⟨fun c2 => ⟨fun c3 => ?_, fun c3 => ?_⟩, fun c2 => k0 (fun q => by have := q.1; omega)⟩⟩
  · have hM := m1 v1 c c2
    refine B_OneSided_mark_42 (show 102 + 8 * v1 = 102 ∨ 102 + 8 * v1 = 110 ∨ 102 + 8 * v1 = 118 ∨ 102 + 8 * v1 = 126 by omega) hM (RF_of hI.1) ⟨fun c4 => ⟨⟨c, c2⟩, 2, by omega, K_mbackW (by omega) hI ⟨c, c2⟩ (fun g gI g6 gc => B_OneSided_mark_68 (RF_of gI.1) (k1 _ ⟨⟨c, c2⟩, Or.inr c4⟩ ?_ (fun z => absurd z c3) (fun _ => ⟨(rdw_ne (by decide)).trans gc.1, fun m h0 h1 => (rdw_ne (by omega)).trans (gc.2 m h0 h1)⟩)))⟩, fun c4 => k0 (fun q => q.2.elim c3 (fun q => q c4))⟩
    rw [if_neg c3, rdw_nei (by decide), g6]
  · have hM := m1 v1 c c2
    refine B_OneSided_mark_15 (show 102 + 8 * v1 = 102 ∨ 102 + 8 * v1 = 110 ∨ 102 + 8 * v1 = 118 ∨ 102 + 8 * v1 = 126 by omega) hM (RF_of hI.1) ⟨⟨c, c2⟩, 2, by omega, K_mcopyW (by omega) hI ⟨c, c2⟩ (fun g gI g6 gc => B_OneSided_mark_28 (RF_of gI.1) (k1 _ ⟨⟨c, c2⟩, Or.inl c3⟩ ?_ (fun _ => ⟨(rdw_ne (by omega)).trans gc.1, (rdw_ne (by decide)).trans gc.2.1, fun m h0 h1 h2 => (rdw_ne (by omega)).trans (gc.2.2 m h0 h1 h2)⟩) (fun z => absurd c3 z)))⟩
    rw [if_pos c3, rdw_eq, g6]
def rcTo (h g : LH) (v1 : Int) : Prop := rd g 198 (70 * v1 + 104) = rd h 198 34 ∧ rd g 198 34 = rd h 198 34 ∧ ∀ m, 0 ≤ m → m < 4 → m ≠ v1 → rd g 198 (70 * m + 104) = rd h 198 (70 * m + 104)
def rcFr (h g : LH) (v1 : Int) : Prop := rd g 198 34 = rd h 198 (70 * v1 + 104) ∧ ∀ m, 0 ≤ m → m < 4 → rd g 198 (70 * m + 104) = rd h 198 (70 * m + 104)
theorem G_markW (he : 1 ≤ e) (hI : INV h) (k1 : ∀ g, (0 ≤ v1 ∧ v1 < 4) → (v2 = 0 ∨ rd h 199 v1 ≠ 0) → (∀ i, rd g 199 i = if i = v1 then 1 else rd h 199 i) → (v2 = 0 → rcTo h g v1) → (v2 ≠ 0 → rcFr h g v1) → Q (some (.inl 1)) g) (k0 : ∀ g, ¬ ((0 ≤ v1 ∧ v1 < 4) ∧ (v2 = 0 ∨ rd h 199 v1 ≠ 0)) → (∀ i, rd g 199 i = rd h 199 i) → (∀ i, rd g 198 i = rd h 198 i) → Q (some (.inl 0)) g) : Rn xs xl e mm_mark 0 [some (.inr (.inr 182)), some (.inl v1), some (.inl v2), none] [] h Q := by
  have i0 : INV (wr h 182 0 0) := wF_thrown hI (by omega) (by omega)
  have no : ¬ ((0 ≤ v1 ∧ v1 < 4) ∧ (v2 = 0 ∨ rd h 199 v1 ≠ 0)) → Q (some (.inl 0)) (wr h 182 0 0) := fun q => k0 _ q (fun i => rdw_ne (by decide)) (fun i => rdw_ne (by decide))
  have loop : (0 ≤ v1 ∧ v1 < 4) → (v2 = 0 ∨ rd h 199 v1 ≠ 0) → ∀ (u : LH), (v2 = 0 → rcTo h u v1) → (v2 ≠ 0 → rcFr h u v1) → ∀ (d : Nat) (g : LH) (b : Int), 50 - b ≤ d → 0 ≤ b → b ≤ 50 → RF g → (∀ i, rd g 199 i = if i = v1 then 1 else rd h 199 i) → (∀ i, rd g 198 i = rd u 198 i) → Rn xs xl e mm_mark 72 [some (.inr (.inr 182)), some (.inl v1), some (.inl v2), some (.inl b)] [] g Q := by
    intro hv hq u hu1 hu2 d
    have fin : ∀ (g : LH), (∀ i, rd g 199 i = if i = v1 then 1 else rd h 199 i) → (∀ i, rd g 198 i = rd u 198 i) → Q (some (.inl 1)) g := by
      intro g g9 g8
      refine k1 g hv hq g9 (fun z => ?_) (fun z => ?_)
      · obtain ⟨a, b, c⟩ := hu1 z
        exact ⟨(g8 _).trans a, (g8 _).trans b, fun m h0 h1 h2 => (g8 _).trans (c m h0 h1 h2)⟩
      · obtain ⟨a, c⟩ := hu2 z
        exact ⟨(g8 _).trans a, fun m h0 h1 => (g8 _).trans (c m h0 h1)⟩
    induction d with
    | zero =>
      intro g b hd b0 b1 gF g9 g8
      exact B_mark_72 gF (by omega) ⟨b0, b1⟩ ⟨fun _ => ⟨fun _ => fin _ (fun i => (rdw_ne (by decide)).trans (g9 i)) (fun i => (rdw_ne (by decide)).trans (g8 i)), fun _ => fin _ (fun i => (rdw_ne (by decide)).trans (g9 i)) (fun i => (rdw_ne (by decide)).trans (g8 i))⟩, fun c => by omega⟩
    | succ d ih =>
      intro g b hd b0 b1 gF g9 g8
      exact B_mark_72 gF (by omega) ⟨b0, b1⟩ ⟨fun _ => ⟨fun _ => fin _ (fun i => (rdw_ne (by decide)).trans (g9 i)) (fun i => (rdw_ne (by decide)).trans (g8 i)), fun _ => fin _ (fun i => (rdw_ne (by decide)).trans (g9 i)) (fun i => (rdw_ne (by decide)).trans (g8 i))⟩, fun c => ⟨fun _ => ⟨by omega, ih _ (b + 1) (by omega) (by omega) (by omega) (RF_wn (hav_ln (Or.inr rfl) _) gF) (fun i => (rdw_ne (by decide)).trans (g9 i)) (fun i => (rdw_ne (by decide)).trans (g8 i))⟩, fun _ => ⟨by omega, ih _ (b + 1) (by omega) (by omega) (by omega) (RF_wn (hav_ln (Or.inl rfl) _) gF) (fun i => (rdw_ne (by decide)).trans (g9 i)) (fun i => (rdw_ne (by decide)).trans (g8 i))⟩⟩⟩
  have s9 : ∀ i, rd (wr (wr h 182 0 0) 199 v1 1) 199 i = if i = v1 then 1 else rd h 199 i := by
    intro i
    rw [rd_wr]
    by_cases z : i = v1
    · rw [if_pos z, if_pos ⟨rfl, z.symm⟩]
    · rw [if_neg z, if_neg (fun q => z q.2.symm), rdw_ne (by decide)]
  have s8 : ∀ i, rd (wr (wr h 182 0 0) 199 v1 1) 198 i = rd h 198 i := fun i => (rdw_ne (by decide)).trans (rdw_ne (by decide))
  have r2 : RNG (wr (wr h 182 0 0) 199 v1 1) := wR_isMarked i0.1 (by omega) (by omega)
  refine B_mark_0 (RF_of hI.1) he ⟨fun c => no (fun q => by have := q.1; omega), fun c => ⟨fun c2 => no (fun q => by have := q.1; omega), fun c2 => ⟨fun c3 => ⟨by omega, by omega, by omega, 0, by omega, D_copies r2 (by omega) (by omega) (by omega) (fun g gr gf gc => B_mark_70 (RF_of gr) (loop (by omega) (Or.inl c3) g (fun _ => ⟨?_, ?_, fun m h0 h1 h2 => ?_⟩) (fun z => absurd c3 z) 50 g 0 (by omega) (by omega) (by omega) (RF_of gr) (fun i => (gf 199 i (by omega)).trans (s9 i)) (fun _ => rfl)))⟩, fun c3 => ⟨by omega, fun c4 => ⟨by omega, by omega, by omega, 0, by omega, D_copies r2 (by omega) (by omega) (by omega) (fun g gr gf gc => B_mark_70 (RF_of gr) (loop (by omega) (Or.inr c4) g (fun z => absurd z c3) (fun _ => ⟨?_, fun m h0 h1 => ?_⟩) 50 g 0 (by omega) (by omega) (by omega) (RF_of gr) (fun i => (gf 199 i (by omega)).trans (s9 i)) (fun _ => rfl)))⟩, fun c4 => no (fun q => q.2.elim c3 (fun q => q c4))⟩⟩⟩⟩
  · have y := gc 34 (by decide) (by decide)
    rw [s8, show 70 * v1 + 70 + 34 = 70 * v1 + 104 by omega] at y
    exact y
  · rw [gf 198 34 (by omega), s8]
  · rw [gf 198 _ (by omega), s8]
  · have y := gc 34 (by decide) (by decide)
    rw [s8, show 70 * v1 + 70 + 34 = 70 * v1 + 104 by omega] at y
    exact y
  · rw [gf 198 _ (by omega), s8]
end WD3
