/-! the scene, part si: mark under the relation -/
/-- between both marks -/
def mrJ (v1 v2 : Int) (h g : LH) (r : Int) : Prop := (¬ mrkA (rd h 1 6) v1 v2 ∧ r = 0 ∧ samP h g) ∨ (mrkA (rd h 1 6) v1 v2 ∧ r = 1 ∧ ((v2 = 0 ∧ rd g 1 6 = zor (rd h 1 6) (zshl 1 v1) ∧ mcq h g 59 (102 + 8 * v1) ∧ ∀ a i, ¬ (102 + 8 * v1 ≤ a ∧ a ≤ 109 + 8 * v1 ∧ 0 ≤ i ∧ i ≤ 23) → ¬ (a = 1 ∧ i = 6) → rd g a i = rd h a i) ∨ (v2 ≠ 0 ∧ rd g 1 9 = 0 ∧ mcq h g (102 + 8 * v1) 59 ∧ ∀ a i, ¬ (59 ≤ a ∧ a ≤ 66 ∧ 0 ≤ i ∧ i ≤ 23) → ¬ (a = 1 ∧ i = 9) → rd g a i = rd h a i)))
section SCi
variable {xs : Nat → Int} {xl e : Nat} {h g g' : LH} {Q : Option LV → LH → Prop} {v1 v2 r N M : Int}
theorem mcq_lo (hm : mcq h g N M) (f : ∀ a i, M ≤ a → a ≤ M + 7 → rd g' a i = rd g a i) : mcq h g' N M := by
  obtain ⟨⟨a1, a2⟩, a3, ⟨a4, a5⟩, a6⟩ := hm
  refine ⟨⟨(f _ _ (by omega) (by omega)).trans a1, fun i i0 i1 => ⟨(f _ _ (by omega) (by omega)).trans (a2 i i0 i1).1, (f _ _ (by omega) (by omega)).trans (a2 i i0 i1).2⟩⟩, scq_lo a3 (fun a i ha => f a i (by unfold scp at ha; omega) (by unfold scp at ha; omega)), ⟨(f _ _ (by omega) (by omega)).trans a4, (f _ _ (by omega) (by omega)).trans a5⟩, fun i i0 i1 => ⟨(f _ _ (by omega) (by omega)).trans (a6 i i0 i1).1, (f _ _ (by omega) (by omega)).trans (a6 i i0 i1).2⟩⟩
theorem E_markS (he : 8 ≤ e) (hI : INV h) (hE : EQL h) (h1 : i32 v1) (h2 : gV (0, 0, 1, 1) (.inl v2)) (k : ∀ r g, INV g → mrJ v1 v2 h g r → Q (some (.inl r)) g) : Rn xs xl e mm_OneSided_mark 0 [some (.inr (.inr 1)), some (.inl v1), some (.inl v2)] [] h Q := by
  obtain ⟨m1, m2, m3⟩ := hE.2.2.2.2.2.2.1
  have A : Rn xs xl e mm_OneSided_mark 0 [some (.inr (.inr 1)), some (.inl v1), some (.inl v2)] [] h (fun r g => ∃ x, r = some (.inl x) ∧ mrJ v1 v2 h g x) := by
    have no : ¬ mrkA (rd h 1 6) v1 v2 → ∃ x, (some (.inl 0) : Option LV) = some (.inl x) ∧ mrJ v1 v2 h h x := fun z => ⟨0, rfl, Or.inl ⟨z, rfl, fun _ _ => rfl⟩⟩
    refine B_OneSided_mark_0 (RF_of hI.1) ⟨fun c => no (fun q => by have := q.1; omega), fun c => ⟨fun c2 => ⟨fun c3 => ?_, fun c3 => ?_⟩, fun c2 => no (fun q => by have := q.1; omega)⟩⟩
    · have hM := m1 v1 c c2
      refine B_OneSided_mark_42 (show 102 + 8 * v1 = 102 ∨ 102 + 8 * v1 = 110 ∨ 102 + 8 * v1 = 118 ∨ 102 + 8 * v1 = 126 by omega) hM (RF_of hI.1) ⟨fun c4 => ⟨⟨c, c2⟩, 2, by omega, K_mbackM (by omega) hI ⟨c, c2⟩ (fun g gI gf gm => B_OneSided_mark_68 (RF_of gI.1) ⟨1, rfl, Or.inr ⟨⟨⟨c, c2⟩, Or.inr c4⟩, rfl, Or.inr ⟨c3, rdw_eq, mcq_lo gm (fun a i a0 a1 => rdw_ne (by omega)), fun a i n1 n2 => ?_⟩⟩⟩)⟩, fun c4 => no (fun q => q.2.elim c3 (fun q => q c4))⟩
      rw [rd_wr, if_neg (by omega)]
      exact gf a i n1
    · have hM := m1 v1 c c2
      refine B_OneSided_mark_15 (show 102 + 8 * v1 = 102 ∨ 102 + 8 * v1 = 110 ∨ 102 + 8 * v1 = 118 ∨ 102 + 8 * v1 = 126 by omega) hM (RF_of hI.1) ⟨⟨c, c2⟩, 2, by omega, K_mcopyM (by omega) hI ⟨c, c2⟩ (fun g gI gf gm => B_OneSided_mark_28 (RF_of gI.1) ⟨1, rfl, Or.inr ⟨⟨⟨c, c2⟩, Or.inl c3⟩, rfl, Or.inl ⟨c3, ?_, mcq_lo gm (fun a i a0 a1 => rdw_ne (by omega)), fun a i n1 n2 => ?_⟩⟩⟩)⟩
      · rw [rdw_eq, gf 1 6 (by omega)]
      · rw [rd_wr, if_neg (by omega)]
        exact gf a i n1
  have B : Rn xs xl e mm_OneSided_mark 0 [some (.inr (.inr 1)), some (.inl v1), some (.inl v2)] [] h (fun r g => INV g) := use_sm TD_mark (as := [.inr (.inr 1), .inl v1, .inl v2]) rfl (Nat.le_trans (Nat.le_of_ble_eq_true rfl) he) hI (gAr_c (g_ref 1) (gAr_c (g_i h1) (gAr_c h2 gAr_n))) rfl (Nat.le_of_ble_eq_true rfl) rfl (fun r g gI gf gq => gI)
  refine (A.and B).mono (fun r g z => ?_)
  obtain ⟨⟨x, rfl, a⟩, b⟩ := z
  exact k x g b a
theorem rd_self {a i v : Int} (e : rd h a i = v) (b j : Int) : rd (wr h a i v) b j = rd h b j := by
  rw [rd_wr]
  by_cases z : a = b ∧ i = j
  · rw [if_pos z, ← z.1, ← z.2]
    exact e.symm
  · rw [if_neg z]
/-- the reference's mark: nothing, kept, or taken back -/
theorem G_markR (he : 1 ≤ e) (hI : INV h)
    (k1 : ∀ g, (0 ≤ v1 ∧ v1 < 4) → v2 = 0 → (∀ i, rd g 199 i = if i = v1 then 1 else rd h 199 i) → (∀ i, 0 ≤ i → i < 70 → rd g 198 (70 * v1 + 70 + i) = rd h 198 i) → (∀ j, 0 ≤ j → j < 50 → rd g 200 (50 * v1 + j) = rd h 195 j) → (∀ a i, ¬ (a = 198 ∧ 70 * v1 + 70 ≤ i ∧ i < 70 * v1 + 140) → a ≠ 199 → ¬ (a = 200 ∧ 50 * v1 ≤ i ∧ i < 50 * v1 + 50) → ¬ (a = 182 ∧ i = 0) → rd g a i = rd h a i) → Q (some (.inl 1)) g)
    (k2 : ∀ g, (0 ≤ v1 ∧ v1 < 4) → v2 ≠ 0 → rd h 199 v1 ≠ 0 → (∀ i, rd g 199 i = if i = v1 then 1 else rd h 199 i) → (∀ i, 0 ≤ i → i < 70 → rd g 198 i = rd h 198 (70 * v1 + 70 + i)) → (∀ j, 0 ≤ j → j < 50 → rd g 195 j = rd h 200 (50 * v1 + j)) → rd g 182 25 = 0 → (∀ a i, ¬ (a = 198 ∧ 0 ≤ i ∧ i < 70) → a ≠ 199 → ¬ (a = 195 ∧ 0 ≤ i ∧ i < 50) → ¬ (a = 182 ∧ (i = 0 ∨ i = 25)) → rd g a i = rd h a i) → Q (some (.inl 1)) g)
    (k0 : ∀ g, ¬ ((0 ≤ v1 ∧ v1 < 4) ∧ (v2 = 0 ∨ rd h 199 v1 ≠ 0)) → (∀ a i, ¬ (a = 182 ∧ i = 0) → rd g a i = rd h a i) → Q (some (.inl 0)) g) : Rn xs xl e mm_mark 0 [some (.inr (.inr 182)), some (.inl v1), some (.inl v2), none] [] h Q := by
  have i0 : INV (wr h 182 0 0) := wF_thrown hI (by omega) (by omega)
  have no : ¬ ((0 ≤ v1 ∧ v1 < 4) ∧ (v2 = 0 ∨ rd h 199 v1 ≠ 0)) → Q (some (.inl 0)) (wr h 182 0 0) := fun q => k0 _ q (fun a i n => by rw [rd_wr, if_neg (by omega)])
  have s9 : ∀ i, rd (wr (wr h 182 0 0) 199 v1 1) 199 i = if i = v1 then 1 else rd h 199 i := by
    intro i
    rw [rd_wr]
    by_cases z : i = v1
    · rw [if_pos z, if_pos ⟨rfl, z.symm⟩]
    · rw [if_neg z, if_neg (fun q => z q.2.symm), rdw_ne (by decide)]
  have s8 : ∀ a i, a ≠ 199 → ¬ (a = 182 ∧ i = 0) → rd (wr (wr h 182 0 0) 199 v1 1) a i = rd h a i := fun a i n1 n2 => by rw [rd_wr, if_neg (by omega), rd_wr, if_neg (by omega)]
  have to : (0 ≤ v1 ∧ v1 < 4) → v2 = 0 → ∀ (u : LH), (∀ i, rd u 199 i = if i = v1 then 1 else rd h 199 i) → (∀ i, 0 ≤ i → i < 70 → rd u 198 (70 * v1 + 70 + i) = rd h 198 i) → (∀ a i, ¬ (a = 198 ∧ 70 * v1 + 70 ≤ i ∧ i < 70 * v1 + 140) → a ≠ 199 → ¬ (a = 182 ∧ i = 0) → rd u a i = rd h a i) → ∀ (d : Nat) (g : LH) (b : Int), 50 - b ≤ d → 0 ≤ b → b ≤ 50 → RF g → (∀ j, 0 ≤ j → j < b → rd g 200 (50 * v1 + j) = rd h 195 j) → (∀ a i, ¬ (a = 200 ∧ 50 * v1 ≤ i ∧ i < 50 * v1 + 50) → rd g a i = rd u a i) → Rn xs xl e mm_mark 72 [some (.inr (.inr 182)), some (.inl v1), some (.inl v2), some (.inl b)] [] g Q := by
    intro hv z0 u u9 u8 uf d
    have fin : ∀ g : LH, (∀ j, 0 ≤ j → j < 50 → rd g 200 (50 * v1 + j) = rd h 195 j) → (∀ a i, ¬ (a = 200 ∧ 50 * v1 ≤ i ∧ i < 50 * v1 + 50) → rd g a i = rd u a i) → Q (some (.inl 1)) (wr g 182 25 (rd g 182 25)) := by
      intro g gl gf
      have sf := rd_self (h := g) (a := 182) (i := 25) rfl
      refine k1 _ hv z0 (fun i => ?_) (fun i i0 i1 => ?_) (fun j j0 j1 => (sf _ _).trans (gl j j0 j1)) (fun a i n1 n2 n3 n4 => ?_)
      · rw [sf, gf 199 i (by omega)]; exact u9 i
      · rw [sf, gf 198 _ (by omega)]; exact u8 i i0 i1
      · rw [sf, gf a i n3]; exact uf a i n1 n2 n4
    induction d with
    | zero =>
      intro g b hd b0 b1 gF gl gf
      exact B_mark_72 gF (by omega) ⟨b0, b1⟩ ⟨fun _ => ⟨fun _ => fin g (fun j j0 j1 => gl j j0 (by omega)) gf, fun y => absurd z0 y⟩, fun c => by omega⟩
    | succ d ih =>
      intro g b hd b0 b1 gF gl gf
      refine B_mark_72 gF (by omega) ⟨b0, b1⟩ ⟨fun _ => ⟨fun _ => fin g (fun j j0 j1 => gl j j0 (by omega)) gf, fun y => absurd z0 y⟩, fun c => ⟨fun _ => ⟨by omega, ih _ (b + 1) (by omega) (by omega) (by omega) (RF_wn (hav_ln (Or.inr rfl) _) gF) (fun j j0 j1 => ?_) (fun a i n => ?_)⟩, fun y => absurd z0 y⟩⟩
      · by_cases y : j = b
        · rw [y, rdw_eq, gf 195 b (by omega)]
          exact uf 195 b (by omega) (by decide) (by omega)
        · rw [rdw_nei (by omega)]
          exact gl j j0 (by omega)
      · rw [rd_wr, if_neg (by omega)]
        exact gf a i n
  have back : (0 ≤ v1 ∧ v1 < 4) → v2 ≠ 0 → rd h 199 v1 ≠ 0 → ∀ (u : LH), (∀ i, rd u 199 i = if i = v1 then 1 else rd h 199 i) → (∀ i, 0 ≤ i → i < 70 → rd u 198 i = rd h 198 (70 * v1 + 70 + i)) → (∀ a i, ¬ (a = 198 ∧ 0 ≤ i ∧ i < 70) → a ≠ 199 → ¬ (a = 182 ∧ i = 0) → rd u a i = rd h a i) → ∀ (d : Nat) (g : LH) (b : Int), 50 - b ≤ d → 0 ≤ b → b ≤ 50 → RF g → (∀ j, 0 ≤ j → j < b → rd g 195 j = rd h 200 (50 * v1 + j)) → (∀ a i, ¬ (a = 195 ∧ 0 ≤ i ∧ i < 50) → rd g a i = rd u a i) → Rn xs xl e mm_mark 72 [some (.inr (.inr 182)), some (.inl v1), some (.inl v2), some (.inl b)] [] g Q := by
    intro hv z0 z1 u u9 u8 uf d
    have fin : ∀ g : LH, (∀ j, 0 ≤ j → j < 50 → rd g 195 j = rd h 200 (50 * v1 + j)) → (∀ a i, ¬ (a = 195 ∧ 0 ≤ i ∧ i < 50) → rd g a i = rd u a i) → Q (some (.inl 1)) (wr g 182 25 0) := by
      intro g gl gf
      refine k2 _ hv z0 z1 (fun i => ?_) (fun i i0 i1 => ?_) (fun j j0 j1 => (rdw_ne (by decide)).trans (gl j j0 j1)) rdw_eq (fun a i n1 n2 n3 n4 => ?_)
      · rw [rdw_ne (by decide), gf 199 i (by omega)]; exact u9 i
      · rw [rdw_ne (by decide), gf 198 _ (by omega)]; exact u8 i i0 i1
      · rw [rd_wr, if_neg (by omega), gf a i n3]; exact uf a i n1 n2 (by omega)
    induction d with
    | zero =>
      intro g b hd b0 b1 gF gl gf
      exact B_mark_72 gF (by omega) ⟨b0, b1⟩ ⟨fun _ => ⟨fun y => absurd y z0, fun _ => fin g (fun j j0 j1 => gl j j0 (by omega)) gf⟩, fun c => by omega⟩
    | succ d ih =>
      intro g b hd b0 b1 gF gl gf
      refine B_mark_72 gF (by omega) ⟨b0, b1⟩ ⟨fun _ => ⟨fun y => absurd y z0, fun _ => fin g (fun j j0 j1 => gl j j0 (by omega)) gf⟩, fun c => ⟨fun y => absurd y z0, fun _ => ⟨by omega, ih _ (b + 1) (by omega) (by omega) (by omega) (RF_wn (hav_ln (Or.inl rfl) _) gF) (fun j j0 j1 => ?_) (fun a i n => ?_)⟩⟩⟩
      · by_cases y : j = b
        · rw [y, rdw_eq, gf 200 _ (by omega)]
          exact uf 200 _ (by omega) (by decide) (by omega)
        · rw [rdw_nei (by omega)]
          exact gl j j0 (by omega)
      · rw [rd_wr, if_neg (by omega)]
        exact gf a i n
  have r2 : RNG (wr (wr h 182 0 0) 199 v1 1) := wR_isMarked i0.1 (by omega) (by omega)
  refine B_mark_0 (RF_of hI.1) he ⟨fun c => no (fun q => by have := q.1; omega), fun c => ⟨fun c2 => no (fun q => by have := q.1; omega), fun c2 => ⟨fun c3 => ⟨by omega, by omega, by omega, 0, by omega, D_copies r2 (by omega) (by omega) (by omega) (fun g gr gf gc => B_mark_70 (RF_of gr) (to (by omega) c3 g (fun i => (gf 199 i (by omega)).trans (s9 i)) (fun i i0 i1 => ?_) (fun a i n1 n2 n3 => (gf a i (by omega)).trans (s8 a i n2 n3)) 50 g 0 (by omega) (by omega) (by omega) (RF_of gr) (fun j j0 j1 => by omega) (fun _ _ _ => rfl)))⟩, fun c3 => ⟨by omega, fun c4 => ⟨by omega, by omega, by omega, 0, by omega, D_copies r2 (by omega) (by omega) (by omega) (fun g gr gf gc => B_mark_70 (RF_of gr) (back (by omega) c3 c4 g (fun i => (gf 199 i (by omega)).trans (s9 i)) (fun i i0 i1 => ?_) (fun a i n1 n2 n3 => (gf a i (by omega)).trans (s8 a i n2 n3)) 50 g 0 (by omega) (by omega) (by omega) (RF_of gr) (fun j j0 j1 => by omega) (fun _ _ _ => rfl)))⟩, fun c4 => no (fun q => q.2.elim c3 (fun q => q c4))⟩⟩⟩⟩
  · have y := (gc i i0 i1).trans (s8 198 _ (by decide) (by omega))
    rw [Int.zero_add] at y
    exact y
  · have y := (gc i i0 i1).trans (s8 198 _ (by decide) (by omega))
    rw [Int.zero_add] at y
    exact y
theorem G_markS (he : 8 ≤ e) (hI : INV h) (hE : EQL h) (gI : INV g) (hj : mrJ v1 v2 h g r) (k : ∀ g', INV g' → EQL g' → Q (some (.inl r)) g') : Rn xs xl e mm_mark 0 [some (.inr (.inr 182)), some (.inl v1), some (.inl v2), none] [] g Q := by
  obtain ⟨-, -, -, -, -, -, ⟨j1, j2, j3⟩, ⟨-, -, -, -, k5, k6, k7, -⟩⟩ := id hE
  have hp := rq_people hI.1
  have B : Rn xs xl e mm_mark 0 [some (.inr (.inr 182)), some (.inl v1), some (.inl v2), none] [] g (fun q g' => INV g') := D_mark (by omega) gI (fun r g' a b => a)
  have iff9 : (∀ i, rd g 199 i = rd h 199 i) → (((0 ≤ v1 ∧ v1 < 4) ∧ (v2 = 0 ∨ rd g 199 v1 ≠ 0)) ↔ mrkA (rd h 1 6) v1 v2) := fun g9 => by
    unfold mrkA
    constructor
    · rintro ⟨a, b⟩
      rw [g9, j3 v1 a.1 a.2] at b
      exact ⟨a, b⟩
    · rintro ⟨a, b⟩
      rw [g9, j3 v1 a.1 a.2]
      exact ⟨a, b⟩
  rcases hj with ⟨n, rfl, sm⟩ | ⟨hm, rfl, hc⟩
  · have iff := iff9 (fun i => sm _ _)
    have A : Rn xs xl e mm_mark 0 [some (.inr (.inr 182)), some (.inl v1), some (.inl v2), none] [] g (fun q g' => q = some (.inl 0) ∧ ∀ a i, ¬ (a = 182 ∧ i = 0) → rd g' a i = rd g a i) := G_markR (by omega) gI (fun g' a b _ _ _ _ => absurd (iff.mp ⟨a, Or.inl b⟩) n) (fun g' a b c _ _ _ _ _ => absurd (iff.mp ⟨a, Or.inr c⟩) n) (fun g' _ f => ⟨rfl, f⟩)
    refine (A.and B).mono (fun q g' z => ?_)
    obtain ⟨⟨rfl, f⟩, gI'⟩ := z
    exact k g' gI' (EQL_fr gI (EQL_sam hI hE sm) (f 2 0 (by decide)) (f 182 2 (by decide)) (fun a i ha => f a i (by have := (inK_p ha).2.1; omega)))
  · rcases hc with ⟨z0, c6, cm, cf⟩ | ⟨z0, c9, cm, cf⟩
    · have gh : ∀ a i, 182 ≤ a → rd g a i = rd h a i := fun a i n => cf a i (by have := hm.1; omega) (by omega)
      have iff := iff9 (fun i => gh _ _ (by decide))
      have A : Rn xs xl e mm_mark 0 [some (.inr (.inr 182)), some (.inl v1), some (.inl v2), none] [] g (fun q g' => q = some (.inl 1) ∧ (∀ i, rd g' 199 i = if i = v1 then 1 else rd g 199 i) ∧ (∀ i, 0 ≤ i → i < 70 → rd g' 198 (70 * v1 + 70 + i) = rd g 198 i) ∧ (∀ a i, ¬ (a = 198 ∧ 70 * v1 + 70 ≤ i ∧ i < 70 * v1 + 140) → a ≠ 199 → ¬ (a = 200 ∧ 50 * v1 ≤ i ∧ i < 50 * v1 + 50) → ¬ (a = 182 ∧ i = 0) → rd g' a i = rd g a i)) := G_markR (by omega) gI (fun g' _ _ a b _ c => ⟨rfl, a, b, c⟩) (fun g' _ y _ _ _ _ _ _ => absurd z0 y) (fun g' y _ => absurd (iff.mpr hm) y)
      refine (A.and B).mono (fun q g' z => ?_)
      obtain ⟨⟨rfl, a9, a8, af⟩, gI'⟩ := z
      have hv := hm.1
      clear A B iff iff9
      have lo : ∀ a i, a < 182 → rd g' a i = rd g a i := fun a i n => af a i (by omega) (by omega) (by omega) (by omega)
      have cl : ∀ a i, a < 182 → ¬ (102 + 8 * v1 ≤ a ∧ a ≤ 109 + 8 * v1) → ¬ (a = 1 ∧ i = 6) → rd g' a i = rd h a i := fun a i n1 n2 n3 => (lo a i n1).trans (cf a i (by omega) n3)
      have rl : ∀ a i, 182 ≤ a → ¬ (a = 198 ∧ 70 * v1 + 70 ≤ i ∧ i < 70 * v1 + 140) → a ≠ 199 → a ≠ 200 → ¬ (a = 182 ∧ i = 0) → rd g' a i = rd h a i := fun a i n0 n1 n2 n3 n4 => (af a i n1 n2 (by omega) n4).trans (gh a i n0)
      have t2 : rd g' 188 2 = rd h 188 2 := rl 188 2 (by decide) (by omega) (by decide) (by decide) (by decide)
      have e6 : rd g' 1 6 = zor (rd h 1 6) (zshl 1 v1) := (lo 1 6 (by decide)).trans c6
      have g9 : ∀ m, rd g' 199 m = if m = v1 then 1 else rd h 199 m := fun m => by rw [a9 m, gh 199 m (by decide)]
      have mk : MKR g' := ⟨fun m h0 h1 => (cl 75 m (by decide) (by omega) (by omega)).trans (j1 m h0 h1), by rw [e6]; exact mbit_in j2 hv, fun m h0 h1 => by rw [g9 m, e6, mbit_or j2 hv ⟨h0, h1⟩, j3 m h0 h1]⟩
      have sr : SR g' 60 0 := SR_fr k5 (fun a i ha => cl a i (by omega) (by omega) (by omega)) (fun i i0 i1 => rl 198 i (by decide) (by omega) (by decide) (by decide) (by omega)) t2 hp
      have un : UN g' := UN_fr hp k6 t2 (cl 1 8 (by decide) (by omega) (by decide)) (cl 1 9 (by decide) (by omega) (by decide)) (rl 182 25 (by decide) (by omega) (by decide) (by decide) (by decide)) (fun a i h1 h2 => cl a i (by omega) (by omega) (by omega)) (fun i i0 i1 => rl 198 i (by decide) (by omega) (by decide) (by decide) (by omega))
      have ms : MKS g' := by
        intro m m0 m1 hm9
        by_cases y : m = v1
        · subst y
          have q1 : scq h g' 60 (102 + 8 * m + 1) := scq_lo cm.2.1 (fun a i ha => lo a i (by unfold scp at ha; omega))
          rw [show 102 + 8 * m + 1 = 103 + 8 * m by omega] at q1
          refine SR_mv k5 q1 (fun i i0 i1 => ?_) t2 hp
          have w := (a8 i i0 (by omega)).trans (gh 198 i (by decide))
          rw [show 70 * m + 70 + i = 70 * m + 70 + i from rfl] at w
          rw [w, Int.zero_add]
        · rw [g9 m, if_neg y] at hm9
          exact SR_fr (k7 m m0 m1 hm9) (fun a i ha => cl a i (by omega) (by omega) (by omega)) (fun i i0 i1 => rl 198 i (by decide) (by omega) (by decide) (by decide) (by omega)) t2 hp
      have sto : ∀ a i, stt a i → rd g' a i = rd h a i := fun a i ha => by
        unfold stt at ha
        by_cases y : a < 182
        · exact cl a i y (by omega) (by omega)
        · exact rl a i (by omega) (by omega) (by omega) (by omega) (by omega)
      exact k g' gI' (EQL_mk hI hE (cl 2 0 (by decide) (by omega) (by decide)) (rl 182 2 (by decide) (by omega) (by decide) (by decide) (by decide)) sto mk sr un ms)
    · have gh : ∀ a i, 182 ≤ a → rd g a i = rd h a i := fun a i n => cf a i (by omega) (by omega)
      have iff := iff9 (fun i => gh _ _ (by decide))
      have A : Rn xs xl e mm_mark 0 [some (.inr (.inr 182)), some (.inl v1), some (.inl v2), none] [] g (fun q g' => q = some (.inl 1) ∧ (∀ i, rd g' 199 i = if i = v1 then 1 else rd g 199 i) ∧ (∀ i, 0 ≤ i → i < 70 → rd g' 198 i = rd g 198 (70 * v1 + 70 + i)) ∧ rd g' 182 25 = 0 ∧ (∀ a i, ¬ (a = 198 ∧ 0 ≤ i ∧ i < 70) → a ≠ 199 → ¬ (a = 195 ∧ 0 ≤ i ∧ i < 50) → ¬ (a = 182 ∧ (i = 0 ∨ i = 25)) → rd g' a i = rd g a i)) := G_markR (by omega) gI (fun g' _ y _ _ _ _ => absurd y z0) (fun g' _ _ _ a b _ c d => ⟨rfl, a, b, c, d⟩) (fun g' y _ => absurd (iff.mpr hm) y)
      refine (A.and B).mono (fun q g' z => ?_)
      obtain ⟨⟨rfl, a9, a8, a25, af⟩, gI'⟩ := z
      have hv := hm.1
      have nz : rd h 199 v1 ≠ 0 := by
        rw [j3 v1 hv.1 hv.2]
        exact hm.2.resolve_left z0
      clear A B iff iff9
      have lo : ∀ a i, a < 182 → rd g' a i = rd g a i := fun a i n => af a i (by omega) (by omega) (by omega) (by omega)
      have cl : ∀ a i, a < 182 → ¬ (59 ≤ a ∧ a ≤ 66) → ¬ (a = 1 ∧ i = 9) → rd g' a i = rd h a i := fun a i n1 n2 n3 => (lo a i n1).trans (cf a i (by omega) n3)
      have rl : ∀ a i, 182 ≤ a → ¬ (a = 198 ∧ 0 ≤ i ∧ i < 70) → a ≠ 199 → a ≠ 195 → ¬ (a = 182 ∧ (i = 0 ∨ i = 25)) → rd g' a i = rd h a i := fun a i n0 n1 n2 n3 n4 => (af a i n1 n2 (by omega) n4).trans (gh a i n0)
      have t2 : rd g' 188 2 = rd h 188 2 := rl 188 2 (by decide) (by omega) (by decide) (by decide) (by decide)
      have e6 : rd g' 1 6 = rd h 1 6 := cl 1 6 (by decide) (by decide) (by decide)
      have o1 : rd h 199 v1 = 1 := by
        have o := mbit_01 (rd h 1 6).toNat (by omega) v1.toNat (by omega)
        rw [show (((rd h 1 6).toNat : Nat) : Int) = rd h 1 6 by omega, show ((v1.toNat : Nat) : Int) = v1 by omega, ← j3 v1 hv.1 hv.2] at o
        exact o.resolve_left nz
      have g9 : ∀ m, rd g' 199 m = rd h 199 m := fun m => by
        rw [a9 m, gh 199 m (by decide)]
        by_cases y : m = v1
        · rw [if_pos y, y, o1]
        · rw [if_neg y]
      have mk : MKR g' := ⟨fun m h0 h1 => (cl 75 m (by decide) (by omega) (by omega)).trans (j1 m h0 h1), by rw [e6]; exact j2, fun m h0 h1 => by rw [g9 m, e6]; exact j3 m h0 h1⟩
      have q1 : scq h g' (102 + 8 * v1 + 1) 60 := scq_lo cm.2.1 (fun a i ha => lo a i (by unfold scp at ha; omega))
      rw [show 102 + 8 * v1 + 1 = 103 + 8 * v1 by omega] at q1
      have sr : SR g' 60 0 := by
        refine SR_mv (k7 v1 hv.1 hv.2 nz) q1 (fun i i0 i1 => ?_) t2 hp
        rw [Int.zero_add]
        exact (a8 i i0 (by omega)).trans (gh 198 _ (by decide))
      have un : UN g' := by
        have e9 : rd g' 1 9 = 0 := (lo 1 9 (by decide)).trans c9
        have e8 : rd g' 1 8 = rd h 1 8 := cl 1 8 (by decide) (by decide) (by decide)
        unfold UN
        rw [e9, e8]
        exact ⟨k6.1, by decide, a25, fun k k0 k1 => by omega⟩
      have ms : MKS g' := MKS_fr hp k7 t2 g9 (fun m m0 m1 a i h1 h2 => cl a i (by omega) (by omega) (by omega)) (fun i i0 i1 => rl 198 i (by decide) (by omega) (by decide) (by decide) (by omega))
      have sto : ∀ a i, stt a i → rd g' a i = rd h a i := fun a i ha => by
        unfold stt at ha
        by_cases y : a < 182
        · exact cl a i y (by omega) (by omega)
        · exact rl a i (by omega) (by omega) (by omega) (by omega) (by omega)
      exact k g' gI' (EQL_mk hI hE (cl 2 0 (by decide) (by decide) (by decide)) (rl 182 2 (by decide) (by decide) (by decide) (by decide) (by decide)) sto mk sr un ms)
end SCi
