/-! marks and walks, part m3: both marks -/
theorem mbit_chk : ∀ x : Nat, x < 16 → ∀ m : Nat, m < 4 → (0 ≤ zor (x : Int) (zshl 1 (m : Int)) ∧ zor (x : Int) (zshl 1 (m : Int)) ≤ 15) ∧ ∀ k : Nat, k < 4 → zand (zshr (zor (x : Int) (zshl 1 (m : Int))) (k : Int)) 1 = if k = m then 1 else zand (zshr (x : Int) (k : Int)) 1 := by decide +kernel
theorem mbit_01 : ∀ x : Nat, x < 16 → ∀ k : Nat, k < 4 → zand (zshr (x : Int) (k : Int)) 1 = 0 ∨ zand (zshr (x : Int) (k : Int)) 1 = 1 := by decide +kernel
theorem mbit_0 : ∀ k : Nat, k < 4 → zand (zshr 0 (k : Int)) 1 = 0 := by decide +kernel
theorem mbit_or {x m k : Int} (hx : 0 ≤ x ∧ x ≤ 15) (hm : 0 ≤ m ∧ m < 4) (hk : 0 ≤ k ∧ k < 4) : zand (zshr (zor x (zshl 1 m)) k) 1 = if k = m then 1 else zand (zshr x k) 1 := by
  have q := (mbit_chk x.toNat (by omega) m.toNat (by omega)).2 k.toNat (by omega)
  rw [show ((x.toNat : Nat) : Int) = x by omega, show ((m.toNat : Nat) : Int) = m by omega, show ((k.toNat : Nat) : Int) = k by omega] at q
  rw [q]
  by_cases e : k = m
  · rw [if_pos e, if_pos (by omega)]
  · rw [if_neg e, if_neg (by omega)]
theorem mbit_in {x m : Int} (hx : 0 ≤ x ∧ x ≤ 15) (hm : 0 ≤ m ∧ m < 4) : 0 ≤ zor x (zshl 1 m) ∧ zor x (zshl 1 m) ≤ 15 := by
  have q := (mbit_chk x.toNat (by omega) m.toNat (by omega)).1
  rw [show ((x.toNat : Nat) : Int) = x by omega, show ((m.toNat : Nat) : Int) = m by omega] at q
  exact q
/-- the class's marks stand where they were made; its marked bits are the reference's -/
def MKR (h : LH) : Prop := (∀ m, 0 ≤ m → m < 4 → rd h 75 m = 102 + 8 * m) ∧ (0 ≤ rd h 1 6 ∧ rd h 1 6 ≤ 15) ∧ ∀ m, 0 ≤ m → m < 4 → rd h 199 m = zand (zshr (rd h 1 6) m) 1
section MC
variable {xs : Nat → Int} {xl e : Nat} {h g : LH} {Q : Option LV → LH → Prop} {v1 v2 : Int}
theorem MKR_fr (hm : MKR h) (f1 : rd g 1 6 = rd h 1 6) (f2 : ∀ a i, a = 75 ∨ a = 199 → rd g a i = rd h a i) : MKR g := by
  obtain ⟨m1, m2, m3⟩ := hm
  refine ⟨fun m h0 h1 => (f2 _ _ (Or.inl rfl)).trans (m1 m h0 h1), by rw [f1]; exact m2, fun m h0 h1 => ?_⟩
  rw [f2 _ _ (Or.inr rfl), f1]
  exact m3 m h0 h1
theorem K_mcopy (he : 2 ≤ e) (hI : INV h) (hv : 0 ≤ v1 ∧ v1 < 4) (k : ∀ g, INV g → rd g 1 6 = rd h 1 6 → Q none g) : Rn xs xl e mm_Memory_copy 0 [some (.inr (.inr (102 + 8 * v1))), some (.inr (.inr 59))] [] h Q := by
  rcases (show v1 = 0 ∨ v1 = 1 ∨ v1 = 2 ∨ v1 = 3 by omega) with rfl | rfl | rfl | rfl
  · exact D_copy_102_59 he hI (fun g gI gf => k g gI (gf 1 6 (by decide)))
  · exact D_copy_110_59 he hI (fun g gI gf => k g gI (gf 1 6 (by decide)))
  · exact D_copy_118_59 he hI (fun g gI gf => k g gI (gf 1 6 (by decide)))
  · exact D_copy_126_59 he hI (fun g gI gf => k g gI (gf 1 6 (by decide)))
theorem K_mback (he : 2 ≤ e) (hI : INV h) (hv : 0 ≤ v1 ∧ v1 < 4) (k : ∀ g, INV g → rd g 1 6 = rd h 1 6 → Q none g) : Rn xs xl e mm_Memory_copy 0 [some (.inr (.inr 59)), some (.inr (.inr (102 + 8 * v1)))] [] h Q := by
  rcases (show v1 = 0 ∨ v1 = 1 ∨ v1 = 2 ∨ v1 = 3 by omega) with rfl | rfl | rfl | rfl
  · exact D_copy_59_102 he hI (fun g gI gf => k g gI (gf 1 6 (by decide)))
  · exact D_copy_59_110 he hI (fun g gI gf => k g gI (gf 1 6 (by decide)))
  · exact D_copy_59_118 he hI (fun g gI gf => k g gI (gf 1 6 (by decide)))
  · exact D_copy_59_126 he hI (fun g gI gf => k g gI (gf 1 6 (by decide)))
/-- whether mark answers yes -/
def mrkA (x v1 v2 : Int) : Prop := (0 ≤ v1 ∧ v1 < 4) ∧ (v2 = 0 ∨ zand (zshr x v1) 1 ≠ 0)
theorem E_markX (he : 3 ≤ e) (hI : INV h) (hm : MKR h) (k1 : ∀ g, mrkA (rd h 1 6) v1 v2 → rd g 1 6 = (if v2 = 0 then zor (rd h 1 6) (zshl 1 v1) else rd h 1 6) → Q (some (.inl 1)) g) (k0 : ¬ mrkA (rd h 1 6) v1 v2 → Q (some (.inl 0)) h) : Rn xs xl e mm_OneSided_mark 0 [some (.inr (.inr 1)), some (.inl v1), some (.inl v2)] [] h Q := by
  obtain ⟨m1, m2, m3⟩ := hm
  refine B_OneSided_mark_0 (RF_of hI.1) ⟨fun c => k0 (fun q => by have := q.1; omega), fun c => ⟨fun c2 => ⟨fun c3 => ?_, fun c3 => ?_⟩, fun c2 => k0 (fun q => by have := q.1; omega)⟩⟩
  · have hM := m1 v1 c c2
    refine B_OneSided_mark_42 (show 102 + 8 * v1 = 102 ∨ 102 + 8 * v1 = 110 ∨ 102 + 8 * v1 = 118 ∨ 102 + 8 * v1 = 126 by omega) hM (RF_of hI.1) ⟨fun c4 => ⟨⟨c, c2⟩, 2, by omega, K_mback (by omega) hI ⟨c, c2⟩ (fun g gI g6 => B_OneSided_mark_68 (RF_of gI.1) (k1 _ ⟨⟨c, c2⟩, Or.inr c4⟩ ?_))⟩, fun c4 => k0 (fun q => q.2.elim c3 (fun q => q c4))⟩
    rw [if_neg c3, rdw_nei (by decide), g6]
  · have hM := m1 v1 c c2
    refine B_OneSided_mark_15 (show 102 + 8 * v1 = 102 ∨ 102 + 8 * v1 = 110 ∨ 102 + 8 * v1 = 118 ∨ 102 + 8 * v1 = 126 by omega) hM (RF_of hI.1) ⟨⟨c, c2⟩, 2, by omega, K_mcopy (by omega) hI ⟨c, c2⟩ (fun g gI g6 => B_OneSided_mark_28 (RF_of gI.1) (k1 _ ⟨⟨c, c2⟩, Or.inl c3⟩ ?_))⟩
    rw [if_pos c3, rdw_eq, g6]
theorem hav_ln {a : Int} (ha : a = 195 ∨ a = 200) (i : Int) : (hav a i).1 ≠ 2 := by
  rcases ha with rfl | rfl
  · exact hav_nr (by decide +kernel) i
  · exact hav_nr (by decide +kernel) i
theorem G_markX (he : 1 ≤ e) (hI : INV h) (k1 : ∀ g, (0 ≤ v1 ∧ v1 < 4) → (v2 = 0 ∨ rd h 199 v1 ≠ 0) → (∀ i, rd g 199 i = if i = v1 then 1 else rd h 199 i) → Q (some (.inl 1)) g) (k0 : ∀ g, ¬ ((0 ≤ v1 ∧ v1 < 4) ∧ (v2 = 0 ∨ rd h 199 v1 ≠ 0)) → (∀ i, rd g 199 i = rd h 199 i) → Q (some (.inl 0)) g) : Rn xs xl e mm_mark 0 [some (.inr (.inr 182)), some (.inl v1), some (.inl v2), none] [] h Q := by
  have i0 : INV (wr h 182 0 0) := wF_thrown hI (by omega) (by omega)
  have no : ¬ ((0 ≤ v1 ∧ v1 < 4) ∧ (v2 = 0 ∨ rd h 199 v1 ≠ 0)) → Q (some (.inl 0)) (wr h 182 0 0) := fun q => k0 _ q (fun i => rdw_ne (by decide))
  have loop : (0 ≤ v1 ∧ v1 < 4) → (v2 = 0 ∨ rd h 199 v1 ≠ 0) → ∀ (d : Nat) (g : LH) (b : Int), 50 - b ≤ d → 0 ≤ b → b ≤ 50 → RF g → (∀ i, rd g 199 i = if i = v1 then 1 else rd h 199 i) → Rn xs xl e mm_mark 72 [some (.inr (.inr 182)), some (.inl v1), some (.inl v2), some (.inl b)] [] g Q := by
    intro hv hq d
    induction d with
    | zero =>
      intro g b hd b0 b1 gF g9
      exact B_mark_72 gF (by omega) ⟨b0, b1⟩ ⟨fun _ => ⟨fun _ => k1 _ hv hq (fun i => (rdw_ne (by decide)).trans (g9 i)), fun _ => k1 _ hv hq (fun i => (rdw_ne (by decide)).trans (g9 i))⟩, fun c => by omega⟩
    | succ d ih =>
      intro g b hd b0 b1 gF g9
      exact B_mark_72 gF (by omega) ⟨b0, b1⟩ ⟨fun _ => ⟨fun _ => k1 _ hv hq (fun i => (rdw_ne (by decide)).trans (g9 i)), fun _ => k1 _ hv hq (fun i => (rdw_ne (by decide)).trans (g9 i))⟩, fun c => ⟨fun _ => ⟨by omega, ih _ (b + 1) (by omega) (by omega) (by omega) (RF_wn (hav_ln (Or.inr rfl) _) gF) (fun i => (rdw_ne (by decide)).trans (g9 i))⟩, fun _ => ⟨by omega, ih _ (b + 1) (by omega) (by omega) (by omega) (RF_wn (hav_ln (Or.inl rfl) _) gF) (fun i => (rdw_ne (by decide)).trans (g9 i))⟩⟩⟩
  have s9 : ∀ i, rd (wr (wr h 182 0 0) 199 v1 1) 199 i = if i = v1 then 1 else rd h 199 i := by
    intro i
    rw [rd_wr]
    by_cases z : i = v1
    · rw [if_pos z, if_pos ⟨rfl, z.symm⟩]
    · rw [if_neg z, if_neg (fun q => z q.2.symm), rdw_ne (by decide)]
  have r2 : RNG (wr (wr h 182 0 0) 199 v1 1) := wR_isMarked i0.1 (by omega) (by omega)
  refine B_mark_0 (RF_of hI.1) he ⟨fun c => no (fun q => by have := q.1; omega), fun c => ⟨fun c2 => no (fun q => by have := q.1; omega), fun c2 => ⟨fun c3 => ⟨by omega, by omega, by omega, 0, by omega, D_copies r2 (by omega) (by omega) (by omega) (fun g gr gf _ => B_mark_70 (RF_of gr) (loop (by omega) (Or.inl c3) 50 g 0 (by omega) (by omega) (by omega) (RF_of gr) (fun i => (gf 199 i (by omega)).trans (s9 i))))⟩, fun c3 => ⟨by omega, fun c4 => ⟨by omega, by omega, by omega, 0, by omega, D_copies r2 (by omega) (by omega) (by omega) (fun g gr gf _ => B_mark_70 (RF_of gr) (loop (by omega) (Or.inr c4) 50 g 0 (by omega) (by omega) (by omega) (RF_of gr) (fun i => (gf 199 i (by omega)).trans (s9 i))))⟩, fun c4 => no (fun q => q.2.elim c3 (fun q => q c4))⟩⟩⟩⟩
end MC
