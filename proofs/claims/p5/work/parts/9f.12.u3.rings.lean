/-! rings, part u3: ring, homeless under the relation -/
section UD
variable {xs : Nat → Int} {xl e : Nat} {h g : LH} {Q : Option LV → LH → Prop} {K : KEY} {q s hr sh a b v1 v2 v3 r : Int} {L : List Int}
theorem EE_eL (hc : CXq h K q L) (hK : KR K) (hs : 0 ≤ s ∧ s ≤ 3) (hh : 0 ≤ hr ∧ hr ≤ 23) : EE K (zand (rd h (q + 5) (24 * s + hr)) (zxor sh (-1))) (zand (rd h (q + 6) (24 * s + hr)) (zxor sh (-1))) a b ↔ 0 ≤ b ∧ eL K s hr sh 0 a b := by
  have k0 := hK.1
  constructor
  · intro ee
    have i := EE_in hK ee
    have x : ∃ d, 0 ≤ d ∧ d < K.1 1 ∧ entD K (zand (rd h (q + 5) (24 * s + hr)) (zxor sh (-1))) (zand (rd h (q + 6) (24 * s + hr)) (zxor sh (-1))) (zshl 1 a) b d := ent_EE.mpr ⟨a, (bit_shl i.1.1 (by omega) i.1.1 (by omega)).mpr rfl, ee⟩
    obtain ⟨a', a0, a1, ra, d, d0, d1, y⟩ := (ent_all hc hK hs hh i.2.1).mp x
    rw [bit_shl i.1.1 (by omega) a0 (by omega)] at ra
    rw [ra] at y
    exact ⟨i.2.1, i.1, d, d0, d1, y⟩
  · rintro ⟨b0, a0, d, d0, d1, y⟩
    obtain ⟨a', ra, ee⟩ := ent_EE.mp ((ent_all (R := zshl 1 a) hc hK hs hh b0).mpr ⟨a, a0.1, by omega, (bit_shl a0.1 (by omega) a0.1 (by omega)).mpr rfl, d, d0, d1, y⟩)
    have i := EE_in hK ee
    rw [bit_shl a0.1 (by omega) i.1.1 (by omega)] at ra
    rw [ra] at ee
    exact ee
/-- from a room to another one -/
def Rc (K : KEY) (s hr sh a b : Int) : Prop := Rea (fun x y => 0 ≤ y ∧ eL K s hr sh 0 x y) a b
theorem Rc_in (hK : KR K) (hs : 0 ≤ s ∧ s ≤ 3) (hh : 0 ≤ hr ∧ hr ≤ 23) (a0 : 0 ≤ a ∧ a < K.1 0) (h : Rc K s hr sh a b) : 0 ≤ b ∧ b < K.1 0 := by
  have k0 := hK.1
  have k1 := hK.2.1
  refine Rea_min (X := fun b => 0 ≤ b ∧ b < K.1 0) a0 (fun x y hx ee => ?_) h
  obtain ⟨y0, x0, d, d0, d1, ee⟩ := ee
  have lf := LF_ok K (d := d) (s := s) (room := x) (hr := hr) sh 0 (by omega) hs (by omega) (by omega)
  obtain ⟨r2, r3, -⟩ := hK.2.2.2.1 d d0 d1
  have z := lf.2.1 (by omega)
  rw [ee] at z
  omega
/-- ring -/
def rngC (h : LH) (room s hr : Int) : Prop := (0 ≤ room ∧ room < rd h 188 0) ∧ (0 ≤ s ∧ s ≤ 3) ∧ 0 ≤ hr ∧ hr ≤ 23
def rngJ (v1 v2 v3 : Int) (h g : LH) (r : Int) : Prop := samP h g ∧ ((¬ rngC h v1 v2 v3 ∧ r = -1) ∨ (rngC h v1 v2 v3 ∧ i32 r ∧ ∀ b, 0 ≤ b → b < 32 → (bitZ r b ↔ Rc (key h) v2 v3 (rd h 198 1) v1 b ∧ Rc (key h) v2 v3 (rd h 198 1) b v1)))
def hmlJ (v1 v2 v3 : Int) (h g : LH) (r : Int) : Prop := samP h g ∧ ((¬ rngC h v1 v2 v3 ∧ r = -1) ∨ (rngC h v1 v2 v3 ∧ i32 r ∧ ∀ b, 0 ≤ b → b < 32 → (bitZ r b ↔ b < rd h 188 0 ∧ ¬ Rc (key h) v2 v3 (rd h 198 1) b v1)))
theorem bit_all : ∀ n : Nat, n ≤ 10 → ∀ b : Nat, b < 32 → (bitZ (zshl 1 (n : Int) - 1) (b : Int) ↔ b < n) := by decide +kernel
theorem bit_all' {n b : Int} (n0 : 0 ≤ n ∧ n ≤ 10) (b0 : 0 ≤ b) (b1 : b < 32) : bitZ (zshl 1 n - 1) b ↔ b < n := by
  have := bit_all n.toNat (by omega) b.toNat (by omega)
  rw [Int.toNat_of_nonneg n0.1, Int.toNat_of_nonneg b0] at this
  rw [this]
  omega
theorem shl_10 : ∀ n : Nat, n ≤ 10 → 1 ≤ zshl 1 (n : Int) ∧ zshl 1 (n : Int) ≤ 1024 := by decide +kernel
theorem E_ringS (he : 8 ≤ e) (hI : INV h) (hE : EQL h) (h1 : i32 v1) (h2 : i32 v2) (h3 : i32 v3) (k : ∀ r g, INV g → rngJ v1 v2 v3 h g r → Q (some (.inl r)) g) : Rn xs xl e mm_OneSided_ring 0 [some (.inr (.inr 1)), some (.inl v1), some (.inl v2), some (.inl v3)] [] h Q := by
  obtain ⟨L, hc⟩ := CXq_of hI hE
  have hK := KR_of hI
  have hq : rd h 1 1 = 5 ∨ rd h 1 1 = 32 := rQf hI.1
  obtain ⟨-, -, -, -, ⟨c0, -, -⟩, -⟩ := id hc
  have c0' : rd h (rd h 1 1) 0 = rd h 188 0 := c0
  have n0 := rq_rooms hI.1
  have k5 := hE.2.2.2.2.2.2.2.2.2.2.2.1
  have e1 : rd h 60 1 = rd h 198 1 := k5.2.1
  have no : ¬ rngC h v1 v2 v3 → Q (some (.inl (-1))) h := fun z => k (-1) h hI ⟨fun _ _ => rfl, Or.inl ⟨z, rfl⟩⟩
  refine B_OneSided_ring_0 hq rfl (RF_of hI.1) (by omega) ⟨fun c => no (fun z => by have := z.1; omega), fun c => ⟨fun c2 => no (fun z => by have := z.1; omega), fun c2 => ⟨fun c3 => no (fun z => by have := z.2; omega), fun c3 => ⟨fun c4 => no (fun z => by have := z.2; omega), fun c4 => ⟨fun c5 => no (fun z => by have := z.2; omega), fun c5 => ⟨fun c6 => no (fun z => by have := z.2; omega), fun c6 => ⟨by omega, by omega, by omega, by omega, by omega, by omega, 2, by omega, ?_⟩⟩⟩⟩⟩⟩⟩
  rw [e1]
  refine B_Web_ringOf_0 hq (RF_of hI.1) ⟨1, by omega, F_roomsFrom (Nat.le_refl 1) hc hK (by omega) (fun r1 i1 b1 => B_Web_ringOf_7 hq (RF_of hI.1) ⟨1, by omega, F_roomsFrom (Nat.le_refl 1) hc hK (by omega) (fun r2 i2 b2 => B_Web_ringOf_14 hq (RF_of hI.1) (B_OneSided_ring_39 (RF_of hI.1) (k _ h hI ⟨fun _ _ => rfl, Or.inr ⟨⟨⟨c, by omega⟩, by omega, by omega⟩, zand_i _ _, fun b b0 b1' => ?_⟩⟩)))⟩)⟩
  rw [bit_and b0 b1', b1 b b0 b1', b2 b b0 b1']
  unfold Rc
  have x1 : Rea (EE (key h) (zand (rd h (rd h 1 1 + 5) (24 * v2 + v3)) (zxor (rd h 198 1) (-1))) (zand (rd h (rd h 1 1 + 6) (24 * v2 + v3)) (zxor (rd h 198 1) (-1)))) v1 b ↔ Rea (fun x y => 0 ≤ y ∧ eL (key h) v2 v3 (rd h 198 1) 0 x y) v1 b := Rea_iff (fun x y => EE_eL hc hK (by omega) (by omega))
  have x2 : Rea (EE (key h) (zand (rd h (rd h 1 1 + 6) (24 * v2 + v3)) (zxor (rd h 198 1) (-1))) (zand (rd h (rd h 1 1 + 5) (24 * v2 + v3)) (zxor (rd h 198 1) (-1)))) v1 b ↔ Rea (fun x y => 0 ≤ y ∧ eL (key h) v2 v3 (rd h 198 1) 0 x y) b v1 := by
    rw [← Rea_flip_iff (E := fun x y => 0 ≤ y ∧ eL (key h) v2 v3 (rd h 198 1) 0 x y)]
    exact Rea_iff (fun x y => EE_flip.trans (EE_eL hc hK (by omega) (by omega)))
  rw [x1, x2]
theorem E_homelessS (he : 8 ≤ e) (hI : INV h) (hE : EQL h) (h1 : i32 v1) (h2 : i32 v2) (h3 : i32 v3) (k : ∀ r g, INV g → hmlJ v1 v2 v3 h g r → Q (some (.inl r)) g) : Rn xs xl e mm_OneSided_homeless 0 [some (.inr (.inr 1)), some (.inl v1), some (.inl v2), some (.inl v3), none] [] h Q := by
  obtain ⟨L, hc⟩ := CXq_of hI hE
  have hK := KR_of hI
  have hq : rd h 1 1 = 5 ∨ rd h 1 1 = 32 := rQf hI.1
  obtain ⟨-, -, -, -, ⟨c0, -, -⟩, -⟩ := id hc
  have c0' : rd h (rd h 1 1) 0 = rd h 188 0 := c0
  have n0 := rq_rooms hI.1
  have k5 := hE.2.2.2.2.2.2.2.2.2.2.2.1
  have e1 : rd h 60 1 = rd h 198 1 := k5.2.1
  have no : ¬ rngC h v1 v2 v3 → Q (some (.inl (-1))) h := fun z => k (-1) h hI ⟨fun _ _ => rfl, Or.inl ⟨z, rfl⟩⟩
  have s10 := shl_10 (rd h (rd h 1 1) 0).toNat (by omega)
  rw [Int.toNat_of_nonneg (by omega)] at s10
  refine B_OneSided_homeless_0 hq rfl (RF_of hI.1) (by omega) ⟨fun c => no (fun z => by have := z.1; omega), fun c => ⟨fun c2 => no (fun z => by have := z.1; omega), fun c2 => ⟨fun c3 => no (fun z => by have := z.2; omega), fun c3 => ⟨fun c4 => no (fun z => by have := z.2; omega), fun c4 => ⟨fun c5 => no (fun z => by have := z.2; omega), fun c5 => ⟨fun c6 => no (fun z => by have := z.2; omega), fun c6 => ⟨by omega, by omega, by omega, by omega, by omega, by omega, by omega, 1, by omega, ?_⟩⟩⟩⟩⟩⟩⟩
  rw [e1]
  refine F_roomsFrom (Nat.le_refl 1) hc hK (by omega) (fun r2 i2 b2 => B_OneSided_homeless_54 (RF_of hI.1) (k _ h hI ⟨fun _ _ => rfl, Or.inr ⟨⟨⟨c, by omega⟩, by omega, by omega⟩, zand_i _ _, fun b b0 b1' => ?_⟩⟩))
  rw [bit_and b0 b1', bit_not b0 b1', b2 b b0 b1', bit_all' (by omega) b0 b1', c0']
  unfold Rc
  have x2 : Rea (EE (key h) (zand (rd h (rd h 1 1 + 6) (24 * v2 + v3)) (zxor (rd h 198 1) (-1))) (zand (rd h (rd h 1 1 + 5) (24 * v2 + v3)) (zxor (rd h 198 1) (-1)))) v1 b ↔ Rea (fun x y => 0 ≤ y ∧ eL (key h) v2 v3 (rd h 198 1) 0 x y) b v1 := by
    rw [← Rea_flip_iff (E := fun x y => 0 ≤ y ∧ eL (key h) v2 v3 (rd h 198 1) 0 x y)]
    exact Rea_iff (fun x y => EE_flip.trans (EE_eL hc hK (by omega) (by omega)))
  rw [x2]
theorem EQL_I (hI : INV h) (hE : EQL h) (f : ∀ a i, a ≠ 196 → a ≠ 197 → a ≠ 203 → ¬ (a = 182 ∧ i = 0) → rd g a i = rd h a i) : EQL g :=
  EQL_fr hI hE (f 2 0 (by decide) (by decide) (by decide) (by decide)) (f 182 2 (by decide) (by decide) (by decide) (by decide)) (fun a i ha => by
    obtain ⟨y1, y2, -⟩ := inK_p ha
    exact f a i (by omega) (by omega) (by omega) (by omega))
theorem G_ringS (he : 8 ≤ e) (hI : INV h) (hE : EQL h) (gI : INV g) (hj : rngJ v1 v2 v3 h g r) (k : ∀ g', INV g' → EQL g' → Q (some (.inl r)) g') : Rn xs xl e mm_ring 0 [some (.inr (.inr 182)), some (.inl v1), some (.inl v2), some (.inl v3)] [] g Q := by
  obtain ⟨sm, hc⟩ := hj
  have EG := EQL_sam hI hE sm
  have ek := key_sam sm
  have hK := KR_of gI
  have n0 := rq_rooms gI.1
  have eC : rngC g v1 v2 v3 ↔ rngC h v1 v2 v3 := by
    unfold rngC
    rw [sm 188 0]
  rw [← eC, ← ek, ← sm 198 1] at hc
  have no : ¬ rngC g v1 v2 v3 → Q (some (.inl (-1))) (wr g 182 0 0) := fun z => by
    obtain ⟨i1, e1⟩ := thr gI EG
    rcases hc with ⟨_, rfl⟩ | ⟨c, _⟩
    · exact k _ i1 e1
    · exact absurd c z
  refine B_ring_0 (RF_of gI.1) (by omega) ⟨fun c => no (fun z => by have := z.1; omega), fun c => ⟨fun c2 => no (fun z => by have := z.1; omega), fun c2 => ⟨fun c3 => no (fun z => by have := z.2; omega), fun c3 => ⟨fun c4 => no (fun z => by have := z.2; omega), fun c4 => ⟨fun c5 => no (fun z => by have := z.2; omega), fun c5 => ⟨fun c6 => no (fun z => by have := z.2; omega), fun c6 => ⟨4, by omega, ?_⟩⟩⟩⟩⟩⟩⟩
  obtain ⟨tI, tK, -⟩ := WC_thr gI
  refine G_laysInto (Nat.le_refl 4) tI tK ⟨c3, c4⟩ ⟨c5, c6⟩ (fun u uI uf ul => ?_)
  have uK : key u = key g := uf.key.trans tK
  have er : ∀ {x y}, Rea (eR (key g) u) x y ↔ Rc (key g) v2 v3 (rd g 198 1) x y := Rea_iff (fun x y => eR_eL ul hK ⟨c3, c4⟩ ⟨c5, c6⟩)
  refine B_ring_37 (RF_of uI.1) ⟨1, by omega, G_closure (Nat.le_refl 1) uI uK (by omega) (fun w w0 w1 wb => B_ring_42 (RF_of uI.1) ⟨2, by omega, G_homelessOf (Nat.le_refl 2) uI uK (by omega) (fun y yi yb => B_ring_47 (RF_of uI.1) ?_)⟩)⟩
  rcases hc with ⟨z, _⟩ | ⟨_, ri, rb⟩
  · exact absurd ⟨⟨c, c2⟩, ⟨c3, c4⟩, c5, c6⟩ z
  · have eq : zand w (zxor y (-1)) = r := by
      refine bit_ext (zand_i _ _) ri (fun b b0 b1 => ?_)
      rw [bit_and b0 b1, bit_not b0 b1, wb b b0 b1, yb b b0 b1, rb b b0 b1, er, er]
      constructor
      · rintro ⟨x, n⟩
        have i := Rc_in hK ⟨c3, c4⟩ ⟨c5, c6⟩ (a := v1) ⟨c, c2⟩ x
        exact ⟨x, Classical.byContradiction (fun m => n ⟨i.2, m⟩)⟩
      · rintro ⟨x, m⟩
        exact ⟨x, fun n => n.2 m⟩
    rw [eq]
    exact k u uI (EQL_I gI EG (fun a i n1 n2 n3 n4 => (uf a i n1 n2 n3).trans (by rw [rd_wr, if_neg (by omega)])))
theorem G_homelessS (he : 8 ≤ e) (hI : INV h) (hE : EQL h) (gI : INV g) (hj : hmlJ v1 v2 v3 h g r) (k : ∀ g', INV g' → EQL g' → Q (some (.inl r)) g') : Rn xs xl e mm_homeless 0 [some (.inr (.inr 182)), some (.inl v1), some (.inl v2), some (.inl v3)] [] g Q := by
  obtain ⟨sm, hc⟩ := hj
  have EG := EQL_sam hI hE sm
  have ek := key_sam sm
  have hK := KR_of gI
  have n0 := rq_rooms gI.1
  have eC : rngC g v1 v2 v3 ↔ rngC h v1 v2 v3 := by
    unfold rngC
    rw [sm 188 0]
  rw [← eC, ← ek, ← sm 198 1, ← sm 188 0] at hc
  have no : ¬ rngC g v1 v2 v3 → Q (some (.inl (-1))) (wr g 182 0 0) := fun z => by
    obtain ⟨i1, e1⟩ := thr gI EG
    rcases hc with ⟨_, rfl⟩ | ⟨c, _⟩
    · exact k _ i1 e1
    · exact absurd c z
  refine B_homeless_0 (RF_of gI.1) (by omega) ⟨fun c => no (fun z => by have := z.1; omega), fun c => ⟨fun c2 => no (fun z => by have := z.1; omega), fun c2 => ⟨fun c3 => no (fun z => by have := z.2; omega), fun c3 => ⟨fun c4 => no (fun z => by have := z.2; omega), fun c4 => ⟨fun c5 => no (fun z => by have := z.2; omega), fun c5 => ⟨fun c6 => no (fun z => by have := z.2; omega), fun c6 => ⟨4, by omega, ?_⟩⟩⟩⟩⟩⟩⟩
  obtain ⟨tI, tK, -⟩ := WC_thr gI
  refine G_laysInto (Nat.le_refl 4) tI tK ⟨c3, c4⟩ ⟨c5, c6⟩ (fun u uI uf ul => ?_)
  have uK : key u = key g := uf.key.trans tK
  have er : ∀ {x y}, Rea (eR (key g) u) x y ↔ Rc (key g) v2 v3 (rd g 198 1) x y := Rea_iff (fun x y => eR_eL ul hK ⟨c3, c4⟩ ⟨c5, c6⟩)
  refine B_homeless_37 (RF_of uI.1) ⟨2, by omega, G_homelessOf (Nat.le_refl 2) uI uK (by omega) (fun y yi yb => B_homeless_42 (RF_of uI.1) ?_)⟩
  rcases hc with ⟨z, _⟩ | ⟨_, ri, rb⟩
  · exact absurd ⟨⟨c, c2⟩, ⟨c3, c4⟩, c5, c6⟩ z
  · have eq : y = r := by
      refine bit_ext yi ri (fun b b0 b1 => ?_)
      rw [yb b b0 b1, rb b b0 b1, er]
      exact Iff.rfl
    rw [eq]
    exact k u uI (EQL_I gI EG (fun a i n1 n2 n3 n4 => (uf a i n1 n2 n3).trans (by rw [rd_wr, if_neg (by omega)])))
end UD
