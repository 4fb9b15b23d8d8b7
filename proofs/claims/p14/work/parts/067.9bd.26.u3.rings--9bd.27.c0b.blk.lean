section
/-! rings, part u3: ring, homeless under the relation -/
section UD
variable {xs : Nat → Int} {xl e : Nat} {h g : LH} {Q : Option LV → LH → Prop} {K : KEY} {q s hr sh a b v1 v2 v3 r : Int} {L : List Int}
theorem EE_eL (hc : CXq h K q L) (hK : KR K) (hs : 0 ≤ s ∧ s ≤ 3) (hh : 0 ≤ hr ∧ hr ≤ 23) : EE K (zand (rd h (q + 5) (24 * s + hr)) (zxor sh (-1))) (zand (rd h (q + 6) (24 * s + hr)) (zxor sh (-1))) a b ↔ 0 ≤ b ∧ eL K s hr sh 0 a b := by
  have k0 := hK.1
  constructor
  · intro ee
    have i := EE_in hK ee
    have x : ∃ d, 0 ≤ d ∧ d < K.1 1 ∧ entD K (zand (rd h (q + 5) (24 * s + hr)) (zxor sh (-1))) (zand (rd h (q + 6) (24 * s + hr)) (zxor sh (-1))) (zshl 1 a) b d := ent_EE.mpr ⟨a, (bit_shl i.1.1 (by omega) i.1.1 (by omega)).mpr rfl, ee⟩
    obtain ⟨a', a0, a1, ra, d, d0, d1, y⟩ := (ent_all hc hK hs hh i.2.1).mp x
    rw [bit_shl i.1.1 (by omega) a0 (by omega)] at ra
    rw [ra] at y
    exact ⟨i.2.1, i.1, d, d0, d1, y⟩
  · rintro ⟨b0, a0, d, d0, d1, y⟩
    obtain ⟨a', ra, ee⟩ := ent_EE.mp ((ent_all (R := zshl 1 a) hc hK hs hh b0).mpr ⟨a, a0.1, by omega, (bit_shl a0.1 (by omega) a0.1 (by omega)).mpr rfl, d, d0, d1, y⟩)
    have i := EE_in hK ee
    rw [bit_shl a0.1 (by omega) i.1.1 (by omega)] at ra
    rw [ra] at ee
    exact ee
/-- from a room to another one -/
def Rc (K : KEY) (s hr sh a b : Int) : Prop := Rea (fun x y => 0 ≤ y ∧ eL K s hr sh 0 x y) a b
theorem Rc_in (hK : KR K) (hs : 0 ≤ s ∧ s ≤ 3) (hh : 0 ≤ hr ∧ hr ≤ 23) (a0 : 0 ≤ a ∧ a < K.1 0) (h : Rc K s hr sh a b) : 0 ≤ b ∧ b < K.1 0 := by
  have k0 := hK.1
  have k1 := hK.2.1
  refine Rea_min (X := fun b => 0 ≤ b ∧ b < K.1 0) a0 (fun x y hx ee => ?_) h
  obtain ⟨y0, x0, d, d0, d1, ee⟩ := ee
  have lf := LF_ok K (d := d) (s := s) (room := x) (hr := hr) sh 0 (by omega) hs (by omega) (by omega)
  obtain ⟨r2, r3, -⟩ := hK.2.2.2.1 d d0 d1
  have z := lf.2.1 (by omega)
  rw [ee] at z
  omega
/-- ring -/
def rngC (h : LH) (room s hr : Int) : Prop := (0 ≤ room ∧ room < rd h 188 0) ∧ (0 ≤ s ∧ s ≤ 3) ∧ 0 ≤ hr ∧ hr ≤ 23
def rngJ (v1 v2 v3 : Int) (h g : LH) (r : Int) : Prop := samP h g ∧ ((¬ rngC h v1 v2 v3 ∧ r = -1) ∨ (rngC h v1 v2 v3 ∧ i32 r ∧ ∀ b, 0 ≤ b → b < 32 → (bitZ r b ↔ Rc (key h) v2 v3 (rd h 198 1) v1 b ∧ Rc (key h) v2 v3 (rd h 198 1) b v1)))
def hmlJ (v1 v2 v3 : Int) (h g : LH) (r : Int) : Prop := samP h g ∧ ((¬ rngC h v1 v2 v3 ∧ r = -1) ∨ (rngC h v1 v2 v3 ∧ i32 r ∧ ∀ b, 0 ≤ b → b < 32 → (bitZ r b ↔ b < rd h 188 0 ∧ ¬ Rc (key h) v2 v3 (rd h 198 1) b v1)))
theorem bit_all : ∀ n : Nat, n ≤ 10 → ∀ b : Nat, b < 32 → (bitZ (zshl 1 (n : Int) - 1) (b : Int) ↔ b < n) := by decide +kernel
theorem bit_all' {n b : Int} (n0 : 0 ≤ n ∧ n ≤ 10) (b0 : 0 ≤ b) (b1 : b < 32) : bitZ (zshl 1 n - 1) b ↔ b < n := by
  have := bit_all n.toNat (by omega) b.toNat (by omega)
  rw [Int.toNat_of_nonneg n0.1, Int.toNat_of_nonneg b0] at this
  rw [this]
  omega
theorem shl_10 : ∀ n : Nat, n ≤ 10 → 1 ≤ zshl 1 (n : Int) ∧ zshl 1 (n : Int) ≤ 1024 := by decide +kernel
theorem E_ringS (he : 8 ≤ e) (hI : INV h) (hE : EQL h) (h1 : i32 v1) (h2 : i32 v2) (h3 : i32 v3) (k : ∀ r g, INV g → rngJ v1 v2 v3 h g r → Q (some (.inl r)) g) : Rn xs xl e mm_OneSided_ring 0 [some (.inr (.inr 1)), some (.inl v1), some (.inl v2), some (.inl v3)] [] h Q := by
  obtain ⟨L, hc⟩ := CXq_of hI hE
  have hK := KR_of hI
  have hq : rd h 1 1 = 5 ∨ rd h 1 1 = 32 := rQf hI.1
  obtain ⟨-, -, -, -, ⟨c0, -, -⟩, -⟩ := id hc
  have c0' : rd h (rd h 1 1) 0 = rd h 188 0 := c0
  have n0 := rq_rooms hI.1
  have k5 := hE.2.2.2.2.2.2.2.2.2.2.2.1
  have e1 : rd h 60 1 = rd h 198 1 := k5.2.1
  have no : ¬ rngC h v1 v2 v3 → Q (some (.inl (-1))) h := fun z => k (-1) h hI ⟨fun _ _ => rfl, Or.inl ⟨z, rfl⟩⟩
  refine B_OneSided_ring_0 hq rfl (RF_of hI.1) (by omega) ⟨fun c => no (fun z => by have := z.1; omega), fun c => ⟨fun c2 => no (fun z => by have := z.1; omega), fun c2 => ⟨fun c3 => no (fun z => by have := z.2; omega), fun c3 => ⟨fun c4 => no (fun z => by have := z.2; omega), fun c4 => ⟨fun c5 => no (fun z => by have := z.2; omega), fun c5 => ⟨fun c6 => no (fun z => by have := z.2; omega), fun c6 => ⟨by omega, by omega, by omega, by omega, by omega, by omega, 2, by omega, ?_⟩⟩⟩⟩⟩⟩⟩
  rw [e1]
  refine B_Web_ringOf_0 hq (RF_of hI.1) ⟨1, by omega, F_roomsFrom (Nat.le_refl 1) hc hK (by omega) (fun r1 i1 b1 => B_Web_ringOf_7 hq (RF_of hI.1) ⟨1, by omega, F_roomsFrom (Nat.le_refl 1) hc hK (by omega) (fun r2 i2 b2 => B_Web_ringOf_14 hq (RF_of hI.1) (B_OneSided_ring_39 (RF_of hI.1) (k _ h hI ⟨fun _ _ => rfl, Or.inr ⟨⟨⟨c, by omega⟩, by omega, by omega⟩, zand_i _ _, fun b b0 b1' => ?_⟩⟩)))⟩)⟩
  rw [bit_and b0 b1', b1 b b0 b1', b2 b b0 b1']
  unfold Rc
  have x1 : Rea (EE (key h) (zand (rd h (rd h 1 1 + 5) (24 * v2 + v3)) (zxor (rd h 198 1) (-1))) (zand (rd h (rd h 1 1 + 6) (24 * v2 + v3)) (zxor (rd h 198 1) (-1)))) v1 b ↔ Rea (fun x y => 0 ≤ y ∧ eL (key h) v2 v3 (rd h 198 1) 0 x y) v1 b := Rea_iff (fun x y => EE_eL hc hK (by omega) (by omega))
  have x2 : Rea (EE (key h) (zand (rd h (rd h 1 1 + 6) (24 * v2 + v3)) (zxor (rd h 198 1) (-1))) (zand (rd h (rd h 1 1 + 5) (24 * v2 + v3)) (zxor (rd h 198 1) (-1)))) v1 b ↔ Rea (fun x y => 0 ≤ y ∧ eL (key h) v2 v3 (rd h 198 1) 0 x y) b v1 := by
    rw [← Rea_flip_iff (E := fun x y => 0 ≤ y ∧ eL (key h) v2 v3 (rd h 198 1) 0 x y)]
    exact Rea_iff (fun x y => EE_flip.trans (EE_eL hc hK (by omega) (by omega)))
  rw [x1, x2]
theorem E_homelessS (he : 8 ≤ e) (hI : INV h) (hE : EQL h) (h1 : i32 v1) (h2 : i32 v2) (h3 : i32 v3) (k : ∀ r g, INV g → hmlJ v1 v2 v3 h g r → Q (some (.inl r)) g) : Rn xs xl e mm_OneSided_homeless 0 [some (.inr (.inr 1)), some (.inl v1), some (.inl v2), some (.inl v3), none] [] h Q := by
  obtain ⟨L, hc⟩ := CXq_of hI hE
  have hK := KR_of hI
  have hq : rd h 1 1 = 5 ∨ rd h 1 1 = 32 := rQf hI.1
  obtain ⟨-, -, -, -, ⟨c0, -, -⟩, -⟩ := id hc
  have c0' : rd h (rd h 1 1) 0 = rd h 188 0 := c0
  have n0 := rq_rooms hI.1
  have k5 := hE.2.2.2.2.2.2.2.2.2.2.2.1
  have e1 : rd h 60 1 = rd h 198 1 := k5.2.1
  have no : ¬ rngC h v1 v2 v3 → Q (some (.inl (-1))) h := fun z => k (-1) h hI ⟨fun _ _ => rfl, Or.inl ⟨z, rfl⟩⟩
  have s10 := shl_10 (rd h (rd h 1 1) 0).toNat (by omega)
  rw [Int.toNat_of_nonneg (by omega)] at s10
  refine B_OneSided_homeless_0 hq rfl (RF_of hI.1) (by omega) ⟨fun c => no (fun z => by have := z.1; omega), fun c => ⟨fun c2 => no (fun z => by have := z.1; omega), fun c2 => ⟨fun c3 => no (fun z => by have := z.2; omega), fun c3 => ⟨fun c4 => no (fun z => by have := z.2; omega), fun c4 => ⟨fun c5 => no (fun z => by have := z.2; omega), fun c5 => ⟨fun c6 => no (fun z => by have := z.2; omega), fun c6 => ⟨by omega, by omega, by omega, by omega, by omega, by omega, by omega, 1, by omega, ?_⟩⟩⟩⟩⟩⟩⟩
  rw [e1]
  refine F_roomsFrom (Nat.le_refl 1) hc hK (by omega) (fun r2 i2 b2 => B_OneSided_homeless_54 (RF_of hI.1) (k _ h hI ⟨fun _ _ => rfl, Or.inr ⟨⟨⟨c, by omega⟩, by omega, by omega⟩, zand_i _ _, fun b b0 b1' => ?_⟩⟩))
  rw [bit_and b0 b1', bit_not b0 b1', b2 b b0 b1', bit_all' (by omega) b0 b1', c0']
  unfold Rc
  have x2 : Rea (EE (key h) (zand (rd h (rd h 1 1 + 6) (24 * v2 + v3)) (zxor (rd h 198 1) (-1))) (zand (rd h (rd h 1 1 + 5) (24 * v2 + v3)) (zxor (rd h 198 1) (-1)))) v1 b ↔ Rea (fun x y => 0 ≤ y ∧ eL (key h) v2 v3 (rd h 198 1) 0 x y) b v1 := by
    rw [← Rea_flip_iff (E := fun x y => 0 ≤ y ∧ eL (key h) v2 v3 (rd h 198 1) 0 x y)]
    exact Rea_iff (fun x y => EE_flip.trans (EE_eL hc hK (by omega) (by omega)))
  rw [x2]
theorem EQL_I (hI : INV h) (hE : EQL h) (f : ∀ a i, a ≠ 196 → a ≠ 197 → a ≠ 203 → ¬ (a = 182 ∧ i = 0) → rd g a i = rd h a i) : EQL g :=
  EQL_fr hI hE (f 2 0 (by decide) (by decide) (by decide) (by decide)) (f 182 2 (by decide) (by decide) (by decide) (by decide)) (fun a i ha => by
    obtain ⟨y1, y2, -⟩ := inK_p ha
    exact f a i (by omega) (by omega) (by omega) (by omega))
theorem G_ringS (he : 8 ≤ e) (hI : INV h) (hE : EQL h) (gI : INV g) (hj : rngJ v1 v2 v3 h g r) (k : ∀ g', INV g' → EQL g' → Q (some (.inl r)) g') : Rn xs xl e mm_ring 0 [some (.inr (.inr 182)), some (.inl v1), some (.inl v2), some (.inl v3)] [] g Q := by
  obtain ⟨sm, hc⟩ := hj
  have EG := EQL_sam hI hE sm
  have ek := key_sam sm
  have hK := KR_of gI
  have n0 := rq_rooms gI.1
  have eC : rngC g v1 v2 v3 ↔ rngC h v1 v2 v3 := by
    unfold rngC
    rw [sm 188 0]
  rw [← eC, ← ek, ← sm 198 1] at hc
  have no : ¬ rngC g v1 v2 v3 → Q (some (.inl (-1))) (wr g 182 0 0) := fun z => by
    obtain ⟨i1, e1⟩ := thr gI EG
    rcases hc with ⟨_, rfl⟩ | ⟨c, _⟩
    · exact k _ i1 e1
    · exact absurd c z
  refine B_ring_0 (RF_of gI.1) (by omega) ⟨fun c => no (fun z => by have := z.1; omega), fun c => ⟨fun c2 => no (fun z => by have := z.1; omega), fun c2 => ⟨fun c3 => no (fun z => by have := z.2; omega), fun c3 => ⟨fun c4 => no (fun z => by have := z.2; omega), fun c4 => ⟨fun c5 => no (fun z => by have := z.2; omega), fun c5 => ⟨fun c6 => no (fun z => by have := z.2; omega), fun c6 => ⟨4, by omega, ?_⟩⟩⟩⟩⟩⟩⟩
  obtain ⟨tI, tK, -⟩ := WC_thr gI
  refine G_laysInto (Nat.le_refl 4) tI tK ⟨c3, c4⟩ ⟨c5, c6⟩ (fun u uI uf ul => ?_)
  have uK : key u = key g := uf.key.trans tK
  have er : ∀ {x y}, Rea (eR (key g) u) x y ↔ Rc (key g) v2 v3 (rd g 198 1) x y := Rea_iff (fun x y => eR_eL ul hK ⟨c3, c4⟩ ⟨c5, c6⟩)
  refine B_ring_37 (RF_of uI.1) ⟨1, by omega, G_closure (Nat.le_refl 1) uI uK (by omega) (fun w w0 w1 wb => B_ring_42 (RF_of uI.1) ⟨2, by omega, G_homelessOf (Nat.le_refl 2) uI uK (by omega) (fun y yi yb => B_ring_47 (RF_of uI.1) ?_)⟩)⟩
  rcases hc with ⟨z, _⟩ | ⟨_, ri, rb⟩
  · exact absurd ⟨⟨c, c2⟩, ⟨c3, c4⟩, c5, c6⟩ z
  · have eq : zand w (zxor y (-1)) = r := by
      refine bit_ext (zand_i _ _) ri (fun b b0 b1 => ?_)
      rw [bit_and b0 b1, bit_not b0 b1, wb b b0 b1, yb b b0 b1, rb b b0 b1, er, er]
      constructor
      · rintro ⟨x, n⟩
        have i := Rc_in hK ⟨c3, c4⟩ ⟨c5, c6⟩ (a := v1) ⟨c, c2⟩ x
        exact ⟨x, Classical.byContradiction (fun m => n ⟨i.2, m⟩)⟩
      · rintro ⟨x, m⟩
        exact ⟨x, fun n => n.2 m⟩
    rw [eq]
    exact k u uI (EQL_I gI EG (fun a i n1 n2 n3 n4 => (uf a i n1 n2 n3).trans (by rw [rd_wr, if_neg (by omega)])))
theorem G_homelessS (he : 8 ≤ e) (hI : INV h) (hE : EQL h) (gI : INV g) (hj : hmlJ v1 v2 v3 h g r) (k : ∀ g', INV g' → EQL g' → Q (some (.inl r)) g') : Rn xs xl e mm_homeless 0 [some (.inr (.inr 182)), some (.inl v1), some (.inl v2), some (.inl v3)] [] g Q := by
  obtain ⟨sm, hc⟩ := hj
  have EG := EQL_sam hI hE sm
  have ek := key_sam sm
  have hK := KR_of gI
  have n0 := rq_rooms gI.1
  have eC : rngC g v1 v2 v3 ↔ rngC h v1 v2 v3 := by
    unfold rngC
    rw [sm 188 0]
  rw [← eC, ← ek, ← sm 198 1, ← sm 188 0] at hc
  have no : ¬ rngC g v1 v2 v3 → Q (some (.inl (-1))) (wr g 182 0 0) := fun z => by
    obtain ⟨i1, e1⟩ := thr gI EG
    rcases hc with ⟨_, rfl⟩ | ⟨c, _⟩
    · exact k _ i1 e1
    · exact absurd c z
  refine B_homeless_0 (RF_of gI.1) (by omega) ⟨fun c => no (fun z => by have := z.1; omega), fun c => ⟨fun c2 => no (fun z => by have := z.1; omega), fun c2 => ⟨fun c3 => no (fun z => by have := z.2; omega), fun c3 => ⟨fun c4 => no (fun z => by have := z.2; omega), fun c4 => ⟨fun c5 => no (fun z => by have := z.2; omega), fun c5 => ⟨fun c6 => no (fun z => by have := z.2; omega), fun c6 => ⟨4, by omega, ?_⟩⟩⟩⟩⟩⟩⟩
  obtain ⟨tI, tK, -⟩ := WC_thr gI
  refine G_laysInto (Nat.le_refl 4) tI tK ⟨c3, c4⟩ ⟨c5, c6⟩ (fun u uI uf ul => ?_)
  have uK : key u = key g := uf.key.trans tK
  have er : ∀ {x y}, Rea (eR (key g) u) x y ↔ Rc (key g) v2 v3 (rd g 198 1) x y := Rea_iff (fun x y => eR_eL ul hK ⟨c3, c4⟩ ⟨c5, c6⟩)
  refine B_homeless_37 (RF_of uI.1) ⟨2, by omega, G_homelessOf (Nat.le_refl 2) uI uK (by omega) (fun y yi yb => B_homeless_42 (RF_of uI.1) ?_)⟩
  rcases hc with ⟨z, _⟩ | ⟨_, ri, rb⟩
  · exact absurd ⟨⟨c, c2⟩, ⟨c3, c4⟩, c5, c6⟩ z
  · have eq : y = r := by
      refine bit_ext yi ri (fun b b0 b1 => ?_)
      rw [yb b b0 b1, rb b b0 b1, er]
      exact Iff.rfl
    rw [eq]
    exact k u uI (EQL_I gI EG (fun a i n1 n2 n3 n4 => (uf a i n1 n2 n3).trans (by rw [rd_wr, if_neg (by omega)])))
end UD
end
section
/-! LM, by program (wip/p2/hand.py): rows of cut -/
def mm_java_lang_Integer_bitCount : LM_M := (⟨"java/lang/Integer", "bitCount", "(I)I"⟩, prog_15_method_49_code, 1, (some .int), 14, 1, 1, 972, 971, 0)
def mm_Web_doorsToShut : LM_M := (⟨"OneSided$Web", "doorsToShut", "(LOneSided$Quarter;IIII)I"⟩, prog_12_method_7_code, 10, (some .int), 10, 5, 1, 982, 981, 0)
def mm_bits : LM_M := (⟨"OneSidedModel", "bits", "(I)I"⟩, prog_14_method_87_code, 3, (some .int), 12, 1, 1, 1729, 1728, 0)
theorem dd_java_lang_Integer_bitCount_0 : decode mm_java_lang_Integer_bitCount.2.1 0 = .ok (.iload_n 0, 1) := by decide +kernel
theorem dd_java_lang_Integer_bitCount_1 : decode mm_java_lang_Integer_bitCount.2.1 1 = .ok (.iload_n 0, 1) := by decide +kernel
theorem dd_java_lang_Integer_bitCount_2 : decode mm_java_lang_Integer_bitCount.2.1 2 = .ok (.iconst 1, 1) := by decide +kernel
theorem dd_java_lang_Integer_bitCount_3 : decode mm_java_lang_Integer_bitCount.2.1 3 = .ok (.iushr, 1) := by decide +kernel
theorem dd_java_lang_Integer_bitCount_4 : decode mm_java_lang_Integer_bitCount.2.1 4 = .ok (.ldc_w 265, 3) := by decide +kernel
theorem dd_java_lang_Integer_bitCount_7 : decode mm_java_lang_Integer_bitCount.2.1 7 = .ok (.iand, 1) := by decide +kernel
theorem dd_java_lang_Integer_bitCount_8 : decode mm_java_lang_Integer_bitCount.2.1 8 = .ok (.isub, 1) := by decide +kernel
theorem dd_java_lang_Integer_bitCount_9 : decode mm_java_lang_Integer_bitCount.2.1 9 = .ok (.istore_n 0, 1) := by decide +kernel
theorem dd_java_lang_Integer_bitCount_10 : decode mm_java_lang_Integer_bitCount.2.1 10 = .ok (.iload_n 0, 1) := by decide +kernel
theorem dd_java_lang_Integer_bitCount_11 : decode mm_java_lang_Integer_bitCount.2.1 11 = .ok (.ldc_w 266, 3) := by decide +kernel
theorem dd_java_lang_Integer_bitCount_14 : decode mm_java_lang_Integer_bitCount.2.1 14 = .ok (.iand, 1) := by decide +kernel
theorem dd_java_lang_Integer_bitCount_15 : decode mm_java_lang_Integer_bitCount.2.1 15 = .ok (.iload_n 0, 1) := by decide +kernel
theorem dd_java_lang_Integer_bitCount_16 : decode mm_java_lang_Integer_bitCount.2.1 16 = .ok (.iconst 2, 1) := by decide +kernel
theorem dd_java_lang_Integer_bitCount_17 : decode mm_java_lang_Integer_bitCount.2.1 17 = .ok (.iushr, 1) := by decide +kernel
theorem dd_java_lang_Integer_bitCount_18 : decode mm_java_lang_Integer_bitCount.2.1 18 = .ok (.ldc_w 266, 3) := by decide +kernel
theorem dd_java_lang_Integer_bitCount_21 : decode mm_java_lang_Integer_bitCount.2.1 21 = .ok (.iand, 1) := by decide +kernel
theorem dd_java_lang_Integer_bitCount_22 : decode mm_java_lang_Integer_bitCount.2.1 22 = .ok (.iadd, 1) := by decide +kernel
theorem dd_java_lang_Integer_bitCount_23 : decode mm_java_lang_Integer_bitCount.2.1 23 = .ok (.istore_n 0, 1) := by decide +kernel
theorem dd_java_lang_Integer_bitCount_24 : decode mm_java_lang_Integer_bitCount.2.1 24 = .ok (.iload_n 0, 1) := by decide +kernel
theorem dd_java_lang_Integer_bitCount_25 : decode mm_java_lang_Integer_bitCount.2.1 25 = .ok (.iload_n 0, 1) := by decide +kernel
theorem dd_java_lang_Integer_bitCount_26 : decode mm_java_lang_Integer_bitCount.2.1 26 = .ok (.iconst 4, 1) := by decide +kernel
theorem dd_java_lang_Integer_bitCount_27 : decode mm_java_lang_Integer_bitCount.2.1 27 = .ok (.iushr, 1) := by decide +kernel
theorem dd_java_lang_Integer_bitCount_28 : decode mm_java_lang_Integer_bitCount.2.1 28 = .ok (.iadd, 1) := by decide +kernel
theorem dd_java_lang_Integer_bitCount_29 : decode mm_java_lang_Integer_bitCount.2.1 29 = .ok (.ldc_w 267, 3) := by decide +kernel
theorem dd_java_lang_Integer_bitCount_32 : decode mm_java_lang_Integer_bitCount.2.1 32 = .ok (.iand, 1) := by decide +kernel
theorem dd_java_lang_Integer_bitCount_33 : decode mm_java_lang_Integer_bitCount.2.1 33 = .ok (.istore_n 0, 1) := by decide +kernel
theorem dd_java_lang_Integer_bitCount_34 : decode mm_java_lang_Integer_bitCount.2.1 34 = .ok (.iload_n 0, 1) := by decide +kernel
theorem dd_java_lang_Integer_bitCount_35 : decode mm_java_lang_Integer_bitCount.2.1 35 = .ok (.iload_n 0, 1) := by decide +kernel
theorem dd_java_lang_Integer_bitCount_36 : decode mm_java_lang_Integer_bitCount.2.1 36 = .ok (.bipush 8, 2) := by decide +kernel
theorem dd_java_lang_Integer_bitCount_38 : decode mm_java_lang_Integer_bitCount.2.1 38 = .ok (.iushr, 1) := by decide +kernel
theorem dd_java_lang_Integer_bitCount_39 : decode mm_java_lang_Integer_bitCount.2.1 39 = .ok (.iadd, 1) := by decide +kernel
theorem dd_java_lang_Integer_bitCount_40 : decode mm_java_lang_Integer_bitCount.2.1 40 = .ok (.istore_n 0, 1) := by decide +kernel
theorem dd_java_lang_Integer_bitCount_41 : decode mm_java_lang_Integer_bitCount.2.1 41 = .ok (.iload_n 0, 1) := by decide +kernel
theorem dd_java_lang_Integer_bitCount_42 : decode mm_java_lang_Integer_bitCount.2.1 42 = .ok (.iload_n 0, 1) := by decide +kernel
theorem dd_java_lang_Integer_bitCount_43 : decode mm_java_lang_Integer_bitCount.2.1 43 = .ok (.bipush 16, 2) := by decide +kernel
theorem dd_java_lang_Integer_bitCount_45 : decode mm_java_lang_Integer_bitCount.2.1 45 = .ok (.iushr, 1) := by decide +kernel
theorem dd_java_lang_Integer_bitCount_46 : decode mm_java_lang_Integer_bitCount.2.1 46 = .ok (.iadd, 1) := by decide +kernel
theorem dd_java_lang_Integer_bitCount_47 : decode mm_java_lang_Integer_bitCount.2.1 47 = .ok (.istore_n 0, 1) := by decide +kernel
theorem dd_java_lang_Integer_bitCount_48 : decode mm_java_lang_Integer_bitCount.2.1 48 = .ok (.iload_n 0, 1) := by decide +kernel
theorem dd_java_lang_Integer_bitCount_49 : decode mm_java_lang_Integer_bitCount.2.1 49 = .ok (.bipush 63, 2) := by decide +kernel
theorem dd_java_lang_Integer_bitCount_51 : decode mm_java_lang_Integer_bitCount.2.1 51 = .ok (.iand, 1) := by decide +kernel
theorem dd_java_lang_Integer_bitCount_52 : decode mm_java_lang_Integer_bitCount.2.1 52 = .ok (.ireturn, 1) := by decide +kernel
theorem dd_Web_doorsToShut_0 : decode mm_Web_doorsToShut.2.1 0 = .ok (.iload_n 1, 1) := by decide +kernel
theorem dd_Web_doorsToShut_1 : decode mm_Web_doorsToShut.2.1 1 = .ok (.iload_n 2, 1) := by decide +kernel
theorem dd_Web_doorsToShut_2 : decode mm_Web_doorsToShut.2.1 2 = .ok (.ior, 1) := by decide +kernel
theorem dd_Web_doorsToShut_3 : decode mm_Web_doorsToShut.2.1 3 = .ok (.iconst (-1), 1) := by decide +kernel
theorem dd_Web_doorsToShut_4 : decode mm_Web_doorsToShut.2.1 4 = .ok (.ixor, 1) := by decide +kernel
theorem dd_Web_doorsToShut_5 : decode mm_Web_doorsToShut.2.1 5 = .ok (.istore 5, 2) := by decide +kernel
theorem dd_Web_doorsToShut_7 : decode mm_Web_doorsToShut.2.1 7 = .ok (.iconst (-1), 1) := by decide +kernel
theorem dd_Web_doorsToShut_8 : decode mm_Web_doorsToShut.2.1 8 = .ok (.istore 6, 2) := by decide +kernel
theorem dd_Web_doorsToShut_10 : decode mm_Web_doorsToShut.2.1 10 = .ok (.bipush 15, 2) := by decide +kernel
theorem dd_Web_doorsToShut_12 : decode mm_Web_doorsToShut.2.1 12 = .ok (.istore 7, 2) := by decide +kernel
theorem dd_Web_doorsToShut_14 : decode mm_Web_doorsToShut.2.1 14 = .ok (.iconst 0, 1) := by decide +kernel
theorem dd_Web_doorsToShut_15 : decode mm_Web_doorsToShut.2.1 15 = .ok (.istore 8, 2) := by decide +kernel
theorem dd_Web_doorsToShut_17 : decode mm_Web_doorsToShut.2.1 17 = .ok (.iload 8, 2) := by decide +kernel
theorem dd_Web_doorsToShut_19 : decode mm_Web_doorsToShut.2.1 19 = .ok (.iconst 1, 1) := by decide +kernel
theorem dd_Web_doorsToShut_20 : decode mm_Web_doorsToShut.2.1 20 = .ok (.aload_n 0, 1) := by decide +kernel
theorem dd_Web_doorsToShut_21 : decode mm_Web_doorsToShut.2.1 21 = .ok (.getfield 47, 3) := by decide +kernel
theorem fd_10_47 : fld 10 47 = some (6, 2) := by decide +kernel
theorem dd_Web_doorsToShut_24 : decode mm_Web_doorsToShut.2.1 24 = .ok (.ishl, 1) := by decide +kernel
theorem dd_Web_doorsToShut_25 : decode mm_Web_doorsToShut.2.1 25 = .ok (.if_icmp .ge (70), 3) := by decide +kernel
theorem dd_Web_doorsToShut_95 : decode mm_Web_doorsToShut.2.1 95 = .ok (.iload 6, 2) := by decide +kernel
theorem dd_Web_doorsToShut_97 : decode mm_Web_doorsToShut.2.1 97 = .ok (.ireturn, 1) := by decide +kernel
theorem dd_Web_doorsToShut_28 : decode mm_Web_doorsToShut.2.1 28 = .ok (.iload 8, 2) := by decide +kernel
theorem dd_Web_doorsToShut_30 : decode mm_Web_doorsToShut.2.1 30 = .ok (.iload 5, 2) := by decide +kernel
theorem dd_Web_doorsToShut_32 : decode mm_Web_doorsToShut.2.1 32 = .ok (.iand, 1) := by decide +kernel
theorem dd_Web_doorsToShut_33 : decode mm_Web_doorsToShut.2.1 33 = .ok (.ifCond .ne (56), 3) := by decide +kernel
theorem dd_Web_doorsToShut_36 : decode mm_Web_doorsToShut.2.1 36 = .ok (.iload 8, 2) := by decide +kernel
theorem dd_Web_doorsToShut_38 : decode mm_Web_doorsToShut.2.1 38 = .ok (.invokestatic 67, 3) := by decide +kernel
theorem cw_10_67 : cwOk 10 67 1 107 1 1 14 = true := by decide +kernel
theorem mt_java_lang_Integer_bitCount : MTB 107 = some mm_java_lang_Integer_bitCount := rfl
theorem dd_Web_doorsToShut_41 : decode mm_Web_doorsToShut.2.1 41 = .ok (.iload 7, 2) := by decide +kernel
theorem dd_Web_doorsToShut_43 : decode mm_Web_doorsToShut.2.1 43 = .ok (.if_icmp .lt (6), 3) := by decide +kernel
theorem dd_Web_doorsToShut_49 : decode mm_Web_doorsToShut.2.1 49 = .ok (.aload_n 0, 1) := by decide +kernel
theorem dd_Web_doorsToShut_50 : decode mm_Web_doorsToShut.2.1 50 = .ok (.iload_n 1, 1) := by decide +kernel
theorem dd_Web_doorsToShut_51 : decode mm_Web_doorsToShut.2.1 51 = .ok (.iload 8, 2) := by decide +kernel
theorem dd_Web_doorsToShut_53 : decode mm_Web_doorsToShut.2.1 53 = .ok (.iconst (-1), 1) := by decide +kernel
theorem dd_Web_doorsToShut_54 : decode mm_Web_doorsToShut.2.1 54 = .ok (.ixor, 1) := by decide +kernel
theorem dd_Web_doorsToShut_55 : decode mm_Web_doorsToShut.2.1 55 = .ok (.iand, 1) := by decide +kernel
theorem dd_Web_doorsToShut_56 : decode mm_Web_doorsToShut.2.1 56 = .ok (.iload_n 2, 1) := by decide +kernel
theorem dd_Web_doorsToShut_57 : decode mm_Web_doorsToShut.2.1 57 = .ok (.iload 8, 2) := by decide +kernel
theorem dd_Web_doorsToShut_59 : decode mm_Web_doorsToShut.2.1 59 = .ok (.iconst (-1), 1) := by decide +kernel
theorem dd_Web_doorsToShut_60 : decode mm_Web_doorsToShut.2.1 60 = .ok (.ixor, 1) := by decide +kernel
theorem dd_Web_doorsToShut_61 : decode mm_Web_doorsToShut.2.1 61 = .ok (.iand, 1) := by decide +kernel
theorem dd_Web_doorsToShut_62 : decode mm_Web_doorsToShut.2.1 62 = .ok (.iload_n 3, 1) := by decide +kernel
theorem dd_Web_doorsToShut_63 : decode mm_Web_doorsToShut.2.1 63 = .ok (.invokestatic 27, 3) := by decide +kernel
theorem dd_Web_doorsToShut_46 : decode mm_Web_doorsToShut.2.1 46 = .ok (.goto 43, 3) := by decide +kernel
theorem dd_Web_doorsToShut_66 : decode mm_Web_doorsToShut.2.1 66 = .ok (.istore 9, 2) := by decide +kernel
theorem dd_Web_doorsToShut_68 : decode mm_Web_doorsToShut.2.1 68 = .ok (.iload 9, 2) := by decide +kernel
theorem dd_Web_doorsToShut_70 : decode mm_Web_doorsToShut.2.1 70 = .ok (.iload 4, 2) := by decide +kernel
theorem dd_Web_doorsToShut_72 : decode mm_Web_doorsToShut.2.1 72 = .ok (.ishr, 1) := by decide +kernel
theorem dd_Web_doorsToShut_73 : decode mm_Web_doorsToShut.2.1 73 = .ok (.iconst 1, 1) := by decide +kernel
theorem dd_Web_doorsToShut_74 : decode mm_Web_doorsToShut.2.1 74 = .ok (.iand, 1) := by decide +kernel
theorem dd_Web_doorsToShut_75 : decode mm_Web_doorsToShut.2.1 75 = .ok (.ifCond .ne (14), 3) := by decide +kernel
theorem dd_Web_doorsToShut_78 : decode mm_Web_doorsToShut.2.1 78 = .ok (.iload 8, 2) := by decide +kernel
theorem dd_Web_doorsToShut_80 : decode mm_Web_doorsToShut.2.1 80 = .ok (.istore 6, 2) := by decide +kernel
theorem dd_Web_doorsToShut_82 : decode mm_Web_doorsToShut.2.1 82 = .ok (.iload 8, 2) := by decide +kernel
theorem dd_Web_doorsToShut_84 : decode mm_Web_doorsToShut.2.1 84 = .ok (.invokestatic 67, 3) := by decide +kernel
theorem dd_Web_doorsToShut_87 : decode mm_Web_doorsToShut.2.1 87 = .ok (.istore 7, 2) := by decide +kernel
theorem dd_Web_doorsToShut_89 : decode mm_Web_doorsToShut.2.1 89 = .ok (.iinc 8 1, 3) := by decide +kernel
theorem dd_Web_doorsToShut_92 : decode mm_Web_doorsToShut.2.1 92 = .ok (.goto (-75), 3) := by decide +kernel
theorem dd_OneSided_cut_0 : decode mm_OneSided_cut.2.1 0 = .ok (.aload_n 0, 1) := by decide +kernel
theorem dd_OneSided_cut_1 : decode mm_OneSided_cut.2.1 1 = .ok (.iload_n 1, 1) := by decide +kernel
theorem dd_OneSided_cut_2 : decode mm_OneSided_cut.2.1 2 = .ok (.invokevirtual 190, 3) := by decide +kernel
theorem dd_OneSided_cut_5 : decode mm_OneSided_cut.2.1 5 = .ok (.ifCond .eq (26), 3) := by decide +kernel
theorem dd_OneSided_cut_31 : decode mm_OneSided_cut.2.1 31 = .ok (.iconst (-1), 1) := by decide +kernel
theorem dd_OneSided_cut_32 : decode mm_OneSided_cut.2.1 32 = .ok (.ireturn, 1) := by decide +kernel
theorem dd_OneSided_cut_8 : decode mm_OneSided_cut.2.1 8 = .ok (.aload_n 0, 1) := by decide +kernel
theorem dd_OneSided_cut_9 : decode mm_OneSided_cut.2.1 9 = .ok (.iload_n 2, 1) := by decide +kernel
theorem dd_OneSided_cut_10 : decode mm_OneSided_cut.2.1 10 = .ok (.invokevirtual 190, 3) := by decide +kernel
theorem dd_OneSided_cut_13 : decode mm_OneSided_cut.2.1 13 = .ok (.ifCond .eq (18), 3) := by decide +kernel
theorem dd_OneSided_cut_16 : decode mm_OneSided_cut.2.1 16 = .ok (.iload_n 1, 1) := by decide +kernel
theorem dd_OneSided_cut_17 : decode mm_OneSided_cut.2.1 17 = .ok (.iload_n 2, 1) := by decide +kernel
theorem dd_OneSided_cut_18 : decode mm_OneSided_cut.2.1 18 = .ok (.if_icmp .eq (13), 3) := by decide +kernel
theorem dd_OneSided_cut_21 : decode mm_OneSided_cut.2.1 21 = .ok (.aload_n 0, 1) := by decide +kernel
theorem dd_OneSided_cut_22 : decode mm_OneSided_cut.2.1 22 = .ok (.iload_n 3, 1) := by decide +kernel
theorem dd_OneSided_cut_23 : decode mm_OneSided_cut.2.1 23 = .ok (.iload 4, 2) := by decide +kernel
theorem dd_OneSided_cut_25 : decode mm_OneSided_cut.2.1 25 = .ok (.invokevirtual 193, 3) := by decide +kernel
theorem dd_OneSided_cut_28 : decode mm_OneSided_cut.2.1 28 = .ok (.ifCond .ne (5), 3) := by decide +kernel
theorem dd_OneSided_cut_33 : decode mm_OneSided_cut.2.1 33 = .ok (.aload_n 0, 1) := by decide +kernel
theorem dd_OneSided_cut_34 : decode mm_OneSided_cut.2.1 34 = .ok (.getfield 19, 3) := by decide +kernel
theorem dd_OneSided_cut_37 : decode mm_OneSided_cut.2.1 37 = .ok (.aload_n 0, 1) := by decide +kernel
theorem dd_OneSided_cut_38 : decode mm_OneSided_cut.2.1 38 = .ok (.iload_n 3, 1) := by decide +kernel
theorem dd_OneSided_cut_39 : decode mm_OneSided_cut.2.1 39 = .ok (.iload 4, 2) := by decide +kernel
theorem dd_OneSided_cut_41 : decode mm_OneSided_cut.2.1 41 = .ok (.invokevirtual 257, 3) := by decide +kernel
theorem dd_OneSided_cut_44 : decode mm_OneSided_cut.2.1 44 = .ok (.aload_n 0, 1) := by decide +kernel
theorem dd_OneSided_cut_45 : decode mm_OneSided_cut.2.1 45 = .ok (.iload_n 3, 1) := by decide +kernel
theorem dd_OneSided_cut_46 : decode mm_OneSided_cut.2.1 46 = .ok (.iload 4, 2) := by decide +kernel
theorem dd_OneSided_cut_48 : decode mm_OneSided_cut.2.1 48 = .ok (.invokevirtual 260, 3) := by decide +kernel
theorem dd_OneSided_cut_51 : decode mm_OneSided_cut.2.1 51 = .ok (.iload_n 1, 1) := by decide +kernel
theorem dd_OneSided_cut_52 : decode mm_OneSided_cut.2.1 52 = .ok (.iload_n 2, 1) := by decide +kernel
theorem dd_OneSided_cut_53 : decode mm_OneSided_cut.2.1 53 = .ok (.invokestatic 280, 3) := by decide +kernel
theorem cw_11_280 : cwOk 11 280 1 109 5 10 10 = true := by decide +kernel
theorem mt_Web_doorsToShut : MTB 109 = some mm_Web_doorsToShut := rfl
theorem dd_OneSided_cut_56 : decode mm_OneSided_cut.2.1 56 = .ok (.ireturn, 1) := by decide +kernel
theorem dd_bits_0 : decode mm_bits.2.1 0 = .ok (.iconst 0, 1) := by decide +kernel
theorem dd_bits_1 : decode mm_bits.2.1 1 = .ok (.istore_n 1, 1) := by decide +kernel
theorem dd_bits_2 : decode mm_bits.2.1 2 = .ok (.iconst 0, 1) := by decide +kernel
theorem dd_bits_3 : decode mm_bits.2.1 3 = .ok (.istore_n 2, 1) := by decide +kernel
theorem dd_bits_4 : decode mm_bits.2.1 4 = .ok (.iload_n 2, 1) := by decide +kernel
theorem dd_bits_5 : decode mm_bits.2.1 5 = .ok (.bipush 14, 2) := by decide +kernel
theorem dd_bits_7 : decode mm_bits.2.1 7 = .ok (.if_icmp .ge (17), 3) := by decide +kernel
theorem dd_bits_24 : decode mm_bits.2.1 24 = .ok (.iload_n 1, 1) := by decide +kernel
theorem dd_bits_25 : decode mm_bits.2.1 25 = .ok (.ireturn, 1) := by decide +kernel
theorem dd_bits_10 : decode mm_bits.2.1 10 = .ok (.iload_n 1, 1) := by decide +kernel
theorem dd_bits_11 : decode mm_bits.2.1 11 = .ok (.iload_n 0, 1) := by decide +kernel
theorem dd_bits_12 : decode mm_bits.2.1 12 = .ok (.iload_n 2, 1) := by decide +kernel
theorem dd_bits_13 : decode mm_bits.2.1 13 = .ok (.ishr, 1) := by decide +kernel
theorem dd_bits_14 : decode mm_bits.2.1 14 = .ok (.iconst 1, 1) := by decide +kernel
theorem dd_bits_15 : decode mm_bits.2.1 15 = .ok (.iand, 1) := by decide +kernel
theorem dd_bits_16 : decode mm_bits.2.1 16 = .ok (.iadd, 1) := by decide +kernel
theorem dd_bits_17 : decode mm_bits.2.1 17 = .ok (.istore_n 1, 1) := by decide +kernel
theorem dd_bits_18 : decode mm_bits.2.1 18 = .ok (.iinc 2 1, 3) := by decide +kernel
theorem dd_bits_21 : decode mm_bits.2.1 21 = .ok (.goto (-17), 3) := by decide +kernel
theorem dd_cut_0 : decode mm_cut.2.1 0 = .ok (.aload_n 0, 1) := by decide +kernel
theorem dd_cut_1 : decode mm_cut.2.1 1 = .ok (.iconst 0, 1) := by decide +kernel
theorem dd_cut_2 : decode mm_cut.2.1 2 = .ok (.putfield 1, 3) := by decide +kernel
theorem dd_cut_5 : decode mm_cut.2.1 5 = .ok (.aload_n 0, 1) := by decide +kernel
theorem dd_cut_6 : decode mm_cut.2.1 6 = .ok (.iload_n 1, 1) := by decide +kernel
theorem dd_cut_7 : decode mm_cut.2.1 7 = .ok (.invokevirtual 370, 3) := by decide +kernel
theorem dd_cut_10 : decode mm_cut.2.1 10 = .ok (.ifCond .eq (26), 3) := by decide +kernel
theorem dd_cut_36 : decode mm_cut.2.1 36 = .ok (.iconst (-1), 1) := by decide +kernel
theorem dd_cut_37 : decode mm_cut.2.1 37 = .ok (.ireturn, 1) := by decide +kernel
theorem dd_cut_13 : decode mm_cut.2.1 13 = .ok (.aload_n 0, 1) := by decide +kernel
theorem dd_cut_14 : decode mm_cut.2.1 14 = .ok (.iload_n 2, 1) := by decide +kernel
theorem dd_cut_15 : decode mm_cut.2.1 15 = .ok (.invokevirtual 370, 3) := by decide +kernel
theorem dd_cut_18 : decode mm_cut.2.1 18 = .ok (.ifCond .eq (18), 3) := by decide +kernel
theorem dd_cut_21 : decode mm_cut.2.1 21 = .ok (.iload_n 1, 1) := by decide +kernel
theorem dd_cut_22 : decode mm_cut.2.1 22 = .ok (.iload_n 2, 1) := by decide +kernel
theorem dd_cut_23 : decode mm_cut.2.1 23 = .ok (.if_icmp .eq (13), 3) := by decide +kernel
theorem dd_cut_26 : decode mm_cut.2.1 26 = .ok (.aload_n 0, 1) := by decide +kernel
theorem dd_cut_27 : decode mm_cut.2.1 27 = .ok (.iload_n 3, 1) := by decide +kernel
theorem dd_cut_28 : decode mm_cut.2.1 28 = .ok (.iload 4, 2) := by decide +kernel
theorem dd_cut_30 : decode mm_cut.2.1 30 = .ok (.invokevirtual 422, 3) := by decide +kernel
theorem dd_cut_33 : decode mm_cut.2.1 33 = .ok (.ifCond .ne (5), 3) := by decide +kernel
theorem dd_cut_38 : decode mm_cut.2.1 38 = .ok (.iconst (-1), 1) := by decide +kernel
theorem dd_cut_39 : decode mm_cut.2.1 39 = .ok (.istore 5, 2) := by decide +kernel
theorem dd_cut_41 : decode mm_cut.2.1 41 = .ok (.iconst 0, 1) := by decide +kernel
theorem dd_cut_42 : decode mm_cut.2.1 42 = .ok (.istore 6, 2) := by decide +kernel
theorem dd_cut_44 : decode mm_cut.2.1 44 = .ok (.iload 6, 2) := by decide +kernel
theorem dd_cut_46 : decode mm_cut.2.1 46 = .ok (.iconst 1, 1) := by decide +kernel
theorem dd_cut_47 : decode mm_cut.2.1 47 = .ok (.aload_n 0, 1) := by decide +kernel
theorem dd_cut_48 : decode mm_cut.2.1 48 = .ok (.invokevirtual 335, 3) := by decide +kernel
theorem dd_cut_51 : decode mm_cut.2.1 51 = .ok (.ishl, 1) := by decide +kernel
theorem dd_cut_52 : decode mm_cut.2.1 52 = .ok (.if_icmp .ge (65), 3) := by decide +kernel
theorem dd_cut_117 : decode mm_cut.2.1 117 = .ok (.iload 5, 2) := by decide +kernel
theorem dd_cut_119 : decode mm_cut.2.1 119 = .ok (.ireturn, 1) := by decide +kernel
theorem dd_cut_55 : decode mm_cut.2.1 55 = .ok (.iload 5, 2) := by decide +kernel
theorem dd_cut_57 : decode mm_cut.2.1 57 = .ok (.ifCond .lt (16), 3) := by decide +kernel
theorem dd_cut_60 : decode mm_cut.2.1 60 = .ok (.iload 6, 2) := by decide +kernel
theorem dd_cut_62 : decode mm_cut.2.1 62 = .ok (.invokestatic 435, 3) := by decide +kernel
theorem cw_12_435 : cwOk 12 435 1 241 1 3 12 = true := by decide +kernel
theorem mt_bits : MTB 241 = some mm_bits := rfl
theorem dd_cut_65 : decode mm_cut.2.1 65 = .ok (.iload 5, 2) := by decide +kernel
theorem dd_cut_67 : decode mm_cut.2.1 67 = .ok (.invokestatic 435, 3) := by decide +kernel
theorem dd_cut_70 : decode mm_cut.2.1 70 = .ok (.if_icmp .ge (41), 3) := by decide +kernel
theorem dd_cut_73 : decode mm_cut.2.1 73 = .ok (.aload_n 0, 1) := by decide +kernel
theorem dd_cut_74 : decode mm_cut.2.1 74 = .ok (.iload_n 3, 1) := by decide +kernel
theorem dd_cut_75 : decode mm_cut.2.1 75 = .ok (.iload 4, 2) := by decide +kernel
theorem dd_cut_77 : decode mm_cut.2.1 77 = .ok (.aload_n 0, 1) := by decide +kernel
theorem dd_cut_78 : decode mm_cut.2.1 78 = .ok (.getfield 125, 3) := by decide +kernel
theorem dd_cut_81 : decode mm_cut.2.1 81 = .ok (.iconst 1, 1) := by decide +kernel
theorem dd_cut_82 : decode mm_cut.2.1 82 = .ok (.iaload, 1) := by decide +kernel
theorem dd_cut_83 : decode mm_cut.2.1 83 = .ok (.iload 6, 2) := by decide +kernel
theorem dd_cut_85 : decode mm_cut.2.1 85 = .ok (.ior, 1) := by decide +kernel
theorem dd_cut_86 : decode mm_cut.2.1 86 = .ok (.iconst 0, 1) := by decide +kernel
theorem dd_cut_87 : decode mm_cut.2.1 87 = .ok (.invokevirtual 425, 3) := by decide +kernel
theorem dd_cut_90 : decode mm_cut.2.1 90 = .ok (.aload_n 0, 1) := by decide +kernel
theorem dd_cut_91 : decode mm_cut.2.1 91 = .ok (.iload_n 1, 1) := by decide +kernel
theorem dd_cut_92 : decode mm_cut.2.1 92 = .ok (.invokevirtual 419, 3) := by decide +kernel
theorem dd_cut_95 : decode mm_cut.2.1 95 = .ok (.iload_n 2, 1) := by decide +kernel
theorem dd_cut_96 : decode mm_cut.2.1 96 = .ok (.invokestatic 350, 3) := by decide +kernel
theorem dd_cut_99 : decode mm_cut.2.1 99 = .ok (.ifCond .eq (8), 3) := by decide +kernel
theorem dd_cut_107 : decode mm_cut.2.1 107 = .ok (.iload 6, 2) := by decide +kernel
theorem dd_cut_109 : decode mm_cut.2.1 109 = .ok (.istore 5, 2) := by decide +kernel
theorem dd_cut_102 : decode mm_cut.2.1 102 = .ok (.iload 5, 2) := by decide +kernel
theorem dd_cut_104 : decode mm_cut.2.1 104 = .ok (.goto 5, 3) := by decide +kernel
theorem dd_cut_111 : decode mm_cut.2.1 111 = .ok (.iinc 6 1, 3) := by decide +kernel
theorem dd_cut_114 : decode mm_cut.2.1 114 = .ok (.goto (-70), 3) := by decide +kernel
theorem B_bitCount_0 {xs : Nat → Int} {xl e : Nat} {h : LH} {Q : Option LV → LH → Prop} {v0 : Int} (hF : RF h)
    (k : Rn xs xl e mm_java_lang_Integer_bitCount 10 [some (.inl (w32 (v0 - (zand (zushr v0 1) 1431655765))))] [] h Q) :
    Rn xs xl e mm_java_lang_Integer_bitCount 0 [some (.inl v0)] [] h Q := by
  refine R_ld (v := .inl v0) dd_java_lang_Integer_bitCount_0 rfl rfl rfl rfl ?_
  refine R_ld (v := .inl v0) dd_java_lang_Integer_bitCount_1 rfl rfl rfl rfl ?_
  refine R_ic dd_java_lang_Integer_bitCount_2 (by decide) rfl ?_
  refine R_A dd_java_lang_Integer_bitCount_3 rfl rfl rfl rfl ?_
  refine R_C (v := .inl (1431655765)) dd_java_lang_Integer_bitCount_4 rfl rfl (by decide +kernel) rfl ?_
  refine R_A dd_java_lang_Integer_bitCount_7 rfl rfl rfl rfl ?_
  refine R_isubw dd_java_lang_Integer_bitCount_8 rfl ?_
  refine R_st (ls' := [some (.inl (w32 (v0 - (zand (zushr v0 1) 1431655765))))]) dd_java_lang_Integer_bitCount_9 rfl rfl rfl (Nat.le_of_ble_eq_true rfl) rfl rfl ?_
  exact k
theorem B_bitCount_10 {xs : Nat → Int} {xl e : Nat} {h : LH} {Q : Option LV → LH → Prop} {v0 : Int} (hF : RF h)
    (k : Rn xs xl e mm_java_lang_Integer_bitCount 24 [some (.inl (w32 ((zand v0 858993459) + (zand (zushr v0 2) 858993459))))] [] h Q) :
    Rn xs xl e mm_java_lang_Integer_bitCount 10 [some (.inl v0)] [] h Q := by
  refine R_ld (v := .inl v0) dd_java_lang_Integer_bitCount_10 rfl rfl rfl rfl ?_
  refine R_C (v := .inl (858993459)) dd_java_lang_Integer_bitCount_11 rfl rfl (by decide +kernel) rfl ?_
  refine R_A dd_java_lang_Integer_bitCount_14 rfl rfl rfl rfl ?_
  refine R_ld (v := .inl v0) dd_java_lang_Integer_bitCount_15 rfl rfl rfl rfl ?_
  refine R_ic dd_java_lang_Integer_bitCount_16 (by decide) rfl ?_
  refine R_A dd_java_lang_Integer_bitCount_17 rfl rfl rfl rfl ?_
  refine R_C (v := .inl (858993459)) dd_java_lang_Integer_bitCount_18 rfl rfl (by decide +kernel) rfl ?_
  refine R_A dd_java_lang_Integer_bitCount_21 rfl rfl rfl rfl ?_
  refine R_iaddw dd_java_lang_Integer_bitCount_22 rfl ?_
  refine R_st (ls' := [some (.inl (w32 ((zand v0 858993459) + (zand (zushr v0 2) 858993459))))]) dd_java_lang_Integer_bitCount_23 rfl rfl rfl (Nat.le_of_ble_eq_true rfl) rfl rfl ?_
  exact k
theorem B_bitCount_24 {xs : Nat → Int} {xl e : Nat} {h : LH} {Q : Option LV → LH → Prop} {v0 : Int} (hF : RF h)
    (k : Rn xs xl e mm_java_lang_Integer_bitCount 34 [some (.inl (zand (w32 (v0 + (zushr v0 4))) 252645135))] [] h Q) :
    Rn xs xl e mm_java_lang_Integer_bitCount 24 [some (.inl v0)] [] h Q := by
  refine R_ld (v := .inl v0) dd_java_lang_Integer_bitCount_24 rfl rfl rfl rfl ?_
  refine R_ld (v := .inl v0) dd_java_lang_Integer_bitCount_25 rfl rfl rfl rfl ?_
  refine R_ic dd_java_lang_Integer_bitCount_26 (by decide) rfl ?_
  refine R_A dd_java_lang_Integer_bitCount_27 rfl rfl rfl rfl ?_
  refine R_iaddw dd_java_lang_Integer_bitCount_28 rfl ?_
  refine R_C (v := .inl (252645135)) dd_java_lang_Integer_bitCount_29 rfl rfl (by decide +kernel) rfl ?_
  refine R_A dd_java_lang_Integer_bitCount_32 rfl rfl rfl rfl ?_
  refine R_st (ls' := [some (.inl (zand (w32 (v0 + (zushr v0 4))) 252645135))]) dd_java_lang_Integer_bitCount_33 rfl rfl rfl (Nat.le_of_ble_eq_true rfl) rfl rfl ?_
  exact k
theorem B_bitCount_34 {xs : Nat → Int} {xl e : Nat} {h : LH} {Q : Option LV → LH → Prop} {v0 : Int} (hF : RF h)
    (k : Rn xs xl e mm_java_lang_Integer_bitCount 41 [some (.inl (w32 (v0 + (zushr v0 8))))] [] h Q) :
    Rn xs xl e mm_java_lang_Integer_bitCount 34 [some (.inl v0)] [] h Q := by
  refine R_ld (v := .inl v0) dd_java_lang_Integer_bitCount_34 rfl rfl rfl rfl ?_
  refine R_ld (v := .inl v0) dd_java_lang_Integer_bitCount_35 rfl rfl rfl rfl ?_
  refine R_bi dd_java_lang_Integer_bitCount_36 (by decide) rfl ?_
  refine R_A dd_java_lang_Integer_bitCount_38 rfl rfl rfl rfl ?_
  refine R_iaddw dd_java_lang_Integer_bitCount_39 rfl ?_
  refine R_st (ls' := [some (.inl (w32 (v0 + (zushr v0 8))))]) dd_java_lang_Integer_bitCount_40 rfl rfl rfl (Nat.le_of_ble_eq_true rfl) rfl rfl ?_
  exact k
theorem B_bitCount_41 {xs : Nat → Int} {xl e : Nat} {h : LH} {Q : Option LV → LH → Prop} {v0 : Int} (hF : RF h)
    (k : Rn xs xl e mm_java_lang_Integer_bitCount 48 [some (.inl (w32 (v0 + (zushr v0 16))))] [] h Q) :
    Rn xs xl e mm_java_lang_Integer_bitCount 41 [some (.inl v0)] [] h Q := by
  refine R_ld (v := .inl v0) dd_java_lang_Integer_bitCount_41 rfl rfl rfl rfl ?_
  refine R_ld (v := .inl v0) dd_java_lang_Integer_bitCount_42 rfl rfl rfl rfl ?_
  refine R_bi dd_java_lang_Integer_bitCount_43 (by decide) rfl ?_
  refine R_A dd_java_lang_Integer_bitCount_45 rfl rfl rfl rfl ?_
  refine R_iaddw dd_java_lang_Integer_bitCount_46 rfl ?_
  refine R_st (ls' := [some (.inl (w32 (v0 + (zushr v0 16))))]) dd_java_lang_Integer_bitCount_47 rfl rfl rfl (Nat.le_of_ble_eq_true rfl) rfl rfl ?_
  exact k
theorem B_bitCount_48 {xs : Nat → Int} {xl e : Nat} {h : LH} {Q : Option LV → LH → Prop} {v0 : Int} (hF : RF h)
    (k : Q (some (.inl (zand v0 63))) h) :
    Rn xs xl e mm_java_lang_Integer_bitCount 48 [some (.inl v0)] [] h Q := by
  refine R_ld (v := .inl v0) dd_java_lang_Integer_bitCount_48 rfl rfl rfl rfl ?_
  refine R_bi dd_java_lang_Integer_bitCount_49 (by decide) rfl ?_
  refine R_A dd_java_lang_Integer_bitCount_51 rfl rfl rfl rfl ?_
  exact R_iret dd_java_lang_Integer_bitCount_52 rfl k
theorem B_Web_doorsToShut_0 {xs : Nat → Int} {xl e : Nat} {h : LH} {Q : Option LV → LH → Prop} {v1 v2 v3 v4 : Int} {q : Int} (hq : q = 5 ∨ q = 32) (hF : RF h)
    (k : Rn xs xl e mm_Web_doorsToShut 17 [some (.inr (.inr q)), some (.inl v1), some (.inl v2), some (.inl v3), some (.inl v4), some (.inl (zxor (zor v1 v2) (-1))), some (.inl (-1)), some (.inl 15), some (.inl 0), none] [] h Q) :
    Rn xs xl e mm_Web_doorsToShut 0 [some (.inr (.inr q)), some (.inl v1), some (.inl v2), some (.inl v3), some (.inl v4), none, none, none, none, none] [] h Q := by
  refine R_ld (v := .inl v1) dd_Web_doorsToShut_0 rfl rfl rfl rfl ?_
  refine R_ld (v := .inl v2) dd_Web_doorsToShut_1 rfl rfl rfl rfl ?_
  refine R_A dd_Web_doorsToShut_2 rfl rfl rfl rfl ?_
  refine R_ic dd_Web_doorsToShut_3 (by decide) rfl ?_
  refine R_A dd_Web_doorsToShut_4 rfl rfl rfl rfl ?_
  refine R_st (ls' := [some (.inr (.inr q)), some (.inl v1), some (.inl v2), some (.inl v3), some (.inl v4), some (.inl (zxor (zor v1 v2) (-1))), none, none, none, none]) dd_Web_doorsToShut_5 rfl rfl rfl (Nat.le_of_ble_eq_true rfl) rfl rfl ?_
  refine R_ic dd_Web_doorsToShut_7 (by decide) rfl ?_
  refine R_st (ls' := [some (.inr (.inr q)), some (.inl v1), some (.inl v2), some (.inl v3), some (.inl v4), some (.inl (zxor (zor v1 v2) (-1))), some (.inl (-1)), none, none, none]) dd_Web_doorsToShut_8 rfl rfl rfl (Nat.le_of_ble_eq_true rfl) rfl rfl ?_
  refine R_bi dd_Web_doorsToShut_10 (by decide) rfl ?_
  refine R_st (ls' := [some (.inr (.inr q)), some (.inl v1), some (.inl v2), some (.inl v3), some (.inl v4), some (.inl (zxor (zor v1 v2) (-1))), some (.inl (-1)), some (.inl 15), none, none]) dd_Web_doorsToShut_12 rfl rfl rfl (Nat.le_of_ble_eq_true rfl) rfl rfl ?_
  refine R_ic dd_Web_doorsToShut_14 (by decide) rfl ?_
  refine R_st (ls' := [some (.inr (.inr q)), some (.inl v1), some (.inl v2), some (.inl v3), some (.inl v4), some (.inl (zxor (zor v1 v2) (-1))), some (.inl (-1)), some (.inl 15), some (.inl 0), none]) dd_Web_doorsToShut_15 rfl rfl rfl (Nat.le_of_ble_eq_true rfl) rfl rfl ?_
  exact k
theorem B_Web_doorsToShut_17 {xs : Nat → Int} {xl e : Nat} {h : LH} {Q : Option LV → LH → Prop} {v1 v2 v3 v4 v5 v6 v7 v8 : Int} {q : Int} (hq : q = 5 ∨ q = 32) {o9 : Option LV} (hF : RF h) (r_v8 : 0 ≤ v8 ∧ v8 ≤ 16384)
    (k : ((zshl 1 (rd h q 2)) ≤ v8 →
        Q (some (.inl v6)) h) ∧
      (v8 < (zshl 1 (rd h q 2)) →
        ((zand v8 v5) ≠ 0 →
          Rn xs xl e mm_Web_doorsToShut 89 [some (.inr (.inr q)), some (.inl v1), some (.inl v2), some (.inl v3), some (.inl v4), some (.inl v5), some (.inl v6), some (.inl v7), some (.inl v8), o9] [] h Q) ∧
        ((zand v8 v5) = 0 →
          (∃ c, c < e ∧ Rn xs xl c mm_java_lang_Integer_bitCount 0 [some (.inl v8)] [] h (fun r h' => Rn xs xl e mm_Web_doorsToShut 41 [some (.inr (.inr q)), some (.inl v1), some (.inl v2), some (.inl v3), some (.inl v4), some (.inl v5), some (.inl v6), some (.inl v7), some (.inl v8), o9] (r.toList ++ []) h' Q))))) :
    Rn xs xl e mm_Web_doorsToShut 17 [some (.inr (.inr q)), some (.inl v1), some (.inl v2), some (.inl v3), some (.inl v4), some (.inl v5), some (.inl v6), some (.inl v7), some (.inl v8), o9] [] h Q := by
  refine R_ld (v := .inl v8) dd_Web_doorsToShut_17 rfl rfl rfl rfl ?_
  refine R_ic dd_Web_doorsToShut_19 (by decide) rfl ?_
  refine R_ld (v := .inr (.inr q)) dd_Web_doorsToShut_20 rfl rfl rfl rfl ?_
  refine R_gf (v := .inl (rd h q 2)) dd_Web_doorsToShut_21 fd_10_47 (io_q hq) (congrArg (fun z : Int => (Sum.inl z : LV)) (rfl)) rfl ?_
  refine R_A dd_Web_doorsToShut_24 rfl rfl rfl rfl ?_
  refine R_icmp dd_Web_doorsToShut_25 rfl rfl (fun (c2 : (zshl 1 (rd h q 2)) ≤ v8) => ?_) (fun (c2 : v8 < (zshl 1 (rd h q 2))) => ?_)
  · replace k := k.1 c2
    refine R_ld (v := .inl v6) dd_Web_doorsToShut_95 rfl rfl rfl rfl ?_
    exact R_iret dd_Web_doorsToShut_97 rfl k
  · replace k := k.2 c2
    refine R_ld (v := .inl v8) dd_Web_doorsToShut_28 rfl rfl rfl rfl ?_
    refine R_ld (v := .inl v5) dd_Web_doorsToShut_30 rfl rfl rfl rfl ?_
    refine R_A dd_Web_doorsToShut_32 rfl rfl rfl rfl ?_
    refine R_if dd_Web_doorsToShut_33 rfl rfl (fun (c3 : (zand v8 v5) ≠ 0) => ?_) (fun (c3 : (zand v8 v5) = 0) => ?_)
    · replace k := k.1 c3
      exact k
    · replace k := k.2 c3
      refine R_ld (v := .inl v8) dd_Web_doorsToShut_36 rfl rfl rfl rfl ?_
      obtain ⟨c, hc, k⟩ := k
      exact R_call (as := [.inl v8]) (rest := []) (M' := mm_java_lang_Integer_bitCount) (ls0 := [some (.inl v8)]) dd_Web_doorsToShut_38 rfl rfl (cw_s cw_10_67 rfl rfl (Nat.le_of_ble_eq_true rfl) (Nat.le_of_ble_eq_true rfl)) mt_java_lang_Integer_bitCount rfl hc rfl k
theorem B_Web_doorsToShut_41 {xs : Nat → Int} {xl e : Nat} {h : LH} {Q : Option LV → LH → Prop} {v1 v2 v3 v4 v5 v6 v7 v8 w0 : Int} {q : Int} (hq : q = 5 ∨ q = 32) {o9 : Option LV} (hF : RF h) (r_v8 : 0 ≤ v8 ∧ v8 ≤ 16383)
    (k : (w0 < v7 →
        (∃ c, c < e ∧ Rn xs xl c mm_Web_roomsFrom 0 [some (.inr (.inr q)), some (.inl (zand v1 (zxor v8 (-1)))), some (.inl (zand v2 (zxor v8 (-1)))), some (.inl v3), none, none, none] [] h (fun r h' => Rn xs xl e mm_Web_doorsToShut 66 [some (.inr (.inr q)), some (.inl v1), some (.inl v2), some (.inl v3), some (.inl v4), some (.inl v5), some (.inl v6), some (.inl v7), some (.inl v8), o9] (r.toList ++ []) h' Q))) ∧
      (v7 ≤ w0 →
        Rn xs xl e mm_Web_doorsToShut 89 [some (.inr (.inr q)), some (.inl v1), some (.inl v2), some (.inl v3), some (.inl v4), some (.inl v5), some (.inl v6), some (.inl v7), some (.inl v8), o9] [] h Q)) :
    Rn xs xl e mm_Web_doorsToShut 41 [some (.inr (.inr q)), some (.inl v1), some (.inl v2), some (.inl v3), some (.inl v4), some (.inl v5), some (.inl v6), some (.inl v7), some (.inl v8), o9] [.inl w0] h Q := by
  refine R_ld (v := .inl v7) dd_Web_doorsToShut_41 rfl rfl rfl rfl ?_
  refine R_icmp dd_Web_doorsToShut_43 rfl rfl (fun (c2 : w0 < v7) => ?_) (fun (c2 : v7 ≤ w0) => ?_)
  · replace k := k.1 c2
    refine R_ld (v := .inr (.inr q)) dd_Web_doorsToShut_49 rfl rfl rfl rfl ?_
    refine R_ld (v := .inl v1) dd_Web_doorsToShut_50 rfl rfl rfl rfl ?_
    refine R_ld (v := .inl v8) dd_Web_doorsToShut_51 rfl rfl rfl rfl ?_
    refine R_ic dd_Web_doorsToShut_53 (by decide) rfl ?_
    refine R_A dd_Web_doorsToShut_54 rfl rfl rfl rfl ?_
    refine R_A dd_Web_doorsToShut_55 rfl rfl rfl rfl ?_
    refine R_ld (v := .inl v2) dd_Web_doorsToShut_56 rfl rfl rfl rfl ?_
    refine R_ld (v := .inl v8) dd_Web_doorsToShut_57 rfl rfl rfl rfl ?_
    refine R_ic dd_Web_doorsToShut_59 (by decide) rfl ?_
    refine R_A dd_Web_doorsToShut_60 rfl rfl rfl rfl ?_
    refine R_A dd_Web_doorsToShut_61 rfl rfl rfl rfl ?_
    refine R_ld (v := .inl v3) dd_Web_doorsToShut_62 rfl rfl rfl rfl ?_
    obtain ⟨c, hc, k⟩ := k
    exact R_call (as := [.inr (.inr q), .inl (zand v1 (zxor v8 (-1))), .inl (zand v2 (zxor v8 (-1))), .inl v3]) (rest := []) (M' := mm_Web_roomsFrom) (ls0 := [some (.inr (.inr q)), some (.inl (zand v1 (zxor v8 (-1)))), some (.inl (zand v2 (zxor v8 (-1)))), some (.inl v3), none, none, none]) dd_Web_doorsToShut_63 rfl rfl (cw_s cw_10_27 rfl rfl (Nat.le_of_ble_eq_true rfl) (Nat.le_of_ble_eq_true rfl)) mt_Web_roomsFrom rfl hc rfl k
  · replace k := k.2 c2
    refine R_goto dd_Web_doorsToShut_46 rfl ?_
    exact k
theorem B_Web_doorsToShut_66 {xs : Nat → Int} {xl e : Nat} {h : LH} {Q : Option LV → LH → Prop} {v1 v2 v3 v4 v5 v6 v7 v8 w0 : Int} {q : Int} (hq : q = 5 ∨ q = 32) {o9 : Option LV} (hF : RF h) (r_v8 : 0 ≤ v8 ∧ v8 ≤ 16383)
    (k : ((zand (zshr w0 v4) 1) ≠ 0 →
        Rn xs xl e mm_Web_doorsToShut 89 [some (.inr (.inr q)), some (.inl v1), some (.inl v2), some (.inl v3), some (.inl v4), some (.inl v5), some (.inl v6), some (.inl v7), some (.inl v8), some (.inl w0)] [] h Q) ∧
      ((zand (zshr w0 v4) 1) = 0 →
        (∃ c, c < e ∧ Rn xs xl c mm_java_lang_Integer_bitCount 0 [some (.inl v8)] [] h (fun r h' => Rn xs xl e mm_Web_doorsToShut 87 [some (.inr (.inr q)), some (.inl v1), some (.inl v2), some (.inl v3), some (.inl v4), some (.inl v5), some (.inl v8), some (.inl v7), some (.inl v8), some (.inl w0)] (r.toList ++ []) h' Q)))) :
    Rn xs xl e mm_Web_doorsToShut 66 [some (.inr (.inr q)), some (.inl v1), some (.inl v2), some (.inl v3), some (.inl v4), some (.inl v5), some (.inl v6), some (.inl v7), some (.inl v8), o9] [.inl w0] h Q := by
  refine R_st (ls' := [some (.inr (.inr q)), some (.inl v1), some (.inl v2), some (.inl v3), some (.inl v4), some (.inl v5), some (.inl v6), some (.inl v7), some (.inl v8), some (.inl w0)]) dd_Web_doorsToShut_66 rfl rfl rfl (Nat.le_of_ble_eq_true rfl) rfl rfl ?_
  refine R_ld (v := .inl w0) dd_Web_doorsToShut_68 rfl rfl rfl rfl ?_
  refine R_ld (v := .inl v4) dd_Web_doorsToShut_70 rfl rfl rfl rfl ?_
  refine R_A dd_Web_doorsToShut_72 rfl rfl rfl rfl ?_
  refine R_ic dd_Web_doorsToShut_73 (by decide) rfl ?_
  refine R_A dd_Web_doorsToShut_74 rfl rfl rfl rfl ?_
  refine R_if dd_Web_doorsToShut_75 rfl rfl (fun (c2 : (zand (zshr w0 v4) 1) ≠ 0) => ?_) (fun (c2 : (zand (zshr w0 v4) 1) = 0) => ?_)
  · replace k := k.1 c2
    exact k
  · replace k := k.2 c2
    refine R_ld (v := .inl v8) dd_Web_doorsToShut_78 rfl rfl rfl rfl ?_
    refine R_st (ls' := [some (.inr (.inr q)), some (.inl v1), some (.inl v2), some (.inl v3), some (.inl v4), some (.inl v5), some (.inl v8), some (.inl v7), some (.inl v8), some (.inl w0)]) dd_Web_doorsToShut_80 rfl rfl rfl (Nat.le_of_ble_eq_true rfl) rfl rfl ?_
    refine R_ld (v := .inl v8) dd_Web_doorsToShut_82 rfl rfl rfl rfl ?_
    obtain ⟨c, hc, k⟩ := k
    exact R_call (as := [.inl v8]) (rest := []) (M' := mm_java_lang_Integer_bitCount) (ls0 := [some (.inl v8)]) dd_Web_doorsToShut_84 rfl rfl (cw_s cw_10_67 rfl rfl (Nat.le_of_ble_eq_true rfl) (Nat.le_of_ble_eq_true rfl)) mt_java_lang_Integer_bitCount rfl hc rfl k
theorem B_Web_doorsToShut_87 {xs : Nat → Int} {xl e : Nat} {h : LH} {Q : Option LV → LH → Prop} {v1 v2 v3 v4 v5 v6 v7 v8 v9 w0 : Int} {q : Int} (hq : q = 5 ∨ q = 32) (hF : RF h) (r_v8 : 0 ≤ v8 ∧ v8 ≤ 16383)
    (k : Rn xs xl e mm_Web_doorsToShut 89 [some (.inr (.inr q)), some (.inl v1), some (.inl v2), some (.inl v3), some (.inl v4), some (.inl v5), some (.inl v6), some (.inl w0), some (.inl v8), some (.inl v9)] [] h Q) :
    Rn xs xl e mm_Web_doorsToShut 87 [some (.inr (.inr q)), some (.inl v1), some (.inl v2), some (.inl v3), some (.inl v4), some (.inl v5), some (.inl v6), some (.inl v7), some (.inl v8), some (.inl v9)] [.inl w0] h Q := by
  refine R_st (ls' := [some (.inr (.inr q)), some (.inl v1), some (.inl v2), some (.inl v3), some (.inl v4), some (.inl v5), some (.inl v6), some (.inl w0), some (.inl v8), some (.inl v9)]) dd_Web_doorsToShut_87 rfl rfl rfl (Nat.le_of_ble_eq_true rfl) rfl rfl ?_
  exact k
theorem B_Web_doorsToShut_89 {xs : Nat → Int} {xl e : Nat} {h : LH} {Q : Option LV → LH → Prop} {v1 v2 v3 v4 v5 v6 v7 v8 : Int} {q : Int} (hq : q = 5 ∨ q = 32) {o9 : Option LV} (hF : RF h) (r_v8 : 0 ≤ v8 ∧ v8 ≤ 16383)
    (k : Rn xs xl e mm_Web_doorsToShut 17 [some (.inr (.inr q)), some (.inl v1), some (.inl v2), some (.inl v3), some (.inl v4), some (.inl v5), some (.inl v6), some (.inl v7), some (.inl (v8 + 1)), o9] [] h Q) :
    Rn xs xl e mm_Web_doorsToShut 89 [some (.inr (.inr q)), some (.inl v1), some (.inl v2), some (.inl v3), some (.inl v4), some (.inl v5), some (.inl v6), some (.inl v7), some (.inl v8), o9] [] h Q := by
  refine R_inc (y := v8 + 1) (ls' := [some (.inr (.inr q)), some (.inl v1), some (.inl v2), some (.inl v3), some (.inl v4), some (.inl v5), some (.inl v6), some (.inl v7), some (.inl (v8 + 1)), o9]) dd_Web_doorsToShut_89 rfl (by decide) (by omega) (by omega) rfl rfl ?_
  refine R_goto dd_Web_doorsToShut_92 rfl ?_
  exact k
theorem B_OneSided_cut_0 {xs : Nat → Int} {xl e : Nat} {h : LH} {Q : Option LV → LH → Prop} {v1 v2 v3 v4 : Int} {q : Int} (hq : q = 5 ∨ q = 32) (hQ : rd h 1 ((1 : Nat) : Int) = q) (hF : RF h) (he : 2 ≤ e)
    (k : (v1 < 0 →
        Q (some (.inl (-1))) h) ∧
      (0 ≤ v1 →
        ((rd h q 0) ≤ v1 →
          Q (some (.inl (-1))) h) ∧
        (v1 < (rd h q 0) →
          (v2 < 0 →
            Q (some (.inl (-1))) h) ∧
          (0 ≤ v2 →
            ((rd h q 0) ≤ v2 →
              Q (some (.inl (-1))) h) ∧
            (v2 < (rd h q 0) →
              (v1 = v2 →
                Q (some (.inl (-1))) h) ∧
              (v1 ≠ v2 →
                (v3 < 0 →
                  Q (some (.inl (-1))) h) ∧
                (0 ≤ v3 →
                  (4 ≤ v3 →
                    Q (some (.inl (-1))) h) ∧
                  (v3 < 4 →
                    (v4 < 0 →
                      Q (some (.inl (-1))) h) ∧
                    (0 ≤ v4 →
                      (24 ≤ v4 →
                        Q (some (.inl (-1))) h) ∧
                      (v4 < 24 →
                        (-2147483648 ≤ 24 * v3 ∧ 24 * v3 ≤ 2147483647) ∧
                        (-2147483648 ≤ 24 * v3 + v4 ∧ 24 * v3 + v4 ≤ 2147483647) ∧
                        (0 ≤ 24 * v3 + v4 ∧ 24 * v3 + v4 < 96) ∧
                        (-2147483648 ≤ 24 * v3 ∧ 24 * v3 ≤ 2147483647) ∧
                        (-2147483648 ≤ 24 * v3 + v4 ∧ 24 * v3 + v4 ≤ 2147483647) ∧
                        (0 ≤ 24 * v3 + v4 ∧ 24 * v3 + v4 < 96) ∧
                        (∃ c, c < e ∧ Rn xs xl c mm_Web_doorsToShut 0 [some (.inr (.inr q)), some (.inl (zand (rd h (q + 5) (24 * v3 + v4)) (zxor (rd h 60 1) (-1)))), some (.inl (zand (rd h (q + 6) (24 * v3 + v4)) (zxor (rd h 60 1) (-1)))), some (.inl v1), some (.inl v2), none, none, none, none, none] [] h (fun r h' => Rn xs xl e mm_OneSided_cut 56 [some (.inr (.inr 1)), some (.inl v1), some (.inl v2), some (.inl v3), some (.inl v4)] (r.toList ++ []) h' Q)))))))))))) :
    Rn xs xl e mm_OneSided_cut 0 [some (.inr (.inr 1)), some (.inl v1), some (.inl v2), some (.inl v3), some (.inl v4)] [] h Q := by
  refine R_ld (v := .inr (.inr 1)) dd_OneSided_cut_0 rfl rfl rfl rfl ?_
  refine R_ld (v := .inl v1) dd_OneSided_cut_1 rfl rfl rfl rfl ?_
  refine R_call (as := [.inr (.inr 1), .inl v1]) (rest := []) (M' := mm_OneSided_isRoom) (ls0 := [some (.inr (.inr 1)), some (.inl v1)]) dd_OneSided_cut_2 rfl rfl (cw_v cw_11_190 io_1 rfl rfl (Nat.le_of_ble_eq_true rfl) (Nat.le_of_ble_eq_true rfl)) mt_OneSided_isRoom rfl (c := e - 1) (by omega) rfl ?_
  refine R_ld (v := .inl v1) dd_OneSided_isRoom_0 rfl rfl rfl rfl ?_
  refine R_if dd_OneSided_isRoom_1 rfl rfl (fun (c8 : v1 < 0) => ?_) (fun (c8 : 0 ≤ v1) => ?_)
  · replace k := k.1 c8
    refine R_ic dd_OneSided_isRoom_19 (by decide) rfl ?_
    refine R_zret dd_OneSided_isRoom_20 rfl (by decide) ?_
    change Rn xs xl e mm_OneSided_cut 5 [some (.inr (.inr 1)), some (.inl v1), some (.inl v2), some (.inl v3), some (.inl v4)] [.inl 0] h _
    refine R_if dd_OneSided_cut_5 rfl rfl (fun (c9 : 0 = 0) => ?_) (fun (c9 : 0 ≠ 0) => ?_)
    · skip
      refine R_ic dd_OneSided_cut_31 (by decide) rfl ?_
      exact R_iret dd_OneSided_cut_32 rfl k
    · exact absurd c9 (by omega)
  · replace k := k.2 c8
    refine R_ld (v := .inl v1) dd_OneSided_isRoom_4 rfl rfl rfl rfl ?_
    refine R_ld (v := .inr (.inr 1)) dd_OneSided_isRoom_5 rfl rfl rfl rfl ?_
    refine R_gf (v := .inr (.inr q)) dd_OneSided_isRoom_6 fd_11_19 io_1 (congrArg (fun z : Int => (Sum.inr (Sum.inr z) : LV)) hQ) rfl ?_
    refine R_gf (v := .inl (rd h q 0)) dd_OneSided_isRoom_9 fd_11_267 (io_q hq) (congrArg (fun z : Int => (Sum.inl z : LV)) (rfl)) rfl ?_
    refine R_icmp dd_OneSided_isRoom_12 rfl rfl (fun (c10 : (rd h q 0) ≤ v1) => ?_) (fun (c10 : v1 < (rd h q 0)) => ?_)
    · replace k := k.1 c10
      refine R_ic dd_OneSided_isRoom_19 (by decide) rfl ?_
      refine R_zret dd_OneSided_isRoom_20 rfl (by decide) ?_
      change Rn xs xl e mm_OneSided_cut 5 [some (.inr (.inr 1)), some (.inl v1), some (.inl v2), some (.inl v3), some (.inl v4)] [.inl 0] h _
      refine R_if dd_OneSided_cut_5 rfl rfl (fun (c11 : 0 = 0) => ?_) (fun (c11 : 0 ≠ 0) => ?_)
      · skip
        refine R_ic dd_OneSided_cut_31 (by decide) rfl ?_
        exact R_iret dd_OneSided_cut_32 rfl k
      · exact absurd c11 (by omega)
    · replace k := k.2 c10
      refine R_ic dd_OneSided_isRoom_15 (by decide) rfl ?_
      refine R_goto dd_OneSided_isRoom_16 rfl ?_
      refine R_zret dd_OneSided_isRoom_20 rfl (by decide) ?_
      change Rn xs xl e mm_OneSided_cut 5 [some (.inr (.inr 1)), some (.inl v1), some (.inl v2), some (.inl v3), some (.inl v4)] [.inl 1] h _
      refine R_if dd_OneSided_cut_5 rfl rfl (fun (c12 : 1 = 0) => ?_) (fun (c12 : 1 ≠ 0) => ?_)
      · exact absurd c12 (by omega)
      · skip
        refine R_ld (v := .inr (.inr 1)) dd_OneSided_cut_8 rfl rfl rfl rfl ?_
        refine R_ld (v := .inl v2) dd_OneSided_cut_9 rfl rfl rfl rfl ?_
        refine R_call (as := [.inr (.inr 1), .inl v2]) (rest := []) (M' := mm_OneSided_isRoom) (ls0 := [some (.inr (.inr 1)), some (.inl v2)]) dd_OneSided_cut_10 rfl rfl (cw_v cw_11_190 io_1 rfl rfl (Nat.le_of_ble_eq_true rfl) (Nat.le_of_ble_eq_true rfl)) mt_OneSided_isRoom rfl (c := e - 1) (by omega) rfl ?_
        refine R_ld (v := .inl v2) dd_OneSided_isRoom_0 rfl rfl rfl rfl ?_
        refine R_if dd_OneSided_isRoom_1 rfl rfl (fun (c13 : v2 < 0) => ?_) (fun (c13 : 0 ≤ v2) => ?_)
        · replace k := k.1 c13
          refine R_ic dd_OneSided_isRoom_19 (by decide) rfl ?_
          refine R_zret dd_OneSided_isRoom_20 rfl (by decide) ?_
          change Rn xs xl e mm_OneSided_cut 13 [some (.inr (.inr 1)), some (.inl v1), some (.inl v2), some (.inl v3), some (.inl v4)] [.inl 0] h _
          refine R_if dd_OneSided_cut_13 rfl rfl (fun (c14 : 0 = 0) => ?_) (fun (c14 : 0 ≠ 0) => ?_)
          · skip
            refine R_ic dd_OneSided_cut_31 (by decide) rfl ?_
            exact R_iret dd_OneSided_cut_32 rfl k
          · exact absurd c14 (by omega)
        · replace k := k.2 c13
          refine R_ld (v := .inl v2) dd_OneSided_isRoom_4 rfl rfl rfl rfl ?_
          refine R_ld (v := .inr (.inr 1)) dd_OneSided_isRoom_5 rfl rfl rfl rfl ?_
          refine R_gf (v := .inr (.inr q)) dd_OneSided_isRoom_6 fd_11_19 io_1 (congrArg (fun z : Int => (Sum.inr (Sum.inr z) : LV)) hQ) rfl ?_
          refine R_gf (v := .inl (rd h q 0)) dd_OneSided_isRoom_9 fd_11_267 (io_q hq) (congrArg (fun z : Int => (Sum.inl z : LV)) (rfl)) rfl ?_
          refine R_icmp dd_OneSided_isRoom_12 rfl rfl (fun (c15 : (rd h q 0) ≤ v2) => ?_) (fun (c15 : v2 < (rd h q 0)) => ?_)
          · replace k := k.1 c15
            refine R_ic dd_OneSided_isRoom_19 (by decide) rfl ?_
            refine R_zret dd_OneSided_isRoom_20 rfl (by decide) ?_
            change Rn xs xl e mm_OneSided_cut 13 [some (.inr (.inr 1)), some (.inl v1), some (.inl v2), some (.inl v3), some (.inl v4)] [.inl 0] h _
            refine R_if dd_OneSided_cut_13 rfl rfl (fun (c16 : 0 = 0) => ?_) (fun (c16 : 0 ≠ 0) => ?_)
            · skip
              refine R_ic dd_OneSided_cut_31 (by decide) rfl ?_
              exact R_iret dd_OneSided_cut_32 rfl k
            · exact absurd c16 (by omega)
          · replace k := k.2 c15
            refine R_ic dd_OneSided_isRoom_15 (by decide) rfl ?_
            refine R_goto dd_OneSided_isRoom_16 rfl ?_
            refine R_zret dd_OneSided_isRoom_20 rfl (by decide) ?_
            change Rn xs xl e mm_OneSided_cut 13 [some (.inr (.inr 1)), some (.inl v1), some (.inl v2), some (.inl v3), some (.inl v4)] [.inl 1] h _
            refine R_if dd_OneSided_cut_13 rfl rfl (fun (c17 : 1 = 0) => ?_) (fun (c17 : 1 ≠ 0) => ?_)
            · exact absurd c17 (by omega)
            · skip
              refine R_ld (v := .inl v1) dd_OneSided_cut_16 rfl rfl rfl rfl ?_
              refine R_ld (v := .inl v2) dd_OneSided_cut_17 rfl rfl rfl rfl ?_
              refine R_icmp dd_OneSided_cut_18 rfl rfl (fun (c18 : v1 = v2) => ?_) (fun (c18 : v1 ≠ v2) => ?_)
              · replace k := k.1 c18
                refine R_ic dd_OneSided_cut_31 (by decide) rfl ?_
                exact R_iret dd_OneSided_cut_32 rfl k
              · replace k := k.2 c18
                refine R_ld (v := .inr (.inr 1)) dd_OneSided_cut_21 rfl rfl rfl rfl ?_
                refine R_ld (v := .inl v3) dd_OneSided_cut_22 rfl rfl rfl rfl ?_
                refine R_ld (v := .inl v4) dd_OneSided_cut_23 rfl rfl rfl rfl ?_
                refine R_call (as := [.inr (.inr 1), .inl v3, .inl v4]) (rest := []) (M' := mm_OneSided_isSortInHour) (ls0 := [some (.inr (.inr 1)), some (.inl v3), some (.inl v4)]) dd_OneSided_cut_25 rfl rfl (cw_v cw_11_193 io_1 rfl rfl (Nat.le_of_ble_eq_true rfl) (Nat.le_of_ble_eq_true rfl)) mt_OneSided_isSortInHour rfl (c := e - 1) (by omega) rfl ?_
                refine R_ld (v := .inl v3) dd_OneSided_isSortInHour_0 rfl rfl rfl rfl ?_
                refine R_if dd_OneSided_isSortInHour_1 rfl rfl (fun (c19 : v3 < 0) => ?_) (fun (c19 : 0 ≤ v3) => ?_)
                · replace k := k.1 c19
                  refine R_ic dd_OneSided_isSortInHour_23 (by decide) rfl ?_
                  refine R_zret dd_OneSided_isSortInHour_24 rfl (by decide) ?_
                  change Rn xs xl e mm_OneSided_cut 28 [some (.inr (.inr 1)), some (.inl v1), some (.inl v2), some (.inl v3), some (.inl v4)] [.inl 0] h _
                  refine R_if dd_OneSided_cut_28 rfl rfl (fun (c20 : 0 ≠ 0) => ?_) (fun (c20 : 0 = 0) => ?_)
                  · exact absurd c20 (by omega)
                  · skip
                    refine R_ic dd_OneSided_cut_31 (by decide) rfl ?_
                    exact R_iret dd_OneSided_cut_32 rfl k
                · replace k := k.2 c19
                  refine R_ld (v := .inl v3) dd_OneSided_isSortInHour_4 rfl rfl rfl rfl ?_
                  refine R_ic dd_OneSided_isSortInHour_5 (by decide) rfl ?_
                  refine R_icmp dd_OneSided_isSortInHour_6 rfl rfl (fun (c21 : 4 ≤ v3) => ?_) (fun (c21 : v3 < 4) => ?_)
                  · replace k := k.1 c21
                    refine R_ic dd_OneSided_isSortInHour_23 (by decide) rfl ?_
                    refine R_zret dd_OneSided_isSortInHour_24 rfl (by decide) ?_
                    change Rn xs xl e mm_OneSided_cut 28 [some (.inr (.inr 1)), some (.inl v1), some (.inl v2), some (.inl v3), some (.inl v4)] [.inl 0] h _
                    refine R_if dd_OneSided_cut_28 rfl rfl (fun (c22 : 0 ≠ 0) => ?_) (fun (c22 : 0 = 0) => ?_)
                    · exact absurd c22 (by omega)
                    · skip
                      refine R_ic dd_OneSided_cut_31 (by decide) rfl ?_
                      exact R_iret dd_OneSided_cut_32 rfl k
                  · replace k := k.2 c21
                    refine R_ld (v := .inl v4) dd_OneSided_isSortInHour_9 rfl rfl rfl rfl ?_
                    refine R_if dd_OneSided_isSortInHour_10 rfl rfl (fun (c23 : v4 < 0) => ?_) (fun (c23 : 0 ≤ v4) => ?_)
                    · replace k := k.1 c23
                      refine R_ic dd_OneSided_isSortInHour_23 (by decide) rfl ?_
                      refine R_zret dd_OneSided_isSortInHour_24 rfl (by decide) ?_
                      change Rn xs xl e mm_OneSided_cut 28 [some (.inr (.inr 1)), some (.inl v1), some (.inl v2), some (.inl v3), some (.inl v4)] [.inl 0] h _
                      refine R_if dd_OneSided_cut_28 rfl rfl (fun (c24 : 0 ≠ 0) => ?_) (fun (c24 : 0 = 0) => ?_)
                      · exact absurd c24 (by omega)
                      · skip
                        refine R_ic dd_OneSided_cut_31 (by decide) rfl ?_
                        exact R_iret dd_OneSided_cut_32 rfl k
                    · replace k := k.2 c23
                      refine R_ld (v := .inl v4) dd_OneSided_isSortInHour_13 rfl rfl rfl rfl ?_
                      refine R_bi dd_OneSided_isSortInHour_14 (by decide) rfl ?_
                      refine R_icmp dd_OneSided_isSortInHour_16 rfl rfl (fun (c25 : 24 ≤ v4) => ?_) (fun (c25 : v4 < 24) => ?_)
                      · replace k := k.1 c25
                        refine R_ic dd_OneSided_isSortInHour_23 (by decide) rfl ?_
                        refine R_zret dd_OneSided_isSortInHour_24 rfl (by decide) ?_
                        change Rn xs xl e mm_OneSided_cut 28 [some (.inr (.inr 1)), some (.inl v1), some (.inl v2), some (.inl v3), some (.inl v4)] [.inl 0] h _
                        refine R_if dd_OneSided_cut_28 rfl rfl (fun (c26 : 0 ≠ 0) => ?_) (fun (c26 : 0 = 0) => ?_)
                        · exact absurd c26 (by omega)
                        · skip
                          refine R_ic dd_OneSided_cut_31 (by decide) rfl ?_
                          exact R_iret dd_OneSided_cut_32 rfl k
                      · replace k := k.2 c25
                        refine R_ic dd_OneSided_isSortInHour_19 (by decide) rfl ?_
                        refine R_goto dd_OneSided_isSortInHour_20 rfl ?_
                        refine R_zret dd_OneSided_isSortInHour_24 rfl (by decide) ?_
                        change Rn xs xl e mm_OneSided_cut 28 [some (.inr (.inr 1)), some (.inl v1), some (.inl v2), some (.inl v3), some (.inl v4)] [.inl 1] h _
                        refine R_if dd_OneSided_cut_28 rfl rfl (fun (c27 : 1 ≠ 0) => ?_) (fun (c27 : 1 = 0) => ?_)
                        · skip
                          refine R_ld (v := .inr (.inr 1)) dd_OneSided_cut_33 rfl rfl rfl rfl ?_
                          refine R_gf (v := .inr (.inr q)) dd_OneSided_cut_34 fd_11_19 io_1 (congrArg (fun z : Int => (Sum.inr (Sum.inr z) : LV)) hQ) rfl ?_
                          refine R_ld (v := .inr (.inr 1)) dd_OneSided_cut_37 rfl rfl rfl rfl ?_
                          refine R_ld (v := .inl v3) dd_OneSided_cut_38 rfl rfl rfl rfl ?_
                          refine R_ld (v := .inl v4) dd_OneSided_cut_39 rfl rfl rfl rfl ?_
                          refine R_call (as := [.inr (.inr 1), .inl v3, .inl v4]) (rest := [.inr (.inr q)]) (M' := mm_OneSided_ahead) (ls0 := [some (.inr (.inr 1)), some (.inl v3), some (.inl v4)]) dd_OneSided_cut_41 rfl rfl (cw_v cw_11_257 io_1 rfl rfl (Nat.le_of_ble_eq_true rfl) (Nat.le_of_ble_eq_true rfl)) mt_OneSided_ahead rfl (c := e - 1) (by omega) rfl ?_
                          refine R_ld (v := .inr (.inr 1)) dd_OneSided_ahead_0 rfl rfl rfl rfl ?_
                          refine R_gf (v := .inr (.inr q)) dd_OneSided_ahead_1 fd_11_19 io_1 (congrArg (fun z : Int => (Sum.inr (Sum.inr z) : LV)) hQ) rfl ?_
                          refine R_ld (v := .inl v3) dd_OneSided_ahead_4 rfl rfl rfl rfl ?_
                          refine R_ld (v := .inl v4) dd_OneSided_ahead_5 rfl rfl rfl rfl ?_
                          refine R_ld (v := .inr (.inr 1)) dd_OneSided_ahead_6 rfl rfl rfl rfl ?_
                          refine R_gf (v := .inr (.inr 59)) dd_OneSided_ahead_7 fd_11_29 io_1 (congrArg (fun z : Int => (Sum.inr (Sum.inr z) : LV)) (rf_1_3 hF)) rfl ?_
                          refine R_gf (v := .inr (.inr 60)) dd_OneSided_ahead_10 fd_11_149 io_59 (congrArg (fun z : Int => (Sum.inr (Sum.inr z) : LV)) (rf_59_0 hF)) rfl ?_
                          refine R_gf (v := .inl (rd h 60 1)) dd_OneSided_ahead_13 fd_11_153 io_60 (congrArg (fun z : Int => (Sum.inl z : LV)) (rfl)) rfl ?_
                          refine R_call (as := [.inr (.inr q), .inl v3, .inl v4, .inl (rd h 60 1)]) (rest := []) (M' := mm_Quarter_aheadIn) (ls0 := [some (.inr (.inr q)), some (.inl v3), some (.inl v4), some (.inl (rd h 60 1))]) dd_OneSided_ahead_16 rfl rfl (cw_v cw_11_360 (io_q hq) rfl rfl (Nat.le_of_ble_eq_true rfl) (Nat.le_of_ble_eq_true rfl)) mt_Quarter_aheadIn rfl (c := e - 2) (by omega) rfl ?_
                          refine R_ld (v := .inl v4) dd_Quarter_aheadIn_0 rfl rfl rfl rfl ?_
                          refine R_bi dd_Quarter_aheadIn_1 (by decide) rfl ?_
                          refine R_icmp dd_Quarter_aheadIn_3 rfl rfl (fun (c28 : 24 ≤ v4) => ?_) (fun (c28 : v4 < 24) => ?_)
                          · exact absurd c28 (by omega)
                          · skip
                            refine R_ld (v := .inr (.inr q)) dd_Quarter_aheadIn_6 rfl rfl rfl rfl ?_
                            refine R_gf (v := .inr (.inr (q + 5))) dd_Quarter_aheadIn_7 fd_6_34 (io_q hq) (congrArg (fun z : Int => (Sum.inr (Sum.inr z) : LV)) (rq_ahd hF hq)) rfl ?_
                            refine R_ld (v := .inl v3) dd_Quarter_aheadIn_10 rfl rfl rfl rfl ?_
                            refine R_bi dd_Quarter_aheadIn_11 (by decide) rfl ?_
                            obtain ⟨s1, k⟩ := k
                            refine R_imul (c := 24 * v3) dd_Quarter_aheadIn_13 (by omega) s1 rfl ?_
                            refine R_ld (v := .inl v4) dd_Quarter_aheadIn_14 rfl rfl rfl rfl ?_
                            obtain ⟨s2, k⟩ := k
                            refine R_iadd (c := 24 * v3 + v4) dd_Quarter_aheadIn_15 (by omega) s2 rfl ?_
                            obtain ⟨s3, k⟩ := k
                            refine R_iald (v := (rd h (q + 5) (24 * v3 + v4))) (n := 96) dd_Quarter_aheadIn_16 (ia_aq hq) (la_aq hq) s3 (rfl) rfl ?_
                            refine R_ld (v := .inl (rd h 60 1)) dd_Quarter_aheadIn_17 rfl rfl rfl rfl ?_
                            refine R_ic dd_Quarter_aheadIn_18 (by decide) rfl ?_
                            refine R_A dd_Quarter_aheadIn_19 rfl rfl rfl rfl ?_
                            refine R_A dd_Quarter_aheadIn_20 rfl rfl rfl rfl ?_
                            refine R_goto dd_Quarter_aheadIn_21 rfl ?_
                            refine R_iret dd_Quarter_aheadIn_25 rfl ?_
                            change Rn xs xl (e - 1) mm_OneSided_ahead 19 [some (.inr (.inr 1)), some (.inl v3), some (.inl v4)] [.inl (zand (rd h (q + 5) (24 * v3 + v4)) (zxor (rd h 60 1) (-1)))] h _
                            refine R_iret dd_OneSided_ahead_19 rfl ?_
                            change Rn xs xl e mm_OneSided_cut 44 [some (.inr (.inr 1)), some (.inl v1), some (.inl v2), some (.inl v3), some (.inl v4)] [.inl (zand (rd h (q + 5) (24 * v3 + v4)) (zxor (rd h 60 1) (-1))), .inr (.inr q)] h _
                            refine R_ld (v := .inr (.inr 1)) dd_OneSided_cut_44 rfl rfl rfl rfl ?_
                            refine R_ld (v := .inl v3) dd_OneSided_cut_45 rfl rfl rfl rfl ?_
                            refine R_ld (v := .inl v4) dd_OneSided_cut_46 rfl rfl rfl rfl ?_
                            refine R_call (as := [.inr (.inr 1), .inl v3, .inl v4]) (rest := [.inl (zand (rd h (q + 5) (24 * v3 + v4)) (zxor (rd h 60 1) (-1))), .inr (.inr q)]) (M' := mm_OneSided_back) (ls0 := [some (.inr (.inr 1)), some (.inl v3), some (.inl v4)]) dd_OneSided_cut_48 rfl rfl (cw_v cw_11_260 io_1 rfl rfl (Nat.le_of_ble_eq_true rfl) (Nat.le_of_ble_eq_true rfl)) mt_OneSided_back rfl (c := e - 1) (by omega) rfl ?_
                            refine R_ld (v := .inr (.inr 1)) dd_OneSided_back_0 rfl rfl rfl rfl ?_
                            refine R_gf (v := .inr (.inr q)) dd_OneSided_back_1 fd_11_19 io_1 (congrArg (fun z : Int => (Sum.inr (Sum.inr z) : LV)) hQ) rfl ?_
                            refine R_ld (v := .inl v3) dd_OneSided_back_4 rfl rfl rfl rfl ?_
                            refine R_ld (v := .inl v4) dd_OneSided_back_5 rfl rfl rfl rfl ?_
                            refine R_ld (v := .inr (.inr 1)) dd_OneSided_back_6 rfl rfl rfl rfl ?_
                            refine R_gf (v := .inr (.inr 59)) dd_OneSided_back_7 fd_11_29 io_1 (congrArg (fun z : Int => (Sum.inr (Sum.inr z) : LV)) (rf_1_3 hF)) rfl ?_
                            refine R_gf (v := .inr (.inr 60)) dd_OneSided_back_10 fd_11_149 io_59 (congrArg (fun z : Int => (Sum.inr (Sum.inr z) : LV)) (rf_59_0 hF)) rfl ?_
                            refine R_gf (v := .inl (rd h 60 1)) dd_OneSided_back_13 fd_11_153 io_60 (congrArg (fun z : Int => (Sum.inl z : LV)) (rfl)) rfl ?_
                            refine R_call (as := [.inr (.inr q), .inl v3, .inl v4, .inl (rd h 60 1)]) (rest := []) (M' := mm_Quarter_backIn) (ls0 := [some (.inr (.inr q)), some (.inl v3), some (.inl v4), some (.inl (rd h 60 1))]) dd_OneSided_back_16 rfl rfl (cw_v cw_11_364 (io_q hq) rfl rfl (Nat.le_of_ble_eq_true rfl) (Nat.le_of_ble_eq_true rfl)) mt_Quarter_backIn rfl (c := e - 2) (by omega) rfl ?_
                            refine R_ld (v := .inl v4) dd_Quarter_backIn_0 rfl rfl rfl rfl ?_
                            refine R_bi dd_Quarter_backIn_1 (by decide) rfl ?_
                            refine R_icmp dd_Quarter_backIn_3 rfl rfl (fun (c29 : 24 ≤ v4) => ?_) (fun (c29 : v4 < 24) => ?_)
                            · exact absurd c29 (by omega)
                            · skip
                              refine R_ld (v := .inr (.inr q)) dd_Quarter_backIn_6 rfl rfl rfl rfl ?_
                              refine R_gf (v := .inr (.inr (q + 6))) dd_Quarter_backIn_7 fd_6_37 (io_q hq) (congrArg (fun z : Int => (Sum.inr (Sum.inr z) : LV)) (rq_bck hF hq)) rfl ?_
                              refine R_ld (v := .inl v3) dd_Quarter_backIn_10 rfl rfl rfl rfl ?_
                              refine R_bi dd_Quarter_backIn_11 (by decide) rfl ?_
                              obtain ⟨s4, k⟩ := k
                              refine R_imul (c := 24 * v3) dd_Quarter_backIn_13 (by omega) s4 rfl ?_
                              refine R_ld (v := .inl v4) dd_Quarter_backIn_14 rfl rfl rfl rfl ?_
                              obtain ⟨s5, k⟩ := k
                              refine R_iadd (c := 24 * v3 + v4) dd_Quarter_backIn_15 (by omega) s5 rfl ?_
                              obtain ⟨s6, k⟩ := k
                              refine R_iald (v := (rd h (q + 6) (24 * v3 + v4))) (n := 96) dd_Quarter_backIn_16 (ia_bq hq) (la_bq hq) s6 (rfl) rfl ?_
                              refine R_ld (v := .inl (rd h 60 1)) dd_Quarter_backIn_17 rfl rfl rfl rfl ?_
                              refine R_ic dd_Quarter_backIn_18 (by decide) rfl ?_
                              refine R_A dd_Quarter_backIn_19 rfl rfl rfl rfl ?_
                              refine R_A dd_Quarter_backIn_20 rfl rfl rfl rfl ?_
                              refine R_goto dd_Quarter_backIn_21 rfl ?_
                              refine R_iret dd_Quarter_backIn_25 rfl ?_
                              change Rn xs xl (e - 1) mm_OneSided_back 19 [some (.inr (.inr 1)), some (.inl v3), some (.inl v4)] [.inl (zand (rd h (q + 6) (24 * v3 + v4)) (zxor (rd h 60 1) (-1)))] h _
                              refine R_iret dd_OneSided_back_19 rfl ?_
                              change Rn xs xl e mm_OneSided_cut 51 [some (.inr (.inr 1)), some (.inl v1), some (.inl v2), some (.inl v3), some (.inl v4)] [.inl (zand (rd h (q + 6) (24 * v3 + v4)) (zxor (rd h 60 1) (-1))), .inl (zand (rd h (q + 5) (24 * v3 + v4)) (zxor (rd h 60 1) (-1))), .inr (.inr q)] h _
                              refine R_ld (v := .inl v1) dd_OneSided_cut_51 rfl rfl rfl rfl ?_
                              refine R_ld (v := .inl v2) dd_OneSided_cut_52 rfl rfl rfl rfl ?_
                              obtain ⟨c, hc, k⟩ := k
                              exact R_call (as := [.inr (.inr q), .inl (zand (rd h (q + 5) (24 * v3 + v4)) (zxor (rd h 60 1) (-1))), .inl (zand (rd h (q + 6) (24 * v3 + v4)) (zxor (rd h 60 1) (-1))), .inl v1, .inl v2]) (rest := []) (M' := mm_Web_doorsToShut) (ls0 := [some (.inr (.inr q)), some (.inl (zand (rd h (q + 5) (24 * v3 + v4)) (zxor (rd h 60 1) (-1)))), some (.inl (zand (rd h (q + 6) (24 * v3 + v4)) (zxor (rd h 60 1) (-1)))), some (.inl v1), some (.inl v2), none, none, none, none, none]) dd_OneSided_cut_53 rfl rfl (cw_s cw_11_280 rfl rfl (Nat.le_of_ble_eq_true rfl) (Nat.le_of_ble_eq_true rfl)) mt_Web_doorsToShut rfl hc rfl k
                        · exact absurd c27 (by omega)
theorem B_OneSided_cut_56 {xs : Nat → Int} {xl e : Nat} {h : LH} {Q : Option LV → LH → Prop} {v1 v2 v3 v4 w0 : Int} (hF : RF h)
    (k : Q (some (.inl w0)) h) :
    Rn xs xl e mm_OneSided_cut 56 [some (.inr (.inr 1)), some (.inl v1), some (.inl v2), some (.inl v3), some (.inl v4)] [.inl w0] h Q := by
  exact R_iret dd_OneSided_cut_56 rfl k
theorem B_bits_0 {xs : Nat → Int} {xl e : Nat} {h : LH} {Q : Option LV → LH → Prop} {v0 : Int} (hF : RF h)
    (k : Rn xs xl e mm_bits 4 [some (.inl v0), some (.inl 0), some (.inl 0)] [] h Q) :
    Rn xs xl e mm_bits 0 [some (.inl v0), none, none] [] h Q := by
  refine R_ic dd_bits_0 (by decide) rfl ?_
  refine R_st (ls' := [some (.inl v0), some (.inl 0), none]) dd_bits_1 rfl rfl rfl (Nat.le_of_ble_eq_true rfl) rfl rfl ?_
  refine R_ic dd_bits_2 (by decide) rfl ?_
  refine R_st (ls' := [some (.inl v0), some (.inl 0), some (.inl 0)]) dd_bits_3 rfl rfl rfl (Nat.le_of_ble_eq_true rfl) rfl rfl ?_
  exact k
theorem B_bits_4 {xs : Nat → Int} {xl e : Nat} {h : LH} {Q : Option LV → LH → Prop} {v0 v1 v2 : Int} (hF : RF h) (r_v1 : 0 ≤ v1 ∧ v1 ≤ 14) (r_v2 : 0 ≤ v2 ∧ v2 ≤ 14)
    (k : (14 ≤ v2 →
        Q (some (.inl v1)) h) ∧
      (v2 < 14 →
        (-2147483648 ≤ v1 + (zand (zshr v0 v2) 1) ∧ v1 + (zand (zshr v0 v2) 1) ≤ 2147483647) ∧
        Rn xs xl e mm_bits 4 [some (.inl v0), some (.inl (v1 + (zand (zshr v0 v2) 1))), some (.inl (v2 + 1))] [] h Q)) :
    Rn xs xl e mm_bits 4 [some (.inl v0), some (.inl v1), some (.inl v2)] [] h Q := by
  refine R_ld (v := .inl v2) dd_bits_4 rfl rfl rfl rfl ?_
  refine R_bi dd_bits_5 (by decide) rfl ?_
  refine R_icmp dd_bits_7 rfl rfl (fun (c2 : 14 ≤ v2) => ?_) (fun (c2 : v2 < 14) => ?_)
  · replace k := k.1 c2
    refine R_ld (v := .inl v1) dd_bits_24 rfl rfl rfl rfl ?_
    exact R_iret dd_bits_25 rfl k
  · replace k := k.2 c2
    refine R_ld (v := .inl v1) dd_bits_10 rfl rfl rfl rfl ?_
    refine R_ld (v := .inl v0) dd_bits_11 rfl rfl rfl rfl ?_
    refine R_ld (v := .inl v2) dd_bits_12 rfl rfl rfl rfl ?_
    refine R_A dd_bits_13 rfl rfl rfl rfl ?_
    refine R_ic dd_bits_14 (by decide) rfl ?_
    refine R_A dd_bits_15 rfl rfl rfl rfl ?_
    obtain ⟨s1, k⟩ := k
    refine R_iadd (c := v1 + (zand (zshr v0 v2) 1)) dd_bits_16 (by omega) s1 rfl ?_
    refine R_st (ls' := [some (.inl v0), some (.inl (v1 + (zand (zshr v0 v2) 1))), some (.inl v2)]) dd_bits_17 rfl rfl rfl (Nat.le_of_ble_eq_true rfl) rfl rfl ?_
    refine R_inc (y := v2 + 1) (ls' := [some (.inl v0), some (.inl (v1 + (zand (zshr v0 v2) 1))), some (.inl (v2 + 1))]) dd_bits_18 rfl (by decide) (by omega) (by omega) rfl rfl ?_
    refine R_goto dd_bits_21 rfl ?_
    exact k
theorem B_cut_0 {xs : Nat → Int} {xl e : Nat} {h : LH} {Q : Option LV → LH → Prop} {v1 v2 v3 v4 : Int} (hF : RF h) (he : 2 ≤ e)
    (k : (v1 < 0 →
        Q (some (.inl (-1))) (wr h 182 0 0)) ∧
      (0 ≤ v1 →
        ((rd h 188 0) ≤ v1 →
          Q (some (.inl (-1))) (wr h 182 0 0)) ∧
        (v1 < (rd h 188 0) →
          (v2 < 0 →
            Q (some (.inl (-1))) (wr h 182 0 0)) ∧
          (0 ≤ v2 →
            ((rd h 188 0) ≤ v2 →
              Q (some (.inl (-1))) (wr h 182 0 0)) ∧
            (v2 < (rd h 188 0) →
              (v1 = v2 →
                Q (some (.inl (-1))) (wr h 182 0 0)) ∧
              (v1 ≠ v2 →
                (v3 < 0 →
                  Q (some (.inl (-1))) (wr h 182 0 0)) ∧
                (0 ≤ v3 →
                  (3 < v3 →
                    Q (some (.inl (-1))) (wr h 182 0 0)) ∧
                  (v3 ≤ 3 →
                    (v4 < 0 →
                      Q (some (.inl (-1))) (wr h 182 0 0)) ∧
                    (0 ≤ v4 →
                      (23 < v4 →
                        Q (some (.inl (-1))) (wr h 182 0 0)) ∧
                      (v4 ≤ 23 →
                        Rn xs xl e mm_cut 44 [some (.inr (.inr 182)), some (.inl v1), some (.inl v2), some (.inl v3), some (.inl v4), some (.inl (-1)), some (.inl 0)] [] (wr h 182 0 0) Q)))))))))) :
    Rn xs xl e mm_cut 0 [some (.inr (.inr 182)), some (.inl v1), some (.inl v2), some (.inl v3), some (.inl v4), none, none] [] h Q := by
  refine R_ld (v := .inr (.inr 182)) dd_cut_0 rfl rfl rfl rfl ?_
  refine R_ic dd_cut_1 (by decide) rfl ?_
  refine R_pf (z := 0) dd_cut_2 fd_12_1 io_182 fn_12_0 rfl rfl ?_
  refine R_ld (v := .inr (.inr 182)) dd_cut_5 rfl rfl rfl rfl ?_
  refine R_ld (v := .inl v1) dd_cut_6 rfl rfl rfl rfl ?_
  refine R_call (as := [.inr (.inr 182), .inl v1]) (rest := []) (M' := mm_isRoom) (ls0 := [some (.inr (.inr 182)), some (.inl v1)]) dd_cut_7 rfl rfl (cw_v cw_12_370 io_182 rfl rfl (Nat.le_of_ble_eq_true rfl) (Nat.le_of_ble_eq_true rfl)) mt_isRoom rfl (c := e - 1) (by omega) rfl ?_
  refine R_ld (v := .inl v1) dd_isRoom_0 rfl rfl rfl rfl ?_
  refine R_if dd_isRoom_1 rfl rfl (fun (c1 : v1 < 0) => ?_) (fun (c1 : 0 ≤ v1) => ?_)
  · replace k := k.1 c1
    refine R_ic dd_isRoom_16 (by decide) rfl ?_
    refine R_zret dd_isRoom_17 rfl (by decide) ?_
    change Rn xs xl e mm_cut 10 [some (.inr (.inr 182)), some (.inl v1), some (.inl v2), some (.inl v3), some (.inl v4), none, none] [.inl 0] (wr h 182 0 0) _
    refine R_if dd_cut_10 rfl rfl (fun (c2 : 0 = 0) => ?_) (fun (c2 : 0 ≠ 0) => ?_)
    · skip
      refine R_ic dd_cut_36 (by decide) rfl ?_
      exact R_iret dd_cut_37 rfl k
    · exact absurd c2 (by omega)
  · replace k := k.2 c1
    refine R_ld (v := .inl v1) dd_isRoom_4 rfl rfl rfl rfl ?_
    refine R_ld (v := .inr (.inr 182)) dd_isRoom_5 rfl rfl rfl rfl ?_
    refine R_call (as := [.inr (.inr 182)]) (rest := [.inl v1]) (M' := mm_rooms) (ls0 := [some (.inr (.inr 182))]) dd_isRoom_6 rfl rfl (cw_v cw_12_332 io_182 rfl rfl (Nat.le_of_ble_eq_true rfl) (Nat.le_of_ble_eq_true rfl)) mt_rooms rfl (c := e - 2) (by omega) rfl ?_
    refine R_ld (v := .inr (.inr 182)) dd_rooms_0 rfl rfl rfl rfl ?_
    refine R_gf (v := .inr (.inr 188)) dd_rooms_1 fd_12_95 io_182 (congrArg (fun z : Int => (Sum.inr (Sum.inr z) : LV)) ((rdw_nei (by omega)).trans (rf_182_10 hF))) rfl ?_
    refine R_ic dd_rooms_4 (by decide) rfl ?_
    refine R_iald (v := (rd h 188 0)) (n := 300) dd_rooms_5 ia_188 la_188 (by decide) (rdw_ne (by decide)) rfl ?_
    refine R_iret dd_rooms_6 rfl ?_
    change Rn xs xl (e - 1) mm_isRoom 9 [some (.inr (.inr 182)), some (.inl v1)] [.inl (rd h 188 0), .inl v1] (wr h 182 0 0) _
    refine R_icmp dd_isRoom_9 rfl rfl (fun (c3 : (rd h 188 0) ≤ v1) => ?_) (fun (c3 : v1 < (rd h 188 0)) => ?_)
    · replace k := k.1 c3
      refine R_ic dd_isRoom_16 (by decide) rfl ?_
      refine R_zret dd_isRoom_17 rfl (by decide) ?_
      change Rn xs xl e mm_cut 10 [some (.inr (.inr 182)), some (.inl v1), some (.inl v2), some (.inl v3), some (.inl v4), none, none] [.inl 0] (wr h 182 0 0) _
      refine R_if dd_cut_10 rfl rfl (fun (c4 : 0 = 0) => ?_) (fun (c4 : 0 ≠ 0) => ?_)
      · skip
        refine R_ic dd_cut_36 (by decide) rfl ?_
        exact R_iret dd_cut_37 rfl k
      · exact absurd c4 (by omega)
    · replace k := k.2 c3
      refine R_ic dd_isRoom_12 (by decide) rfl ?_
      refine R_goto dd_isRoom_13 rfl ?_
      refine R_zret dd_isRoom_17 rfl (by decide) ?_
      change Rn xs xl e mm_cut 10 [some (.inr (.inr 182)), some (.inl v1), some (.inl v2), some (.inl v3), some (.inl v4), none, none] [.inl 1] (wr h 182 0 0) _
      refine R_if dd_cut_10 rfl rfl (fun (c5 : 1 = 0) => ?_) (fun (c5 : 1 ≠ 0) => ?_)
      · exact absurd c5 (by omega)
      · skip
        refine R_ld (v := .inr (.inr 182)) dd_cut_13 rfl rfl rfl rfl ?_
        refine R_ld (v := .inl v2) dd_cut_14 rfl rfl rfl rfl ?_
        refine R_call (as := [.inr (.inr 182), .inl v2]) (rest := []) (M' := mm_isRoom) (ls0 := [some (.inr (.inr 182)), some (.inl v2)]) dd_cut_15 rfl rfl (cw_v cw_12_370 io_182 rfl rfl (Nat.le_of_ble_eq_true rfl) (Nat.le_of_ble_eq_true rfl)) mt_isRoom rfl (c := e - 1) (by omega) rfl ?_
        refine R_ld (v := .inl v2) dd_isRoom_0 rfl rfl rfl rfl ?_
        refine R_if dd_isRoom_1 rfl rfl (fun (c6 : v2 < 0) => ?_) (fun (c6 : 0 ≤ v2) => ?_)
        · replace k := k.1 c6
          refine R_ic dd_isRoom_16 (by decide) rfl ?_
          refine R_zret dd_isRoom_17 rfl (by decide) ?_
          change Rn xs xl e mm_cut 18 [some (.inr (.inr 182)), some (.inl v1), some (.inl v2), some (.inl v3), some (.inl v4), none, none] [.inl 0] (wr h 182 0 0) _
          refine R_if dd_cut_18 rfl rfl (fun (c7 : 0 = 0) => ?_) (fun (c7 : 0 ≠ 0) => ?_)
          · skip
            refine R_ic dd_cut_36 (by decide) rfl ?_
            exact R_iret dd_cut_37 rfl k
          · exact absurd c7 (by omega)
        · replace k := k.2 c6
          refine R_ld (v := .inl v2) dd_isRoom_4 rfl rfl rfl rfl ?_
          refine R_ld (v := .inr (.inr 182)) dd_isRoom_5 rfl rfl rfl rfl ?_
          refine R_call (as := [.inr (.inr 182)]) (rest := [.inl v2]) (M' := mm_rooms) (ls0 := [some (.inr (.inr 182))]) dd_isRoom_6 rfl rfl (cw_v cw_12_332 io_182 rfl rfl (Nat.le_of_ble_eq_true rfl) (Nat.le_of_ble_eq_true rfl)) mt_rooms rfl (c := e - 2) (by omega) rfl ?_
          refine R_ld (v := .inr (.inr 182)) dd_rooms_0 rfl rfl rfl rfl ?_
          refine R_gf (v := .inr (.inr 188)) dd_rooms_1 fd_12_95 io_182 (congrArg (fun z : Int => (Sum.inr (Sum.inr z) : LV)) ((rdw_nei (by omega)).trans (rf_182_10 hF))) rfl ?_
          refine R_ic dd_rooms_4 (by decide) rfl ?_
          refine R_iald (v := (rd h 188 0)) (n := 300) dd_rooms_5 ia_188 la_188 (by decide) (rdw_ne (by decide)) rfl ?_
          refine R_iret dd_rooms_6 rfl ?_
          change Rn xs xl (e - 1) mm_isRoom 9 [some (.inr (.inr 182)), some (.inl v2)] [.inl (rd h 188 0), .inl v2] (wr h 182 0 0) _
          refine R_icmp dd_isRoom_9 rfl rfl (fun (c8 : (rd h 188 0) ≤ v2) => ?_) (fun (c8 : v2 < (rd h 188 0)) => ?_)
          · replace k := k.1 c8
            refine R_ic dd_isRoom_16 (by decide) rfl ?_
            refine R_zret dd_isRoom_17 rfl (by decide) ?_
            change Rn xs xl e mm_cut 18 [some (.inr (.inr 182)), some (.inl v1), some (.inl v2), some (.inl v3), some (.inl v4), none, none] [.inl 0] (wr h 182 0 0) _
            refine R_if dd_cut_18 rfl rfl (fun (c9 : 0 = 0) => ?_) (fun (c9 : 0 ≠ 0) => ?_)
            · skip
              refine R_ic dd_cut_36 (by decide) rfl ?_
              exact R_iret dd_cut_37 rfl k
            · exact absurd c9 (by omega)
          · replace k := k.2 c8
            refine R_ic dd_isRoom_12 (by decide) rfl ?_
            refine R_goto dd_isRoom_13 rfl ?_
            refine R_zret dd_isRoom_17 rfl (by decide) ?_
            change Rn xs xl e mm_cut 18 [some (.inr (.inr 182)), some (.inl v1), some (.inl v2), some (.inl v3), some (.inl v4), none, none] [.inl 1] (wr h 182 0 0) _
            refine R_if dd_cut_18 rfl rfl (fun (c10 : 1 = 0) => ?_) (fun (c10 : 1 ≠ 0) => ?_)
            · exact absurd c10 (by omega)
            · skip
              refine R_ld (v := .inl v1) dd_cut_21 rfl rfl rfl rfl ?_
              refine R_ld (v := .inl v2) dd_cut_22 rfl rfl rfl rfl ?_
              refine R_icmp dd_cut_23 rfl rfl (fun (c11 : v1 = v2) => ?_) (fun (c11 : v1 ≠ v2) => ?_)
              · replace k := k.1 c11
                refine R_ic dd_cut_36 (by decide) rfl ?_
                exact R_iret dd_cut_37 rfl k
              · replace k := k.2 c11
                refine R_ld (v := .inr (.inr 182)) dd_cut_26 rfl rfl rfl rfl ?_
                refine R_ld (v := .inl v3) dd_cut_27 rfl rfl rfl rfl ?_
                refine R_ld (v := .inl v4) dd_cut_28 rfl rfl rfl rfl ?_
                refine R_call (as := [.inr (.inr 182), .inl v3, .inl v4]) (rest := []) (M' := mm_mayAsk) (ls0 := [some (.inr (.inr 182)), some (.inl v3), some (.inl v4)]) dd_cut_30 rfl rfl (cw_v cw_12_422 io_182 rfl rfl (Nat.le_of_ble_eq_true rfl) (Nat.le_of_ble_eq_true rfl)) mt_mayAsk rfl (c := e - 1) (by omega) rfl ?_
                refine R_ld (v := .inl v3) dd_mayAsk_0 rfl rfl rfl rfl ?_
                refine R_ic dd_mayAsk_1 (by decide) rfl ?_
                refine R_ic dd_mayAsk_2 (by decide) rfl ?_
                refine R_call (as := [.inl v3, .inl 0, .inl 3]) (rest := []) (M' := mm_within) (ls0 := [some (.inl v3), some (.inl 0), some (.inl 3)]) dd_mayAsk_3 rfl rfl (cw_s cw_12_297 rfl rfl (Nat.le_of_ble_eq_true rfl) (Nat.le_of_ble_eq_true rfl)) mt_within rfl (c := e - 2) (by omega) rfl ?_
                refine R_ld (v := .inl v3) dd_within_0 rfl rfl rfl rfl ?_
                refine R_ld (v := .inl 0) dd_within_1 rfl rfl rfl rfl ?_
                refine R_icmp dd_within_2 rfl rfl (fun (c12 : v3 < 0) => ?_) (fun (c12 : 0 ≤ v3) => ?_)
                · replace k := k.1 c12
                  refine R_ic dd_within_14 (by decide) rfl ?_
                  refine R_zret dd_within_15 rfl (by decide) ?_
                  change Rn xs xl (e - 1) mm_mayAsk 6 [some (.inr (.inr 182)), some (.inl v3), some (.inl v4)] [.inl 0] (wr h 182 0 0) _
                  refine R_if dd_mayAsk_6 rfl rfl (fun (c13 : 0 = 0) => ?_) (fun (c13 : 0 ≠ 0) => ?_)
                  · skip
                    refine R_ic dd_mayAsk_23 (by decide) rfl ?_
                    refine R_zret dd_mayAsk_24 rfl (by decide) ?_
                    change Rn xs xl e mm_cut 33 [some (.inr (.inr 182)), some (.inl v1), some (.inl v2), some (.inl v3), some (.inl v4), none, none] [.inl 0] (wr h 182 0 0) _
                    refine R_if dd_cut_33 rfl rfl (fun (c14 : 0 ≠ 0) => ?_) (fun (c14 : 0 = 0) => ?_)
                    · exact absurd c14 (by omega)
                    · skip
                      refine R_ic dd_cut_36 (by decide) rfl ?_
                      exact R_iret dd_cut_37 rfl k
                  · exact absurd c13 (by omega)
                · replace k := k.2 c12
                  refine R_ld (v := .inl v3) dd_within_5 rfl rfl rfl rfl ?_
                  refine R_ld (v := .inl 3) dd_within_6 rfl rfl rfl rfl ?_
                  refine R_icmp dd_within_7 rfl rfl (fun (c15 : 3 < v3) => ?_) (fun (c15 : v3 ≤ 3) => ?_)
                  · replace k := k.1 c15
                    refine R_ic dd_within_14 (by decide) rfl ?_
                    refine R_zret dd_within_15 rfl (by decide) ?_
                    change Rn xs xl (e - 1) mm_mayAsk 6 [some (.inr (.inr 182)), some (.inl v3), some (.inl v4)] [.inl 0] (wr h 182 0 0) _
                    refine R_if dd_mayAsk_6 rfl rfl (fun (c16 : 0 = 0) => ?_) (fun (c16 : 0 ≠ 0) => ?_)
                    · skip
                      refine R_ic dd_mayAsk_23 (by decide) rfl ?_
                      refine R_zret dd_mayAsk_24 rfl (by decide) ?_
                      change Rn xs xl e mm_cut 33 [some (.inr (.inr 182)), some (.inl v1), some (.inl v2), some (.inl v3), some (.inl v4), none, none] [.inl 0] (wr h 182 0 0) _
                      refine R_if dd_cut_33 rfl rfl (fun (c17 : 0 ≠ 0) => ?_) (fun (c17 : 0 = 0) => ?_)
                      · exact absurd c17 (by omega)
                      · skip
                        refine R_ic dd_cut_36 (by decide) rfl ?_
                        exact R_iret dd_cut_37 rfl k
                    · exact absurd c16 (by omega)
                  · replace k := k.2 c15
                    refine R_ic dd_within_10 (by decide) rfl ?_
                    refine R_goto dd_within_11 rfl ?_
                    refine R_zret dd_within_15 rfl (by decide) ?_
                    change Rn xs xl (e - 1) mm_mayAsk 6 [some (.inr (.inr 182)), some (.inl v3), some (.inl v4)] [.inl 1] (wr h 182 0 0) _
                    refine R_if dd_mayAsk_6 rfl rfl (fun (c18 : 1 = 0) => ?_) (fun (c18 : 1 ≠ 0) => ?_)
                    · exact absurd c18 (by omega)
                    · skip
                      refine R_ld (v := .inl v4) dd_mayAsk_9 rfl rfl rfl rfl ?_
                      refine R_ic dd_mayAsk_10 (by decide) rfl ?_
                      refine R_bi dd_mayAsk_11 (by decide) rfl ?_
                      refine R_call (as := [.inl v4, .inl 0, .inl 23]) (rest := []) (M' := mm_within) (ls0 := [some (.inl v4), some (.inl 0), some (.inl 23)]) dd_mayAsk_13 rfl rfl (cw_s cw_12_297 rfl rfl (Nat.le_of_ble_eq_true rfl) (Nat.le_of_ble_eq_true rfl)) mt_within rfl (c := e - 2) (by omega) rfl ?_
                      refine R_ld (v := .inl v4) dd_within_0 rfl rfl rfl rfl ?_
                      refine R_ld (v := .inl 0) dd_within_1 rfl rfl rfl rfl ?_
                      refine R_icmp dd_within_2 rfl rfl (fun (c19 : v4 < 0) => ?_) (fun (c19 : 0 ≤ v4) => ?_)
                      · replace k := k.1 c19
                        refine R_ic dd_within_14 (by decide) rfl ?_
                        refine R_zret dd_within_15 rfl (by decide) ?_
                        change Rn xs xl (e - 1) mm_mayAsk 16 [some (.inr (.inr 182)), some (.inl v3), some (.inl v4)] [.inl 0] (wr h 182 0 0) _
                        refine R_if dd_mayAsk_16 rfl rfl (fun (c20 : 0 = 0) => ?_) (fun (c20 : 0 ≠ 0) => ?_)
                        · skip
                          refine R_ic dd_mayAsk_23 (by decide) rfl ?_
                          refine R_zret dd_mayAsk_24 rfl (by decide) ?_
                          change Rn xs xl e mm_cut 33 [some (.inr (.inr 182)), some (.inl v1), some (.inl v2), some (.inl v3), some (.inl v4), none, none] [.inl 0] (wr h 182 0 0) _
                          refine R_if dd_cut_33 rfl rfl (fun (c21 : 0 ≠ 0) => ?_) (fun (c21 : 0 = 0) => ?_)
                          · exact absurd c21 (by omega)
                          · skip
                            refine R_ic dd_cut_36 (by decide) rfl ?_
                            exact R_iret dd_cut_37 rfl k
                        · exact absurd c20 (by omega)
                      · replace k := k.2 c19
                        refine R_ld (v := .inl v4) dd_within_5 rfl rfl rfl rfl ?_
                        refine R_ld (v := .inl 23) dd_within_6 rfl rfl rfl rfl ?_
                        refine R_icmp dd_within_7 rfl rfl (fun (c22 : 23 < v4) => ?_) (fun (c22 : v4 ≤ 23) => ?_)
                        · replace k := k.1 c22
                          refine R_ic dd_within_14 (by decide) rfl ?_
                          refine R_zret dd_within_15 rfl (by decide) ?_
                          change Rn xs xl (e - 1) mm_mayAsk 16 [some (.inr (.inr 182)), some (.inl v3), some (.inl v4)] [.inl 0] (wr h 182 0 0) _
                          refine R_if dd_mayAsk_16 rfl rfl (fun (c23 : 0 = 0) => ?_) (fun (c23 : 0 ≠ 0) => ?_)
                          · skip
                            refine R_ic dd_mayAsk_23 (by decide) rfl ?_
                            refine R_zret dd_mayAsk_24 rfl (by decide) ?_
                            change Rn xs xl e mm_cut 33 [some (.inr (.inr 182)), some (.inl v1), some (.inl v2), some (.inl v3), some (.inl v4), none, none] [.inl 0] (wr h 182 0 0) _
                            refine R_if dd_cut_33 rfl rfl (fun (c24 : 0 ≠ 0) => ?_) (fun (c24 : 0 = 0) => ?_)
                            · exact absurd c24 (by omega)
                            · skip
                              refine R_ic dd_cut_36 (by decide) rfl ?_
                              exact R_iret dd_cut_37 rfl k
                          · exact absurd c23 (by omega)
                        · replace k := k.2 c22
                          refine R_ic dd_within_10 (by decide) rfl ?_
                          refine R_goto dd_within_11 rfl ?_
                          refine R_zret dd_within_15 rfl (by decide) ?_
                          change Rn xs xl (e - 1) mm_mayAsk 16 [some (.inr (.inr 182)), some (.inl v3), some (.inl v4)] [.inl 1] (wr h 182 0 0) _
                          refine R_if dd_mayAsk_16 rfl rfl (fun (c25 : 1 = 0) => ?_) (fun (c25 : 1 ≠ 0) => ?_)
                          · exact absurd c25 (by omega)
                          · skip
                            refine R_ic dd_mayAsk_19 (by decide) rfl ?_
                            refine R_goto dd_mayAsk_20 rfl ?_
                            refine R_zret dd_mayAsk_24 rfl (by decide) ?_
                            change Rn xs xl e mm_cut 33 [some (.inr (.inr 182)), some (.inl v1), some (.inl v2), some (.inl v3), some (.inl v4), none, none] [.inl 1] (wr h 182 0 0) _
                            refine R_if dd_cut_33 rfl rfl (fun (c26 : 1 ≠ 0) => ?_) (fun (c26 : 1 = 0) => ?_)
                            · skip
                              refine R_ic dd_cut_38 (by decide) rfl ?_
                              refine R_st (ls' := [some (.inr (.inr 182)), some (.inl v1), some (.inl v2), some (.inl v3), some (.inl v4), some (.inl (-1)), none]) dd_cut_39 rfl rfl rfl (Nat.le_of_ble_eq_true rfl) rfl rfl ?_
                              refine R_ic dd_cut_41 (by decide) rfl ?_
                              refine R_st (ls' := [some (.inr (.inr 182)), some (.inl v1), some (.inl v2), some (.inl v3), some (.inl v4), some (.inl (-1)), some (.inl 0)]) dd_cut_42 rfl rfl rfl (Nat.le_of_ble_eq_true rfl) rfl rfl ?_
                              exact k
                            · exact absurd c26 (by omega)
theorem B_cut_44 {xs : Nat → Int} {xl e : Nat} {h : LH} {Q : Option LV → LH → Prop} {v1 v2 v3 v4 v5 v6 : Int} (hF : RF h) (r_v6 : 0 ≤ v6 ∧ v6 ≤ 16384) (he : 1 ≤ e)
    (k : ((zshl 1 (rd h 188 1)) ≤ v6 →
        Q (some (.inl v5)) h) ∧
      (v6 < (zshl 1 (rd h 188 1)) →
        (v5 < 0 →
          Rn xs xl e mm_cut 73 [some (.inr (.inr 182)), some (.inl v1), some (.inl v2), some (.inl v3), some (.inl v4), some (.inl v5), some (.inl v6)] [] h Q) ∧
        (0 ≤ v5 →
          (∃ c, c < e ∧ Rn xs xl c mm_bits 0 [some (.inl v6), none, none] [] h (fun r h' => Rn xs xl e mm_cut 65 [some (.inr (.inr 182)), some (.inl v1), some (.inl v2), some (.inl v3), some (.inl v4), some (.inl v5), some (.inl v6)] (r.toList ++ []) h' Q))))) :
    Rn xs xl e mm_cut 44 [some (.inr (.inr 182)), some (.inl v1), some (.inl v2), some (.inl v3), some (.inl v4), some (.inl v5), some (.inl v6)] [] h Q := by
  refine R_ld (v := .inl v6) dd_cut_44 rfl rfl rfl rfl ?_
  refine R_ic dd_cut_46 (by decide) rfl ?_
  refine R_ld (v := .inr (.inr 182)) dd_cut_47 rfl rfl rfl rfl ?_
  refine R_call (as := [.inr (.inr 182)]) (rest := [.inl 1, .inl v6]) (M' := mm_doors) (ls0 := [some (.inr (.inr 182))]) dd_cut_48 rfl rfl (cw_v cw_12_335 io_182 rfl rfl (Nat.le_of_ble_eq_true rfl) (Nat.le_of_ble_eq_true rfl)) mt_doors rfl (c := e - 1) (by omega) rfl ?_
  refine R_ld (v := .inr (.inr 182)) dd_doors_0 rfl rfl rfl rfl ?_
  refine R_gf (v := .inr (.inr 188)) dd_doors_1 fd_12_95 io_182 (congrArg (fun z : Int => (Sum.inr (Sum.inr z) : LV)) (rf_182_10 hF)) rfl ?_
  refine R_ic dd_doors_4 (by decide) rfl ?_
  refine R_iald (v := (rd h 188 1)) (n := 300) dd_doors_5 ia_188 la_188 (by decide) (rfl) rfl ?_
  refine R_iret dd_doors_6 rfl ?_
  change Rn xs xl e mm_cut 51 [some (.inr (.inr 182)), some (.inl v1), some (.inl v2), some (.inl v3), some (.inl v4), some (.inl v5), some (.inl v6)] [.inl (rd h 188 1), .inl 1, .inl v6] h _
  refine R_A dd_cut_51 rfl rfl rfl rfl ?_
  refine R_icmp dd_cut_52 rfl rfl (fun (c2 : (zshl 1 (rd h 188 1)) ≤ v6) => ?_) (fun (c2 : v6 < (zshl 1 (rd h 188 1))) => ?_)
  · replace k := k.1 c2
    refine R_ld (v := .inl v5) dd_cut_117 rfl rfl rfl rfl ?_
    exact R_iret dd_cut_119 rfl k
  · replace k := k.2 c2
    refine R_ld (v := .inl v5) dd_cut_55 rfl rfl rfl rfl ?_
    refine R_if dd_cut_57 rfl rfl (fun (c3 : v5 < 0) => ?_) (fun (c3 : 0 ≤ v5) => ?_)
    · replace k := k.1 c3
      exact k
    · replace k := k.2 c3
      refine R_ld (v := .inl v6) dd_cut_60 rfl rfl rfl rfl ?_
      obtain ⟨c, hc, k⟩ := k
      exact R_call (as := [.inl v6]) (rest := []) (M' := mm_bits) (ls0 := [some (.inl v6), none, none]) dd_cut_62 rfl rfl (cw_s cw_12_435 rfl rfl (Nat.le_of_ble_eq_true rfl) (Nat.le_of_ble_eq_true rfl)) mt_bits rfl hc rfl k
theorem B_cut_65 {xs : Nat → Int} {xl e : Nat} {h : LH} {Q : Option LV → LH → Prop} {v1 v2 v3 v4 v5 v6 w0 : Int} (hF : RF h) (r_v6 : 0 ≤ v6 ∧ v6 ≤ 16383)
    (k : (∃ c, c < e ∧ Rn xs xl c mm_bits 0 [some (.inl v5), none, none] [] h (fun r h' => Rn xs xl e mm_cut 70 [some (.inr (.inr 182)), some (.inl v1), some (.inl v2), some (.inl v3), some (.inl v4), some (.inl v5), some (.inl v6)] (r.toList ++ [.inl w0]) h' Q))) :
    Rn xs xl e mm_cut 65 [some (.inr (.inr 182)), some (.inl v1), some (.inl v2), some (.inl v3), some (.inl v4), some (.inl v5), some (.inl v6)] [.inl w0] h Q := by
  refine R_ld (v := .inl v5) dd_cut_65 rfl rfl rfl rfl ?_
  obtain ⟨c, hc, k⟩ := k
  exact R_call (as := [.inl v5]) (rest := [.inl w0]) (M' := mm_bits) (ls0 := [some (.inl v5), none, none]) dd_cut_67 rfl rfl (cw_s cw_12_435 rfl rfl (Nat.le_of_ble_eq_true rfl) (Nat.le_of_ble_eq_true rfl)) mt_bits rfl hc rfl k
theorem B_cut_70 {xs : Nat → Int} {xl e : Nat} {h : LH} {Q : Option LV → LH → Prop} {v1 v2 v3 v4 v5 v6 w0 w1 : Int} (hF : RF h) (r_v6 : 0 ≤ v6 ∧ v6 ≤ 16383)
    (k : (w1 ≤ w0 →
        Rn xs xl e mm_cut 111 [some (.inr (.inr 182)), some (.inl v1), some (.inl v2), some (.inl v3), some (.inl v4), some (.inl v5), some (.inl v6)] [] h Q) ∧
      (w0 < w1 →
        Rn xs xl e mm_cut 73 [some (.inr (.inr 182)), some (.inl v1), some (.inl v2), some (.inl v3), some (.inl v4), some (.inl v5), some (.inl v6)] [] h Q)) :
    Rn xs xl e mm_cut 70 [some (.inr (.inr 182)), some (.inl v1), some (.inl v2), some (.inl v3), some (.inl v4), some (.inl v5), some (.inl v6)] [.inl w1, .inl w0] h Q := by
  refine R_icmp dd_cut_70 rfl rfl (fun (c1 : w1 ≤ w0) => ?_) (fun (c1 : w0 < w1) => ?_)
  · replace k := k.1 c1
    exact k
  · replace k := k.2 c1
    exact k
theorem B_cut_73 {xs : Nat → Int} {xl e : Nat} {h : LH} {Q : Option LV → LH → Prop} {v1 v2 v3 v4 v5 v6 : Int} (hF : RF h) (r_v6 : 0 ≤ v6 ∧ v6 ≤ 16383)
    (k : (∃ c, c < e ∧ Rn xs xl c mm_laysInto 0 [some (.inr (.inr 182)), some (.inl v3), some (.inl v4), some (.inl (zor (rd h 198 1) v6)), some (.inl 0), none, none, none] [] h (fun r h' => Rn xs xl e mm_cut 90 [some (.inr (.inr 182)), some (.inl v1), some (.inl v2), some (.inl v3), some (.inl v4), some (.inl v5), some (.inl v6)] (r.toList ++ []) h' Q))) :
    Rn xs xl e mm_cut 73 [some (.inr (.inr 182)), some (.inl v1), some (.inl v2), some (.inl v3), some (.inl v4), some (.inl v5), some (.inl v6)] [] h Q := by
  refine R_ld (v := .inr (.inr 182)) dd_cut_73 rfl rfl rfl rfl ?_
  refine R_ld (v := .inl v3) dd_cut_74 rfl rfl rfl rfl ?_
  refine R_ld (v := .inl v4) dd_cut_75 rfl rfl rfl rfl ?_
  refine R_ld (v := .inr (.inr 182)) dd_cut_77 rfl rfl rfl rfl ?_
  refine R_gf (v := .inr (.inr 198)) dd_cut_78 fd_12_125 io_182 (congrArg (fun z : Int => (Sum.inr (Sum.inr z) : LV)) (rf_182_24 hF)) rfl ?_
  refine R_ic dd_cut_81 (by decide) rfl ?_
  refine R_iald (v := (rd h 198 1)) (n := 1610) dd_cut_82 ia_198 la_198 (by decide) (rfl) rfl ?_
  refine R_ld (v := .inl v6) dd_cut_83 rfl rfl rfl rfl ?_
  refine R_A dd_cut_85 rfl rfl rfl rfl ?_
  refine R_ic dd_cut_86 (by decide) rfl ?_
  obtain ⟨c, hc, k⟩ := k
  exact R_call (as := [.inr (.inr 182), .inl v3, .inl v4, .inl (zor (rd h 198 1) v6), .inl 0]) (rest := []) (M' := mm_laysInto) (ls0 := [some (.inr (.inr 182)), some (.inl v3), some (.inl v4), some (.inl (zor (rd h 198 1) v6)), some (.inl 0), none, none, none]) dd_cut_87 rfl rfl (cw_v cw_12_425 io_182 rfl rfl (Nat.le_of_ble_eq_true rfl) (Nat.le_of_ble_eq_true rfl)) mt_laysInto rfl hc rfl k
theorem B_cut_90 {xs : Nat → Int} {xl e : Nat} {h : LH} {Q : Option LV → LH → Prop} {v1 v2 v3 v4 v5 v6 : Int} (hF : RF h) (r_v6 : 0 ≤ v6 ∧ v6 ≤ 16383)
    (k : (∃ c, c < e ∧ Rn xs xl c mm_closure 0 [some (.inr (.inr 182)), some (.inl v1), none, none, none] [] h (fun r h' => Rn xs xl e mm_cut 95 [some (.inr (.inr 182)), some (.inl v1), some (.inl v2), some (.inl v3), some (.inl v4), some (.inl v5), some (.inl v6)] (r.toList ++ []) h' Q))) :
    Rn xs xl e mm_cut 90 [some (.inr (.inr 182)), some (.inl v1), some (.inl v2), some (.inl v3), some (.inl v4), some (.inl v5), some (.inl v6)] [] h Q := by
  refine R_ld (v := .inr (.inr 182)) dd_cut_90 rfl rfl rfl rfl ?_
  refine R_ld (v := .inl v1) dd_cut_91 rfl rfl rfl rfl ?_
  obtain ⟨c, hc, k⟩ := k
  exact R_call (as := [.inr (.inr 182), .inl v1]) (rest := []) (M' := mm_closure) (ls0 := [some (.inr (.inr 182)), some (.inl v1), none, none, none]) dd_cut_92 rfl rfl (cw_v cw_12_419 io_182 rfl rfl (Nat.le_of_ble_eq_true rfl) (Nat.le_of_ble_eq_true rfl)) mt_closure rfl hc rfl k
theorem B_cut_95 {xs : Nat → Int} {xl e : Nat} {h : LH} {Q : Option LV → LH → Prop} {v1 v2 v3 v4 v5 v6 w0 : Int} (hF : RF h) (r_v6 : 0 ≤ v6 ∧ v6 ≤ 16383) (he : 1 ≤ e)
    (k : ((zand (zshr w0 v2) 1) ≠ 1 →
        Rn xs xl e mm_cut 111 [some (.inr (.inr 182)), some (.inl v1), some (.inl v2), some (.inl v3), some (.inl v4), some (.inl v6), some (.inl v6)] [] h Q) ∧
      ((zand (zshr w0 v2) 1) = 1 →
        Rn xs xl e mm_cut 111 [some (.inr (.inr 182)), some (.inl v1), some (.inl v2), some (.inl v3), some (.inl v4), some (.inl v5), some (.inl v6)] [] h Q)) :
    Rn xs xl e mm_cut 95 [some (.inr (.inr 182)), some (.inl v1), some (.inl v2), some (.inl v3), some (.inl v4), some (.inl v5), some (.inl v6)] [.inl w0] h Q := by
  refine R_ld (v := .inl v2) dd_cut_95 rfl rfl rfl rfl ?_
  refine R_call (as := [.inl w0, .inl v2]) (rest := []) (M' := mm_isIn) (ls0 := [some (.inl w0), some (.inl v2)]) dd_cut_96 rfl rfl (cw_s cw_12_350 rfl rfl (Nat.le_of_ble_eq_true rfl) (Nat.le_of_ble_eq_true rfl)) mt_isIn rfl (c := e - 1) (by omega) rfl ?_
  refine R_ld (v := .inl w0) dd_isIn_0 rfl rfl rfl rfl ?_
  refine R_ld (v := .inl v2) dd_isIn_1 rfl rfl rfl rfl ?_
  refine R_A dd_isIn_2 rfl rfl rfl rfl ?_
  refine R_ic dd_isIn_3 (by decide) rfl ?_
  refine R_A dd_isIn_4 rfl rfl rfl rfl ?_
  refine R_ic dd_isIn_5 (by decide) rfl ?_
  refine R_icmp dd_isIn_6 rfl rfl (fun (c1 : (zand (zshr w0 v2) 1) ≠ 1) => ?_) (fun (c1 : (zand (zshr w0 v2) 1) = 1) => ?_)
  · replace k := k.1 c1
    refine R_ic dd_isIn_13 (by decide) rfl ?_
    refine R_zret dd_isIn_14 rfl (by decide) ?_
    change Rn xs xl e mm_cut 99 [some (.inr (.inr 182)), some (.inl v1), some (.inl v2), some (.inl v3), some (.inl v4), some (.inl v5), some (.inl v6)] [.inl 0] h _
    refine R_if dd_cut_99 rfl rfl (fun (c2 : 0 = 0) => ?_) (fun (c2 : 0 ≠ 0) => ?_)
    · skip
      refine R_ld (v := .inl v6) dd_cut_107 rfl rfl rfl rfl ?_
      refine R_st (ls' := [some (.inr (.inr 182)), some (.inl v1), some (.inl v2), some (.inl v3), some (.inl v4), some (.inl v6), some (.inl v6)]) dd_cut_109 rfl rfl rfl (Nat.le_of_ble_eq_true rfl) rfl rfl ?_
      exact k
    · exact absurd c2 (by omega)
  · replace k := k.2 c1
    refine R_ic dd_isIn_9 (by decide) rfl ?_
    refine R_goto dd_isIn_10 rfl ?_
    refine R_zret dd_isIn_14 rfl (by decide) ?_
    change Rn xs xl e mm_cut 99 [some (.inr (.inr 182)), some (.inl v1), some (.inl v2), some (.inl v3), some (.inl v4), some (.inl v5), some (.inl v6)] [.inl 1] h _
    refine R_if dd_cut_99 rfl rfl (fun (c3 : 1 = 0) => ?_) (fun (c3 : 1 ≠ 0) => ?_)
    · exact absurd c3 (by omega)
    · skip
      refine R_ld (v := .inl v5) dd_cut_102 rfl rfl rfl rfl ?_
      refine R_goto dd_cut_104 rfl ?_
      refine R_st (ls' := [some (.inr (.inr 182)), some (.inl v1), some (.inl v2), some (.inl v3), some (.inl v4), some (.inl v5), some (.inl v6)]) dd_cut_109 rfl rfl rfl (Nat.le_of_ble_eq_true rfl) rfl rfl ?_
      exact k
theorem B_cut_111 {xs : Nat → Int} {xl e : Nat} {h : LH} {Q : Option LV → LH → Prop} {v1 v2 v3 v4 v5 v6 : Int} (hF : RF h) (r_v6 : 0 ≤ v6 ∧ v6 ≤ 16383)
    (k : Rn xs xl e mm_cut 44 [some (.inr (.inr 182)), some (.inl v1), some (.inl v2), some (.inl v3), some (.inl v4), some (.inl v5), some (.inl (v6 + 1))] [] h Q) :
    Rn xs xl e mm_cut 111 [some (.inr (.inr 182)), some (.inl v1), some (.inl v2), some (.inl v3), some (.inl v4), some (.inl v5), some (.inl v6)] [] h Q := by
  refine R_inc (y := v6 + 1) (ls' := [some (.inr (.inr 182)), some (.inl v1), some (.inl v2), some (.inl v3), some (.inl v4), some (.inl v5), some (.inl (v6 + 1))]) dd_cut_111 rfl (by decide) (by omega) (by omega) rfl rfl ?_
  refine R_goto dd_cut_114 rfl ?_
  exact k
end
