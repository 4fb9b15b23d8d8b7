/-! walks, part w1: a memory is copied, its walks too -/
section WB
variable {xs : Nat → Int} {xl e : Nat} {h : LH} {Q : Option LV → LH → Prop}
theorem D_copyW_102_59 (he : 2 ≤ e) (hI : INV h) (k : ∀ g, INV g → (∀ a i, ¬ (102 ≤ a ∧ a ≤ 109 ∧ 0 ≤ i ∧ i ≤ 23) → rd g a i = rd h a i) → rd g 102 4 = rd h 59 4 → Q none g) : Rn xs xl e mm_Memory_copy 0 [some (.inr (.inr 102)), some (.inr (.inr 59))] [] h Q := by
  refine B_copy_0_102_59 (RF_of hI.1) ⟨1, by omega, K_copy_102 (Nat.le_refl 1) hI (fun h1 i1 f1 => B_copy_11_102_59 (RF_of i1.1) ⟨0, by omega, D_copyDay_102_59 i1 (fun h2 i2 f2 => B_copy_16_102_59 (RF_of i2.1) ?_)⟩)⟩
  have l4 := rG_59_4 i2.1
  have l7 := rG_59_7 i2.1
  have i3 := wG_102_7 (wG_102_4 i2 (v := rd h2 59 4) (by omega) (by omega)) (v := rd h2 59 7) (by omega) (by omega)
  have n3 : ∀ b j, ¬ (b = 102 ∧ 0 ≤ j ∧ j ≤ 23) → rd (wr (wr h2 102 4 (rd h2 59 4)) 102 7 (rd h2 59 7)) b j = rd h2 b j := fun b j hn => by rw [rd_wr, if_neg (by omega), rd_wr, if_neg (by omega)]
  have w3 : rd (wr (wr h2 102 4 (rd h2 59 4)) 102 7 (rd h2 59 7)) 102 4 = rd h2 59 4 := (rdw_nei (by decide)).trans rdw_eq
  generalize wr (wr h2 102 4 (rd h2 59 4)) 102 7 (rd h2 59 7) = h3 at *
  have r4 : RNG (cpyL h3 65 0 108 0 10 ++ h3) := RNG_cpk (n := 10) (fun f j hj hf => by
    have q := rB_65 i3.1 (i := 0 + (j : Int)) (by omega)
    exact wS_108 hf (by omega) (by omega)) i3.1 10 (Nat.le_refl _)
  have n4 : ∀ b j, rd (cpyL h3 65 0 108 0 10 ++ h3) b j = if b = 108 ∧ 0 ≤ j ∧ j < 10 then rd h3 65 j else rd h3 b j := fun b j => rd_cp0 10
  generalize cpyL h3 65 0 108 0 10 ++ h3 = h4 at *
  have i4 : INV h4 := ⟨r4, SP_of (fun b j hb => by rw [n4, if_neg (by unfold sens at hb; omega)]) i3.2⟩
  refine B_copy_47_102_59 (RF_of i4.1) ?_
  have r5 : RNG (cpyL h4 66 0 109 0 10 ++ h4) := RNG_cpk (n := 10) (fun f j hj hf => by
    have q := rB_66 i4.1 (i := 0 + (j : Int)) (by omega)
    exact wS_109 hf (by omega) (by omega)) i4.1 10 (Nat.le_refl _)
  have n5 : ∀ b j, rd (cpyL h4 66 0 109 0 10 ++ h4) b j = if b = 109 ∧ 0 ≤ j ∧ j < 10 then rd h4 66 j else rd h4 b j := fun b j => rd_cp0 10
  generalize cpyL h4 66 0 109 0 10 ++ h4 = h5 at *
  have i5 : INV h5 := ⟨r5, SP_of (fun b j hb => by rw [n5, if_neg (by unfold sens at hb; omega)]) i4.2⟩
  refine B_copy_62_102_59 (RF_of i5.1) ?_
  have w5 : rd h5 102 4 = rd h 59 4 := by
    rw [n5, if_neg (by omega), n4, if_neg (by omega), w3, f2 59 4 (by omega) (by omega) (by omega), f1 59 4 (by omega) (by omega) (by omega)]
  refine k h5 i5 (fun a i hn => ?_) w5
  rw [n5, if_neg (by omega), n4, if_neg (by omega), n3 a i (by omega), f2 a i (by omega) (by omega) (by omega), f1 a i (by omega) (by omega) (by omega)]
theorem D_copyW_110_59 (he : 2 ≤ e) (hI : INV h) (k : ∀ g, INV g → (∀ a i, ¬ (110 ≤ a ∧ a ≤ 117 ∧ 0 ≤ i ∧ i ≤ 23) → rd g a i = rd h a i) → rd g 110 4 = rd h 59 4 → Q none g) : Rn xs xl e mm_Memory_copy 0 [some (.inr (.inr 110)), some (.inr (.inr 59))] [] h Q := by
  refine B_copy_0_110_59 (RF_of hI.1) ⟨1, by omega, K_copy_110 (Nat.le_refl 1) hI (fun h1 i1 f1 => B_copy_11_110_59 (RF_of i1.1) ⟨0, by omega, D_copyDay_110_59 i1 (fun h2 i2 f2 => B_copy_16_110_59 (RF_of i2.1) ?_)⟩)⟩
  have l4 := rG_59_4 i2.1
  have l7 := rG_59_7 i2.1
  have i3 := wG_110_7 (wG_110_4 i2 (v := rd h2 59 4) (by omega) (by omega)) (v := rd h2 59 7) (by omega) (by omega)
  have n3 : ∀ b j, ¬ (b = 110 ∧ 0 ≤ j ∧ j ≤ 23) → rd (wr (wr h2 110 4 (rd h2 59 4)) 110 7 (rd h2 59 7)) b j = rd h2 b j := fun b j hn => by rw [rd_wr, if_neg (by omega), rd_wr, if_neg (by omega)]
  have w3 : rd (wr (wr h2 110 4 (rd h2 59 4)) 110 7 (rd h2 59 7)) 110 4 = rd h2 59 4 := (rdw_nei (by decide)).trans rdw_eq
  generalize wr (wr h2 110 4 (rd h2 59 4)) 110 7 (rd h2 59 7) = h3 at *
  have r4 : RNG (cpyL h3 65 0 116 0 10 ++ h3) := RNG_cpk (n := 10) (fun f j hj hf => by
    have q := rB_65 i3.1 (i := 0 + (j : Int)) (by omega)
    exact wS_116 hf (by omega) (by omega)) i3.1 10 (Nat.le_refl _)
  have n4 : ∀ b j, rd (cpyL h3 65 0 116 0 10 ++ h3) b j = if b = 116 ∧ 0 ≤ j ∧ j < 10 then rd h3 65 j else rd h3 b j := fun b j => rd_cp0 10
  generalize cpyL h3 65 0 116 0 10 ++ h3 = h4 at *
  have i4 : INV h4 := ⟨r4, SP_of (fun b j hb => by rw [n4, if_neg (by unfold sens at hb; omega)]) i3.2⟩
  refine B_copy_47_110_59 (RF_of i4.1) ?_
  have r5 : RNG (cpyL h4 66 0 117 0 10 ++ h4) := RNG_cpk (n := 10) (fun f j hj hf => by
    have q := rB_66 i4.1 (i := 0 + (j : Int)) (by omega)
    exact wS_117 hf (by omega) (by omega)) i4.1 10 (Nat.le_refl _)
  have n5 : ∀ b j, rd (cpyL h4 66 0 117 0 10 ++ h4) b j = if b = 117 ∧ 0 ≤ j ∧ j < 10 then rd h4 66 j else rd h4 b j := fun b j => rd_cp0 10
  generalize cpyL h4 66 0 117 0 10 ++ h4 = h5 at *
  have i5 : INV h5 := ⟨r5, SP_of (fun b j hb => by rw [n5, if_neg (by unfold sens at hb; omega)]) i4.2⟩
  refine B_copy_62_110_59 (RF_of i5.1) ?_
  have w5 : rd h5 110 4 = rd h 59 4 := by
    rw [n5, if_neg (by omega), n4, if_neg (by omega), w3, f2 59 4 (by omega) (by omega) (by omega), f1 59 4 (by omega) (by omega) (by omega)]
  refine k h5 i5 (fun a i hn => ?_) w5
  rw [n5, if_neg (by omega), n4, if_neg (by omega), n3 a i (by omega), f2 a i (by omega) (by omega) (by omega), f1 a i (by omega) (by omega) (by omega)]
theorem D_copyW_118_59 (he : 2 ≤ e) (hI : INV h) (k : ∀ g, INV g → (∀ a i, ¬ (118 ≤ a ∧ a ≤ 125 ∧ 0 ≤ i ∧ i ≤ 23) → rd g a i = rd h a i) → rd g 118 4 = rd h 59 4 → Q none g) : Rn xs xl e mm_Memory_copy 0 [some (.inr (.inr 118)), some (.inr (.inr 59))] [] h Q := by
  refine B_copy_0_118_59 (RF_of hI.1) ⟨1, by omega, K_copy_118 (Nat.le_refl 1) hI (fun h1 i1 f1 => B_copy_11_118_59 (RF_of i1.1) ⟨0, by omega, D_copyDay_118_59 i1 (fun h2 i2 f2 => B_copy_16_118_59 (RF_of i2.1) ?_)⟩)⟩
  have l4 := rG_59_4 i2.1
  have l7 := rG_59_7 i2.1
  have i3 := wG_118_7 (wG_118_4 i2 (v := rd h2 59 4) (by omega) (by omega)) (v := rd h2 59 7) (by omega) (by omega)
  have n3 : ∀ b j, ¬ (b = 118 ∧ 0 ≤ j ∧ j ≤ 23) → rd (wr (wr h2 118 4 (rd h2 59 4)) 118 7 (rd h2 59 7)) b j = rd h2 b j := fun b j hn => by rw [rd_wr, if_neg (by omega), rd_wr, if_neg (by omega)]
  have w3 : rd (wr (wr h2 118 4 (rd h2 59 4)) 118 7 (rd h2 59 7)) 118 4 = rd h2 59 4 := (rdw_nei (by decide)).trans rdw_eq
  generalize wr (wr h2 118 4 (rd h2 59 4)) 118 7 (rd h2 59 7) = h3 at *
  have r4 : RNG (cpyL h3 65 0 124 0 10 ++ h3) := RNG_cpk (n := 10) (fun f j hj hf => by
    have q := rB_65 i3.1 (i := 0 + (j : Int)) (by omega)
    exact wS_124 hf (by omega) (by omega)) i3.1 10 (Nat.le_refl _)
  have n4 : ∀ b j, rd (cpyL h3 65 0 124 0 10 ++ h3) b j = if b = 124 ∧ 0 ≤ j ∧ j < 10 then rd h3 65 j else rd h3 b j := fun b j => rd_cp0 10
  generalize cpyL h3 65 0 124 0 10 ++ h3 = h4 at *
  have i4 : INV h4 := ⟨r4, SP_of (fun b j hb => by rw [n4, if_neg (by unfold sens at hb; omega)]) i3.2⟩
  refine B_copy_47_118_59 (RF_of i4.1) ?_
  have r5 : RNG (cpyL h4 66 0 125 0 10 ++ h4) := RNG_cpk (n := 10) (fun f j hj hf => by
    have q := rB_66 i4.1 (i := 0 + (j : Int)) (by omega)
    exact wS_125 hf (by omega) (by omega)) i4.1 10 (Nat.le_refl _)
  have n5 : ∀ b j, rd (cpyL h4 66 0 125 0 10 ++ h4) b j = if b = 125 ∧ 0 ≤ j ∧ j < 10 then rd h4 66 j else rd h4 b j := fun b j => rd_cp0 10
  generalize cpyL h4 66 0 125 0 10 ++ h4 = h5 at *
  have i5 : INV h5 := ⟨r5, SP_of (fun b j hb => by rw [n5, if_neg (by unfold sens at hb; omega)]) i4.2⟩
  refine B_copy_62_118_59 (RF_of i5.1) ?_
  have w5 : rd h5 118 4 = rd h 59 4 := by
    rw [n5, if_neg (by omega), n4, if_neg (by omega), w3, f2 59 4 (by omega) (by omega) (by omega), f1 59 4 (by omega) (by omega) (by omega)]
  refine k h5 i5 (fun a i hn => ?_) w5
  rw [n5, if_neg (by omega), n4, if_neg (by omega), n3 a i (by omega), f2 a i (by omega) (by omega) (by omega), f1 a i (by omega) (by omega) (by omega)]
theorem D_copyW_126_59 (he : 2 ≤ e) (hI : INV h) (k : ∀ g, INV g → (∀ a i, ¬ (126 ≤ a ∧ a ≤ 133 ∧ 0 ≤ i ∧ i ≤ 23) → rd g a i = rd h a i) → rd g 126 4 = rd h 59 4 → Q none g) : Rn xs xl e mm_Memory_copy 0 [some (.inr (.inr 126)), some (.inr (.inr 59))] [] h Q := by
  refine B_copy_0_126_59 (RF_of hI.1) ⟨1, by omega, K_copy_126 (Nat.le_refl 1) hI (fun h1 i1 f1 => B_copy_11_126_59 (RF_of i1.1) ⟨0, by omega, D_copyDay_126_59 i1 (fun h2 i2 f2 => B_copy_16_126_59 (RF_of i2.1) ?_)⟩)⟩
  have l4 := rG_59_4 i2.1
  have l7 := rG_59_7 i2.1
  have i3 := wG_126_7 (wG_126_4 i2 (v := rd h2 59 4) (by omega) (by omega)) (v := rd h2 59 7) (by omega) (by omega)
  have n3 : ∀ b j, ¬ (b = 126 ∧ 0 ≤ j ∧ j ≤ 23) → rd (wr (wr h2 126 4 (rd h2 59 4)) 126 7 (rd h2 59 7)) b j = rd h2 b j := fun b j hn => by rw [rd_wr, if_neg (by omega), rd_wr, if_neg (by omega)]
  have w3 : rd (wr (wr h2 126 4 (rd h2 59 4)) 126 7 (rd h2 59 7)) 126 4 = rd h2 59 4 := (rdw_nei (by decide)).trans rdw_eq
  generalize wr (wr h2 126 4 (rd h2 59 4)) 126 7 (rd h2 59 7) = h3 at *
  have r4 : RNG (cpyL h3 65 0 132 0 10 ++ h3) := RNG_cpk (n := 10) (fun f j hj hf => by
    have q := rB_65 i3.1 (i := 0 + (j : Int)) (by omega)
    exact wS_132 hf (by omega) (by omega)) i3.1 10 (Nat.le_refl _)
  have n4 : ∀ b j, rd (cpyL h3 65 0 132 0 10 ++ h3) b j = if b = 132 ∧ 0 ≤ j ∧ j < 10 then rd h3 65 j else rd h3 b j := fun b j => rd_cp0 10
  generalize cpyL h3 65 0 132 0 10 ++ h3 = h4 at *
  have i4 : INV h4 := ⟨r4, SP_of (fun b j hb => by rw [n4, if_neg (by unfold sens at hb; omega)]) i3.2⟩
  refine B_copy_47_126_59 (RF_of i4.1) ?_
  have r5 : RNG (cpyL h4 66 0 133 0 10 ++ h4) := RNG_cpk (n := 10) (fun f j hj hf => by
    have q := rB_66 i4.1 (i := 0 + (j : Int)) (by omega)
    exact wS_133 hf (by omega) (by omega)) i4.1 10 (Nat.le_refl _)
  have n5 : ∀ b j, rd (cpyL h4 66 0 133 0 10 ++ h4) b j = if b = 133 ∧ 0 ≤ j ∧ j < 10 then rd h4 66 j else rd h4 b j := fun b j => rd_cp0 10
  generalize cpyL h4 66 0 133 0 10 ++ h4 = h5 at *
  have i5 : INV h5 := ⟨r5, SP_of (fun b j hb => by rw [n5, if_neg (by unfold sens at hb; omega)]) i4.2⟩
  refine B_copy_62_126_59 (RF_of i5.1) ?_
  have w5 : rd h5 126 4 = rd h 59 4 := by
    rw [n5, if_neg (by omega), n4, if_neg (by omega), w3, f2 59 4 (by omega) (by omega) (by omega), f1 59 4 (by omega) (by omega) (by omega)]
  refine k h5 i5 (fun a i hn => ?_) w5
  rw [n5, if_neg (by omega), n4, if_neg (by omega), n3 a i (by omega), f2 a i (by omega) (by omega) (by omega), f1 a i (by omega) (by omega) (by omega)]
theorem D_copyW_59_102 (he : 2 ≤ e) (hI : INV h) (k : ∀ g, INV g → (∀ a i, ¬ (59 ≤ a ∧ a ≤ 66 ∧ 0 ≤ i ∧ i ≤ 23) → rd g a i = rd h a i) → rd g 59 4 = rd h 102 4 → Q none g) : Rn xs xl e mm_Memory_copy 0 [some (.inr (.inr 59)), some (.inr (.inr 102))] [] h Q := by
  refine B_copy_0_59_102 (RF_of hI.1) ⟨1, by omega, K_copyB_102 (Nat.le_refl 1) hI (fun h1 i1 f1 => B_copy_11_59_102 (RF_of i1.1) ⟨0, by omega, D_copyDay_59_102 i1 (fun h2 i2 f2 => B_copy_16_59_102 (RF_of i2.1) ?_)⟩)⟩
  have l4 := rG_102_4 i2.1
  have l7 := rG_102_7 i2.1
  have i3 := wG_59_7 (wG_59_4 i2 (v := rd h2 102 4) (by omega) (by omega)) (v := rd h2 102 7) (by omega) (by omega)
  have n3 : ∀ b j, ¬ (b = 59 ∧ 0 ≤ j ∧ j ≤ 23) → rd (wr (wr h2 59 4 (rd h2 102 4)) 59 7 (rd h2 102 7)) b j = rd h2 b j := fun b j hn => by rw [rd_wr, if_neg (by omega), rd_wr, if_neg (by omega)]
  have w3 : rd (wr (wr h2 59 4 (rd h2 102 4)) 59 7 (rd h2 102 7)) 59 4 = rd h2 102 4 := (rdw_nei (by decide)).trans rdw_eq
  generalize wr (wr h2 59 4 (rd h2 102 4)) 59 7 (rd h2 102 7) = h3 at *
  have r4 : RNG (cpyL h3 108 0 65 0 10 ++ h3) := RNG_cpk (n := 10) (fun f j hj hf => by
    have q := rB_108 i3.1 (i := 0 + (j : Int)) (by omega)
    exact wS_65 hf (by omega) (by omega)) i3.1 10 (Nat.le_refl _)
  have n4 : ∀ b j, rd (cpyL h3 108 0 65 0 10 ++ h3) b j = if b = 65 ∧ 0 ≤ j ∧ j < 10 then rd h3 108 j else rd h3 b j := fun b j => rd_cp0 10
  generalize cpyL h3 108 0 65 0 10 ++ h3 = h4 at *
  have i4 : INV h4 := ⟨r4, SP_of (fun b j hb => by rw [n4, if_neg (by unfold sens at hb; omega)]) i3.2⟩
  refine B_copy_47_59_102 (RF_of i4.1) ?_
  have r5 : RNG (cpyL h4 109 0 66 0 10 ++ h4) := RNG_cpk (n := 10) (fun f j hj hf => by
    have q := rB_109 i4.1 (i := 0 + (j : Int)) (by omega)
    exact wS_66 hf (by omega) (by omega)) i4.1 10 (Nat.le_refl _)
  have n5 : ∀ b j, rd (cpyL h4 109 0 66 0 10 ++ h4) b j = if b = 66 ∧ 0 ≤ j ∧ j < 10 then rd h4 109 j else rd h4 b j := fun b j => rd_cp0 10
  generalize cpyL h4 109 0 66 0 10 ++ h4 = h5 at *
  have i5 : INV h5 := ⟨r5, SP_of (fun b j hb => by rw [n5, if_neg (by unfold sens at hb; omega)]) i4.2⟩
  refine B_copy_62_59_102 (RF_of i5.1) ?_
  have w5 : rd h5 59 4 = rd h 102 4 := by
    rw [n5, if_neg (by omega), n4, if_neg (by omega), w3, f2 102 4 (by omega) (by omega) (by omega), f1 102 4 (by omega) (by omega) (by omega)]
  refine k h5 i5 (fun a i hn => ?_) w5
  rw [n5, if_neg (by omega), n4, if_neg (by omega), n3 a i (by omega), f2 a i (by omega) (by omega) (by omega), f1 a i (by omega) (by omega) (by omega)]
theorem D_copyW_59_110 (he : 2 ≤ e) (hI : INV h) (k : ∀ g, INV g → (∀ a i, ¬ (59 ≤ a ∧ a ≤ 66 ∧ 0 ≤ i ∧ i ≤ 23) → rd g a i = rd h a i) → rd g 59 4 = rd h 110 4 → Q none g) : Rn xs xl e mm_Memory_copy 0 [some (.inr (.inr 59)), some (.inr (.inr 110))] [] h Q := by
  refine B_copy_0_59_110 (RF_of hI.1) ⟨1, by omega, K_copyB_110 (Nat.le_refl 1) hI (fun h1 i1 f1 => B_copy_11_59_110 (RF_of i1.1) ⟨0, by omega, D_copyDay_59_110 i1 (fun h2 i2 f2 => B_copy_16_59_110 (RF_of i2.1) ?_)⟩)⟩
  have l4 := rG_110_4 i2.1
  have l7 := rG_110_7 i2.1
  have i3 := wG_59_7 (wG_59_4 i2 (v := rd h2 110 4) (by omega) (by omega)) (v := rd h2 110 7) (by omega) (by omega)
  have n3 : ∀ b j, ¬ (b = 59 ∧ 0 ≤ j ∧ j ≤ 23) → rd (wr (wr h2 59 4 (rd h2 110 4)) 59 7 (rd h2 110 7)) b j = rd h2 b j := fun b j hn => by rw [rd_wr, if_neg (by omega), rd_wr, if_neg (by omega)]
  have w3 : rd (wr (wr h2 59 4 (rd h2 110 4)) 59 7 (rd h2 110 7)) 59 4 = rd h2 110 4 := (rdw_nei (by decide)).trans rdw_eq
  generalize wr (wr h2 59 4 (rd h2 110 4)) 59 7 (rd h2 110 7) = h3 at *
  have r4 : RNG (cpyL h3 116 0 65 0 10 ++ h3) := RNG_cpk (n := 10) (fun f j hj hf => by
    have q := rB_116 i3.1 (i := 0 + (j : Int)) (by omega)
    exact wS_65 hf (by omega) (by omega)) i3.1 10 (Nat.le_refl _)
  have n4 : ∀ b j, rd (cpyL h3 116 0 65 0 10 ++ h3) b j = if b = 65 ∧ 0 ≤ j ∧ j < 10 then rd h3 116 j else rd h3 b j := fun b j => rd_cp0 10
  generalize cpyL h3 116 0 65 0 10 ++ h3 = h4 at *
  have i4 : INV h4 := ⟨r4, SP_of (fun b j hb => by rw [n4, if_neg (by unfold sens at hb; omega)]) i3.2⟩
  refine B_copy_47_59_110 (RF_of i4.1) ?_
  have r5 : RNG (cpyL h4 117 0 66 0 10 ++ h4) := RNG_cpk (n := 10) (fun f j hj hf => by
    have q := rB_117 i4.1 (i := 0 + (j : Int)) (by omega)
    exact wS_66 hf (by omega) (by omega)) i4.1 10 (Nat.le_refl _)
  have n5 : ∀ b j, rd (cpyL h4 117 0 66 0 10 ++ h4) b j = if b = 66 ∧ 0 ≤ j ∧ j < 10 then rd h4 117 j else rd h4 b j := fun b j => rd_cp0 10
  generalize cpyL h4 117 0 66 0 10 ++ h4 = h5 at *
  have i5 : INV h5 := ⟨r5, SP_of (fun b j hb => by rw [n5, if_neg (by unfold sens at hb; omega)]) i4.2⟩
  refine B_copy_62_59_110 (RF_of i5.1) ?_
  have w5 : rd h5 59 4 = rd h 110 4 := by
    rw [n5, if_neg (by omega), n4, if_neg (by omega), w3, f2 110 4 (by omega) (by omega) (by omega), f1 110 4 (by omega) (by omega) (by omega)]
  refine k h5 i5 (fun a i hn => ?_) w5
  rw [n5, if_neg (by omega), n4, if_neg (by omega), n3 a i (by omega), f2 a i (by omega) (by omega) (by omega), f1 a i (by omega) (by omega) (by omega)]
theorem D_copyW_59_118 (he : 2 ≤ e) (hI : INV h) (k : ∀ g, INV g → (∀ a i, ¬ (59 ≤ a ∧ a ≤ 66 ∧ 0 ≤ i ∧ i ≤ 23) → rd g a i = rd h a i) → rd g 59 4 = rd h 118 4 → Q none g) : Rn xs xl e mm_Memory_copy 0 [some (.inr (.inr 59)), some (.inr (.inr 118))] [] h Q := by
  refine B_copy_0_59_118 (RF_of hI.1) ⟨1, by omega, K_copyB_118 (Nat.le_refl 1) hI (fun h1 i1 f1 => B_copy_11_59_118 (RF_of i1.1) ⟨0, by omega, D_copyDay_59_118 i1 (fun h2 i2 f2 => B_copy_16_59_118 (RF_of i2.1) ?_)⟩)⟩
  have l4 := rG_118_4 i2.1
  have l7 := rG_118_7 i2.1
  have i3 := wG_59_7 (wG_59_4 i2 (v := rd h2 118 4) (by omega) (by omega)) (v := rd h2 118 7) (by omega) (by omega)
  have n3 : ∀ b j, ¬ (b = 59 ∧ 0 ≤ j ∧ j ≤ 23) → rd (wr (wr h2 59 4 (rd h2 118 4)) 59 7 (rd h2 118 7)) b j = rd h2 b j := fun b j hn => by rw [rd_wr, if_neg (by omega), rd_wr, if_neg (by omega)]
  have w3 : rd (wr (wr h2 59 4 (rd h2 118 4)) 59 7 (rd h2 118 7)) 59 4 = rd h2 118 4 := (rdw_nei (by decide)).trans rdw_eq
  generalize wr (wr h2 59 4 (rd h2 118 4)) 59 7 (rd h2 118 7) = h3 at *
  have r4 : RNG (cpyL h3 124 0 65 0 10 ++ h3) := RNG_cpk (n := 10) (fun f j hj hf => by
    have q := rB_124 i3.1 (i := 0 + (j : Int)) (by omega)
    exact wS_65 hf (by omega) (by omega)) i3.1 10 (Nat.le_refl _)
  have n4 : ∀ b j, rd (cpyL h3 124 0 65 0 10 ++ h3) b j = if b = 65 ∧ 0 ≤ j ∧ j < 10 then rd h3 124 j else rd h3 b j := fun b j => rd_cp0 10
  generalize cpyL h3 124 0 65 0 10 ++ h3 = h4 at *
  have i4 : INV h4 := ⟨r4, SP_of (fun b j hb => by rw [n4, if_neg (by unfold sens at hb; omega)]) i3.2⟩
  refine B_copy_47_59_118 (RF_of i4.1) ?_
  have r5 : RNG (cpyL h4 125 0 66 0 10 ++ h4) := RNG_cpk (n := 10) (fun f j hj hf => by
    have q := rB_125 i4.1 (i := 0 + (j : Int)) (by omega)
    exact wS_66 hf (by omega) (by omega)) i4.1 10 (Nat.le_refl _)
  have n5 : ∀ b j, rd (cpyL h4 125 0 66 0 10 ++ h4) b j = if b = 66 ∧ 0 ≤ j ∧ j < 10 then rd h4 125 j else rd h4 b j := fun b j => rd_cp0 10
  generalize cpyL h4 125 0 66 0 10 ++ h4 = h5 at *
  have i5 : INV h5 := ⟨r5, SP_of (fun b j hb => by rw [n5, if_neg (by unfold sens at hb; omega)]) i4.2⟩
  refine B_copy_62_59_118 (RF_of i5.1) ?_
  have w5 : rd h5 59 4 = rd h 118 4 := by
    rw [n5, if_neg (by omega), n4, if_neg (by omega), w3, f2 118 4 (by omega) (by omega) (by omega), f1 118 4 (by omega) (by omega) (by omega)]
  refine k h5 i5 (fun a i hn => ?_) w5
  rw [n5, if_neg (by omega), n4, if_neg (by omega), n3 a i (by omega), f2 a i (by omega) (by omega) (by omega), f1 a i (by omega) (by omega) (by omega)]
theorem D_copyW_59_126 (he : 2 ≤ e) (hI : INV h) (k : ∀ g, INV g → (∀ a i, ¬ (59 ≤ a ∧ a ≤ 66 ∧ 0 ≤ i ∧ i ≤ 23) → rd g a i = rd h a i) → rd g 59 4 = rd h 126 4 → Q none g) : Rn xs xl e mm_Memory_copy 0 [some (.inr (.inr 59)), some (.inr (.inr 126))] [] h Q := by
  refine B_copy_0_59_126 (RF_of hI.1) ⟨1, by omega, K_copyB_126 (Nat.le_refl 1) hI (fun h1 i1 f1 => B_copy_11_59_126 (RF_of i1.1) ⟨0, by omega, D_copyDay_59_126 i1 (fun h2 i2 f2 => B_copy_16_59_126 (RF_of i2.1) ?_)⟩)⟩
  have l4 := rG_126_4 i2.1
  have l7 := rG_126_7 i2.1
  have i3 := wG_59_7 (wG_59_4 i2 (v := rd h2 126 4) (by omega) (by omega)) (v := rd h2 126 7) (by omega) (by omega)
  have n3 : ∀ b j, ¬ (b = 59 ∧ 0 ≤ j ∧ j ≤ 23) → rd (wr (wr h2 59 4 (rd h2 126 4)) 59 7 (rd h2 126 7)) b j = rd h2 b j := fun b j hn => by rw [rd_wr, if_neg (by omega), rd_wr, if_neg (by omega)]
  have w3 : rd (wr (wr h2 59 4 (rd h2 126 4)) 59 7 (rd h2 126 7)) 59 4 = rd h2 126 4 := (rdw_nei (by decide)).trans rdw_eq
  generalize wr (wr h2 59 4 (rd h2 126 4)) 59 7 (rd h2 126 7) = h3 at *
  have r4 : RNG (cpyL h3 132 0 65 0 10 ++ h3) := RNG_cpk (n := 10) (fun f j hj hf => by
    have q := rB_132 i3.1 (i := 0 + (j : Int)) (by omega)
    exact wS_65 hf (by omega) (by omega)) i3.1 10 (Nat.le_refl _)
  have n4 : ∀ b j, rd (cpyL h3 132 0 65 0 10 ++ h3) b j = if b = 65 ∧ 0 ≤ j ∧ j < 10 then rd h3 132 j else rd h3 b j := fun b j => rd_cp0 10
  generalize cpyL h3 132 0 65 0 10 ++ h3 = h4 at *
  have i4 : INV h4 := ⟨r4, SP_of (fun b j hb => by rw [n4, if_neg (by unfold sens at hb; omega)]) i3.2⟩
  refine B_copy_47_59_126 (RF_of i4.1) ?_
  have r5 : RNG (cpyL h4 133 0 66 0 10 ++ h4) := RNG_cpk (n := 10) (fun f j hj hf => by
    have q := rB_133 i4.1 (i := 0 + (j : Int)) (by omega)
    exact wS_66 hf (by omega) (by omega)) i4.1 10 (Nat.le_refl _)
  have n5 : ∀ b j, rd (cpyL h4 133 0 66 0 10 ++ h4) b j = if b = 66 ∧ 0 ≤ j ∧ j < 10 then rd h4 133 j else rd h4 b j := fun b j => rd_cp0 10
  generalize cpyL h4 133 0 66 0 10 ++ h4 = h5 at *
  have i5 : INV h5 := ⟨r5, SP_of (fun b j hb => by rw [n5, if_neg (by unfold sens at hb; omega)]) i4.2⟩
  refine B_copy_62_59_126 (RF_of i5.1) ?_
  have w5 : rd h5 59 4 = rd h 126 4 := by
    rw [n5, if_neg (by omega), n4, if_neg (by omega), w3, f2 126 4 (by omega) (by omega) (by omega), f1 126 4 (by omega) (by omega) (by omega)]
  refine k h5 i5 (fun a i hn => ?_) w5
  rw [n5, if_neg (by omega), n4, if_neg (by omega), n3 a i (by omega), f2 a i (by omega) (by omega) (by omega), f1 a i (by omega) (by omega) (by omega)]
end WB
