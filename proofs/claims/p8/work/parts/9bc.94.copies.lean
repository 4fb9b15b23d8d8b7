/-! LM, part 94, by program (wip/p2/gen93.py): copies of a day, of a memory -/
section CZ
variable {xs : Nat → Int} {xl e : Nat} {h : LH} {Q : Option LV → LH → Prop}
theorem ex24 {h h0 : LH} {A B sA sB : Int} (e1 : ∀ i, rd h0 A i = if 0 ≤ i ∧ i < 24 then rd h sA i else rd h A i) (e2 : ∀ i, rd h0 B i = if 0 ≤ i ∧ i < 24 then rd h sB i else rd h B i) (l1 : linesOk h sA sB) (l2 : linesOk h A B) : linesOk h0 A B := by
  intro i hi
  rw [e1] at hi
  rw [e2]
  by_cases c : 0 ≤ i ∧ i < 24
  · rw [if_pos c] at hi ⊢
    exact l1 i hi
  · rw [if_neg c] at hi ⊢
    exact l2 i hi
theorem D_copyDay_59_67 (hI : INV h) (k : ∀ g, INV g → (∀ a i, ¬ (a = 59 ∧ i = 1) → ¬ (a = 63 ∧ 0 ≤ i ∧ i < 24) → ¬ (a = 64 ∧ 0 ≤ i ∧ i < 24) → rd g a i = rd h a i) → Q none g) : Rn xs xl e mm_Memory_copyDay 0 [some (.inr (.inr 59)), some (.inr (.inr 67))] [] h Q := by
  have l := rG_67_1 hI.1
  have i0 := wG_59_1 hI (v := rd h 67 1) (by omega) (by omega)
  refine B_copyDay_0_59_67 (RF_of hI.1) ?_
  have n0 : ∀ b j, ¬ (b = 59 ∧ j = 1) → rd (wr h 59 1 (rd h 67 1)) b j = rd h b j := fun b j hn => by rw [rd_wr, if_neg (fun q => hn ⟨q.1.symm, q.2.symm⟩)]
  generalize wr h 59 1 (rd h 67 1) = h0 at *
  have r1 : RNG (cpyL h0 71 0 63 0 24 ++ h0) := RNG_cpk (n := 24) (fun f j hj hf => by
    have q := rB_71 i0.1 (i := 0 + (j : Int)) (by omega)
    exact wS_63 hf (by omega) (by omega)) i0.1 24 (Nat.le_refl _)
  have n1 : ∀ b j, rd (cpyL h0 71 0 63 0 24 ++ h0) b j = if b = 63 ∧ 0 ≤ j ∧ j < 24 then rd h0 71 j else rd h0 b j := fun b j => rd_cp0 24
  generalize cpyL h0 71 0 63 0 24 ++ h0 = h1 at *
  refine B_copyDay_23_59_67 (RF_of r1) ?_
  have r2 : RNG (cpyL h1 72 0 64 0 24 ++ h1) := RNG_cpk (n := 24) (fun f j hj hf => by
    have q := rB_72 r1 (i := 0 + (j : Int)) (by omega)
    exact wS_64 hf (by omega) (by omega)) r1 24 (Nat.le_refl _)
  have n2 : ∀ b j, rd (cpyL h1 72 0 64 0 24 ++ h1) b j = if b = 64 ∧ 0 ≤ j ∧ j < 24 then rd h1 72 j else rd h1 b j := fun b j => rd_cp0 24
  generalize cpyL h1 72 0 64 0 24 ++ h1 = h2 at *
  have fr : ∀ a i, ¬ (a = 59 ∧ i = 1) → ¬ (a = 63 ∧ 0 ≤ i ∧ i < 24) → ¬ (a = 64 ∧ 0 ≤ i ∧ i < 24) → rd h2 a i = rd h a i := fun a i m1 m2 m3 => by rw [n2, if_neg m3, n1, if_neg m2, n0 a i m1]
  refine B_copyDay_38_59_67 (RF_of r2) (k h2 ⟨r2, SP_mem (fun b j hb hb2 => fr b j (by omega) (by omega) (by omega)) ⟨ex24 (sA := 71) (sB := 72) (fun i => ?_) (fun i => ?_) hI.2.1.2.1 hI.2.1.1, lines_same (fun j => fr 71 j (by omega) (by omega) (by omega)) (fun j => fr 72 j (by omega) (by omega) (by omega)) hI.2.1.2.1, lines_same (fun j => fr 106 j (by omega) (by omega) (by omega)) (fun j => fr 107 j (by omega) (by omega) (by omega)) hI.2.1.2.2.1, lines_same (fun j => fr 114 j (by omega) (by omega) (by omega)) (fun j => fr 115 j (by omega) (by omega) (by omega)) hI.2.1.2.2.2.1, lines_same (fun j => fr 122 j (by omega) (by omega) (by omega)) (fun j => fr 123 j (by omega) (by omega) (by omega)) hI.2.1.2.2.2.2.1, lines_same (fun j => fr 130 j (by omega) (by omega) (by omega)) (fun j => fr 131 j (by omega) (by omega) (by omega)) hI.2.1.2.2.2.2.2.1⟩ hI.2⟩ fr)
  · rw [n2, if_neg (by omega), n1]
    by_cases c : 0 ≤ i ∧ i < 24
    · rw [if_pos ⟨rfl, c⟩, if_pos c, n0 _ _ (by omega)]
    · rw [if_neg (fun q => c q.2), if_neg c, n0 _ _ (by omega)]
  · rw [n2]
    by_cases c : 0 ≤ i ∧ i < 24
    · rw [if_pos ⟨rfl, c⟩, if_pos c, n1, if_neg (by omega), n0 _ _ (by omega)]
    · rw [if_neg (fun q => c q.2), if_neg c, n1, if_neg (by omega), n0 _ _ (by omega)]
theorem D_copyDay_102_59 (hI : INV h) (k : ∀ g, INV g → (∀ a i, ¬ (a = 102 ∧ i = 1) → ¬ (a = 106 ∧ 0 ≤ i ∧ i < 24) → ¬ (a = 107 ∧ 0 ≤ i ∧ i < 24) → rd g a i = rd h a i) → Q none g) : Rn xs xl e mm_Memory_copyDay 0 [some (.inr (.inr 102)), some (.inr (.inr 59))] [] h Q := by
  have l := rG_59_1 hI.1
  have i0 := wG_102_1 hI (v := rd h 59 1) (by omega) (by omega)
  refine B_copyDay_0_102_59 (RF_of hI.1) ?_
  have n0 : ∀ b j, ¬ (b = 102 ∧ j = 1) → rd (wr h 102 1 (rd h 59 1)) b j = rd h b j := fun b j hn => by rw [rd_wr, if_neg (fun q => hn ⟨q.1.symm, q.2.symm⟩)]
  generalize wr h 102 1 (rd h 59 1) = h0 at *
  have r1 : RNG (cpyL h0 63 0 106 0 24 ++ h0) := RNG_cpk (n := 24) (fun f j hj hf => by
    have q := rB_63 i0.1 (i := 0 + (j : Int)) (by omega)
    exact wS_106 hf (by omega) (by omega)) i0.1 24 (Nat.le_refl _)
  have n1 : ∀ b j, rd (cpyL h0 63 0 106 0 24 ++ h0) b j = if b = 106 ∧ 0 ≤ j ∧ j < 24 then rd h0 63 j else rd h0 b j := fun b j => rd_cp0 24
  generalize cpyL h0 63 0 106 0 24 ++ h0 = h1 at *
  refine B_copyDay_23_102_59 (RF_of r1) ?_
  have r2 : RNG (cpyL h1 64 0 107 0 24 ++ h1) := RNG_cpk (n := 24) (fun f j hj hf => by
    have q := rB_64 r1 (i := 0 + (j : Int)) (by omega)
    exact wS_107 hf (by omega) (by omega)) r1 24 (Nat.le_refl _)
  have n2 : ∀ b j, rd (cpyL h1 64 0 107 0 24 ++ h1) b j = if b = 107 ∧ 0 ≤ j ∧ j < 24 then rd h1 64 j else rd h1 b j := fun b j => rd_cp0 24
  generalize cpyL h1 64 0 107 0 24 ++ h1 = h2 at *
  have fr : ∀ a i, ¬ (a = 102 ∧ i = 1) → ¬ (a = 106 ∧ 0 ≤ i ∧ i < 24) → ¬ (a = 107 ∧ 0 ≤ i ∧ i < 24) → rd h2 a i = rd h a i := fun a i m1 m2 m3 => by rw [n2, if_neg m3, n1, if_neg m2, n0 a i m1]
  refine B_copyDay_38_102_59 (RF_of r2) (k h2 ⟨r2, SP_mem (fun b j hb hb2 => fr b j (by omega) (by omega) (by omega)) ⟨lines_same (fun j => fr 63 j (by omega) (by omega) (by omega)) (fun j => fr 64 j (by omega) (by omega) (by omega)) hI.2.1.1, lines_same (fun j => fr 71 j (by omega) (by omega) (by omega)) (fun j => fr 72 j (by omega) (by omega) (by omega)) hI.2.1.2.1, ex24 (sA := 63) (sB := 64) (fun i => ?_) (fun i => ?_) hI.2.1.1 hI.2.1.2.2.1, lines_same (fun j => fr 114 j (by omega) (by omega) (by omega)) (fun j => fr 115 j (by omega) (by omega) (by omega)) hI.2.1.2.2.2.1, lines_same (fun j => fr 122 j (by omega) (by omega) (by omega)) (fun j => fr 123 j (by omega) (by omega) (by omega)) hI.2.1.2.2.2.2.1, lines_same (fun j => fr 130 j (by omega) (by omega) (by omega)) (fun j => fr 131 j (by omega) (by omega) (by omega)) hI.2.1.2.2.2.2.2.1⟩ hI.2⟩ fr)
  · rw [n2, if_neg (by omega), n1]
    by_cases c : 0 ≤ i ∧ i < 24
    · rw [if_pos ⟨rfl, c⟩, if_pos c, n0 _ _ (by omega)]
    · rw [if_neg (fun q => c q.2), if_neg c, n0 _ _ (by omega)]
  · rw [n2]
    by_cases c : 0 ≤ i ∧ i < 24
    · rw [if_pos ⟨rfl, c⟩, if_pos c, n1, if_neg (by omega), n0 _ _ (by omega)]
    · rw [if_neg (fun q => c q.2), if_neg c, n1, if_neg (by omega), n0 _ _ (by omega)]
theorem D_copyDay_110_59 (hI : INV h) (k : ∀ g, INV g → (∀ a i, ¬ (a = 110 ∧ i = 1) → ¬ (a = 114 ∧ 0 ≤ i ∧ i < 24) → ¬ (a = 115 ∧ 0 ≤ i ∧ i < 24) → rd g a i = rd h a i) → Q none g) : Rn xs xl e mm_Memory_copyDay 0 [some (.inr (.inr 110)), some (.inr (.inr 59))] [] h Q := by
  have l := rG_59_1 hI.1
  have i0 := wG_110_1 hI (v := rd h 59 1) (by omega) (by omega)
  refine B_copyDay_0_110_59 (RF_of hI.1) ?_
  have n0 : ∀ b j, ¬ (b = 110 ∧ j = 1) → rd (wr h 110 1 (rd h 59 1)) b j = rd h b j := fun b j hn => by rw [rd_wr, if_neg (fun q => hn ⟨q.1.symm, q.2.symm⟩)]
  generalize wr h 110 1 (rd h 59 1) = h0 at *
  have r1 : RNG (cpyL h0 63 0 114 0 24 ++ h0) := RNG_cpk (n := 24) (fun f j hj hf => by
    have q := rB_63 i0.1 (i := 0 + (j : Int)) (by omega)
    exact wS_114 hf (by omega) (by omega)) i0.1 24 (Nat.le_refl _)
  have n1 : ∀ b j, rd (cpyL h0 63 0 114 0 24 ++ h0) b j = if b = 114 ∧ 0 ≤ j ∧ j < 24 then rd h0 63 j else rd h0 b j := fun b j => rd_cp0 24
  generalize cpyL h0 63 0 114 0 24 ++ h0 = h1 at *
  refine B_copyDay_23_110_59 (RF_of r1) ?_
  have r2 : RNG (cpyL h1 64 0 115 0 24 ++ h1) := RNG_cpk (n := 24) (fun f j hj hf => by
    have q := rB_64 r1 (i := 0 + (j : Int)) (by omega)
    exact wS_115 hf (by omega) (by omega)) r1 24 (Nat.le_refl _)
  have n2 : ∀ b j, rd (cpyL h1 64 0 115 0 24 ++ h1) b j = if b = 115 ∧ 0 ≤ j ∧ j < 24 then rd h1 64 j else rd h1 b j := fun b j => rd_cp0 24
  generalize cpyL h1 64 0 115 0 24 ++ h1 = h2 at *
  have fr : ∀ a i, ¬ (a = 110 ∧ i = 1) → ¬ (a = 114 ∧ 0 ≤ i ∧ i < 24) → ¬ (a = 115 ∧ 0 ≤ i ∧ i < 24) → rd h2 a i = rd h a i := fun a i m1 m2 m3 => by rw [n2, if_neg m3, n1, if_neg m2, n0 a i m1]
  refine B_copyDay_38_110_59 (RF_of r2) (k h2 ⟨r2, SP_mem (fun b j hb hb2 => fr b j (by omega) (by omega) (by omega)) ⟨lines_same (fun j => fr 63 j (by omega) (by omega) (by omega)) (fun j => fr 64 j (by omega) (by omega) (by omega)) hI.2.1.1, lines_same (fun j => fr 71 j (by omega) (by omega) (by omega)) (fun j => fr 72 j (by omega) (by omega) (by omega)) hI.2.1.2.1, lines_same (fun j => fr 106 j (by omega) (by omega) (by omega)) (fun j => fr 107 j (by omega) (by omega) (by omega)) hI.2.1.2.2.1, ex24 (sA := 63) (sB := 64) (fun i => ?_) (fun i => ?_) hI.2.1.1 hI.2.1.2.2.2.1, lines_same (fun j => fr 122 j (by omega) (by omega) (by omega)) (fun j => fr 123 j (by omega) (by omega) (by omega)) hI.2.1.2.2.2.2.1, lines_same (fun j => fr 130 j (by omega) (by omega) (by omega)) (fun j => fr 131 j (by omega) (by omega) (by omega)) hI.2.1.2.2.2.2.2.1⟩ hI.2⟩ fr)
  · rw [n2, if_neg (by omega), n1]
    by_cases c : 0 ≤ i ∧ i < 24
    · rw [if_pos ⟨rfl, c⟩, if_pos c, n0 _ _ (by omega)]
    · rw [if_neg (fun q => c q.2), if_neg c, n0 _ _ (by omega)]
  · rw [n2]
    by_cases c : 0 ≤ i ∧ i < 24
    · rw [if_pos ⟨rfl, c⟩, if_pos c, n1, if_neg (by omega), n0 _ _ (by omega)]
    · rw [if_neg (fun q => c q.2), if_neg c, n1, if_neg (by omega), n0 _ _ (by omega)]
theorem D_copyDay_118_59 (hI : INV h) (k : ∀ g, INV g → (∀ a i, ¬ (a = 118 ∧ i = 1) → ¬ (a = 122 ∧ 0 ≤ i ∧ i < 24) → ¬ (a = 123 ∧ 0 ≤ i ∧ i < 24) → rd g a i = rd h a i) → Q none g) : Rn xs xl e mm_Memory_copyDay 0 [some (.inr (.inr 118)), some (.inr (.inr 59))] [] h Q := by
  have l := rG_59_1 hI.1
  have i0 := wG_118_1 hI (v := rd h 59 1) (by omega) (by omega)
  refine B_copyDay_0_118_59 (RF_of hI.1) ?_
  have n0 : ∀ b j, ¬ (b = 118 ∧ j = 1) → rd (wr h 118 1 (rd h 59 1)) b j = rd h b j := fun b j hn => by rw [rd_wr, if_neg (fun q => hn ⟨q.1.symm, q.2.symm⟩)]
  generalize wr h 118 1 (rd h 59 1) = h0 at *
  have r1 : RNG (cpyL h0 63 0 122 0 24 ++ h0) := RNG_cpk (n := 24) (fun f j hj hf => by
    have q := rB_63 i0.1 (i := 0 + (j : Int)) (by omega)
    exact wS_122 hf (by omega) (by omega)) i0.1 24 (Nat.le_refl _)
  have n1 : ∀ b j, rd (cpyL h0 63 0 122 0 24 ++ h0) b j = if b = 122 ∧ 0 ≤ j ∧ j < 24 then rd h0 63 j else rd h0 b j := fun b j => rd_cp0 24
  generalize cpyL h0 63 0 122 0 24 ++ h0 = h1 at *
  refine B_copyDay_23_118_59 (RF_of r1) ?_
  have r2 : RNG (cpyL h1 64 0 123 0 24 ++ h1) := RNG_cpk (n := 24) (fun f j hj hf => by
    have q := rB_64 r1 (i := 0 + (j : Int)) (by omega)
    exact wS_123 hf (by omega) (by omega)) r1 24 (Nat.le_refl _)
  have n2 : ∀ b j, rd (cpyL h1 64 0 123 0 24 ++ h1) b j = if b = 123 ∧ 0 ≤ j ∧ j < 24 then rd h1 64 j else rd h1 b j := fun b j => rd_cp0 24
  generalize cpyL h1 64 0 123 0 24 ++ h1 = h2 at *
  have fr : ∀ a i, ¬ (a = 118 ∧ i = 1) → ¬ (a = 122 ∧ 0 ≤ i ∧ i < 24) → ¬ (a = 123 ∧ 0 ≤ i ∧ i < 24) → rd h2 a i = rd h a i := fun a i m1 m2 m3 => by rw [n2, if_neg m3, n1, if_neg m2, n0 a i m1]
  refine B_copyDay_38_118_59 (RF_of r2) (k h2 ⟨r2, SP_mem (fun b j hb hb2 => fr b j (by omega) (by omega) (by omega)) ⟨lines_same (fun j => fr 63 j (by omega) (by omega) (by omega)) (fun j => fr 64 j (by omega) (by omega) (by omega)) hI.2.1.1, lines_same (fun j => fr 71 j (by omega) (by omega) (by omega)) (fun j => fr 72 j (by omega) (by omega) (by omega)) hI.2.1.2.1, lines_same (fun j => fr 106 j (by omega) (by omega) (by omega)) (fun j => fr 107 j (by omega) (by omega) (by omega)) hI.2.1.2.2.1, lines_same (fun j => fr 114 j (by omega) (by omega) (by omega)) (fun j => fr 115 j (by omega) (by omega) (by omega)) hI.2.1.2.2.2.1, ex24 (sA := 63) (sB := 64) (fun i => ?_) (fun i => ?_) hI.2.1.1 hI.2.1.2.2.2.2.1, lines_same (fun j => fr 130 j (by omega) (by omega) (by omega)) (fun j => fr 131 j (by omega) (by omega) (by omega)) hI.2.1.2.2.2.2.2.1⟩ hI.2⟩ fr)
  · rw [n2, if_neg (by omega), n1]
    by_cases c : 0 ≤ i ∧ i < 24
    · rw [if_pos ⟨rfl, c⟩, if_pos c, n0 _ _ (by omega)]
    · rw [if_neg (fun q => c q.2), if_neg c, n0 _ _ (by omega)]
  · rw [n2]
    by_cases c : 0 ≤ i ∧ i < 24
    · rw [if_pos ⟨rfl, c⟩, if_pos c, n1, if_neg (by omega), n0 _ _ (by omega)]
    · rw [if_neg (fun q => c q.2), if_neg c, n1, if_neg (by omega), n0 _ _ (by omega)]
theorem D_copyDay_126_59 (hI : INV h) (k : ∀ g, INV g → (∀ a i, ¬ (a = 126 ∧ i = 1) → ¬ (a = 130 ∧ 0 ≤ i ∧ i < 24) → ¬ (a = 131 ∧ 0 ≤ i ∧ i < 24) → rd g a i = rd h a i) → Q none g) : Rn xs xl e mm_Memory_copyDay 0 [some (.inr (.inr 126)), some (.inr (.inr 59))] [] h Q := by
  have l := rG_59_1 hI.1
  have i0 := wG_126_1 hI (v := rd h 59 1) (by omega) (by omega)
  refine B_copyDay_0_126_59 (RF_of hI.1) ?_
  have n0 : ∀ b j, ¬ (b = 126 ∧ j = 1) → rd (wr h 126 1 (rd h 59 1)) b j = rd h b j := fun b j hn => by rw [rd_wr, if_neg (fun q => hn ⟨q.1.symm, q.2.symm⟩)]
  generalize wr h 126 1 (rd h 59 1) = h0 at *
  have r1 : RNG (cpyL h0 63 0 130 0 24 ++ h0) := RNG_cpk (n := 24) (fun f j hj hf => by
    have q := rB_63 i0.1 (i := 0 + (j : Int)) (by omega)
    exact wS_130 hf (by omega) (by omega)) i0.1 24 (Nat.le_refl _)
  have n1 : ∀ b j, rd (cpyL h0 63 0 130 0 24 ++ h0) b j = if b = 130 ∧ 0 ≤ j ∧ j < 24 then rd h0 63 j else rd h0 b j := fun b j => rd_cp0 24
  generalize cpyL h0 63 0 130 0 24 ++ h0 = h1 at *
  refine B_copyDay_23_126_59 (RF_of r1) ?_
  have r2 : RNG (cpyL h1 64 0 131 0 24 ++ h1) := RNG_cpk (n := 24) (fun f j hj hf => by
    have q := rB_64 r1 (i := 0 + (j : Int)) (by omega)
    exact wS_131 hf (by omega) (by omega)) r1 24 (Nat.le_refl _)
  have n2 : ∀ b j, rd (cpyL h1 64 0 131 0 24 ++ h1) b j = if b = 131 ∧ 0 ≤ j ∧ j < 24 then rd h1 64 j else rd h1 b j := fun b j => rd_cp0 24
  generalize cpyL h1 64 0 131 0 24 ++ h1 = h2 at *
  have fr : ∀ a i, ¬ (a = 126 ∧ i = 1) → ¬ (a = 130 ∧ 0 ≤ i ∧ i < 24) → ¬ (a = 131 ∧ 0 ≤ i ∧ i < 24) → rd h2 a i = rd h a i := fun a i m1 m2 m3 => by rw [n2, if_neg m3, n1, if_neg m2, n0 a i m1]
  refine B_copyDay_38_126_59 (RF_of r2) (k h2 ⟨r2, SP_mem (fun b j hb hb2 => fr b j (by omega) (by omega) (by omega)) ⟨lines_same (fun j => fr 63 j (by omega) (by omega) (by omega)) (fun j => fr 64 j (by omega) (by omega) (by omega)) hI.2.1.1, lines_same (fun j => fr 71 j (by omega) (by omega) (by omega)) (fun j => fr 72 j (by omega) (by omega) (by omega)) hI.2.1.2.1, lines_same (fun j => fr 106 j (by omega) (by omega) (by omega)) (fun j => fr 107 j (by omega) (by omega) (by omega)) hI.2.1.2.2.1, lines_same (fun j => fr 114 j (by omega) (by omega) (by omega)) (fun j => fr 115 j (by omega) (by omega) (by omega)) hI.2.1.2.2.2.1, lines_same (fun j => fr 122 j (by omega) (by omega) (by omega)) (fun j => fr 123 j (by omega) (by omega) (by omega)) hI.2.1.2.2.2.2.1, ex24 (sA := 63) (sB := 64) (fun i => ?_) (fun i => ?_) hI.2.1.1 hI.2.1.2.2.2.2.2.1⟩ hI.2⟩ fr)
  · rw [n2, if_neg (by omega), n1]
    by_cases c : 0 ≤ i ∧ i < 24
    · rw [if_pos ⟨rfl, c⟩, if_pos c, n0 _ _ (by omega)]
    · rw [if_neg (fun q => c q.2), if_neg c, n0 _ _ (by omega)]
  · rw [n2]
    by_cases c : 0 ≤ i ∧ i < 24
    · rw [if_pos ⟨rfl, c⟩, if_pos c, n1, if_neg (by omega), n0 _ _ (by omega)]
    · rw [if_neg (fun q => c q.2), if_neg c, n1, if_neg (by omega), n0 _ _ (by omega)]
theorem D_copyDay_59_102 (hI : INV h) (k : ∀ g, INV g → (∀ a i, ¬ (a = 59 ∧ i = 1) → ¬ (a = 63 ∧ 0 ≤ i ∧ i < 24) → ¬ (a = 64 ∧ 0 ≤ i ∧ i < 24) → rd g a i = rd h a i) → Q none g) : Rn xs xl e mm_Memory_copyDay 0 [some (.inr (.inr 59)), some (.inr (.inr 102))] [] h Q := by
  have l := rG_102_1 hI.1
  have i0 := wG_59_1 hI (v := rd h 102 1) (by omega) (by omega)
  refine B_copyDay_0_59_102 (RF_of hI.1) ?_
  have n0 : ∀ b j, ¬ (b = 59 ∧ j = 1) → rd (wr h 59 1 (rd h 102 1)) b j = rd h b j := fun b j hn => by rw [rd_wr, if_neg (fun q => hn ⟨q.1.symm, q.2.symm⟩)]
  generalize wr h 59 1 (rd h 102 1) = h0 at *
  have r1 : RNG (cpyL h0 106 0 63 0 24 ++ h0) := RNG_cpk (n := 24) (fun f j hj hf => by
    have q := rB_106 i0.1 (i := 0 + (j : Int)) (by omega)
    exact wS_63 hf (by omega) (by omega)) i0.1 24 (Nat.le_refl _)
  have n1 : ∀ b j, rd (cpyL h0 106 0 63 0 24 ++ h0) b j = if b = 63 ∧ 0 ≤ j ∧ j < 24 then rd h0 106 j else rd h0 b j := fun b j => rd_cp0 24
  generalize cpyL h0 106 0 63 0 24 ++ h0 = h1 at *
  refine B_copyDay_23_59_102 (RF_of r1) ?_
  have r2 : RNG (cpyL h1 107 0 64 0 24 ++ h1) := RNG_cpk (n := 24) (fun f j hj hf => by
    have q := rB_107 r1 (i := 0 + (j : Int)) (by omega)
    exact wS_64 hf (by omega) (by omega)) r1 24 (Nat.le_refl _)
  have n2 : ∀ b j, rd (cpyL h1 107 0 64 0 24 ++ h1) b j = if b = 64 ∧ 0 ≤ j ∧ j < 24 then rd h1 107 j else rd h1 b j := fun b j => rd_cp0 24
  generalize cpyL h1 107 0 64 0 24 ++ h1 = h2 at *
  have fr : ∀ a i, ¬ (a = 59 ∧ i = 1) → ¬ (a = 63 ∧ 0 ≤ i ∧ i < 24) → ¬ (a = 64 ∧ 0 ≤ i ∧ i < 24) → rd h2 a i = rd h a i := fun a i m1 m2 m3 => by rw [n2, if_neg m3, n1, if_neg m2, n0 a i m1]
  refine B_copyDay_38_59_102 (RF_of r2) (k h2 ⟨r2, SP_mem (fun b j hb hb2 => fr b j (by omega) (by omega) (by omega)) ⟨ex24 (sA := 106) (sB := 107) (fun i => ?_) (fun i => ?_) hI.2.1.2.2.1 hI.2.1.1, lines_same (fun j => fr 71 j (by omega) (by omega) (by omega)) (fun j => fr 72 j (by omega) (by omega) (by omega)) hI.2.1.2.1, lines_same (fun j => fr 106 j (by omega) (by omega) (by omega)) (fun j => fr 107 j (by omega) (by omega) (by omega)) hI.2.1.2.2.1, lines_same (fun j => fr 114 j (by omega) (by omega) (by omega)) (fun j => fr 115 j (by omega) (by omega) (by omega)) hI.2.1.2.2.2.1, lines_same (fun j => fr 122 j (by omega) (by omega) (by omega)) (fun j => fr 123 j (by omega) (by omega) (by omega)) hI.2.1.2.2.2.2.1, lines_same (fun j => fr 130 j (by omega) (by omega) (by omega)) (fun j => fr 131 j (by omega) (by omega) (by omega)) hI.2.1.2.2.2.2.2.1⟩ hI.2⟩ fr)
  · rw [n2, if_neg (by omega), n1]
    by_cases c : 0 ≤ i ∧ i < 24
    · rw [if_pos ⟨rfl, c⟩, if_pos c, n0 _ _ (by omega)]
    · rw [if_neg (fun q => c q.2), if_neg c, n0 _ _ (by omega)]
  · rw [n2]
    by_cases c : 0 ≤ i ∧ i < 24
    · rw [if_pos ⟨rfl, c⟩, if_pos c, n1, if_neg (by omega), n0 _ _ (by omega)]
    · rw [if_neg (fun q => c q.2), if_neg c, n1, if_neg (by omega), n0 _ _ (by omega)]
theorem D_copyDay_59_110 (hI : INV h) (k : ∀ g, INV g → (∀ a i, ¬ (a = 59 ∧ i = 1) → ¬ (a = 63 ∧ 0 ≤ i ∧ i < 24) → ¬ (a = 64 ∧ 0 ≤ i ∧ i < 24) → rd g a i = rd h a i) → Q none g) : Rn xs xl e mm_Memory_copyDay 0 [some (.inr (.inr 59)), some (.inr (.inr 110))] [] h Q := by
  have l := rG_110_1 hI.1
  have i0 := wG_59_1 hI (v := rd h 110 1) (by omega) (by omega)
  refine B_copyDay_0_59_110 (RF_of hI.1) ?_
  have n0 : ∀ b j, ¬ (b = 59 ∧ j = 1) → rd (wr h 59 1 (rd h 110 1)) b j = rd h b j := fun b j hn => by rw [rd_wr, if_neg (fun q => hn ⟨q.1.symm, q.2.symm⟩)]
  generalize wr h 59 1 (rd h 110 1) = h0 at *
  have r1 : RNG (cpyL h0 114 0 63 0 24 ++ h0) := RNG_cpk (n := 24) (fun f j hj hf => by
    have q := rB_114 i0.1 (i := 0 + (j : Int)) (by omega)
    exact wS_63 hf (by omega) (by omega)) i0.1 24 (Nat.le_refl _)
  have n1 : ∀ b j, rd (cpyL h0 114 0 63 0 24 ++ h0) b j = if b = 63 ∧ 0 ≤ j ∧ j < 24 then rd h0 114 j else rd h0 b j := fun b j => rd_cp0 24
  generalize cpyL h0 114 0 63 0 24 ++ h0 = h1 at *
  refine B_copyDay_23_59_110 (RF_of r1) ?_
  have r2 : RNG (cpyL h1 115 0 64 0 24 ++ h1) := RNG_cpk (n := 24) (fun f j hj hf => by
    have q := rB_115 r1 (i := 0 + (j : Int)) (by omega)
    exact wS_64 hf (by omega) (by omega)) r1 24 (Nat.le_refl _)
  have n2 : ∀ b j, rd (cpyL h1 115 0 64 0 24 ++ h1) b j = if b = 64 ∧ 0 ≤ j ∧ j < 24 then rd h1 115 j else rd h1 b j := fun b j => rd_cp0 24
  generalize cpyL h1 115 0 64 0 24 ++ h1 = h2 at *
  have fr : ∀ a i, ¬ (a = 59 ∧ i = 1) → ¬ (a = 63 ∧ 0 ≤ i ∧ i < 24) → ¬ (a = 64 ∧ 0 ≤ i ∧ i < 24) → rd h2 a i = rd h a i := fun a i m1 m2 m3 => by rw [n2, if_neg m3, n1, if_neg m2, n0 a i m1]
  refine B_copyDay_38_59_110 (RF_of r2) (k h2 ⟨r2, SP_mem (fun b j hb hb2 => fr b j (by omega) (by omega) (by omega)) ⟨ex24 (sA := 114) (sB := 115) (fun i => ?_) (fun i => ?_) hI.2.1.2.2.2.1 hI.2.1.1, lines_same (fun j => fr 71 j (by omega) (by omega) (by omega)) (fun j => fr 72 j (by omega) (by omega) (by omega)) hI.2.1.2.1, lines_same (fun j => fr 106 j (by omega) (by omega) (by omega)) (fun j => fr 107 j (by omega) (by omega) (by omega)) hI.2.1.2.2.1, lines_same (fun j => fr 114 j (by omega) (by omega) (by omega)) (fun j => fr 115 j (by omega) (by omega) (by omega)) hI.2.1.2.2.2.1, lines_same (fun j => fr 122 j (by omega) (by omega) (by omega)) (fun j => fr 123 j (by omega) (by omega) (by omega)) hI.2.1.2.2.2.2.1, lines_same (fun j => fr 130 j (by omega) (by omega) (by omega)) (fun j => fr 131 j (by omega) (by omega) (by omega)) hI.2.1.2.2.2.2.2.1⟩ hI.2⟩ fr)
  · rw [n2, if_neg (by omega), n1]
    by_cases c : 0 ≤ i ∧ i < 24
    · rw [if_pos ⟨rfl, c⟩, if_pos c, n0 _ _ (by omega)]
    · rw [if_neg (fun q => c q.2), if_neg c, n0 _ _ (by omega)]
  · rw [n2]
    by_cases c : 0 ≤ i ∧ i < 24
    · rw [if_pos ⟨rfl, c⟩, if_pos c, n1, if_neg (by omega), n0 _ _ (by omega)]
    · rw [if_neg (fun q => c q.2), if_neg c, n1, if_neg (by omega), n0 _ _ (by omega)]
theorem D_copyDay_59_118 (hI : INV h) (k : ∀ g, INV g → (∀ a i, ¬ (a = 59 ∧ i = 1) → ¬ (a = 63 ∧ 0 ≤ i ∧ i < 24) → ¬ (a = 64 ∧ 0 ≤ i ∧ i < 24) → rd g a i = rd h a i) → Q none g) : Rn xs xl e mm_Memory_copyDay 0 [some (.inr (.inr 59)), some (.inr (.inr 118))] [] h Q := by
  have l := rG_118_1 hI.1
  have i0 := wG_59_1 hI (v := rd h 118 1) (by omega) (by omega)
  refine B_copyDay_0_59_118 (RF_of hI.1) ?_
  have n0 : ∀ b j, ¬ (b = 59 ∧ j = 1) → rd (wr h 59 1 (rd h 118 1)) b j = rd h b j := fun b j hn => by rw [rd_wr, if_neg (fun q => hn ⟨q.1.symm, q.2.symm⟩)]
  generalize wr h 59 1 (rd h 118 1) = h0 at *
  have r1 : RNG (cpyL h0 122 0 63 0 24 ++ h0) := RNG_cpk (n := 24) (fun f j hj hf => by
    have q := rB_122 i0.1 (i := 0 + (j : Int)) (by omega)
    exact wS_63 hf (by omega) (by omega)) i0.1 24 (Nat.le_refl _)
  have n1 : ∀ b j, rd (cpyL h0 122 0 63 0 24 ++ h0) b j = if b = 63 ∧ 0 ≤ j ∧ j < 24 then rd h0 122 j else rd h0 b j := fun b j => rd_cp0 24
  generalize cpyL h0 122 0 63 0 24 ++ h0 = h1 at *
  refine B_copyDay_23_59_118 (RF_of r1) ?_
  have r2 : RNG (cpyL h1 123 0 64 0 24 ++ h1) := RNG_cpk (n := 24) (fun f j hj hf => by
    have q := rB_123 r1 (i := 0 + (j : Int)) (by omega)
    exact wS_64 hf (by omega) (by omega)) r1 24 (Nat.le_refl _)
  have n2 : ∀ b j, rd (cpyL h1 123 0 64 0 24 ++ h1) b j = if b = 64 ∧ 0 ≤ j ∧ j < 24 then rd h1 123 j else rd h1 b j := fun b j => rd_cp0 24
  generalize cpyL h1 123 0 64 0 24 ++ h1 = h2 at *
  have fr : ∀ a i, ¬ (a = 59 ∧ i = 1) → ¬ (a = 63 ∧ 0 ≤ i ∧ i < 24) → ¬ (a = 64 ∧ 0 ≤ i ∧ i < 24) → rd h2 a i = rd h a i := fun a i m1 m2 m3 => by rw [n2, if_neg m3, n1, if_neg m2, n0 a i m1]
  refine B_copyDay_38_59_118 (RF_of r2) (k h2 ⟨r2, SP_mem (fun b j hb hb2 => fr b j (by omega) (by omega) (by omega)) ⟨ex24 (sA := 122) (sB := 123) (fun i => ?_) (fun i => ?_) hI.2.1.2.2.2.2.1 hI.2.1.1, lines_same (fun j => fr 71 j (by omega) (by omega) (by omega)) (fun j => fr 72 j (by omega) (by omega) (by omega)) hI.2.1.2.1, lines_same (fun j => fr 106 j (by omega) (by omega) (by omega)) (fun j => fr 107 j (by omega) (by omega) (by omega)) hI.2.1.2.2.1, lines_same (fun j => fr 114 j (by omega) (by omega) (by omega)) (fun j => fr 115 j (by omega) (by omega) (by omega)) hI.2.1.2.2.2.1, lines_same (fun j => fr 122 j (by omega) (by omega) (by omega)) (fun j => fr 123 j (by omega) (by omega) (by omega)) hI.2.1.2.2.2.2.1, lines_same (fun j => fr 130 j (by omega) (by omega) (by omega)) (fun j => fr 131 j (by omega) (by omega) (by omega)) hI.2.1.2.2.2.2.2.1⟩ hI.2⟩ fr)
  · rw [n2, if_neg (by omega), n1]
    by_cases c : 0 ≤ i ∧ i < 24
    · rw [if_pos ⟨rfl, c⟩, if_pos c, n0 _ _ (by omega)]
    · rw [if_neg (fun q => c q.2), if_neg c, n0 _ _ (by omega)]
  · rw [n2]
    by_cases c : 0 ≤ i ∧ i < 24
    · rw [if_pos ⟨rfl, c⟩, if_pos c, n1, if_neg (by omega), n0 _ _ (by omega)]
    · rw [if_neg (fun q => c q.2), if_neg c, n1, if_neg (by omega), n0 _ _ (by omega)]
theorem D_copyDay_59_126 (hI : INV h) (k : ∀ g, INV g → (∀ a i, ¬ (a = 59 ∧ i = 1) → ¬ (a = 63 ∧ 0 ≤ i ∧ i < 24) → ¬ (a = 64 ∧ 0 ≤ i ∧ i < 24) → rd g a i = rd h a i) → Q none g) : Rn xs xl e mm_Memory_copyDay 0 [some (.inr (.inr 59)), some (.inr (.inr 126))] [] h Q := by
  have l := rG_126_1 hI.1
  have i0 := wG_59_1 hI (v := rd h 126 1) (by omega) (by omega)
  refine B_copyDay_0_59_126 (RF_of hI.1) ?_
  have n0 : ∀ b j, ¬ (b = 59 ∧ j = 1) → rd (wr h 59 1 (rd h 126 1)) b j = rd h b j := fun b j hn => by rw [rd_wr, if_neg (fun q => hn ⟨q.1.symm, q.2.symm⟩)]
  generalize wr h 59 1 (rd h 126 1) = h0 at *
  have r1 : RNG (cpyL h0 130 0 63 0 24 ++ h0) := RNG_cpk (n := 24) (fun f j hj hf => by
    have q := rB_130 i0.1 (i := 0 + (j : Int)) (by omega)
    exact wS_63 hf (by omega) (by omega)) i0.1 24 (Nat.le_refl _)
  have n1 : ∀ b j, rd (cpyL h0 130 0 63 0 24 ++ h0) b j = if b = 63 ∧ 0 ≤ j ∧ j < 24 then rd h0 130 j else rd h0 b j := fun b j => rd_cp0 24
  generalize cpyL h0 130 0 63 0 24 ++ h0 = h1 at *
  refine B_copyDay_23_59_126 (RF_of r1) ?_
  have r2 : RNG (cpyL h1 131 0 64 0 24 ++ h1) := RNG_cpk (n := 24) (fun f j hj hf => by
    have q := rB_131 r1 (i := 0 + (j : Int)) (by omega)
    exact wS_64 hf (by omega) (by omega)) r1 24 (Nat.le_refl _)
  have n2 : ∀ b j, rd (cpyL h1 131 0 64 0 24 ++ h1) b j = if b = 64 ∧ 0 ≤ j ∧ j < 24 then rd h1 131 j else rd h1 b j := fun b j => rd_cp0 24
  generalize cpyL h1 131 0 64 0 24 ++ h1 = h2 at *
  have fr : ∀ a i, ¬ (a = 59 ∧ i = 1) → ¬ (a = 63 ∧ 0 ≤ i ∧ i < 24) → ¬ (a = 64 ∧ 0 ≤ i ∧ i < 24) → rd h2 a i = rd h a i := fun a i m1 m2 m3 => by rw [n2, if_neg m3, n1, if_neg m2, n0 a i m1]
  refine B_copyDay_38_59_126 (RF_of r2) (k h2 ⟨r2, SP_mem (fun b j hb hb2 => fr b j (by omega) (by omega) (by omega)) ⟨ex24 (sA := 130) (sB := 131) (fun i => ?_) (fun i => ?_) hI.2.1.2.2.2.2.2.1 hI.2.1.1, lines_same (fun j => fr 71 j (by omega) (by omega) (by omega)) (fun j => fr 72 j (by omega) (by omega) (by omega)) hI.2.1.2.1, lines_same (fun j => fr 106 j (by omega) (by omega) (by omega)) (fun j => fr 107 j (by omega) (by omega) (by omega)) hI.2.1.2.2.1, lines_same (fun j => fr 114 j (by omega) (by omega) (by omega)) (fun j => fr 115 j (by omega) (by omega) (by omega)) hI.2.1.2.2.2.1, lines_same (fun j => fr 122 j (by omega) (by omega) (by omega)) (fun j => fr 123 j (by omega) (by omega) (by omega)) hI.2.1.2.2.2.2.1, lines_same (fun j => fr 130 j (by omega) (by omega) (by omega)) (fun j => fr 131 j (by omega) (by omega) (by omega)) hI.2.1.2.2.2.2.2.1⟩ hI.2⟩ fr)
  · rw [n2, if_neg (by omega), n1]
    by_cases c : 0 ≤ i ∧ i < 24
    · rw [if_pos ⟨rfl, c⟩, if_pos c, n0 _ _ (by omega)]
    · rw [if_neg (fun q => c q.2), if_neg c, n0 _ _ (by omega)]
  · rw [n2]
    by_cases c : 0 ≤ i ∧ i < 24
    · rw [if_pos ⟨rfl, c⟩, if_pos c, n1, if_neg (by omega), n0 _ _ (by omega)]
    · rw [if_neg (fun q => c q.2), if_neg c, n1, if_neg (by omega), n0 _ _ (by omega)]
theorem D_copy_102_59 (he : 2 ≤ e) (hI : INV h) (k : ∀ g, INV g → (∀ a i, ¬ (102 ≤ a ∧ a ≤ 109 ∧ 0 ≤ i ∧ i ≤ 23) → rd g a i = rd h a i) → Q none g) : Rn xs xl e mm_Memory_copy 0 [some (.inr (.inr 102)), some (.inr (.inr 59))] [] h Q := by
  refine B_copy_0_102_59 (RF_of hI.1) ⟨1, by omega, K_copy_102 (Nat.le_refl 1) hI (fun h1 i1 f1 => B_copy_11_102_59 (RF_of i1.1) ⟨0, by omega, D_copyDay_102_59 i1 (fun h2 i2 f2 => B_copy_16_102_59 (RF_of i2.1) ?_)⟩)⟩
  have l4 := rG_59_4 i2.1
  have l7 := rG_59_7 i2.1
  have i3 := wG_102_7 (wG_102_4 i2 (v := rd h2 59 4) (by omega) (by omega)) (v := rd h2 59 7) (by omega) (by omega)
  have n3 : ∀ b j, ¬ (b = 102 ∧ 0 ≤ j ∧ j ≤ 23) → rd (wr (wr h2 102 4 (rd h2 59 4)) 102 7 (rd h2 59 7)) b j = rd h2 b j := fun b j hn => by rw [rd_wr, if_neg (by omega), rd_wr, if_neg (by omega)]
  generalize wr (wr h2 102 4 (rd h2 59 4)) 102 7 (rd h2 59 7) = h3 at *
  have r4 : RNG (cpyL h3 65 0 108 0 10 ++ h3) := RNG_cpk (n := 10) (fun f j hj hf => by
    have q := rB_65 i3.1 (i := 0 + (j : Int)) (by omega)
    exact wS_108 hf (by omega) (by omega)) i3.1 10 (Nat.le_refl _)
  have n4 : ∀ b j, rd (cpyL h3 65 0 108 0 10 ++ h3) b j = if b = 108 ∧ 0 ≤ j ∧ j < 10 then rd h3 65 j else rd h3 b j := fun b j => rd_cp0 10
  generalize cpyL h3 65 0 108 0 10 ++ h3 = h4 at *
  have i4 : INV h4 := ⟨r4, SP_of (fun b j hb => by rw [n4, if_neg (by unfold sens at hb; omega)]) i3.2⟩
  refine B_copy_47_102_59 (RF_of i4.1) ?_
  have r5 : RNG (cpyL h4 66 0 109 0 10 ++ h4) := RNG_cpk (n := 10) (fun f j hj hf => by
    have q := rB_66 i4.1 (i := 0 + (j : Int)) (by omega)
    exact wS_109 hf (by omega) (by omega)) i4.1 10 (Nat.le_refl _)
  have n5 : ∀ b j, rd (cpyL h4 66 0 109 0 10 ++ h4) b j = if b = 109 ∧ 0 ≤ j ∧ j < 10 then rd h4 66 j else rd h4 b j := fun b j => rd_cp0 10
  generalize cpyL h4 66 0 109 0 10 ++ h4 = h5 at *
  have i5 : INV h5 := ⟨r5, SP_of (fun b j hb => by rw [n5, if_neg (by unfold sens at hb; omega)]) i4.2⟩
  refine B_copy_62_102_59 (RF_of i5.1) ?_
  refine k h5 i5 (fun a i hn => ?_)
  rw [n5, if_neg (by omega), n4, if_neg (by omega), n3 a i (by omega), f2 a i (by omega) (by omega) (by omega), f1 a i (by omega) (by omega) (by omega)]
theorem D_copy_110_59 (he : 2 ≤ e) (hI : INV h) (k : ∀ g, INV g → (∀ a i, ¬ (110 ≤ a ∧ a ≤ 117 ∧ 0 ≤ i ∧ i ≤ 23) → rd g a i = rd h a i) → Q none g) : Rn xs xl e mm_Memory_copy 0 [some (.inr (.inr 110)), some (.inr (.inr 59))] [] h Q := by
  refine B_copy_0_110_59 (RF_of hI.1) ⟨1, by omega, K_copy_110 (Nat.le_refl 1) hI (fun h1 i1 f1 => B_copy_11_110_59 (RF_of i1.1) ⟨0, by omega, D_copyDay_110_59 i1 (fun h2 i2 f2 => B_copy_16_110_59 (RF_of i2.1) ?_)⟩)⟩
  have l4 := rG_59_4 i2.1
  have l7 := rG_59_7 i2.1
  have i3 := wG_110_7 (wG_110_4 i2 (v := rd h2 59 4) (by omega) (by omega)) (v := rd h2 59 7) (by omega) (by omega)
  have n3 : ∀ b j, ¬ (b = 110 ∧ 0 ≤ j ∧ j ≤ 23) → rd (wr (wr h2 110 4 (rd h2 59 4)) 110 7 (rd h2 59 7)) b j = rd h2 b j := fun b j hn => by rw [rd_wr, if_neg (by omega), rd_wr, if_neg (by omega)]
  generalize wr (wr h2 110 4 (rd h2 59 4)) 110 7 (rd h2 59 7) = h3 at *
  have r4 : RNG (cpyL h3 65 0 116 0 10 ++ h3) := RNG_cpk (n := 10) (fun f j hj hf => by
    have q := rB_65 i3.1 (i := 0 + (j : Int)) (by omega)
    exact wS_116 hf (by omega) (by omega)) i3.1 10 (Nat.le_refl _)
  have n4 : ∀ b j, rd (cpyL h3 65 0 116 0 10 ++ h3) b j = if b = 116 ∧ 0 ≤ j ∧ j < 10 then rd h3 65 j else rd h3 b j := fun b j => rd_cp0 10
  generalize cpyL h3 65 0 116 0 10 ++ h3 = h4 at *
  have i4 : INV h4 := ⟨r4, SP_of (fun b j hb => by rw [n4, if_neg (by unfold sens at hb; omega)]) i3.2⟩
  refine B_copy_47_110_59 (RF_of i4.1) ?_
  have r5 : RNG (cpyL h4 66 0 117 0 10 ++ h4) := RNG_cpk (n := 10) (fun f j hj hf => by
    have q := rB_66 i4.1 (i := 0 + (j : Int)) (by omega)
    exact wS_117 hf (by omega) (by omega)) i4.1 10 (Nat.le_refl _)
  have n5 : ∀ b j, rd (cpyL h4 66 0 117 0 10 ++ h4) b j = if b = 117 ∧ 0 ≤ j ∧ j < 10 then rd h4 66 j else rd h4 b j := fun b j => rd_cp0 10
  generalize cpyL h4 66 0 117 0 10 ++ h4 = h5 at *
  have i5 : INV h5 := ⟨r5, SP_of (fun b j hb => by rw [n5, if_neg (by unfold sens at hb; omega)]) i4.2⟩
  refine B_copy_62_110_59 (RF_of i5.1) ?_
  refine k h5 i5 (fun a i hn => ?_)
  rw [n5, if_neg (by omega), n4, if_neg (by omega), n3 a i (by omega), f2 a i (by omega) (by omega) (by omega), f1 a i (by omega) (by omega) (by omega)]
theorem D_copy_118_59 (he : 2 ≤ e) (hI : INV h) (k : ∀ g, INV g → (∀ a i, ¬ (118 ≤ a ∧ a ≤ 125 ∧ 0 ≤ i ∧ i ≤ 23) → rd g a i = rd h a i) → Q none g) : Rn xs xl e mm_Memory_copy 0 [some (.inr (.inr 118)), some (.inr (.inr 59))] [] h Q := by
  refine B_copy_0_118_59 (RF_of hI.1) ⟨1, by omega, K_copy_118 (Nat.le_refl 1) hI (fun h1 i1 f1 => B_copy_11_118_59 (RF_of i1.1) ⟨0, by omega, D_copyDay_118_59 i1 (fun h2 i2 f2 => B_copy_16_118_59 (RF_of i2.1) ?_)⟩)⟩
  have l4 := rG_59_4 i2.1
  have l7 := rG_59_7 i2.1
  have i3 := wG_118_7 (wG_118_4 i2 (v := rd h2 59 4) (by omega) (by omega)) (v := rd h2 59 7) (by omega) (by omega)
  have n3 : ∀ b j, ¬ (b = 118 ∧ 0 ≤ j ∧ j ≤ 23) → rd (wr (wr h2 118 4 (rd h2 59 4)) 118 7 (rd h2 59 7)) b j = rd h2 b j := fun b j hn => by rw [rd_wr, if_neg (by omega), rd_wr, if_neg (by omega)]
  generalize wr (wr h2 118 4 (rd h2 59 4)) 118 7 (rd h2 59 7) = h3 at *
  have r4 : RNG (cpyL h3 65 0 124 0 10 ++ h3) := RNG_cpk (n := 10) (fun f j hj hf => by
    have q := rB_65 i3.1 (i := 0 + (j : Int)) (by omega)
    exact wS_124 hf (by omega) (by omega)) i3.1 10 (Nat.le_refl _)
  have n4 : ∀ b j, rd (cpyL h3 65 0 124 0 10 ++ h3) b j = if b = 124 ∧ 0 ≤ j ∧ j < 10 then rd h3 65 j else rd h3 b j := fun b j => rd_cp0 10
  generalize cpyL h3 65 0 124 0 10 ++ h3 = h4 at *
  have i4 : INV h4 := ⟨r4, SP_of (fun b j hb => by rw [n4, if_neg (by unfold sens at hb; omega)]) i3.2⟩
  refine B_copy_47_118_59 (RF_of i4.1) ?_
  have r5 : RNG (cpyL h4 66 0 125 0 10 ++ h4) := RNG_cpk (n := 10) (fun f j hj hf => by
    have q := rB_66 i4.1 (i := 0 + (j : Int)) (by omega)
    exact wS_125 hf (by omega) (by omega)) i4.1 10 (Nat.le_refl _)
  have n5 : ∀ b j, rd (cpyL h4 66 0 125 0 10 ++ h4) b j = if b = 125 ∧ 0 ≤ j ∧ j < 10 then rd h4 66 j else rd h4 b j := fun b j => rd_cp0 10
  generalize cpyL h4 66 0 125 0 10 ++ h4 = h5 at *
  have i5 : INV h5 := ⟨r5, SP_of (fun b j hb => by rw [n5, if_neg (by unfold sens at hb; omega)]) i4.2⟩
  refine B_copy_62_118_59 (RF_of i5.1) ?_
  refine k h5 i5 (fun a i hn => ?_)
  rw [n5, if_neg (by omega), n4, if_neg (by omega), n3 a i (by omega), f2 a i (by omega) (by omega) (by omega), f1 a i (by omega) (by omega) (by omega)]
theorem D_copy_126_59 (he : 2 ≤ e) (hI : INV h) (k : ∀ g, INV g → (∀ a i, ¬ (126 ≤ a ∧ a ≤ 133 ∧ 0 ≤ i ∧ i ≤ 23) → rd g a i = rd h a i) → Q none g) : Rn xs xl e mm_Memory_copy 0 [some (.inr (.inr 126)), some (.inr (.inr 59))] [] h Q := by
  refine B_copy_0_126_59 (RF_of hI.1) ⟨1, by omega, K_copy_126 (Nat.le_refl 1) hI (fun h1 i1 f1 => B_copy_11_126_59 (RF_of i1.1) ⟨0, by omega, D_copyDay_126_59 i1 (fun h2 i2 f2 => B_copy_16_126_59 (RF_of i2.1) ?_)⟩)⟩
  have l4 := rG_59_4 i2.1
  have l7 := rG_59_7 i2.1
  have i3 := wG_126_7 (wG_126_4 i2 (v := rd h2 59 4) (by omega) (by omega)) (v := rd h2 59 7) (by omega) (by omega)
  have n3 : ∀ b j, ¬ (b = 126 ∧ 0 ≤ j ∧ j ≤ 23) → rd (wr (wr h2 126 4 (rd h2 59 4)) 126 7 (rd h2 59 7)) b j = rd h2 b j := fun b j hn => by rw [rd_wr, if_neg (by omega), rd_wr, if_neg (by omega)]
  generalize wr (wr h2 126 4 (rd h2 59 4)) 126 7 (rd h2 59 7) = h3 at *
  have r4 : RNG (cpyL h3 65 0 132 0 10 ++ h3) := RNG_cpk (n := 10) (fun f j hj hf => by
    have q := rB_65 i3.1 (i := 0 + (j : Int)) (by omega)
    exact wS_132 hf (by omega) (by omega)) i3.1 10 (Nat.le_refl _)
  have n4 : ∀ b j, rd (cpyL h3 65 0 132 0 10 ++ h3) b j = if b = 132 ∧ 0 ≤ j ∧ j < 10 then rd h3 65 j else rd h3 b j := fun b j => rd_cp0 10
  generalize cpyL h3 65 0 132 0 10 ++ h3 = h4 at *
  have i4 : INV h4 := ⟨r4, SP_of (fun b j hb => by rw [n4, if_neg (by unfold sens at hb; omega)]) i3.2⟩
  refine B_copy_47_126_59 (RF_of i4.1) ?_
  have r5 : RNG (cpyL h4 66 0 133 0 10 ++ h4) := RNG_cpk (n := 10) (fun f j hj hf => by
    have q := rB_66 i4.1 (i := 0 + (j : Int)) (by omega)
    exact wS_133 hf (by omega) (by omega)) i4.1 10 (Nat.le_refl _)
  have n5 : ∀ b j, rd (cpyL h4 66 0 133 0 10 ++ h4) b j = if b = 133 ∧ 0 ≤ j ∧ j < 10 then rd h4 66 j else rd h4 b j := fun b j => rd_cp0 10
  generalize cpyL h4 66 0 133 0 10 ++ h4 = h5 at *
  have i5 : INV h5 := ⟨r5, SP_of (fun b j hb => by rw [n5, if_neg (by unfold sens at hb; omega)]) i4.2⟩
  refine B_copy_62_126_59 (RF_of i5.1) ?_
  refine k h5 i5 (fun a i hn => ?_)
  rw [n5, if_neg (by omega), n4, if_neg (by omega), n3 a i (by omega), f2 a i (by omega) (by omega) (by omega), f1 a i (by omega) (by omega) (by omega)]
theorem D_copy_59_102 (he : 2 ≤ e) (hI : INV h) (k : ∀ g, INV g → (∀ a i, ¬ (59 ≤ a ∧ a ≤ 66 ∧ 0 ≤ i ∧ i ≤ 23) → rd g a i = rd h a i) → Q none g) : Rn xs xl e mm_Memory_copy 0 [some (.inr (.inr 59)), some (.inr (.inr 102))] [] h Q := by
  refine B_copy_0_59_102 (RF_of hI.1) ⟨1, by omega, K_copyB_102 (Nat.le_refl 1) hI (fun h1 i1 f1 => B_copy_11_59_102 (RF_of i1.1) ⟨0, by omega, D_copyDay_59_102 i1 (fun h2 i2 f2 => B_copy_16_59_102 (RF_of i2.1) ?_)⟩)⟩
  have l4 := rG_102_4 i2.1
  have l7 := rG_102_7 i2.1
  have i3 := wG_59_7 (wG_59_4 i2 (v := rd h2 102 4) (by omega) (by omega)) (v := rd h2 102 7) (by omega) (by omega)
  have n3 : ∀ b j, ¬ (b = 59 ∧ 0 ≤ j ∧ j ≤ 23) → rd (wr (wr h2 59 4 (rd h2 102 4)) 59 7 (rd h2 102 7)) b j = rd h2 b j := fun b j hn => by rw [rd_wr, if_neg (by omega), rd_wr, if_neg (by omega)]
  generalize wr (wr h2 59 4 (rd h2 102 4)) 59 7 (rd h2 102 7) = h3 at *
  have r4 : RNG (cpyL h3 108 0 65 0 10 ++ h3) := RNG_cpk (n := 10) (fun f j hj hf => by
    have q := rB_108 i3.1 (i := 0 + (j : Int)) (by omega)
    exact wS_65 hf (by omega) (by omega)) i3.1 10 (Nat.le_refl _)
  have n4 : ∀ b j, rd (cpyL h3 108 0 65 0 10 ++ h3) b j = if b = 65 ∧ 0 ≤ j ∧ j < 10 then rd h3 108 j else rd h3 b j := fun b j => rd_cp0 10
  generalize cpyL h3 108 0 65 0 10 ++ h3 = h4 at *
  have i4 : INV h4 := ⟨r4, SP_of (fun b j hb => by rw [n4, if_neg (by unfold sens at hb; omega)]) i3.2⟩
  refine B_copy_47_59_102 (RF_of i4.1) ?_
  have r5 : RNG (cpyL h4 109 0 66 0 10 ++ h4) := RNG_cpk (n := 10) (fun f j hj hf => by
    have q := rB_109 i4.1 (i := 0 + (j : Int)) (by omega)
    exact wS_66 hf (by omega) (by omega)) i4.1 10 (Nat.le_refl _)
  have n5 : ∀ b j, rd (cpyL h4 109 0 66 0 10 ++ h4) b j = if b = 66 ∧ 0 ≤ j ∧ j < 10 then rd h4 109 j else rd h4 b j := fun b j => rd_cp0 10
  generalize cpyL h4 109 0 66 0 10 ++ h4 = h5 at *
  have i5 : INV h5 := ⟨r5, SP_of (fun b j hb => by rw [n5, if_neg (by unfold sens at hb; omega)]) i4.2⟩
  refine B_copy_62_59_102 (RF_of i5.1) ?_
  refine k h5 i5 (fun a i hn => ?_)
  rw [n5, if_neg (by omega), n4, if_neg (by omega), n3 a i (by omega), f2 a i (by omega) (by omega) (by omega), f1 a i (by omega) (by omega) (by omega)]
theorem D_copy_59_110 (he : 2 ≤ e) (hI : INV h) (k : ∀ g, INV g → (∀ a i, ¬ (59 ≤ a ∧ a ≤ 66 ∧ 0 ≤ i ∧ i ≤ 23) → rd g a i = rd h a i) → Q none g) : Rn xs xl e mm_Memory_copy 0 [some (.inr (.inr 59)), some (.inr (.inr 110))] [] h Q := by
  refine B_copy_0_59_110 (RF_of hI.1) ⟨1, by omega, K_copyB_110 (Nat.le_refl 1) hI (fun h1 i1 f1 => B_copy_11_59_110 (RF_of i1.1) ⟨0, by omega, D_copyDay_59_110 i1 (fun h2 i2 f2 => B_copy_16_59_110 (RF_of i2.1) ?_)⟩)⟩
  have l4 := rG_110_4 i2.1
  have l7 := rG_110_7 i2.1
  have i3 := wG_59_7 (wG_59_4 i2 (v := rd h2 110 4) (by omega) (by omega)) (v := rd h2 110 7) (by omega) (by omega)
  have n3 : ∀ b j, ¬ (b = 59 ∧ 0 ≤ j ∧ j ≤ 23) → rd (wr (wr h2 59 4 (rd h2 110 4)) 59 7 (rd h2 110 7)) b j = rd h2 b j := fun b j hn => by rw [rd_wr, if_neg (by omega), rd_wr, if_neg (by omega)]
  generalize wr (wr h2 59 4 (rd h2 110 4)) 59 7 (rd h2 110 7) = h3 at *
  have r4 : RNG (cpyL h3 116 0 65 0 10 ++ h3) := RNG_cpk (n := 10) (fun f j hj hf => by
    have q := rB_116 i3.1 (i := 0 + (j : Int)) (by omega)
    exact wS_65 hf (by omega) (by omega)) i3.1 10 (Nat.le_refl _)
  have n4 : ∀ b j, rd (cpyL h3 116 0 65 0 10 ++ h3) b j = if b = 65 ∧ 0 ≤ j ∧ j < 10 then rd h3 116 j else rd h3 b j := fun b j => rd_cp0 10
  generalize cpyL h3 116 0 65 0 10 ++ h3 = h4 at *
  have i4 : INV h4 := ⟨r4, SP_of (fun b j hb => by rw [n4, if_neg (by unfold sens at hb; omega)]) i3.2⟩
  refine B_copy_47_59_110 (RF_of i4.1) ?_
  have r5 : RNG (cpyL h4 117 0 66 0 10 ++ h4) := RNG_cpk (n := 10) (fun f j hj hf => by
    have q := rB_117 i4.1 (i := 0 + (j : Int)) (by omega)
    exact wS_66 hf (by omega) (by omega)) i4.1 10 (Nat.le_refl _)
  have n5 : ∀ b j, rd (cpyL h4 117 0 66 0 10 ++ h4) b j = if b = 66 ∧ 0 ≤ j ∧ j < 10 then rd h4 117 j else rd h4 b j := fun b j => rd_cp0 10
  generalize cpyL h4 117 0 66 0 10 ++ h4 = h5 at *
  have i5 : INV h5 := ⟨r5, SP_of (fun b j hb => by rw [n5, if_neg (by unfold sens at hb; omega)]) i4.2⟩
  refine B_copy_62_59_110 (RF_of i5.1) ?_
  refine k h5 i5 (fun a i hn => ?_)
  rw [n5, if_neg (by omega), n4, if_neg (by omega), n3 a i (by omega), f2 a i (by omega) (by omega) (by omega), f1 a i (by omega) (by omega) (by omega)]
theorem D_copy_59_118 (he : 2 ≤ e) (hI : INV h) (k : ∀ g, INV g → (∀ a i, ¬ (59 ≤ a ∧ a ≤ 66 ∧ 0 ≤ i ∧ i ≤ 23) → rd g a i = rd h a i) → Q none g) : Rn xs xl e mm_Memory_copy 0 [some (.inr (.inr 59)), some (.inr (.inr 118))] [] h Q := by
  refine B_copy_0_59_118 (RF_of hI.1) ⟨1, by omega, K_copyB_118 (Nat.le_refl 1) hI (fun h1 i1 f1 => B_copy_11_59_118 (RF_of i1.1) ⟨0, by omega, D_copyDay_59_118 i1 (fun h2 i2 f2 => B_copy_16_59_118 (RF_of i2.1) ?_)⟩)⟩
  have l4 := rG_118_4 i2.1
  have l7 := rG_118_7 i2.1
  have i3 := wG_59_7 (wG_59_4 i2 (v := rd h2 118 4) (by omega) (by omega)) (v := rd h2 118 7) (by omega) (by omega)
  have n3 : ∀ b j, ¬ (b = 59 ∧ 0 ≤ j ∧ j ≤ 23) → rd (wr (wr h2 59 4 (rd h2 118 4)) 59 7 (rd h2 118 7)) b j = rd h2 b j := fun b j hn => by rw [rd_wr, if_neg (by omega), rd_wr, if_neg (by omega)]
  generalize wr (wr h2 59 4 (rd h2 118 4)) 59 7 (rd h2 118 7) = h3 at *
  have r4 : RNG (cpyL h3 124 0 65 0 10 ++ h3) := RNG_cpk (n := 10) (fun f j hj hf => by
    have q := rB_124 i3.1 (i := 0 + (j : Int)) (by omega)
    exact wS_65 hf (by omega) (by omega)) i3.1 10 (Nat.le_refl _)
  have n4 : ∀ b j, rd (cpyL h3 124 0 65 0 10 ++ h3) b j = if b = 65 ∧ 0 ≤ j ∧ j < 10 then rd h3 124 j else rd h3 b j := fun b j => rd_cp0 10
  generalize cpyL h3 124 0 65 0 10 ++ h3 = h4 at *
  have i4 : INV h4 := ⟨r4, SP_of (fun b j hb => by rw [n4, if_neg (by unfold sens at hb; omega)]) i3.2⟩
  refine B_copy_47_59_118 (RF_of i4.1) ?_
  have r5 : RNG (cpyL h4 125 0 66 0 10 ++ h4) := RNG_cpk (n := 10) (fun f j hj hf => by
    have q := rB_125 i4.1 (i := 0 + (j : Int)) (by omega)
    exact wS_66 hf (by omega) (by omega)) i4.1 10 (Nat.le_refl _)
  have n5 : ∀ b j, rd (cpyL h4 125 0 66 0 10 ++ h4) b j = if b = 66 ∧ 0 ≤ j ∧ j < 10 then rd h4 125 j else rd h4 b j := fun b j => rd_cp0 10
  generalize cpyL h4 125 0 66 0 10 ++ h4 = h5 at *
  have i5 : INV h5 := ⟨r5, SP_of (fun b j hb => by rw [n5, if_neg (by unfold sens at hb; omega)]) i4.2⟩
  refine B_copy_62_59_118 (RF_of i5.1) ?_
  refine k h5 i5 (fun a i hn => ?_)
  rw [n5, if_neg (by omega), n4, if_neg (by omega), n3 a i (by omega), f2 a i (by omega) (by omega) (by omega), f1 a i (by omega) (by omega) (by omega)]
theorem D_copy_59_126 (he : 2 ≤ e) (hI : INV h) (k : ∀ g, INV g → (∀ a i, ¬ (59 ≤ a ∧ a ≤ 66 ∧ 0 ≤ i ∧ i ≤ 23) → rd g a i = rd h a i) → Q none g) : Rn xs xl e mm_Memory_copy 0 [some (.inr (.inr 59)), some (.inr (.inr 126))] [] h Q := by
  refine B_copy_0_59_126 (RF_of hI.1) ⟨1, by omega, K_copyB_126 (Nat.le_refl 1) hI (fun h1 i1 f1 => B_copy_11_59_126 (RF_of i1.1) ⟨0, by omega, D_copyDay_59_126 i1 (fun h2 i2 f2 => B_copy_16_59_126 (RF_of i2.1) ?_)⟩)⟩
  have l4 := rG_126_4 i2.1
  have l7 := rG_126_7 i2.1
  have i3 := wG_59_7 (wG_59_4 i2 (v := rd h2 126 4) (by omega) (by omega)) (v := rd h2 126 7) (by omega) (by omega)
  have n3 : ∀ b j, ¬ (b = 59 ∧ 0 ≤ j ∧ j ≤ 23) → rd (wr (wr h2 59 4 (rd h2 126 4)) 59 7 (rd h2 126 7)) b j = rd h2 b j := fun b j hn => by rw [rd_wr, if_neg (by omega), rd_wr, if_neg (by omega)]
  generalize wr (wr h2 59 4 (rd h2 126 4)) 59 7 (rd h2 126 7) = h3 at *
  have r4 : RNG (cpyL h3 132 0 65 0 10 ++ h3) := RNG_cpk (n := 10) (fun f j hj hf => by
    have q := rB_132 i3.1 (i := 0 + (j : Int)) (by omega)
    exact wS_65 hf (by omega) (by omega)) i3.1 10 (Nat.le_refl _)
  have n4 : ∀ b j, rd (cpyL h3 132 0 65 0 10 ++ h3) b j = if b = 65 ∧ 0 ≤ j ∧ j < 10 then rd h3 132 j else rd h3 b j := fun b j => rd_cp0 10
  generalize cpyL h3 132 0 65 0 10 ++ h3 = h4 at *
  have i4 : INV h4 := ⟨r4, SP_of (fun b j hb => by rw [n4, if_neg (by unfold sens at hb; omega)]) i3.2⟩
  refine B_copy_47_59_126 (RF_of i4.1) ?_
  have r5 : RNG (cpyL h4 133 0 66 0 10 ++ h4) := RNG_cpk (n := 10) (fun f j hj hf => by
    have q := rB_133 i4.1 (i := 0 + (j : Int)) (by omega)
    exact wS_66 hf (by omega) (by omega)) i4.1 10 (Nat.le_refl _)
  have n5 : ∀ b j, rd (cpyL h4 133 0 66 0 10 ++ h4) b j = if b = 66 ∧ 0 ≤ j ∧ j < 10 then rd h4 133 j else rd h4 b j := fun b j => rd_cp0 10
  generalize cpyL h4 133 0 66 0 10 ++ h4 = h5 at *
  have i5 : INV h5 := ⟨r5, SP_of (fun b j hb => by rw [n5, if_neg (by unfold sens at hb; omega)]) i4.2⟩
  refine B_copy_62_59_126 (RF_of i5.1) ?_
  refine k h5 i5 (fun a i hn => ?_)
  rw [n5, if_neg (by omega), n4, if_neg (by omega), n3 a i (by omega), f2 a i (by omega) (by omega) (by omega), f1 a i (by omega) (by omega) (by omega)]
end CZ
def SMplay : SM := (79, 4, [(2, 59, 59, 0), (2, 5, 32, 27), (2, 68, 68, 0)], [(some (0, -1, 23, 1), pv0, [], [])], [(68, 68, 0, 3), (69, 69, 0, 5), (70, 70, 0, 13)], [])
theorem ok_play {xs : Nat → Int} {xl : Nat} : SMok xs xl INV SMplay := by
  intro M as h hM hI ha hf hl
  have e : M = mm_Memory_playDay := Option.some.inj (hM.symm.trans (show MTB 79 = some mm_Memory_playDay from rfl))
  subst e
  obtain ⟨b0, rfl, ha1⟩ := ar_ref ha
  obtain ⟨q, b1, rfl, hq, ha2⟩ := ar_q ha1
  obtain ⟨b2, rfl, ha3⟩ := ar_ref ha2
  have := ar_nil ha3
  subst this
  refine D_playDay hq (by decide) hI (fun r g gI gf r0 r1 => ⟨gI, fun a i q => ?_, _, List.mem_singleton.mpr rfl, ⟨in1 r0 r1 (by unfold i32; omega), Or.inl rfl⟩, (fun q hq => absurd hq (List.not_mem_nil)), (fun q hq => absurd hq (List.not_mem_nil))⟩)
  have q' : inBx [(68, 68, 0, 3), (69, 69, 0, 5), (70, 70, 0, 13)] a i = false := q
  unfold inBx at q'
  simp only [List.any_cons, List.any_nil, Bool.or_false, Bool.or_eq_false_iff, Bool.and_eq_false_iff, decide_eq_false_iff_not] at q'
  exact gf a i (by omega) (by omega) (by omega)
def SMdayLine : SM := (56, 5, [(2, 2, 2, 0), (2, 5, 32, 27), (2, 67, 67, 0)], [(none, pv0, [], [])], [(2, 2, 3, 8), (67, 67, 1, 1), (71, 71, 0, 23), (72, 72, 0, 23)], [])
theorem ok_dayLine {xs : Nat → Int} {xl : Nat} : SMok xs xl INV SMdayLine := by
  intro M as h hM hI ha hf hl
  have e : M = mm_Reader_dayLine := Option.some.inj (hM.symm.trans (show MTB 56 = some mm_Reader_dayLine from rfl))
  subst e
  obtain ⟨b0, rfl, ha1⟩ := ar_ref ha
  obtain ⟨q, b1, rfl, hq, ha2⟩ := ar_q ha1
  obtain ⟨b2, rfl, ha3⟩ := ar_ref ha2
  have := ar_nil ha3
  subst this
  refine D_dayLine hq (by decide) hI (fun g gI gf => ⟨gI, fun a i q => ?_, _, List.mem_singleton.mpr rfl, trivial, (fun q hq => absurd hq (List.not_mem_nil)), (fun q hq => absurd hq (List.not_mem_nil))⟩)
  have q' : inBx [(2, 2, 3, 8), (67, 67, 1, 1), (71, 71, 0, 23), (72, 72, 0, 23)] a i = false := q
  unfold inBx at q'
  simp only [List.any_cons, List.any_nil, Bool.or_false, Bool.or_eq_false_iff, Bool.and_eq_false_iff, decide_eq_false_iff_not] at q'
  exact gf a i (by omega) (by omega) (by omega) (by omega)
def SMcopyDay : SM := (59, 1, [(2, 59, 59, 0), (2, 67, 67, 0)], [(none, pv0, [], [])], [(59, 59, 1, 1), (63, 63, 0, 23), (64, 64, 0, 23)], [])
theorem ok_copyDay {xs : Nat → Int} {xl : Nat} : SMok xs xl INV SMcopyDay := by
  intro M as h hM hI ha hf hl
  have e : M = mm_Memory_copyDay := Option.some.inj (hM.symm.trans (show MTB 59 = some mm_Memory_copyDay from rfl))
  subst e
  obtain ⟨b0, rfl, ha1⟩ := ar_ref ha
  obtain ⟨b2, rfl, ha3⟩ := ar_ref ha1
  have := ar_nil ha3
  subst this
  refine D_copyDay_59_67 hI (fun g gI gf => ⟨gI, fun a i q => ?_, _, List.mem_singleton.mpr rfl, trivial, (fun q hq => absurd hq (List.not_mem_nil)), (fun q hq => absurd hq (List.not_mem_nil))⟩)
  have q' : inBx [(59, 59, 1, 1), (63, 63, 0, 23), (64, 64, 0, 23)] a i = false := q
  unfold inBx at q'
  simp only [List.any_cons, List.any_nil, Bool.or_false, Bool.or_eq_false_iff, Bool.and_eq_false_iff, decide_eq_false_iff_not] at q'
  exact gf a i (by omega) (by omega) (by omega)
theorem ar_m {l : List AV} {as : List LV} (h : gAr ((2, 102, 126, 8) :: l) as) : ∃ q bs, as = .inr (.inr q) :: bs ∧ (q = 102 ∨ q = 110 ∨ q = 118 ∨ q = 126) ∧ gAr l bs := by
  cases as with
  | nil => exact absurd h id
  | cons v vs =>
    obtain ⟨h1, h2⟩ := h
    rcases v with x | x | x
    · exact absurd h1.1 (fun q => by cases q)
    · exact absurd h1.1 (fun q => by cases q)
    · have a : 102 ≤ x := h1.2.1
      have b : x ≤ 126 := h1.2.2.1
      have c : (8 : Int) ∣ (x - 102) := h1.2.2.2
      exact ⟨x, vs, rfl, by omega, h2⟩
def SMcopyA : SM := (153, 2, [(2, 102, 126, 8), (2, 59, 59, 0)], [(none, pv0, [], [])], [(102, 133, 0, 23)], [])
theorem ok_copyA {xs : Nat → Int} {xl : Nat} : SMok xs xl INV SMcopyA := by
  intro M as h hM hI ha hf hl
  have e : M = mm_Memory_copy := Option.some.inj (hM.symm.trans (show MTB 153 = some mm_Memory_copy from rfl))
  subst e
  obtain ⟨q, b0, rfl, hq, ha1⟩ := ar_m ha
  obtain ⟨b1, rfl, ha2⟩ := ar_ref ha1
  have := ar_nil ha2
  subst this
  rcases hq with rfl | rfl | rfl | rfl
  · refine D_copy_102_59 (by decide) hI (fun g gI gf => ⟨gI, fun a i q => ?_, _, List.mem_singleton.mpr rfl, trivial, (fun q hq => absurd hq (List.not_mem_nil)), (fun q hq => absurd hq (List.not_mem_nil))⟩)
    have q' : inBx [(102, 133, 0, 23)] a i = false := q
    unfold inBx at q'
    simp only [List.any_cons, List.any_nil, Bool.or_false, Bool.and_eq_false_iff, decide_eq_false_iff_not] at q'
    exact gf a i (by omega)
  · refine D_copy_110_59 (by decide) hI (fun g gI gf => ⟨gI, fun a i q => ?_, _, List.mem_singleton.mpr rfl, trivial, (fun q hq => absurd hq (List.not_mem_nil)), (fun q hq => absurd hq (List.not_mem_nil))⟩)
    have q' : inBx [(102, 133, 0, 23)] a i = false := q
    unfold inBx at q'
    simp only [List.any_cons, List.any_nil, Bool.or_false, Bool.and_eq_false_iff, decide_eq_false_iff_not] at q'
    exact gf a i (by omega)
  · refine D_copy_118_59 (by decide) hI (fun g gI gf => ⟨gI, fun a i q => ?_, _, List.mem_singleton.mpr rfl, trivial, (fun q hq => absurd hq (List.not_mem_nil)), (fun q hq => absurd hq (List.not_mem_nil))⟩)
    have q' : inBx [(102, 133, 0, 23)] a i = false := q
    unfold inBx at q'
    simp only [List.any_cons, List.any_nil, Bool.or_false, Bool.and_eq_false_iff, decide_eq_false_iff_not] at q'
    exact gf a i (by omega)
  · refine D_copy_126_59 (by decide) hI (fun g gI gf => ⟨gI, fun a i q => ?_, _, List.mem_singleton.mpr rfl, trivial, (fun q hq => absurd hq (List.not_mem_nil)), (fun q hq => absurd hq (List.not_mem_nil))⟩)
    have q' : inBx [(102, 133, 0, 23)] a i = false := q
    unfold inBx at q'
    simp only [List.any_cons, List.any_nil, Bool.or_false, Bool.and_eq_false_iff, decide_eq_false_iff_not] at q'
    exact gf a i (by omega)
def SMcopyB : SM := (153, 2, [(2, 59, 59, 0), (2, 102, 126, 8)], [(none, pv0, [], [])], [(59, 66, 0, 23)], [])
theorem ok_copyB {xs : Nat → Int} {xl : Nat} : SMok xs xl INV SMcopyB := by
  intro M as h hM hI ha hf hl
  have e : M = mm_Memory_copy := Option.some.inj (hM.symm.trans (show MTB 153 = some mm_Memory_copy from rfl))
  subst e
  obtain ⟨b0, rfl, ha1⟩ := ar_ref ha
  obtain ⟨q, b1, rfl, hq, ha2⟩ := ar_m ha1
  have := ar_nil ha2
  subst this
  rcases hq with rfl | rfl | rfl | rfl
  · refine D_copy_59_102 (by decide) hI (fun g gI gf => ⟨gI, fun a i q => ?_, _, List.mem_singleton.mpr rfl, trivial, (fun q hq => absurd hq (List.not_mem_nil)), (fun q hq => absurd hq (List.not_mem_nil))⟩)
    have q' : inBx [(59, 66, 0, 23)] a i = false := q
    unfold inBx at q'
    simp only [List.any_cons, List.any_nil, Bool.or_false, Bool.and_eq_false_iff, decide_eq_false_iff_not] at q'
    exact gf a i (by omega)
  · refine D_copy_59_110 (by decide) hI (fun g gI gf => ⟨gI, fun a i q => ?_, _, List.mem_singleton.mpr rfl, trivial, (fun q hq => absurd hq (List.not_mem_nil)), (fun q hq => absurd hq (List.not_mem_nil))⟩)
    have q' : inBx [(59, 66, 0, 23)] a i = false := q
    unfold inBx at q'
    simp only [List.any_cons, List.any_nil, Bool.or_false, Bool.and_eq_false_iff, decide_eq_false_iff_not] at q'
    exact gf a i (by omega)
  · refine D_copy_59_118 (by decide) hI (fun g gI gf => ⟨gI, fun a i q => ?_, _, List.mem_singleton.mpr rfl, trivial, (fun q hq => absurd hq (List.not_mem_nil)), (fun q hq => absurd hq (List.not_mem_nil))⟩)
    have q' : inBx [(59, 66, 0, 23)] a i = false := q
    unfold inBx at q'
    simp only [List.any_cons, List.any_nil, Bool.or_false, Bool.and_eq_false_iff, decide_eq_false_iff_not] at q'
    exact gf a i (by omega)
  · refine D_copy_59_126 (by decide) hI (fun g gI gf => ⟨gI, fun a i q => ?_, _, List.mem_singleton.mpr rfl, trivial, (fun q hq => absurd hq (List.not_mem_nil)), (fun q hq => absurd hq (List.not_mem_nil))⟩)
    have q' : inBx [(59, 66, 0, 23)] a i = false := q
    unfold inBx at q'
    simp only [List.any_cons, List.any_nil, Bool.or_false, Bool.and_eq_false_iff, decide_eq_false_iff_not] at q'
    exact gf a i (by omega)
