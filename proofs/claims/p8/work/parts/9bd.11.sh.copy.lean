/-! the scene, part sh: a memory is copied, all of it -/
theorem RF_row {h g : LH} {b : Int} (hn : ∀ i, (hav b i).1 ≠ 2) (hF : RF h) (f : ∀ a i, a ≠ b → rd g a i = rd h a i) : RF g := by
  intro a j x hv e
  by_cases z : a = b
  · subst z
    exact absurd (by rw [e]) (hn (j : Int))
  · rw [f a j z]
    exact hF a j x hv e
/-- the day of memory M of g is what that of memory N of h was -/
def dcq (h g : LH) (N M : Int) : Prop := rd g M 1 = rd h N 1 ∧ ∀ i, 0 ≤ i → i < 24 → rd g (M + 4) i = rd h (N + 4) i ∧ rd g (M + 5) i = rd h (N + 5) i
/-- memory M of g is what memory N of h was -/
def mcq (h g : LH) (N M : Int) : Prop := dcq h g N M ∧ scq h g (N + 1) (M + 1) ∧ (rd g M 4 = rd h N 4 ∧ rd g M 7 = rd h N 7) ∧ ∀ i, 0 ≤ i → i < 10 → rd g (M + 6) i = rd h (N + 6) i ∧ rd g (M + 7) i = rd h (N + 7) i
section SCh
variable {xs : Nat → Int} {xl e : Nat} {h : LH} {Q : Option LV → LH → Prop}
theorem F_cday_59_67 (hF : RF h) (k : ∀ g, dcq h g 67 59 → (∀ a i, ¬ (a = 59 ∧ i = 1) → ¬ (a = 63 ∧ 0 ≤ i ∧ i < 24) → ¬ (a = 64 ∧ 0 ≤ i ∧ i < 24) → rd g a i = rd h a i) → Q none g) : Rn xs xl e mm_Memory_copyDay 0 [some (.inr (.inr 59)), some (.inr (.inr 67))] [] h Q := by
  refine B_copyDay_0_59_67 hF ?_
  have n0 : ∀ b j, ¬ (b = 59 ∧ j = 1) → rd (wr h 59 1 (rd h 67 1)) b j = rd h b j := fun b j hn => by rw [rd_wr, if_neg (fun q => hn ⟨q.1.symm, q.2.symm⟩)]
  have m0 : rd (wr h 59 1 (rd h 67 1)) 59 1 = rd h 67 1 := rdw_eq
  have F0 : RF (wr h 59 1 (rd h 67 1)) := RF_wn (by decide +kernel) hF
  generalize wr h 59 1 (rd h 67 1) = h0 at *
  have n1 : ∀ b j, rd (cpyL h0 71 0 63 0 24 ++ h0) b j = if b = 63 ∧ 0 ≤ j ∧ j < 24 then rd h0 71 j else rd h0 b j := fun b j => rd_cp0 24
  have F1 : RF (cpyL h0 71 0 63 0 24 ++ h0) := RF_row (b := 63) (fun i => hav_nr (by decide +kernel) i) F0 (fun a i z => by rw [n1, if_neg (fun y => z y.1)])
  generalize cpyL h0 71 0 63 0 24 ++ h0 = h1 at *
  refine B_copyDay_23_59_67 F1 ?_
  have n2 : ∀ b j, rd (cpyL h1 72 0 64 0 24 ++ h1) b j = if b = 64 ∧ 0 ≤ j ∧ j < 24 then rd h1 72 j else rd h1 b j := fun b j => rd_cp0 24
  have F2 : RF (cpyL h1 72 0 64 0 24 ++ h1) := RF_row (b := 64) (fun i => hav_nr (by decide +kernel) i) F1 (fun a i z => by rw [n2, if_neg (fun y => z y.1)])
  generalize cpyL h1 72 0 64 0 24 ++ h1 = h2 at *
  refine B_copyDay_38_59_67 F2 (k h2 ⟨?_, fun i i0 i1 => ⟨?_, ?_⟩⟩ (fun a i m1 m2 m3 => by rw [n2, if_neg m3, n1, if_neg m2, n0 a i m1]))
  · rw [n2, if_neg (by omega), n1, if_neg (by omega)]
    exact m0
  · show rd h2 63 i = rd h 71 i
    rw [n2, if_neg (by omega), n1, if_pos ⟨rfl, i0, i1⟩, n0 _ _ (by omega)]
  · show rd h2 64 i = rd h 72 i
    rw [n2, if_pos ⟨rfl, i0, i1⟩, n1, if_neg (by omega), n0 _ _ (by omega)]
theorem F_cday_102_59 (hF : RF h) (k : ∀ g, dcq h g 59 102 → (∀ a i, ¬ (a = 102 ∧ i = 1) → ¬ (a = 106 ∧ 0 ≤ i ∧ i < 24) → ¬ (a = 107 ∧ 0 ≤ i ∧ i < 24) → rd g a i = rd h a i) → Q none g) : Rn xs xl e mm_Memory_copyDay 0 [some (.inr (.inr 102)), some (.inr (.inr 59))] [] h Q := by
  refine B_copyDay_0_102_59 hF ?_
  have n0 : ∀ b j, ¬ (b = 102 ∧ j = 1) → rd (wr h 102 1 (rd h 59 1)) b j = rd h b j := fun b j hn => by rw [rd_wr, if_neg (fun q => hn ⟨q.1.symm, q.2.symm⟩)]
  have m0 : rd (wr h 102 1 (rd h 59 1)) 102 1 = rd h 59 1 := rdw_eq
  have F0 : RF (wr h 102 1 (rd h 59 1)) := RF_wn (by decide +kernel) hF
  generalize wr h 102 1 (rd h 59 1) = h0 at *
  have n1 : ∀ b j, rd (cpyL h0 63 0 106 0 24 ++ h0) b j = if b = 106 ∧ 0 ≤ j ∧ j < 24 then rd h0 63 j else rd h0 b j := fun b j => rd_cp0 24
  have F1 : RF (cpyL h0 63 0 106 0 24 ++ h0) := RF_row (b := 106) (fun i => hav_nr (by decide +kernel) i) F0 (fun a i z => by rw [n1, if_neg (fun y => z y.1)])
  generalize cpyL h0 63 0 106 0 24 ++ h0 = h1 at *
  refine B_copyDay_23_102_59 F1 ?_
  have n2 : ∀ b j, rd (cpyL h1 64 0 107 0 24 ++ h1) b j = if b = 107 ∧ 0 ≤ j ∧ j < 24 then rd h1 64 j else rd h1 b j := fun b j => rd_cp0 24
  have F2 : RF (cpyL h1 64 0 107 0 24 ++ h1) := RF_row (b := 107) (fun i => hav_nr (by decide +kernel) i) F1 (fun a i z => by rw [n2, if_neg (fun y => z y.1)])
  generalize cpyL h1 64 0 107 0 24 ++ h1 = h2 at *
  refine B_copyDay_38_102_59 F2 (k h2 ⟨?_, fun i i0 i1 => ⟨?_, ?_⟩⟩ (fun a i m1 m2 m3 => by rw [n2, if_neg m3, n1, if_neg m2, n0 a i m1]))
  · rw [n2, if_neg (by omega), n1, if_neg (by omega)]
    exact m0
  · show rd h2 106 i = rd h 63 i
    rw [n2, if_neg (by omega), n1, if_pos ⟨rfl, i0, i1⟩, n0 _ _ (by omega)]
  · show rd h2 107 i = rd h 64 i
    rw [n2, if_pos ⟨rfl, i0, i1⟩, n1, if_neg (by omega), n0 _ _ (by omega)]
theorem F_cday_59_102 (hF : RF h) (k : ∀ g, dcq h g 102 59 → (∀ a i, ¬ (a = 59 ∧ i = 1) → ¬ (a = 63 ∧ 0 ≤ i ∧ i < 24) → ¬ (a = 64 ∧ 0 ≤ i ∧ i < 24) → rd g a i = rd h a i) → Q none g) : Rn xs xl e mm_Memory_copyDay 0 [some (.inr (.inr 59)), some (.inr (.inr 102))] [] h Q := by
  refine B_copyDay_0_59_102 hF ?_
  have n0 : ∀ b j, ¬ (b = 59 ∧ j = 1) → rd (wr h 59 1 (rd h 102 1)) b j = rd h b j := fun b j hn => by rw [rd_wr, if_neg (fun q => hn ⟨q.1.symm, q.2.symm⟩)]
  have m0 : rd (wr h 59 1 (rd h 102 1)) 59 1 = rd h 102 1 := rdw_eq
  have F0 : RF (wr h 59 1 (rd h 102 1)) := RF_wn (by decide +kernel) hF
  generalize wr h 59 1 (rd h 102 1) = h0 at *
  have n1 : ∀ b j, rd (cpyL h0 106 0 63 0 24 ++ h0) b j = if b = 63 ∧ 0 ≤ j ∧ j < 24 then rd h0 106 j else rd h0 b j := fun b j => rd_cp0 24
  have F1 : RF (cpyL h0 106 0 63 0 24 ++ h0) := RF_row (b := 63) (fun i => hav_nr (by decide +kernel) i) F0 (fun a i z => by rw [n1, if_neg (fun y => z y.1)])
  generalize cpyL h0 106 0 63 0 24 ++ h0 = h1 at *
  refine B_copyDay_23_59_102 F1 ?_
  have n2 : ∀ b j, rd (cpyL h1 107 0 64 0 24 ++ h1) b j = if b = 64 ∧ 0 ≤ j ∧ j < 24 then rd h1 107 j else rd h1 b j := fun b j => rd_cp0 24
  have F2 : RF (cpyL h1 107 0 64 0 24 ++ h1) := RF_row (b := 64) (fun i => hav_nr (by decide +kernel) i) F1 (fun a i z => by rw [n2, if_neg (fun y => z y.1)])
  generalize cpyL h1 107 0 64 0 24 ++ h1 = h2 at *
  refine B_copyDay_38_59_102 F2 (k h2 ⟨?_, fun i i0 i1 => ⟨?_, ?_⟩⟩ (fun a i m1 m2 m3 => by rw [n2, if_neg m3, n1, if_neg m2, n0 a i m1]))
  · rw [n2, if_neg (by omega), n1, if_neg (by omega)]
    exact m0
  · show rd h2 63 i = rd h 106 i
    rw [n2, if_neg (by omega), n1, if_pos ⟨rfl, i0, i1⟩, n0 _ _ (by omega)]
  · show rd h2 64 i = rd h 107 i
    rw [n2, if_pos ⟨rfl, i0, i1⟩, n1, if_neg (by omega), n0 _ _ (by omega)]
theorem F_cday_110_59 (hF : RF h) (k : ∀ g, dcq h g 59 110 → (∀ a i, ¬ (a = 110 ∧ i = 1) → ¬ (a = 114 ∧ 0 ≤ i ∧ i < 24) → ¬ (a = 115 ∧ 0 ≤ i ∧ i < 24) → rd g a i = rd h a i) → Q none g) : Rn xs xl e mm_Memory_copyDay 0 [some (.inr (.inr 110)), some (.inr (.inr 59))] [] h Q := by
  refine B_copyDay_0_110_59 hF ?_
  have n0 : ∀ b j, ¬ (b = 110 ∧ j = 1) → rd (wr h 110 1 (rd h 59 1)) b j = rd h b j := fun b j hn => by rw [rd_wr, if_neg (fun q => hn ⟨q.1.symm, q.2.symm⟩)]
  have m0 : rd (wr h 110 1 (rd h 59 1)) 110 1 = rd h 59 1 := rdw_eq
  have F0 : RF (wr h 110 1 (rd h 59 1)) := RF_wn (by decide +kernel) hF
  generalize wr h 110 1 (rd h 59 1) = h0 at *
  have n1 : ∀ b j, rd (cpyL h0 63 0 114 0 24 ++ h0) b j = if b = 114 ∧ 0 ≤ j ∧ j < 24 then rd h0 63 j else rd h0 b j := fun b j => rd_cp0 24
  have F1 : RF (cpyL h0 63 0 114 0 24 ++ h0) := RF_row (b := 114) (fun i => hav_nr (by decide +kernel) i) F0 (fun a i z => by rw [n1, if_neg (fun y => z y.1)])
  generalize cpyL h0 63 0 114 0 24 ++ h0 = h1 at *
  refine B_copyDay_23_110_59 F1 ?_
  have n2 : ∀ b j, rd (cpyL h1 64 0 115 0 24 ++ h1) b j = if b = 115 ∧ 0 ≤ j ∧ j < 24 then rd h1 64 j else rd h1 b j := fun b j => rd_cp0 24
  have F2 : RF (cpyL h1 64 0 115 0 24 ++ h1) := RF_row (b := 115) (fun i => hav_nr (by decide +kernel) i) F1 (fun a i z => by rw [n2, if_neg (fun y => z y.1)])
  generalize cpyL h1 64 0 115 0 24 ++ h1 = h2 at *
  refine B_copyDay_38_110_59 F2 (k h2 ⟨?_, fun i i0 i1 => ⟨?_, ?_⟩⟩ (fun a i m1 m2 m3 => by rw [n2, if_neg m3, n1, if_neg m2, n0 a i m1]))
  · rw [n2, if_neg (by omega), n1, if_neg (by omega)]
    exact m0
  · show rd h2 114 i = rd h 63 i
    rw [n2, if_neg (by omega), n1, if_pos ⟨rfl, i0, i1⟩, n0 _ _ (by omega)]
  · show rd h2 115 i = rd h 64 i
    rw [n2, if_pos ⟨rfl, i0, i1⟩, n1, if_neg (by omega), n0 _ _ (by omega)]
theorem F_cday_59_110 (hF : RF h) (k : ∀ g, dcq h g 110 59 → (∀ a i, ¬ (a = 59 ∧ i = 1) → ¬ (a = 63 ∧ 0 ≤ i ∧ i < 24) → ¬ (a = 64 ∧ 0 ≤ i ∧ i < 24) → rd g a i = rd h a i) → Q none g) : Rn xs xl e mm_Memory_copyDay 0 [some (.inr (.inr 59)), some (.inr (.inr 110))] [] h Q := by
  refine B_copyDay_0_59_110 hF ?_
  have n0 : ∀ b j, ¬ (b = 59 ∧ j = 1) → rd (wr h 59 1 (rd h 110 1)) b j = rd h b j := fun b j hn => by rw [rd_wr, if_neg (fun q => hn ⟨q.1.symm, q.2.symm⟩)]
  have m0 : rd (wr h 59 1 (rd h 110 1)) 59 1 = rd h 110 1 := rdw_eq
  have F0 : RF (wr h 59 1 (rd h 110 1)) := RF_wn (by decide +kernel) hF
  generalize wr h 59 1 (rd h 110 1) = h0 at *
  have n1 : ∀ b j, rd (cpyL h0 114 0 63 0 24 ++ h0) b j = if b = 63 ∧ 0 ≤ j ∧ j < 24 then rd h0 114 j else rd h0 b j := fun b j => rd_cp0 24
  have F1 : RF (cpyL h0 114 0 63 0 24 ++ h0) := RF_row (b := 63) (fun i => hav_nr (by decide +kernel) i) F0 (fun a i z => by rw [n1, if_neg (fun y => z y.1)])
  generalize cpyL h0 114 0 63 0 24 ++ h0 = h1 at *
  refine B_copyDay_23_59_110 F1 ?_
  have n2 : ∀ b j, rd (cpyL h1 115 0 64 0 24 ++ h1) b j = if b = 64 ∧ 0 ≤ j ∧ j < 24 then rd h1 115 j else rd h1 b j := fun b j => rd_cp0 24
  have F2 : RF (cpyL h1 115 0 64 0 24 ++ h1) := RF_row (b := 64) (fun i => hav_nr (by decide +kernel) i) F1 (fun a i z => by rw [n2, if_neg (fun y => z y.1)])
  generalize cpyL h1 115 0 64 0 24 ++ h1 = h2 at *
  refine B_copyDay_38_59_110 F2 (k h2 ⟨?_, fun i i0 i1 => ⟨?_, ?_⟩⟩ (fun a i m1 m2 m3 => by rw [n2, if_neg m3, n1, if_neg m2, n0 a i m1]))
  · rw [n2, if_neg (by omega), n1, if_neg (by omega)]
    exact m0
  · show rd h2 63 i = rd h 114 i
    rw [n2, if_neg (by omega), n1, if_pos ⟨rfl, i0, i1⟩, n0 _ _ (by omega)]
  · show rd h2 64 i = rd h 115 i
    rw [n2, if_pos ⟨rfl, i0, i1⟩, n1, if_neg (by omega), n0 _ _ (by omega)]
theorem F_cday_118_59 (hF : RF h) (k : ∀ g, dcq h g 59 118 → (∀ a i, ¬ (a = 118 ∧ i = 1) → ¬ (a = 122 ∧ 0 ≤ i ∧ i < 24) → ¬ (a = 123 ∧ 0 ≤ i ∧ i < 24) → rd g a i = rd h a i) → Q none g) : Rn xs xl e mm_Memory_copyDay 0 [some (.inr (.inr 118)), some (.inr (.inr 59))] [] h Q := by
  refine B_copyDay_0_118_59 hF ?_
  have n0 : ∀ b j, ¬ (b = 118 ∧ j = 1) → rd (wr h 118 1 (rd h 59 1)) b j = rd h b j := fun b j hn => by rw [rd_wr, if_neg (fun q => hn ⟨q.1.symm, q.2.symm⟩)]
  have m0 : rd (wr h 118 1 (rd h 59 1)) 118 1 = rd h 59 1 := rdw_eq
  have F0 : RF (wr h 118 1 (rd h 59 1)) := RF_wn (by decide +kernel) hF
  generalize wr h 118 1 (rd h 59 1) = h0 at *
  have n1 : ∀ b j, rd (cpyL h0 63 0 122 0 24 ++ h0) b j = if b = 122 ∧ 0 ≤ j ∧ j < 24 then rd h0 63 j else rd h0 b j := fun b j => rd_cp0 24
  have F1 : RF (cpyL h0 63 0 122 0 24 ++ h0) := RF_row (b := 122) (fun i => hav_nr (by decide +kernel) i) F0 (fun a i z => by rw [n1, if_neg (fun y => z y.1)])
  generalize cpyL h0 63 0 122 0 24 ++ h0 = h1 at *
  refine B_copyDay_23_118_59 F1 ?_
  have n2 : ∀ b j, rd (cpyL h1 64 0 123 0 24 ++ h1) b j = if b = 123 ∧ 0 ≤ j ∧ j < 24 then rd h1 64 j else rd h1 b j := fun b j => rd_cp0 24
  have F2 : RF (cpyL h1 64 0 123 0 24 ++ h1) := RF_row (b := 123) (fun i => hav_nr (by decide +kernel) i) F1 (fun a i z => by rw [n2, if_neg (fun y => z y.1)])
  generalize cpyL h1 64 0 123 0 24 ++ h1 = h2 at *
  refine B_copyDay_38_118_59 F2 (k h2 ⟨?_, fun i i0 i1 => ⟨?_, ?_⟩⟩ (fun a i m1 m2 m3 => by rw [n2, if_neg m3, n1, if_neg m2, n0 a i m1]))
  · rw [n2, if_neg (by omega), n1, if_neg (by omega)]
    exact m0
  · show rd h2 122 i = rd h 63 i
    rw [n2, if_neg (by omega), n1, if_pos ⟨rfl, i0, i1⟩, n0 _ _ (by omega)]
  · show rd h2 123 i = rd h 64 i
    rw [n2, if_pos ⟨rfl, i0, i1⟩, n1, if_neg (by omega), n0 _ _ (by omega)]
theorem F_cday_59_118 (hF : RF h) (k : ∀ g, dcq h g 118 59 → (∀ a i, ¬ (a = 59 ∧ i = 1) → ¬ (a = 63 ∧ 0 ≤ i ∧ i < 24) → ¬ (a = 64 ∧ 0 ≤ i ∧ i < 24) → rd g a i = rd h a i) → Q none g) : Rn xs xl e mm_Memory_copyDay 0 [some (.inr (.inr 59)), some (.inr (.inr 118))] [] h Q := by
  refine B_copyDay_0_59_118 hF ?_
  have n0 : ∀ b j, ¬ (b = 59 ∧ j = 1) → rd (wr h 59 1 (rd h 118 1)) b j = rd h b j := fun b j hn => by rw [rd_wr, if_neg (fun q => hn ⟨q.1.symm, q.2.symm⟩)]
  have m0 : rd (wr h 59 1 (rd h 118 1)) 59 1 = rd h 118 1 := rdw_eq
  have F0 : RF (wr h 59 1 (rd h 118 1)) := RF_wn (by decide +kernel) hF
  generalize wr h 59 1 (rd h 118 1) = h0 at *
  have n1 : ∀ b j, rd (cpyL h0 122 0 63 0 24 ++ h0) b j = if b = 63 ∧ 0 ≤ j ∧ j < 24 then rd h0 122 j else rd h0 b j := fun b j => rd_cp0 24
  have F1 : RF (cpyL h0 122 0 63 0 24 ++ h0) := RF_row (b := 63) (fun i => hav_nr (by decide +kernel) i) F0 (fun a i z => by rw [n1, if_neg (fun y => z y.1)])
  generalize cpyL h0 122 0 63 0 24 ++ h0 = h1 at *
  refine B_copyDay_23_59_118 F1 ?_
  have n2 : ∀ b j, rd (cpyL h1 123 0 64 0 24 ++ h1) b j = if b = 64 ∧ 0 ≤ j ∧ j < 24 then rd h1 123 j else rd h1 b j := fun b j => rd_cp0 24
  have F2 : RF (cpyL h1 123 0 64 0 24 ++ h1) := RF_row (b := 64) (fun i => hav_nr (by decide +kernel) i) F1 (fun a i z => by rw [n2, if_neg (fun y => z y.1)])
  generalize cpyL h1 123 0 64 0 24 ++ h1 = h2 at *
  refine B_copyDay_38_59_118 F2 (k h2 ⟨?_, fun i i0 i1 => ⟨?_, ?_⟩⟩ (fun a i m1 m2 m3 => by rw [n2, if_neg m3, n1, if_neg m2, n0 a i m1]))
  · rw [n2, if_neg (by omega), n1, if_neg (by omega)]
    exact m0
  · show rd h2 63 i = rd h 122 i
    rw [n2, if_neg (by omega), n1, if_pos ⟨rfl, i0, i1⟩, n0 _ _ (by omega)]
  · show rd h2 64 i = rd h 123 i
    rw [n2, if_pos ⟨rfl, i0, i1⟩, n1, if_neg (by omega), n0 _ _ (by omega)]
theorem F_cday_126_59 (hF : RF h) (k : ∀ g, dcq h g 59 126 → (∀ a i, ¬ (a = 126 ∧ i = 1) → ¬ (a = 130 ∧ 0 ≤ i ∧ i < 24) → ¬ (a = 131 ∧ 0 ≤ i ∧ i < 24) → rd g a i = rd h a i) → Q none g) : Rn xs xl e mm_Memory_copyDay 0 [some (.inr (.inr 126)), some (.inr (.inr 59))] [] h Q := by
  refine B_copyDay_0_126_59 hF ?_
  have n0 : ∀ b j, ¬ (b = 126 ∧ j = 1) → rd (wr h 126 1 (rd h 59 1)) b j = rd h b j := fun b j hn => by rw [rd_wr, if_neg (fun q => hn ⟨q.1.symm, q.2.symm⟩)]
  have m0 : rd (wr h 126 1 (rd h 59 1)) 126 1 = rd h 59 1 := rdw_eq
  have F0 : RF (wr h 126 1 (rd h 59 1)) := RF_wn (by decide +kernel) hF
  generalize wr h 126 1 (rd h 59 1) = h0 at *
  have n1 : ∀ b j, rd (cpyL h0 63 0 130 0 24 ++ h0) b j = if b = 130 ∧ 0 ≤ j ∧ j < 24 then rd h0 63 j else rd h0 b j := fun b j => rd_cp0 24
  have F1 : RF (cpyL h0 63 0 130 0 24 ++ h0) := RF_row (b := 130) (fun i => hav_nr (by decide +kernel) i) F0 (fun a i z => by rw [n1, if_neg (fun y => z y.1)])
  generalize cpyL h0 63 0 130 0 24 ++ h0 = h1 at *
  refine B_copyDay_23_126_59 F1 ?_
  have n2 : ∀ b j, rd (cpyL h1 64 0 131 0 24 ++ h1) b j = if b = 131 ∧ 0 ≤ j ∧ j < 24 then rd h1 64 j else rd h1 b j := fun b j => rd_cp0 24
  have F2 : RF (cpyL h1 64 0 131 0 24 ++ h1) := RF_row (b := 131) (fun i => hav_nr (by decide +kernel) i) F1 (fun a i z => by rw [n2, if_neg (fun y => z y.1)])
  generalize cpyL h1 64 0 131 0 24 ++ h1 = h2 at *
  refine B_copyDay_38_126_59 F2 (k h2 ⟨?_, fun i i0 i1 => ⟨?_, ?_⟩⟩ (fun a i m1 m2 m3 => by rw [n2, if_neg m3, n1, if_neg m2, n0 a i m1]))
  · rw [n2, if_neg (by omega), n1, if_neg (by omega)]
    exact m0
  · show rd h2 130 i = rd h 63 i
    rw [n2, if_neg (by omega), n1, if_pos ⟨rfl, i0, i1⟩, n0 _ _ (by omega)]
  · show rd h2 131 i = rd h 64 i
    rw [n2, if_pos ⟨rfl, i0, i1⟩, n1, if_neg (by omega), n0 _ _ (by omega)]
theorem F_cday_59_126 (hF : RF h) (k : ∀ g, dcq h g 126 59 → (∀ a i, ¬ (a = 59 ∧ i = 1) → ¬ (a = 63 ∧ 0 ≤ i ∧ i < 24) → ¬ (a = 64 ∧ 0 ≤ i ∧ i < 24) → rd g a i = rd h a i) → Q none g) : Rn xs xl e mm_Memory_copyDay 0 [some (.inr (.inr 59)), some (.inr (.inr 126))] [] h Q := by
  refine B_copyDay_0_59_126 hF ?_
  have n0 : ∀ b j, ¬ (b = 59 ∧ j = 1) → rd (wr h 59 1 (rd h 126 1)) b j = rd h b j := fun b j hn => by rw [rd_wr, if_neg (fun q => hn ⟨q.1.symm, q.2.symm⟩)]
  have m0 : rd (wr h 59 1 (rd h 126 1)) 59 1 = rd h 126 1 := rdw_eq
  have F0 : RF (wr h 59 1 (rd h 126 1)) := RF_wn (by decide +kernel) hF
  generalize wr h 59 1 (rd h 126 1) = h0 at *
  have n1 : ∀ b j, rd (cpyL h0 130 0 63 0 24 ++ h0) b j = if b = 63 ∧ 0 ≤ j ∧ j < 24 then rd h0 130 j else rd h0 b j := fun b j => rd_cp0 24
  have F1 : RF (cpyL h0 130 0 63 0 24 ++ h0) := RF_row (b := 63) (fun i => hav_nr (by decide +kernel) i) F0 (fun a i z => by rw [n1, if_neg (fun y => z y.1)])
  generalize cpyL h0 130 0 63 0 24 ++ h0 = h1 at *
  refine B_copyDay_23_59_126 F1 ?_
  have n2 : ∀ b j, rd (cpyL h1 131 0 64 0 24 ++ h1) b j = if b = 64 ∧ 0 ≤ j ∧ j < 24 then rd h1 131 j else rd h1 b j := fun b j => rd_cp0 24
  have F2 : RF (cpyL h1 131 0 64 0 24 ++ h1) := RF_row (b := 64) (fun i => hav_nr (by decide +kernel) i) F1 (fun a i z => by rw [n2, if_neg (fun y => z y.1)])
  generalize cpyL h1 131 0 64 0 24 ++ h1 = h2 at *
  refine B_copyDay_38_59_126 F2 (k h2 ⟨?_, fun i i0 i1 => ⟨?_, ?_⟩⟩ (fun a i m1 m2 m3 => by rw [n2, if_neg m3, n1, if_neg m2, n0 a i m1]))
  · rw [n2, if_neg (by omega), n1, if_neg (by omega)]
    exact m0
  · show rd h2 63 i = rd h 130 i
    rw [n2, if_neg (by omega), n1, if_pos ⟨rfl, i0, i1⟩, n0 _ _ (by omega)]
  · show rd h2 64 i = rd h 131 i
    rw [n2, if_pos ⟨rfl, i0, i1⟩, n1, if_neg (by omega), n0 _ _ (by omega)]
theorem D_copyM_102_59 (he : 2 ≤ e) (hI : INV h) (k : ∀ g, INV g → (∀ a i, ¬ (102 ≤ a ∧ a ≤ 109 ∧ 0 ≤ i ∧ i ≤ 23) → rd g a i = rd h a i) → mcq h g 59 102 → Q none g) : Rn xs xl e mm_Memory_copy 0 [some (.inr (.inr 102)), some (.inr (.inr 59))] [] h Q := by
  have A : Rn xs xl 1 mm_Scene_copy 0 [some (.inr (.inr 103)), some (.inr (.inr 60))] [] h (fun r g => r = none ∧ scq h g 60 103 ∧ scf 103 h g) := F_scopy (by unfold scn; omega) (by decide) (by unfold scn; omega) (by decide) (RF_of hI.1) (fun g a b _ => ⟨rfl, a, b⟩)
  have B : Rn xs xl 1 mm_Scene_copy 0 [some (.inr (.inr 103)), some (.inr (.inr 60))] [] h (fun r g => INV g) := K_copy_102 (Nat.le_refl 1) hI (fun g i _ => i)
  refine B_copy_0_102_59 (RF_of hI.1) ⟨1, by omega, (A.and B).mono (fun r h1 z => ?_)⟩
  obtain ⟨⟨rfl, sq, sf⟩, i1⟩ := z
  have C : Rn xs xl 0 mm_Memory_copyDay 0 [some (.inr (.inr 102)), some (.inr (.inr 59))] [] h1 (fun r g => r = none ∧ dcq h1 g 59 102 ∧ (∀ a i, ¬ (a = 102 ∧ i = 1) → ¬ (a = 106 ∧ 0 ≤ i ∧ i < 24) → ¬ (a = 107 ∧ 0 ≤ i ∧ i < 24) → rd g a i = rd h1 a i)) := F_cday_102_59 (RF_of i1.1) (fun g a b => ⟨rfl, a, b⟩)
  have D : Rn xs xl 0 mm_Memory_copyDay 0 [some (.inr (.inr 102)), some (.inr (.inr 59))] [] h1 (fun r g => INV g) := D_copyDay_102_59 i1 (fun g i _ => i)
  refine B_copy_11_102_59 (RF_of i1.1) ⟨0, by omega, (C.and D).mono (fun r h2 z => ?_)⟩
  obtain ⟨⟨rfl, dq, df⟩, i2⟩ := z
  refine B_copy_16_102_59 (RF_of i2.1) ?_
  have l4 := rG_59_4 i2.1
  have l7 := rG_59_7 i2.1
  have i3 := wG_102_7 (wG_102_4 i2 (v := rd h2 59 4) (by omega) (by omega)) (v := rd h2 59 7) (by omega) (by omega)
  have n3 : ∀ b j, ¬ (b = 102 ∧ (j = 4 ∨ j = 7)) → rd (wr (wr h2 102 4 (rd h2 59 4)) 102 7 (rd h2 59 7)) b j = rd h2 b j := fun b j hn => by rw [rd_wr, if_neg (by omega), rd_wr, if_neg (by omega)]
  have w4 : rd (wr (wr h2 102 4 (rd h2 59 4)) 102 7 (rd h2 59 7)) 102 4 = rd h2 59 4 := (rdw_nei (by decide)).trans rdw_eq
  have w7 : rd (wr (wr h2 102 4 (rd h2 59 4)) 102 7 (rd h2 59 7)) 102 7 = rd h2 59 7 := rdw_eq
  generalize wr (wr h2 102 4 (rd h2 59 4)) 102 7 (rd h2 59 7) = h3 at *
  have r4 : RNG (cpyL h3 65 0 108 0 10 ++ h3) := RNG_cpk (n := 10) (fun f j hj hf => by
    have q := rB_65 i3.1 (i := 0 + (j : Int)) (by omega)
    exact wS_108 hf (by omega) (by omega)) i3.1 10 (Nat.le_refl _)
  have n4 : ∀ b j, rd (cpyL h3 65 0 108 0 10 ++ h3) b j = if b = 108 ∧ 0 ≤ j ∧ j < 10 then rd h3 65 j else rd h3 b j := fun b j => rd_cp0 10
  generalize cpyL h3 65 0 108 0 10 ++ h3 = h4 at *
  have i4 : INV h4 := ⟨r4, SP_of (fun b j hb => by rw [n4, if_neg (by unfold sens at hb; omega)]) i3.2⟩
  refine B_copy_47_102_59 (RF_of i4.1) ?_
  have r5 : RNG (cpyL h4 66 0 109 0 10 ++ h4) := RNG_cpk (n := 10) (fun f j hj hf => by
    have q := rB_66 i4.1 (i := 0 + (j : Int)) (by omega)
    exact wS_109 hf (by omega) (by omega)) i4.1 10 (Nat.le_refl _)
  have n5 : ∀ b j, rd (cpyL h4 66 0 109 0 10 ++ h4) b j = if b = 109 ∧ 0 ≤ j ∧ j < 10 then rd h4 66 j else rd h4 b j := fun b j => rd_cp0 10
  generalize cpyL h4 66 0 109 0 10 ++ h4 = h5 at *
  have i5 : INV h5 := ⟨r5, SP_of (fun b j hb => by rw [n5, if_neg (by unfold sens at hb; omega)]) i4.2⟩
  have f5 : ∀ a i, ¬ (a = 102 ∧ (i = 4 ∨ i = 7)) → ¬ (a = 108 ∧ 0 ≤ i ∧ i < 10) → ¬ (a = 109 ∧ 0 ≤ i ∧ i < 10) → rd h5 a i = rd h2 a i := fun a i m1 m2 m3 => by rw [n5, if_neg m3, n4, if_neg m2, n3 a i m1]
  have f2 : ∀ a i, ¬ (a = 102 ∧ i = 1) → ¬ (a = 106 ∧ 0 ≤ i ∧ i < 24) → ¬ (a = 107 ∧ 0 ≤ i ∧ i < 24) → ¬ scp 103 a i → rd h2 a i = rd h a i := fun a i m1 m2 m3 m4 => (df a i m1 m2 m3).trans (sf a i m4)
  have sN : ∀ a i, (a = 59 ∨ (63 ≤ a ∧ a ≤ 66)) → rd h1 a i = rd h a i := fun a i ha => sf a i (by unfold scp; omega)
  refine B_copy_62_102_59 (RF_of i5.1) (k h5 i5 (fun a i hn => ?_) ⟨⟨?_, fun i i0 i1 => ⟨?_, ?_⟩⟩, ⟨fun i i0 i1 => ?_, fun i i0 i1 => ?_, fun i i0 i1 => ?_⟩, ⟨?_, ?_⟩, fun i i0 i1 => ⟨?_, ?_⟩⟩)
  · rw [f5 a i (by omega) (by omega) (by omega)]
    exact f2 a i (by omega) (by omega) (by omega) (by unfold scp; omega)
  · rw [f5 102 1 (by decide) (by decide) (by decide), dq.1]
    exact sN _ _ (by decide)
  · rw [f5 (102 + 4) i (by omega) (by omega) (by omega), (dq.2 i i0 i1).1]
    exact sN _ _ (by omega)
  · rw [f5 (102 + 5) i (by omega) (by omega) (by omega), (dq.2 i i0 i1).2]
    exact sN _ _ (by omega)
  · rw [f5 (102 + 1) i (by omega) (by omega) (by omega), df _ _ (by omega) (by omega) (by omega)]
    exact sq.1 i i0 i1
  · rw [f5 (102 + 1 + 1) i (by omega) (by omega) (by omega), df _ _ (by omega) (by omega) (by omega)]
    exact sq.2.1 i i0 i1
  · rw [f5 (102 + 1 + 2) i (by omega) (by omega) (by omega), df _ _ (by omega) (by omega) (by omega)]
    exact sq.2.2 i i0 i1
  · rw [n5, if_neg (by omega), n4, if_neg (by omega), w4]
    exact f2 _ _ (by omega) (by omega) (by omega) (by unfold scp; omega)
  · rw [n5, if_neg (by omega), n4, if_neg (by omega), w7]
    exact f2 _ _ (by omega) (by omega) (by omega) (by unfold scp; omega)
  · show rd h5 108 i = rd h 65 i
    rw [n5, if_neg (by omega), n4, if_pos ⟨rfl, i0, i1⟩, n3 _ _ (by omega)]
    exact f2 _ _ (by omega) (by omega) (by omega) (by unfold scp; omega)
  · show rd h5 109 i = rd h 66 i
    rw [n5, if_pos ⟨rfl, i0, i1⟩, n4, if_neg (by omega), n3 _ _ (by omega)]
    exact f2 _ _ (by omega) (by omega) (by omega) (by unfold scp; omega)
theorem D_copyM_59_102 (he : 2 ≤ e) (hI : INV h) (k : ∀ g, INV g → (∀ a i, ¬ (59 ≤ a ∧ a ≤ 66 ∧ 0 ≤ i ∧ i ≤ 23) → rd g a i = rd h a i) → mcq h g 102 59 → Q none g) : Rn xs xl e mm_Memory_copy 0 [some (.inr (.inr 59)), some (.inr (.inr 102))] [] h Q := by
  have A : Rn xs xl 1 mm_Scene_copy 0 [some (.inr (.inr 60)), some (.inr (.inr 103))] [] h (fun r g => r = none ∧ scq h g 103 60 ∧ scf 60 h g) := F_scopy (by unfold scn; omega) (by decide) (by unfold scn; omega) (by decide) (RF_of hI.1) (fun g a b _ => ⟨rfl, a, b⟩)
  have B : Rn xs xl 1 mm_Scene_copy 0 [some (.inr (.inr 60)), some (.inr (.inr 103))] [] h (fun r g => INV g) := K_copyB_102 (Nat.le_refl 1) hI (fun g i _ => i)
  refine B_copy_0_59_102 (RF_of hI.1) ⟨1, by omega, (A.and B).mono (fun r h1 z => ?_)⟩
  obtain ⟨⟨rfl, sq, sf⟩, i1⟩ := z
  have C : Rn xs xl 0 mm_Memory_copyDay 0 [some (.inr (.inr 59)), some (.inr (.inr 102))] [] h1 (fun r g => r = none ∧ dcq h1 g 102 59 ∧ (∀ a i, ¬ (a = 59 ∧ i = 1) → ¬ (a = 63 ∧ 0 ≤ i ∧ i < 24) → ¬ (a = 64 ∧ 0 ≤ i ∧ i < 24) → rd g a i = rd h1 a i)) := F_cday_59_102 (RF_of i1.1) (fun g a b => ⟨rfl, a, b⟩)
  have D : Rn xs xl 0 mm_Memory_copyDay 0 [some (.inr (.inr 59)), some (.inr (.inr 102))] [] h1 (fun r g => INV g) := D_copyDay_59_102 i1 (fun g i _ => i)
  refine B_copy_11_59_102 (RF_of i1.1) ⟨0, by omega, (C.and D).mono (fun r h2 z => ?_)⟩
  obtain ⟨⟨rfl, dq, df⟩, i2⟩ := z
  refine B_copy_16_59_102 (RF_of i2.1) ?_
  have l4 := rG_102_4 i2.1
  have l7 := rG_102_7 i2.1
  have i3 := wG_59_7 (wG_59_4 i2 (v := rd h2 102 4) (by omega) (by omega)) (v := rd h2 102 7) (by omega) (by omega)
  have n3 : ∀ b j, ¬ (b = 59 ∧ (j = 4 ∨ j = 7)) → rd (wr (wr h2 59 4 (rd h2 102 4)) 59 7 (rd h2 102 7)) b j = rd h2 b j := fun b j hn => by rw [rd_wr, if_neg (by omega), rd_wr, if_neg (by omega)]
  have w4 : rd (wr (wr h2 59 4 (rd h2 102 4)) 59 7 (rd h2 102 7)) 59 4 = rd h2 102 4 := (rdw_nei (by decide)).trans rdw_eq
  have w7 : rd (wr (wr h2 59 4 (rd h2 102 4)) 59 7 (rd h2 102 7)) 59 7 = rd h2 102 7 := rdw_eq
  generalize wr (wr h2 59 4 (rd h2 102 4)) 59 7 (rd h2 102 7) = h3 at *
  have r4 : RNG (cpyL h3 108 0 65 0 10 ++ h3) := RNG_cpk (n := 10) (fun f j hj hf => by
    have q := rB_108 i3.1 (i := 0 + (j : Int)) (by omega)
    exact wS_65 hf (by omega) (by omega)) i3.1 10 (Nat.le_refl _)
  have n4 : ∀ b j, rd (cpyL h3 108 0 65 0 10 ++ h3) b j = if b = 65 ∧ 0 ≤ j ∧ j < 10 then rd h3 108 j else rd h3 b j := fun b j => rd_cp0 10
  generalize cpyL h3 108 0 65 0 10 ++ h3 = h4 at *
  have i4 : INV h4 := ⟨r4, SP_of (fun b j hb => by rw [n4, if_neg (by unfold sens at hb; omega)]) i3.2⟩
  refine B_copy_47_59_102 (RF_of i4.1) ?_
  have r5 : RNG (cpyL h4 109 0 66 0 10 ++ h4) := RNG_cpk (n := 10) (fun f j hj hf => by
    have q := rB_109 i4.1 (i := 0 + (j : Int)) (by omega)
    exact wS_66 hf (by omega) (by omega)) i4.1 10 (Nat.le_refl _)
  have n5 : ∀ b j, rd (cpyL h4 109 0 66 0 10 ++ h4) b j = if b = 66 ∧ 0 ≤ j ∧ j < 10 then rd h4 109 j else rd h4 b j := fun b j => rd_cp0 10
  generalize cpyL h4 109 0 66 0 10 ++ h4 = h5 at *
  have i5 : INV h5 := ⟨r5, SP_of (fun b j hb => by rw [n5, if_neg (by unfold sens at hb; omega)]) i4.2⟩
  have f5 : ∀ a i, ¬ (a = 59 ∧ (i = 4 ∨ i = 7)) → ¬ (a = 65 ∧ 0 ≤ i ∧ i < 10) → ¬ (a = 66 ∧ 0 ≤ i ∧ i < 10) → rd h5 a i = rd h2 a i := fun a i m1 m2 m3 => by rw [n5, if_neg m3, n4, if_neg m2, n3 a i m1]
  have f2 : ∀ a i, ¬ (a = 59 ∧ i = 1) → ¬ (a = 63 ∧ 0 ≤ i ∧ i < 24) → ¬ (a = 64 ∧ 0 ≤ i ∧ i < 24) → ¬ scp 60 a i → rd h2 a i = rd h a i := fun a i m1 m2 m3 m4 => (df a i m1 m2 m3).trans (sf a i m4)
  have sN : ∀ a i, (a = 102 ∨ (106 ≤ a ∧ a ≤ 109)) → rd h1 a i = rd h a i := fun a i ha => sf a i (by unfold scp; omega)
  refine B_copy_62_59_102 (RF_of i5.1) (k h5 i5 (fun a i hn => ?_) ⟨⟨?_, fun i i0 i1 => ⟨?_, ?_⟩⟩, ⟨fun i i0 i1 => ?_, fun i i0 i1 => ?_, fun i i0 i1 => ?_⟩, ⟨?_, ?_⟩, fun i i0 i1 => ⟨?_, ?_⟩⟩)
  · rw [f5 a i (by omega) (by omega) (by omega)]
    exact f2 a i (by omega) (by omega) (by omega) (by unfold scp; omega)
  · rw [f5 59 1 (by decide) (by decide) (by decide), dq.1]
    exact sN _ _ (by decide)
  · rw [f5 (59 + 4) i (by omega) (by omega) (by omega), (dq.2 i i0 i1).1]
    exact sN _ _ (by omega)
  · rw [f5 (59 + 5) i (by omega) (by omega) (by omega), (dq.2 i i0 i1).2]
    exact sN _ _ (by omega)
  · rw [f5 (59 + 1) i (by omega) (by omega) (by omega), df _ _ (by omega) (by omega) (by omega)]
    exact sq.1 i i0 i1
  · rw [f5 (59 + 1 + 1) i (by omega) (by omega) (by omega), df _ _ (by omega) (by omega) (by omega)]
    exact sq.2.1 i i0 i1
  · rw [f5 (59 + 1 + 2) i (by omega) (by omega) (by omega), df _ _ (by omega) (by omega) (by omega)]
    exact sq.2.2 i i0 i1
  · rw [n5, if_neg (by omega), n4, if_neg (by omega), w4]
    exact f2 _ _ (by omega) (by omega) (by omega) (by unfold scp; omega)
  · rw [n5, if_neg (by omega), n4, if_neg (by omega), w7]
    exact f2 _ _ (by omega) (by omega) (by omega) (by unfold scp; omega)
  · show rd h5 65 i = rd h 108 i
    rw [n5, if_neg (by omega), n4, if_pos ⟨rfl, i0, i1⟩, n3 _ _ (by omega)]
    exact f2 _ _ (by omega) (by omega) (by omega) (by unfold scp; omega)
  · show rd h5 66 i = rd h 109 i
    rw [n5, if_pos ⟨rfl, i0, i1⟩, n4, if_neg (by omega), n3 _ _ (by omega)]
    exact f2 _ _ (by omega) (by omega) (by omega) (by unfold scp; omega)
theorem D_copyM_110_59 (he : 2 ≤ e) (hI : INV h) (k : ∀ g, INV g → (∀ a i, ¬ (110 ≤ a ∧ a ≤ 117 ∧ 0 ≤ i ∧ i ≤ 23) → rd g a i = rd h a i) → mcq h g 59 110 → Q none g) : Rn xs xl e mm_Memory_copy 0 [some (.inr (.inr 110)), some (.inr (.inr 59))] [] h Q := by
  have A : Rn xs xl 1 mm_Scene_copy 0 [some (.inr (.inr 111)), some (.inr (.inr 60))] [] h (fun r g => r = none ∧ scq h g 60 111 ∧ scf 111 h g) := F_scopy (by unfold scn; omega) (by decide) (by unfold scn; omega) (by decide) (RF_of hI.1) (fun g a b _ => ⟨rfl, a, b⟩)
  have B : Rn xs xl 1 mm_Scene_copy 0 [some (.inr (.inr 111)), some (.inr (.inr 60))] [] h (fun r g => INV g) := K_copy_110 (Nat.le_refl 1) hI (fun g i _ => i)
  refine B_copy_0_110_59 (RF_of hI.1) ⟨1, by omega, (A.and B).mono (fun r h1 z => ?_)⟩
  obtain ⟨⟨rfl, sq, sf⟩, i1⟩ := z
  have C : Rn xs xl 0 mm_Memory_copyDay 0 [some (.inr (.inr 110)), some (.inr (.inr 59))] [] h1 (fun r g => r = none ∧ dcq h1 g 59 110 ∧ (∀ a i, ¬ (a = 110 ∧ i = 1) → ¬ (a = 114 ∧ 0 ≤ i ∧ i < 24) → ¬ (a = 115 ∧ 0 ≤ i ∧ i < 24) → rd g a i = rd h1 a i)) := F_cday_110_59 (RF_of i1.1) (fun g a b => ⟨rfl, a, b⟩)
  have D : Rn xs xl 0 mm_Memory_copyDay 0 [some (.inr (.inr 110)), some (.inr (.inr 59))] [] h1 (fun r g => INV g) := D_copyDay_110_59 i1 (fun g i _ => i)
  refine B_copy_11_110_59 (RF_of i1.1) ⟨0, by omega, (C.and D).mono (fun r h2 z => ?_)⟩
  obtain ⟨⟨rfl, dq, df⟩, i2⟩ := z
  refine B_copy_16_110_59 (RF_of i2.1) ?_
  have l4 := rG_59_4 i2.1
  have l7 := rG_59_7 i2.1
  have i3 := wG_110_7 (wG_110_4 i2 (v := rd h2 59 4) (by omega) (by omega)) (v := rd h2 59 7) (by omega) (by omega)
  have n3 : ∀ b j, ¬ (b = 110 ∧ (j = 4 ∨ j = 7)) → rd (wr (wr h2 110 4 (rd h2 59 4)) 110 7 (rd h2 59 7)) b j = rd h2 b j := fun b j hn => by rw [rd_wr, if_neg (by omega), rd_wr, if_neg (by omega)]
  have w4 : rd (wr (wr h2 110 4 (rd h2 59 4)) 110 7 (rd h2 59 7)) 110 4 = rd h2 59 4 := (rdw_nei (by decide)).trans rdw_eq
  have w7 : rd (wr (wr h2 110 4 (rd h2 59 4)) 110 7 (rd h2 59 7)) 110 7 = rd h2 59 7 := rdw_eq
  generalize wr (wr h2 110 4 (rd h2 59 4)) 110 7 (rd h2 59 7) = h3 at *
  have r4 : RNG (cpyL h3 65 0 116 0 10 ++ h3) := RNG_cpk (n := 10) (fun f j hj hf => by
    have q := rB_65 i3.1 (i := 0 + (j : Int)) (by omega)
    exact wS_116 hf (by omega) (by omega)) i3.1 10 (Nat.le_refl _)
  have n4 : ∀ b j, rd (cpyL h3 65 0 116 0 10 ++ h3) b j = if b = 116 ∧ 0 ≤ j ∧ j < 10 then rd h3 65 j else rd h3 b j := fun b j => rd_cp0 10
  generalize cpyL h3 65 0 116 0 10 ++ h3 = h4 at *
  have i4 : INV h4 := ⟨r4, SP_of (fun b j hb => by rw [n4, if_neg (by unfold sens at hb; omega)]) i3.2⟩
  refine B_copy_47_110_59 (RF_of i4.1) ?_
  have r5 : RNG (cpyL h4 66 0 117 0 10 ++ h4) := RNG_cpk (n := 10) (fun f j hj hf => by
    have q := rB_66 i4.1 (i := 0 + (j : Int)) (by omega)
    exact wS_117 hf (by omega) (by omega)) i4.1 10 (Nat.le_refl _)
  have n5 : ∀ b j, rd (cpyL h4 66 0 117 0 10 ++ h4) b j = if b = 117 ∧ 0 ≤ j ∧ j < 10 then rd h4 66 j else rd h4 b j := fun b j => rd_cp0 10
  generalize cpyL h4 66 0 117 0 10 ++ h4 = h5 at *
  have i5 : INV h5 := ⟨r5, SP_of (fun b j hb => by rw [n5, if_neg (by unfold sens at hb; omega)]) i4.2⟩
  have f5 : ∀ a i, ¬ (a = 110 ∧ (i = 4 ∨ i = 7)) → ¬ (a = 116 ∧ 0 ≤ i ∧ i < 10) → ¬ (a = 117 ∧ 0 ≤ i ∧ i < 10) → rd h5 a i = rd h2 a i := fun a i m1 m2 m3 => by rw [n5, if_neg m3, n4, if_neg m2, n3 a i m1]
  have f2 : ∀ a i, ¬ (a = 110 ∧ i = 1) → ¬ (a = 114 ∧ 0 ≤ i ∧ i < 24) → ¬ (a = 115 ∧ 0 ≤ i ∧ i < 24) → ¬ scp 111 a i → rd h2 a i = rd h a i := fun a i m1 m2 m3 m4 => (df a i m1 m2 m3).trans (sf a i m4)
  have sN : ∀ a i, (a = 59 ∨ (63 ≤ a ∧ a ≤ 66)) → rd h1 a i = rd h a i := fun a i ha => sf a i (by unfold scp; omega)
  refine B_copy_62_110_59 (RF_of i5.1) (k h5 i5 (fun a i hn => ?_) ⟨⟨?_, fun i i0 i1 => ⟨?_, ?_⟩⟩, ⟨fun i i0 i1 => ?_, fun i i0 i1 => ?_, fun i i0 i1 => ?_⟩, ⟨?_, ?_⟩, fun i i0 i1 => ⟨?_, ?_⟩⟩)
  · rw [f5 a i (by omega) (by omega) (by omega)]
    exact f2 a i (by omega) (by omega) (by omega) (by unfold scp; omega)
  · rw [f5 110 1 (by decide) (by decide) (by decide), dq.1]
    exact sN _ _ (by decide)
  · rw [f5 (110 + 4) i (by omega) (by omega) (by omega), (dq.2 i i0 i1).1]
    exact sN _ _ (by omega)
  · rw [f5 (110 + 5) i (by omega) (by omega) (by omega), (dq.2 i i0 i1).2]
    exact sN _ _ (by omega)
  · rw [f5 (110 + 1) i (by omega) (by omega) (by omega), df _ _ (by omega) (by omega) (by omega)]
    exact sq.1 i i0 i1
  · rw [f5 (110 + 1 + 1) i (by omega) (by omega) (by omega), df _ _ (by omega) (by omega) (by omega)]
    exact sq.2.1 i i0 i1
  · rw [f5 (110 + 1 + 2) i (by omega) (by omega) (by omega), df _ _ (by omega) (by omega) (by omega)]
    exact sq.2.2 i i0 i1
  · rw [n5, if_neg (by omega), n4, if_neg (by omega), w4]
    exact f2 _ _ (by omega) (by omega) (by omega) (by unfold scp; omega)
  · rw [n5, if_neg (by omega), n4, if_neg (by omega), w7]
    exact f2 _ _ (by omega) (by omega) (by omega) (by unfold scp; omega)
  · show rd h5 116 i = rd h 65 i
    rw [n5, if_neg (by omega), n4, if_pos ⟨rfl, i0, i1⟩, n3 _ _ (by omega)]
    exact f2 _ _ (by omega) (by omega) (by omega) (by unfold scp; omega)
  · show rd h5 117 i = rd h 66 i
    rw [n5, if_pos ⟨rfl, i0, i1⟩, n4, if_neg (by omega), n3 _ _ (by omega)]
    exact f2 _ _ (by omega) (by omega) (by omega) (by unfold scp; omega)
theorem D_copyM_59_110 (he : 2 ≤ e) (hI : INV h) (k : ∀ g, INV g → (∀ a i, ¬ (59 ≤ a ∧ a ≤ 66 ∧ 0 ≤ i ∧ i ≤ 23) → rd g a i = rd h a i) → mcq h g 110 59 → Q none g) : Rn xs xl e mm_Memory_copy 0 [some (.inr (.inr 59)), some (.inr (.inr 110))] [] h Q := by
  have A : Rn xs xl 1 mm_Scene_copy 0 [some (.inr (.inr 60)), some (.inr (.inr 111))] [] h (fun r g => r = none ∧ scq h g 111 60 ∧ scf 60 h g) := F_scopy (by unfold scn; omega) (by decide) (by unfold scn; omega) (by decide) (RF_of hI.1) (fun g a b _ => ⟨rfl, a, b⟩)
  have B : Rn xs xl 1 mm_Scene_copy 0 [some (.inr (.inr 60)), some (.inr (.inr 111))] [] h (fun r g => INV g) := K_copyB_110 (Nat.le_refl 1) hI (fun g i _ => i)
  refine B_copy_0_59_110 (RF_of hI.1) ⟨1, by omega, (A.and B).mono (fun r h1 z => ?_)⟩
  obtain ⟨⟨rfl, sq, sf⟩, i1⟩ := z
  have C : Rn xs xl 0 mm_Memory_copyDay 0 [some (.inr (.inr 59)), some (.inr (.inr 110))] [] h1 (fun r g => r = none ∧ dcq h1 g 110 59 ∧ (∀ a i, ¬ (a = 59 ∧ i = 1) → ¬ (a = 63 ∧ 0 ≤ i ∧ i < 24) → ¬ (a = 64 ∧ 0 ≤ i ∧ i < 24) → rd g a i = rd h1 a i)) := F_cday_59_110 (RF_of i1.1) (fun g a b => ⟨rfl, a, b⟩)
  have D : Rn xs xl 0 mm_Memory_copyDay 0 [some (.inr (.inr 59)), some (.inr (.inr 110))] [] h1 (fun r g => INV g) := D_copyDay_59_110 i1 (fun g i _ => i)
  refine B_copy_11_59_110 (RF_of i1.1) ⟨0, by omega, (C.and D).mono (fun r h2 z => ?_)⟩
  obtain ⟨⟨rfl, dq, df⟩, i2⟩ := z
  refine B_copy_16_59_110 (RF_of i2.1) ?_
  have l4 := rG_110_4 i2.1
  have l7 := rG_110_7 i2.1
  have i3 := wG_59_7 (wG_59_4 i2 (v := rd h2 110 4) (by omega) (by omega)) (v := rd h2 110 7) (by omega) (by omega)
  have n3 : ∀ b j, ¬ (b = 59 ∧ (j = 4 ∨ j = 7)) → rd (wr (wr h2 59 4 (rd h2 110 4)) 59 7 (rd h2 110 7)) b j = rd h2 b j := fun b j hn => by rw [rd_wr, if_neg (by omega), rd_wr, if_neg (by omega)]
  have w4 : rd (wr (wr h2 59 4 (rd h2 110 4)) 59 7 (rd h2 110 7)) 59 4 = rd h2 110 4 := (rdw_nei (by decide)).trans rdw_eq
  have w7 : rd (wr (wr h2 59 4 (rd h2 110 4)) 59 7 (rd h2 110 7)) 59 7 = rd h2 110 7 := rdw_eq
  generalize wr (wr h2 59 4 (rd h2 110 4)) 59 7 (rd h2 110 7) = h3 at *
  have r4 : RNG (cpyL h3 116 0 65 0 10 ++ h3) := RNG_cpk (n := 10) (fun f j hj hf => by
    have q := rB_116 i3.1 (i := 0 + (j : Int)) (by omega)
    exact wS_65 hf (by omega) (by omega)) i3.1 10 (Nat.le_refl _)
  have n4 : ∀ b j, rd (cpyL h3 116 0 65 0 10 ++ h3) b j = if b = 65 ∧ 0 ≤ j ∧ j < 10 then rd h3 116 j else rd h3 b j := fun b j => rd_cp0 10
  generalize cpyL h3 116 0 65 0 10 ++ h3 = h4 at *
  have i4 : INV h4 := ⟨r4, SP_of (fun b j hb => by rw [n4, if_neg (by unfold sens at hb; omega)]) i3.2⟩
  refine B_copy_47_59_110 (RF_of i4.1) ?_
  have r5 : RNG (cpyL h4 117 0 66 0 10 ++ h4) := RNG_cpk (n := 10) (fun f j hj hf => by
    have q := rB_117 i4.1 (i := 0 + (j : Int)) (by omega)
    exact wS_66 hf (by omega) (by omega)) i4.1 10 (Nat.le_refl _)
  have n5 : ∀ b j, rd (cpyL h4 117 0 66 0 10 ++ h4) b j = if b = 66 ∧ 0 ≤ j ∧ j < 10 then rd h4 117 j else rd h4 b j := fun b j => rd_cp0 10
  generalize cpyL h4 117 0 66 0 10 ++ h4 = h5 at *
  have i5 : INV h5 := ⟨r5, SP_of (fun b j hb => by rw [n5, if_neg (by unfold sens at hb; omega)]) i4.2⟩
  have f5 : ∀ a i, ¬ (a = 59 ∧ (i = 4 ∨ i = 7)) → ¬ (a = 65 ∧ 0 ≤ i ∧ i < 10) → ¬ (a = 66 ∧ 0 ≤ i ∧ i < 10) → rd h5 a i = rd h2 a i := fun a i m1 m2 m3 => by rw [n5, if_neg m3, n4, if_neg m2, n3 a i m1]
  have f2 : ∀ a i, ¬ (a = 59 ∧ i = 1) → ¬ (a = 63 ∧ 0 ≤ i ∧ i < 24) → ¬ (a = 64 ∧ 0 ≤ i ∧ i < 24) → ¬ scp 60 a i → rd h2 a i = rd h a i := fun a i m1 m2 m3 m4 => (df a i m1 m2 m3).trans (sf a i m4)
  have sN : ∀ a i, (a = 110 ∨ (114 ≤ a ∧ a ≤ 117)) → rd h1 a i = rd h a i := fun a i ha => sf a i (by unfold scp; omega)
  refine B_copy_62_59_110 (RF_of i5.1) (k h5 i5 (fun a i hn => ?_) ⟨⟨?_, fun i i0 i1 => ⟨?_, ?_⟩⟩, ⟨fun i i0 i1 => ?_, fun i i0 i1 => ?_, fun i i0 i1 => ?_⟩, ⟨?_, ?_⟩, fun i i0 i1 => ⟨?_, ?_⟩⟩)
  · rw [f5 a i (by omega) (by omega) (by omega)]
    exact f2 a i (by omega) (by omega) (by omega) (by unfold scp; omega)
  · rw [f5 59 1 (by decide) (by decide) (by decide), dq.1]
    exact sN _ _ (by decide)
  · rw [f5 (59 + 4) i (by omega) (by omega) (by omega), (dq.2 i i0 i1).1]
    exact sN _ _ (by omega)
  · rw [f5 (59 + 5) i (by omega) (by omega) (by omega), (dq.2 i i0 i1).2]
    exact sN _ _ (by omega)
  · rw [f5 (59 + 1) i (by omega) (by omega) (by omega), df _ _ (by omega) (by omega) (by omega)]
    exact sq.1 i i0 i1
  · rw [f5 (59 + 1 + 1) i (by omega) (by omega) (by omega), df _ _ (by omega) (by omega) (by omega)]
    exact sq.2.1 i i0 i1
  · rw [f5 (59 + 1 + 2) i (by omega) (by omega) (by omega), df _ _ (by omega) (by omega) (by omega)]
    exact sq.2.2 i i0 i1
  · rw [n5, if_neg (by omega), n4, if_neg (by omega), w4]
    exact f2 _ _ (by omega) (by omega) (by omega) (by unfold scp; omega)
  · rw [n5, if_neg (by omega), n4, if_neg (by omega), w7]
    exact f2 _ _ (by omega) (by omega) (by omega) (by unfold scp; omega)
  · show rd h5 65 i = rd h 116 i
    rw [n5, if_neg (by omega), n4, if_pos ⟨rfl, i0, i1⟩, n3 _ _ (by omega)]
    exact f2 _ _ (by omega) (by omega) (by omega) (by unfold scp; omega)
  · show rd h5 66 i = rd h 117 i
    rw [n5, if_pos ⟨rfl, i0, i1⟩, n4, if_neg (by omega), n3 _ _ (by omega)]
    exact f2 _ _ (by omega) (by omega) (by omega) (by unfold scp; omega)
theorem D_copyM_118_59 (he : 2 ≤ e) (hI : INV h) (k : ∀ g, INV g → (∀ a i, ¬ (118 ≤ a ∧ a ≤ 125 ∧ 0 ≤ i ∧ i ≤ 23) → rd g a i = rd h a i) → mcq h g 59 118 → Q none g) : Rn xs xl e mm_Memory_copy 0 [some (.inr (.inr 118)), some (.inr (.inr 59))] [] h Q := by
  have A : Rn xs xl 1 mm_Scene_copy 0 [some (.inr (.inr 119)), some (.inr (.inr 60))] [] h (fun r g => r = none ∧ scq h g 60 119 ∧ scf 119 h g) := F_scopy (by unfold scn; omega) (by decide) (by unfold scn; omega) (by decide) (RF_of hI.1) (fun g a b _ => ⟨rfl, a, b⟩)
  have B : Rn xs xl 1 mm_Scene_copy 0 [some (.inr (.inr 119)), some (.inr (.inr 60))] [] h (fun r g => INV g) := K_copy_118 (Nat.le_refl 1) hI (fun g i _ => i)
  refine B_copy_0_118_59 (RF_of hI.1) ⟨1, by omega, (A.and B).mono (fun r h1 z => ?_)⟩
  obtain ⟨⟨rfl, sq, sf⟩, i1⟩ := z
  have C : Rn xs xl 0 mm_Memory_copyDay 0 [some (.inr (.inr 118)), some (.inr (.inr 59))] [] h1 (fun r g => r = none ∧ dcq h1 g 59 118 ∧ (∀ a i, ¬ (a = 118 ∧ i = 1) → ¬ (a = 122 ∧ 0 ≤ i ∧ i < 24) → ¬ (a = 123 ∧ 0 ≤ i ∧ i < 24) → rd g a i = rd h1 a i)) := F_cday_118_59 (RF_of i1.1) (fun g a b => ⟨rfl, a, b⟩)
  have D : Rn xs xl 0 mm_Memory_copyDay 0 [some (.inr (.inr 118)), some (.inr (.inr 59))] [] h1 (fun r g => INV g) := D_copyDay_118_59 i1 (fun g i _ => i)
  refine B_copy_11_118_59 (RF_of i1.1) ⟨0, by omega, (C.and D).mono (fun r h2 z => ?_)⟩
  obtain ⟨⟨rfl, dq, df⟩, i2⟩ := z
  refine B_copy_16_118_59 (RF_of i2.1) ?_
  have l4 := rG_59_4 i2.1
  have l7 := rG_59_7 i2.1
  have i3 := wG_118_7 (wG_118_4 i2 (v := rd h2 59 4) (by omega) (by omega)) (v := rd h2 59 7) (by omega) (by omega)
  have n3 : ∀ b j, ¬ (b = 118 ∧ (j = 4 ∨ j = 7)) → rd (wr (wr h2 118 4 (rd h2 59 4)) 118 7 (rd h2 59 7)) b j = rd h2 b j := fun b j hn => by rw [rd_wr, if_neg (by omega), rd_wr, if_neg (by omega)]
  have w4 : rd (wr (wr h2 118 4 (rd h2 59 4)) 118 7 (rd h2 59 7)) 118 4 = rd h2 59 4 := (rdw_nei (by decide)).trans rdw_eq
  have w7 : rd (wr (wr h2 118 4 (rd h2 59 4)) 118 7 (rd h2 59 7)) 118 7 = rd h2 59 7 := rdw_eq
  generalize wr (wr h2 118 4 (rd h2 59 4)) 118 7 (rd h2 59 7) = h3 at *
  have r4 : RNG (cpyL h3 65 0 124 0 10 ++ h3) := RNG_cpk (n := 10) (fun f j hj hf => by
    have q := rB_65 i3.1 (i := 0 + (j : Int)) (by omega)
    exact wS_124 hf (by omega) (by omega)) i3.1 10 (Nat.le_refl _)
  have n4 : ∀ b j, rd (cpyL h3 65 0 124 0 10 ++ h3) b j = if b = 124 ∧ 0 ≤ j ∧ j < 10 then rd h3 65 j else rd h3 b j := fun b j => rd_cp0 10
  generalize cpyL h3 65 0 124 0 10 ++ h3 = h4 at *
  have i4 : INV h4 := ⟨r4, SP_of (fun b j hb => by rw [n4, if_neg (by unfold sens at hb; omega)]) i3.2⟩
  refine B_copy_47_118_59 (RF_of i4.1) ?_
  have r5 : RNG (cpyL h4 66 0 125 0 10 ++ h4) := RNG_cpk (n := 10) (fun f j hj hf => by
    have q := rB_66 i4.1 (i := 0 + (j : Int)) (by omega)
    exact wS_125 hf (by omega) (by omega)) i4.1 10 (Nat.le_refl _)
  have n5 : ∀ b j, rd (cpyL h4 66 0 125 0 10 ++ h4) b j = if b = 125 ∧ 0 ≤ j ∧ j < 10 then rd h4 66 j else rd h4 b j := fun b j => rd_cp0 10
  generalize cpyL h4 66 0 125 0 10 ++ h4 = h5 at *
  have i5 : INV h5 := ⟨r5, SP_of (fun b j hb => by rw [n5, if_neg (by unfold sens at hb; omega)]) i4.2⟩
  have f5 : ∀ a i, ¬ (a = 118 ∧ (i = 4 ∨ i = 7)) → ¬ (a = 124 ∧ 0 ≤ i ∧ i < 10) → ¬ (a = 125 ∧ 0 ≤ i ∧ i < 10) → rd h5 a i = rd h2 a i := fun a i m1 m2 m3 => by rw [n5, if_neg m3, n4, if_neg m2, n3 a i m1]
  have f2 : ∀ a i, ¬ (a = 118 ∧ i = 1) → ¬ (a = 122 ∧ 0 ≤ i ∧ i < 24) → ¬ (a = 123 ∧ 0 ≤ i ∧ i < 24) → ¬ scp 119 a i → rd h2 a i = rd h a i := fun a i m1 m2 m3 m4 => (df a i m1 m2 m3).trans (sf a i m4)
  have sN : ∀ a i, (a = 59 ∨ (63 ≤ a ∧ a ≤ 66)) → rd h1 a i = rd h a i := fun a i ha => sf a i (by unfold scp; omega)
  refine B_copy_62_118_59 (RF_of i5.1) (k h5 i5 (fun a i hn => ?_) ⟨⟨?_, fun i i0 i1 => ⟨?_, ?_⟩⟩, ⟨fun i i0 i1 => ?_, fun i i0 i1 => ?_, fun i i0 i1 => ?_⟩, ⟨?_, ?_⟩, fun i i0 i1 => ⟨?_, ?_⟩⟩)
  · rw [f5 a i (by omega) (by omega) (by omega)]
    exact f2 a i (by omega) (by omega) (by omega) (by unfold scp; omega)
  · rw [f5 118 1 (by decide) (by decide) (by decide), dq.1]
    exact sN _ _ (by decide)
  · rw [f5 (118 + 4) i (by omega) (by omega) (by omega), (dq.2 i i0 i1).1]
    exact sN _ _ (by omega)
  · rw [f5 (118 + 5) i (by omega) (by omega) (by omega), (dq.2 i i0 i1).2]
    exact sN _ _ (by omega)
  · rw [f5 (118 + 1) i (by omega) (by omega) (by omega), df _ _ (by omega) (by omega) (by omega)]
    exact sq.1 i i0 i1
  · rw [f5 (118 + 1 + 1) i (by omega) (by omega) (by omega), df _ _ (by omega) (by omega) (by omega)]
    exact sq.2.1 i i0 i1
  · rw [f5 (118 + 1 + 2) i (by omega) (by omega) (by omega), df _ _ (by omega) (by omega) (by omega)]
    exact sq.2.2 i i0 i1
  · rw [n5, if_neg (by omega), n4, if_neg (by omega), w4]
    exact f2 _ _ (by omega) (by omega) (by omega) (by unfold scp; omega)
  · rw [n5, if_neg (by omega), n4, if_neg (by omega), w7]
    exact f2 _ _ (by omega) (by omega) (by omega) (by unfold scp; omega)
  · show rd h5 124 i = rd h 65 i
    rw [n5, if_neg (by omega), n4, if_pos ⟨rfl, i0, i1⟩, n3 _ _ (by omega)]
    exact f2 _ _ (by omega) (by omega) (by omega) (by unfold scp; omega)
  · show rd h5 125 i = rd h 66 i
    rw [n5, if_pos ⟨rfl, i0, i1⟩, n4, if_neg (by omega), n3 _ _ (by omega)]
    exact f2 _ _ (by omega) (by omega) (by omega) (by unfold scp; omega)
theorem D_copyM_59_118 (he : 2 ≤ e) (hI : INV h) (k : ∀ g, INV g → (∀ a i, ¬ (59 ≤ a ∧ a ≤ 66 ∧ 0 ≤ i ∧ i ≤ 23) → rd g a i = rd h a i) → mcq h g 118 59 → Q none g) : Rn xs xl e mm_Memory_copy 0 [some (.inr (.inr 59)), some (.inr (.inr 118))] [] h Q := by
  have A : Rn xs xl 1 mm_Scene_copy 0 [some (.inr (.inr 60)), some (.inr (.inr 119))] [] h (fun r g => r = none ∧ scq h g 119 60 ∧ scf 60 h g) := F_scopy (by unfold scn; omega) (by decide) (by unfold scn; omega) (by decide) (RF_of hI.1) (fun g a b _ => ⟨rfl, a, b⟩)
  have B : Rn xs xl 1 mm_Scene_copy 0 [some (.inr (.inr 60)), some (.inr (.inr 119))] [] h (fun r g => INV g) := K_copyB_118 (Nat.le_refl 1) hI (fun g i _ => i)
  refine B_copy_0_59_118 (RF_of hI.1) ⟨1, by omega, (A.and B).mono (fun r h1 z => ?_)⟩
  obtain ⟨⟨rfl, sq, sf⟩, i1⟩ := z
  have C : Rn xs xl 0 mm_Memory_copyDay 0 [some (.inr (.inr 59)), some (.inr (.inr 118))] [] h1 (fun r g => r = none ∧ dcq h1 g 118 59 ∧ (∀ a i, ¬ (a = 59 ∧ i = 1) → ¬ (a = 63 ∧ 0 ≤ i ∧ i < 24) → ¬ (a = 64 ∧ 0 ≤ i ∧ i < 24) → rd g a i = rd h1 a i)) := F_cday_59_118 (RF_of i1.1) (fun g a b => ⟨rfl, a, b⟩)
  have D : Rn xs xl 0 mm_Memory_copyDay 0 [some (.inr (.inr 59)), some (.inr (.inr 118))] [] h1 (fun r g => INV g) := D_copyDay_59_118 i1 (fun g i _ => i)
  refine B_copy_11_59_118 (RF_of i1.1) ⟨0, by omega, (C.and D).mono (fun r h2 z => ?_)⟩
  obtain ⟨⟨rfl, dq, df⟩, i2⟩ := z
  refine B_copy_16_59_118 (RF_of i2.1) ?_
  have l4 := rG_118_4 i2.1
  have l7 := rG_118_7 i2.1
  have i3 := wG_59_7 (wG_59_4 i2 (v := rd h2 118 4) (by omega) (by omega)) (v := rd h2 118 7) (by omega) (by omega)
  have n3 : ∀ b j, ¬ (b = 59 ∧ (j = 4 ∨ j = 7)) → rd (wr (wr h2 59 4 (rd h2 118 4)) 59 7 (rd h2 118 7)) b j = rd h2 b j := fun b j hn => by rw [rd_wr, if_neg (by omega), rd_wr, if_neg (by omega)]
  have w4 : rd (wr (wr h2 59 4 (rd h2 118 4)) 59 7 (rd h2 118 7)) 59 4 = rd h2 118 4 := (rdw_nei (by decide)).trans rdw_eq
  have w7 : rd (wr (wr h2 59 4 (rd h2 118 4)) 59 7 (rd h2 118 7)) 59 7 = rd h2 118 7 := rdw_eq
  generalize wr (wr h2 59 4 (rd h2 118 4)) 59 7 (rd h2 118 7) = h3 at *
  have r4 : RNG (cpyL h3 124 0 65 0 10 ++ h3) := RNG_cpk (n := 10) (fun f j hj hf => by
    have q := rB_124 i3.1 (i := 0 + (j : Int)) (by omega)
    exact wS_65 hf (by omega) (by omega)) i3.1 10 (Nat.le_refl _)
  have n4 : ∀ b j, rd (cpyL h3 124 0 65 0 10 ++ h3) b j = if b = 65 ∧ 0 ≤ j ∧ j < 10 then rd h3 124 j else rd h3 b j := fun b j => rd_cp0 10
  generalize cpyL h3 124 0 65 0 10 ++ h3 = h4 at *
  have i4 : INV h4 := ⟨r4, SP_of (fun b j hb => by rw [n4, if_neg (by unfold sens at hb; omega)]) i3.2⟩
  refine B_copy_47_59_118 (RF_of i4.1) ?_
  have r5 : RNG (cpyL h4 125 0 66 0 10 ++ h4) := RNG_cpk (n := 10) (fun f j hj hf => by
    have q := rB_125 i4.1 (i := 0 + (j : Int)) (by omega)
    exact wS_66 hf (by omega) (by omega)) i4.1 10 (Nat.le_refl _)
  have n5 : ∀ b j, rd (cpyL h4 125 0 66 0 10 ++ h4) b j = if b = 66 ∧ 0 ≤ j ∧ j < 10 then rd h4 125 j else rd h4 b j := fun b j => rd_cp0 10
  generalize cpyL h4 125 0 66 0 10 ++ h4 = h5 at *
  have i5 : INV h5 := ⟨r5, SP_of (fun b j hb => by rw [n5, if_neg (by unfold sens at hb; omega)]) i4.2⟩
  have f5 : ∀ a i, ¬ (a = 59 ∧ (i = 4 ∨ i = 7)) → ¬ (a = 65 ∧ 0 ≤ i ∧ i < 10) → ¬ (a = 66 ∧ 0 ≤ i ∧ i < 10) → rd h5 a i = rd h2 a i := fun a i m1 m2 m3 => by rw [n5, if_neg m3, n4, if_neg m2, n3 a i m1]
  have f2 : ∀ a i, ¬ (a = 59 ∧ i = 1) → ¬ (a = 63 ∧ 0 ≤ i ∧ i < 24) → ¬ (a = 64 ∧ 0 ≤ i ∧ i < 24) → ¬ scp 60 a i → rd h2 a i = rd h a i := fun a i m1 m2 m3 m4 => (df a i m1 m2 m3).trans (sf a i m4)
  have sN : ∀ a i, (a = 118 ∨ (122 ≤ a ∧ a ≤ 125)) → rd h1 a i = rd h a i := fun a i ha => sf a i (by unfold scp; omega)
  refine B_copy_62_59_118 (RF_of i5.1) (k h5 i5 (fun a i hn => ?_) ⟨⟨?_, fun i i0 i1 => ⟨?_, ?_⟩⟩, ⟨fun i i0 i1 => ?_, fun i i0 i1 => ?_, fun i i0 i1 => ?_⟩, ⟨?_, ?_⟩, fun i i0 i1 => ⟨?_, ?_⟩⟩)
  · rw [f5 a i (by omega) (by omega) (by omega)]
    exact f2 a i (by omega) (by omega) (by omega) (by unfold scp; omega)
  · rw [f5 59 1 (by decide) (by decide) (by decide), dq.1]
    exact sN _ _ (by decide)
  · rw [f5 (59 + 4) i (by omega) (by omega) (by omega), (dq.2 i i0 i1).1]
    exact sN _ _ (by omega)
  · rw [f5 (59 + 5) i (by omega) (by omega) (by omega), (dq.2 i i0 i1).2]
    exact sN _ _ (by omega)
  · rw [f5 (59 + 1) i (by omega) (by omega) (by omega), df _ _ (by omega) (by omega) (by omega)]
    exact sq.1 i i0 i1
  · rw [f5 (59 + 1 + 1) i (by omega) (by omega) (by omega), df _ _ (by omega) (by omega) (by omega)]
    exact sq.2.1 i i0 i1
  · rw [f5 (59 + 1 + 2) i (by omega) (by omega) (by omega), df _ _ (by omega) (by omega) (by omega)]
    exact sq.2.2 i i0 i1
  · rw [n5, if_neg (by omega), n4, if_neg (by omega), w4]
    exact f2 _ _ (by omega) (by omega) (by omega) (by unfold scp; omega)
  · rw [n5, if_neg (by omega), n4, if_neg (by omega), w7]
    exact f2 _ _ (by omega) (by omega) (by omega) (by unfold scp; omega)
  · show rd h5 65 i = rd h 124 i
    rw [n5, if_neg (by omega), n4, if_pos ⟨rfl, i0, i1⟩, n3 _ _ (by omega)]
    exact f2 _ _ (by omega) (by omega) (by omega) (by unfold scp; omega)
  · show rd h5 66 i = rd h 125 i
    rw [n5, if_pos ⟨rfl, i0, i1⟩, n4, if_neg (by omega), n3 _ _ (by omega)]
    exact f2 _ _ (by omega) (by omega) (by omega) (by unfold scp; omega)
theorem D_copyM_126_59 (he : 2 ≤ e) (hI : INV h) (k : ∀ g, INV g → (∀ a i, ¬ (126 ≤ a ∧ a ≤ 133 ∧ 0 ≤ i ∧ i ≤ 23) → rd g a i = rd h a i) → mcq h g 59 126 → Q none g) : Rn xs xl e mm_Memory_copy 0 [some (.inr (.inr 126)), some (.inr (.inr 59))] [] h Q := by
  have A : Rn xs xl 1 mm_Scene_copy 0 [some (.inr (.inr 127)), some (.inr (.inr 60))] [] h (fun r g => r = none ∧ scq h g 60 127 ∧ scf 127 h g) := F_scopy (by unfold scn; omega) (by decide) (by unfold scn; omega) (by decide) (RF_of hI.1) (fun g a b _ => ⟨rfl, a, b⟩)
  have B : Rn xs xl 1 mm_Scene_copy 0 [some (.inr (.inr 127)), some (.inr (.inr 60))] [] h (fun r g => INV g) := K_copy_126 (Nat.le_refl 1) hI (fun g i _ => i)
  refine B_copy_0_126_59 (RF_of hI.1) ⟨1, by omega, (A.and B).mono (fun r h1 z => ?_)⟩
  obtain ⟨⟨rfl, sq, sf⟩, i1⟩ := z
  have C : Rn xs xl 0 mm_Memory_copyDay 0 [some (.inr (.inr 126)), some (.inr (.inr 59))] [] h1 (fun r g => r = none ∧ dcq h1 g 59 126 ∧ (∀ a i, ¬ (a = 126 ∧ i = 1) → ¬ (a = 130 ∧ 0 ≤ i ∧ i < 24) → ¬ (a = 131 ∧ 0 ≤ i ∧ i < 24) → rd g a i = rd h1 a i)) := F_cday_126_59 (RF_of i1.1) (fun g a b => ⟨rfl, a, b⟩)
  have D : Rn xs xl 0 mm_Memory_copyDay 0 [some (.inr (.inr 126)), some (.inr (.inr 59))] [] h1 (fun r g => INV g) := D_copyDay_126_59 i1 (fun g i _ => i)
  refine B_copy_11_126_59 (RF_of i1.1) ⟨0, by omega, (C.and D).mono (fun r h2 z => ?_)⟩
  obtain ⟨⟨rfl, dq, df⟩, i2⟩ := z
  refine B_copy_16_126_59 (RF_of i2.1) ?_
  have l4 := rG_59_4 i2.1
  have l7 := rG_59_7 i2.1
  have i3 := wG_126_7 (wG_126_4 i2 (v := rd h2 59 4) (by omega) (by omega)) (v := rd h2 59 7) (by omega) (by omega)
  have n3 : ∀ b j, ¬ (b = 126 ∧ (j = 4 ∨ j = 7)) → rd (wr (wr h2 126 4 (rd h2 59 4)) 126 7 (rd h2 59 7)) b j = rd h2 b j := fun b j hn => by rw [rd_wr, if_neg (by omega), rd_wr, if_neg (by omega)]
  have w4 : rd (wr (wr h2 126 4 (rd h2 59 4)) 126 7 (rd h2 59 7)) 126 4 = rd h2 59 4 := (rdw_nei (by decide)).trans rdw_eq
  have w7 : rd (wr (wr h2 126 4 (rd h2 59 4)) 126 7 (rd h2 59 7)) 126 7 = rd h2 59 7 := rdw_eq
  generalize wr (wr h2 126 4 (rd h2 59 4)) 126 7 (rd h2 59 7) = h3 at *
  have r4 : RNG (cpyL h3 65 0 132 0 10 ++ h3) := RNG_cpk (n := 10) (fun f j hj hf => by
    have q := rB_65 i3.1 (i := 0 + (j : Int)) (by omega)
    exact wS_132 hf (by omega) (by omega)) i3.1 10 (Nat.le_refl _)
  have n4 : ∀ b j, rd (cpyL h3 65 0 132 0 10 ++ h3) b j = if b = 132 ∧ 0 ≤ j ∧ j < 10 then rd h3 65 j else rd h3 b j := fun b j => rd_cp0 10
  generalize cpyL h3 65 0 132 0 10 ++ h3 = h4 at *
  have i4 : INV h4 := ⟨r4, SP_of (fun b j hb => by rw [n4, if_neg (by unfold sens at hb; omega)]) i3.2⟩
  refine B_copy_47_126_59 (RF_of i4.1) ?_
  have r5 : RNG (cpyL h4 66 0 133 0 10 ++ h4) := RNG_cpk (n := 10) (fun f j hj hf => by
    have q := rB_66 i4.1 (i := 0 + (j : Int)) (by omega)
    exact wS_133 hf (by omega) (by omega)) i4.1 10 (Nat.le_refl _)
  have n5 : ∀ b j, rd (cpyL h4 66 0 133 0 10 ++ h4) b j = if b = 133 ∧ 0 ≤ j ∧ j < 10 then rd h4 66 j else rd h4 b j := fun b j => rd_cp0 10
  generalize cpyL h4 66 0 133 0 10 ++ h4 = h5 at *
  have i5 : INV h5 := ⟨r5, SP_of (fun b j hb => by rw [n5, if_neg (by unfold sens at hb; omega)]) i4.2⟩
  have f5 : ∀ a i, ¬ (a = 126 ∧ (i = 4 ∨ i = 7)) → ¬ (a = 132 ∧ 0 ≤ i ∧ i < 10) → ¬ (a = 133 ∧ 0 ≤ i ∧ i < 10) → rd h5 a i = rd h2 a i := fun a i m1 m2 m3 => by rw [n5, if_neg m3, n4, if_neg m2, n3 a i m1]
  have f2 : ∀ a i, ¬ (a = 126 ∧ i = 1) → ¬ (a = 130 ∧ 0 ≤ i ∧ i < 24) → ¬ (a = 131 ∧ 0 ≤ i ∧ i < 24) → ¬ scp 127 a i → rd h2 a i = rd h a i := fun a i m1 m2 m3 m4 => (df a i m1 m2 m3).trans (sf a i m4)
  have sN : ∀ a i, (a = 59 ∨ (63 ≤ a ∧ a ≤ 66)) → rd h1 a i = rd h a i := fun a i ha => sf a i (by unfold scp; omega)
  refine B_copy_62_126_59 (RF_of i5.1) (k h5 i5 (fun a i hn => ?_) ⟨⟨?_, fun i i0 i1 => ⟨?_, ?_⟩⟩, ⟨fun i i0 i1 => ?_, fun i i0 i1 => ?_, fun i i0 i1 => ?_⟩, ⟨?_, ?_⟩, fun i i0 i1 => ⟨?_, ?_⟩⟩)
  · rw [f5 a i (by omega) (by omega) (by omega)]
    exact f2 a i (by omega) (by omega) (by omega) (by unfold scp; omega)
  · rw [f5 126 1 (by decide) (by decide) (by decide), dq.1]
    exact sN _ _ (by decide)
  · rw [f5 (126 + 4) i (by omega) (by omega) (by omega), (dq.2 i i0 i1).1]
    exact sN _ _ (by omega)
  · rw [f5 (126 + 5) i (by omega) (by omega) (by omega), (dq.2 i i0 i1).2]
    exact sN _ _ (by omega)
  · rw [f5 (126 + 1) i (by omega) (by omega) (by omega), df _ _ (by omega) (by omega) (by omega)]
    exact sq.1 i i0 i1
  · rw [f5 (126 + 1 + 1) i (by omega) (by omega) (by omega), df _ _ (by omega) (by omega) (by omega)]
    exact sq.2.1 i i0 i1
  · rw [f5 (126 + 1 + 2) i (by omega) (by omega) (by omega), df _ _ (by omega) (by omega) (by omega)]
    exact sq.2.2 i i0 i1
  · rw [n5, if_neg (by omega), n4, if_neg (by omega), w4]
    exact f2 _ _ (by omega) (by omega) (by omega) (by unfold scp; omega)
  · rw [n5, if_neg (by omega), n4, if_neg (by omega), w7]
    exact f2 _ _ (by omega) (by omega) (by omega) (by unfold scp; omega)
  · show rd h5 132 i = rd h 65 i
    rw [n5, if_neg (by omega), n4, if_pos ⟨rfl, i0, i1⟩, n3 _ _ (by omega)]
    exact f2 _ _ (by omega) (by omega) (by omega) (by unfold scp; omega)
  · show rd h5 133 i = rd h 66 i
    rw [n5, if_pos ⟨rfl, i0, i1⟩, n4, if_neg (by omega), n3 _ _ (by omega)]
    exact f2 _ _ (by omega) (by omega) (by omega) (by unfold scp; omega)
theorem D_copyM_59_126 (he : 2 ≤ e) (hI : INV h) (k : ∀ g, INV g → (∀ a i, ¬ (59 ≤ a ∧ a ≤ 66 ∧ 0 ≤ i ∧ i ≤ 23) → rd g a i = rd h a i) → mcq h g 126 59 → Q none g) : Rn xs xl e mm_Memory_copy 0 [some (.inr (.inr 59)), some (.inr (.inr 126))] [] h Q := by
  have A : Rn xs xl 1 mm_Scene_copy 0 [some (.inr (.inr 60)), some (.inr (.inr 127))] [] h (fun r g => r = none ∧ scq h g 127 60 ∧ scf 60 h g) := F_scopy (by unfold scn; omega) (by decide) (by unfold scn; omega) (by decide) (RF_of hI.1) (fun g a b _ => ⟨rfl, a, b⟩)
  have B : Rn xs xl 1 mm_Scene_copy 0 [some (.inr (.inr 60)), some (.inr (.inr 127))] [] h (fun r g => INV g) := K_copyB_126 (Nat.le_refl 1) hI (fun g i _ => i)
  refine B_copy_0_59_126 (RF_of hI.1) ⟨1, by omega, (A.and B).mono (fun r h1 z => ?_)⟩
  obtain ⟨⟨rfl, sq, sf⟩, i1⟩ := z
  have C : Rn xs xl 0 mm_Memory_copyDay 0 [some (.inr (.inr 59)), some (.inr (.inr 126))] [] h1 (fun r g => r = none ∧ dcq h1 g 126 59 ∧ (∀ a i, ¬ (a = 59 ∧ i = 1) → ¬ (a = 63 ∧ 0 ≤ i ∧ i < 24) → ¬ (a = 64 ∧ 0 ≤ i ∧ i < 24) → rd g a i = rd h1 a i)) := F_cday_59_126 (RF_of i1.1) (fun g a b => ⟨rfl, a, b⟩)
  have D : Rn xs xl 0 mm_Memory_copyDay 0 [some (.inr (.inr 59)), some (.inr (.inr 126))] [] h1 (fun r g => INV g) := D_copyDay_59_126 i1 (fun g i _ => i)
  refine B_copy_11_59_126 (RF_of i1.1) ⟨0, by omega, (C.and D).mono (fun r h2 z => ?_)⟩
  obtain ⟨⟨rfl, dq, df⟩, i2⟩ := z
  refine B_copy_16_59_126 (RF_of i2.1) ?_
  have l4 := rG_126_4 i2.1
  have l7 := rG_126_7 i2.1
  have i3 := wG_59_7 (wG_59_4 i2 (v := rd h2 126 4) (by omega) (by omega)) (v := rd h2 126 7) (by omega) (by omega)
  have n3 : ∀ b j, ¬ (b = 59 ∧ (j = 4 ∨ j = 7)) → rd (wr (wr h2 59 4 (rd h2 126 4)) 59 7 (rd h2 126 7)) b j = rd h2 b j := fun b j hn => by rw [rd_wr, if_neg (by omega), rd_wr, if_neg (by omega)]
  have w4 : rd (wr (wr h2 59 4 (rd h2 126 4)) 59 7 (rd h2 126 7)) 59 4 = rd h2 126 4 := (rdw_nei (by decide)).trans rdw_eq
  have w7 : rd (wr (wr h2 59 4 (rd h2 126 4)) 59 7 (rd h2 126 7)) 59 7 = rd h2 126 7 := rdw_eq
  generalize wr (wr h2 59 4 (rd h2 126 4)) 59 7 (rd h2 126 7) = h3 at *
  have r4 : RNG (cpyL h3 132 0 65 0 10 ++ h3) := RNG_cpk (n := 10) (fun f j hj hf => by
    have q := rB_132 i3.1 (i := 0 + (j : Int)) (by omega)
    exact wS_65 hf (by omega) (by omega)) i3.1 10 (Nat.le_refl _)
  have n4 : ∀ b j, rd (cpyL h3 132 0 65 0 10 ++ h3) b j = if b = 65 ∧ 0 ≤ j ∧ j < 10 then rd h3 132 j else rd h3 b j := fun b j => rd_cp0 10
  generalize cpyL h3 132 0 65 0 10 ++ h3 = h4 at *
  have i4 : INV h4 := ⟨r4, SP_of (fun b j hb => by rw [n4, if_neg (by unfold sens at hb; omega)]) i3.2⟩
  refine B_copy_47_59_126 (RF_of i4.1) ?_
  have r5 : RNG (cpyL h4 133 0 66 0 10 ++ h4) := RNG_cpk (n := 10) (fun f j hj hf => by
    have q := rB_133 i4.1 (i := 0 + (j : Int)) (by omega)
    exact wS_66 hf (by omega) (by omega)) i4.1 10 (Nat.le_refl _)
  have n5 : ∀ b j, rd (cpyL h4 133 0 66 0 10 ++ h4) b j = if b = 66 ∧ 0 ≤ j ∧ j < 10 then rd h4 133 j else rd h4 b j := fun b j => rd_cp0 10
  generalize cpyL h4 133 0 66 0 10 ++ h4 = h5 at *
  have i5 : INV h5 := ⟨r5, SP_of (fun b j hb => by rw [n5, if_neg (by unfold sens at hb; omega)]) i4.2⟩
  have f5 : ∀ a i, ¬ (a = 59 ∧ (i = 4 ∨ i = 7)) → ¬ (a = 65 ∧ 0 ≤ i ∧ i < 10) → ¬ (a = 66 ∧ 0 ≤ i ∧ i < 10) → rd h5 a i = rd h2 a i := fun a i m1 m2 m3 => by rw [n5, if_neg m3, n4, if_neg m2, n3 a i m1]
  have f2 : ∀ a i, ¬ (a = 59 ∧ i = 1) → ¬ (a = 63 ∧ 0 ≤ i ∧ i < 24) → ¬ (a = 64 ∧ 0 ≤ i ∧ i < 24) → ¬ scp 60 a i → rd h2 a i = rd h a i := fun a i m1 m2 m3 m4 => (df a i m1 m2 m3).trans (sf a i m4)
  have sN : ∀ a i, (a = 126 ∨ (130 ≤ a ∧ a ≤ 133)) → rd h1 a i = rd h a i := fun a i ha => sf a i (by unfold scp; omega)
  refine B_copy_62_59_126 (RF_of i5.1) (k h5 i5 (fun a i hn => ?_) ⟨⟨?_, fun i i0 i1 => ⟨?_, ?_⟩⟩, ⟨fun i i0 i1 => ?_, fun i i0 i1 => ?_, fun i i0 i1 => ?_⟩, ⟨?_, ?_⟩, fun i i0 i1 => ⟨?_, ?_⟩⟩)
  · rw [f5 a i (by omega) (by omega) (by omega)]
    exact f2 a i (by omega) (by omega) (by omega) (by unfold scp; omega)
  · rw [f5 59 1 (by decide) (by decide) (by decide), dq.1]
    exact sN _ _ (by decide)
  · rw [f5 (59 + 4) i (by omega) (by omega) (by omega), (dq.2 i i0 i1).1]
    exact sN _ _ (by omega)
  · rw [f5 (59 + 5) i (by omega) (by omega) (by omega), (dq.2 i i0 i1).2]
    exact sN _ _ (by omega)
  · rw [f5 (59 + 1) i (by omega) (by omega) (by omega), df _ _ (by omega) (by omega) (by omega)]
    exact sq.1 i i0 i1
  · rw [f5 (59 + 1 + 1) i (by omega) (by omega) (by omega), df _ _ (by omega) (by omega) (by omega)]
    exact sq.2.1 i i0 i1
  · rw [f5 (59 + 1 + 2) i (by omega) (by omega) (by omega), df _ _ (by omega) (by omega) (by omega)]
    exact sq.2.2 i i0 i1
  · rw [n5, if_neg (by omega), n4, if_neg (by omega), w4]
    exact f2 _ _ (by omega) (by omega) (by omega) (by unfold scp; omega)
  · rw [n5, if_neg (by omega), n4, if_neg (by omega), w7]
    exact f2 _ _ (by omega) (by omega) (by omega) (by unfold scp; omega)
  · show rd h5 65 i = rd h 132 i
    rw [n5, if_neg (by omega), n4, if_pos ⟨rfl, i0, i1⟩, n3 _ _ (by omega)]
    exact f2 _ _ (by omega) (by omega) (by omega) (by unfold scp; omega)
  · show rd h5 66 i = rd h 133 i
    rw [n5, if_pos ⟨rfl, i0, i1⟩, n4, if_neg (by omega), n3 _ _ (by omega)]
    exact f2 _ _ (by omega) (by omega) (by omega) (by unfold scp; omega)
theorem K_mcopyM {v1 : Int} (he : 2 ≤ e) (hI : INV h) (hv : 0 ≤ v1 ∧ v1 < 4) (k : ∀ g, INV g → (∀ a i, ¬ (102 + 8 * v1 ≤ a ∧ a ≤ 109 + 8 * v1 ∧ 0 ≤ i ∧ i ≤ 23) → rd g a i = rd h a i) → mcq h g 59 (102 + 8 * v1) → Q none g) : Rn xs xl e mm_Memory_copy 0 [some (.inr (.inr (102 + 8 * v1))), some (.inr (.inr 59))] [] h Q := by
  rcases (show v1 = 0 ∨ v1 = 1 ∨ v1 = 2 ∨ v1 = 3 by omega) with rfl | rfl | rfl | rfl
  · exact D_copyM_102_59 he hI k
  · exact D_copyM_110_59 he hI k
  · exact D_copyM_118_59 he hI k
  · exact D_copyM_126_59 he hI k
theorem K_mbackM {v1 : Int} (he : 2 ≤ e) (hI : INV h) (hv : 0 ≤ v1 ∧ v1 < 4) (k : ∀ g, INV g → (∀ a i, ¬ (59 ≤ a ∧ a ≤ 66 ∧ 0 ≤ i ∧ i ≤ 23) → rd g a i = rd h a i) → mcq h g (102 + 8 * v1) 59 → Q none g) : Rn xs xl e mm_Memory_copy 0 [some (.inr (.inr 59)), some (.inr (.inr (102 + 8 * v1)))] [] h Q := by
  rcases (show v1 = 0 ∨ v1 = 1 ∨ v1 = 2 ∨ v1 = 3 by omega) with rfl | rfl | rfl | rfl
  · exact D_copyM_59_102 he hI k
  · exact D_copyM_59_110 he hI k
  · exact D_copyM_59_118 he hI k
  · exact D_copyM_59_126 he hI k
end SCh
