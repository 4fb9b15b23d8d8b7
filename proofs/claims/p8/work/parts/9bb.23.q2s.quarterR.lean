/-! the quarter as read, part q2: the reference keeps the fields -/
def rDk (T : Int → Int) (n : Int) (V : Int → Int) (g : LH) (ND : List Nat) : Prop := ∀ i : Nat, i < ND.length → 1 ≤ ND.getD i 0 ∧ ∀ j : Nat, j < 8 → rd g 188 (8 * (i : Int) + 154 + (j : Int)) = (dfl (tO T n) (tV T n 37) (tW T n 37 V) (tP T n) (ND.getD i 0 - 1)).getD j 0
def rPk (T : Int → Int) (n : Int) (V : Int → Int) (g : LH) (NP : List Nat) : Prop := ∀ i : Nat, i < NP.length → 1 ≤ NP.getD i 0 ∧ ∀ j : Nat, j < 4 → rd g 188 (266 + 4 * (i : Int) + (j : Int)) = (pfl (tV T n 37) (tW T n 37 V) (NP.getD i 0 - 1)).getD j 0
def rLk (g : LH) (L : List Int) : Prop := 0 < L.length → rd g 182 13 = L.length + 1 ∧ rd g 189 (1100 + (L.length : Int)) = 0 ∧ ∀ i : Nat, i < L.length → rd g 189 (1100 + i) = cdO (L.getD i 0) ∧ rd g 190 (1100 + i) = cdA (L.getD i 0)
def DRKf (T : Int → Int) (n : Int) (V : Int → Int) (g : LH) (R : Int) (y : QY) : Prop := DRKc T n g R y ∧ rDk T n V g y.2.2.1 ∧ rPk T n V g y.2.2.2.1 ∧ rLk g y.2.2.2.2
/-- the fields of the current quarter -/
def RFD (T : Int → Int) (n : Int) (V : Int → Int) (g : LH) (y : QY) : Prop := rd g 188 1 = (y.2.2.1.length : Int) ∧ rd g 188 2 = (y.2.2.2.1.length : Int) ∧ (∀ i : Nat, i < y.2.2.1.length → 1 ≤ y.2.2.1.getD i 0 ∧ ∀ j : Nat, j < 8 → rd g 188 (8 * (i : Int) + 4 + (j : Int)) = (dfl (tO T n) (tV T n 37) (tW T n 37 V) (tP T n) (y.2.2.1.getD i 0 - 1)).getD j 0) ∧ (∀ i : Nat, i < y.2.2.2.1.length → 1 ≤ y.2.2.2.1.getD i 0 ∧ ∀ j : Nat, j < 4 → rd g 188 (116 + 4 * (i : Int) + (j : Int)) = (pfl (tV T n 37) (tW T n 37 V) (y.2.2.2.1.getD i 0 - 1)).getD j 0) ∧ (y.2.2.2.2.length = 0 → rd g 188 3 < 0) ∧ (0 < y.2.2.2.2.length → 0 ≤ rd g 188 3 ∧ rd g 189 (y.2.2.2.2.length : Int) = 0 ∧ ∀ i : Nat, i < y.2.2.2.2.length → rd g 189 i = cdO (y.2.2.2.2.getD i 0) ∧ rd g 190 i = cdA (y.2.2.2.2.getD i 0))
section QH2
variable {xs : Nat → Int} {xl e : Nat} {h g g1 : LH} {Q : Option LV → LH → Prop} {R : Int} {T : Int → Int} {n : Int} {V : Int → Int} {s : Int × Nat} {N ND NP : List Nat} {L : List Int} {x : Nat} {D : Int} {m : Nat}
theorem rD_same (h : rDk T n V g ND) (f : ∀ i j : Nat, i < ND.length → 0 ≤ j → j < 8 → rd g1 188 (8 * (i : Int) + 154 + (j : Int)) = rd g 188 (8 * (i : Int) + 154 + (j : Int))) : rDk T n V g1 ND := fun i hi => ⟨(h i hi).1, fun j hj => (f i j hi (Nat.zero_le _) hj).trans ((h i hi).2 j hj)⟩
theorem rP_same (h : rPk T n V g NP) (f : ∀ i j : Nat, i < NP.length → 0 ≤ j → j < 4 → rd g1 188 (266 + 4 * (i : Int) + (j : Int)) = rd g 188 (266 + 4 * (i : Int) + (j : Int))) : rPk T n V g1 NP := fun i hi => ⟨(h i hi).1, fun j hj => (f i j hi (Nat.zero_le _) hj).trans ((h i hi).2 j hj)⟩
theorem rL_same (h : rLk g L) (e : rd g1 182 13 = rd g 182 13) (f : ∀ a i, a = 189 ∨ a = 190 → rd g1 a i = rd g a i) : rLk g1 L := fun hl => by
  obtain ⟨a, b, c⟩ := h hl
  exact ⟨e.trans a, (f _ _ (Or.inl rfl)).trans b, fun i hi => ⟨(f _ _ (Or.inl rfl)).trans (c i hi).1, (f _ _ (Or.inr rfl)).trans (c i hi).2⟩⟩
theorem rD_app (h : rDk T n V g ND) (f : ∀ i j : Nat, i < ND.length → 0 ≤ j → j < 8 → rd g1 188 (8 * (i : Int) + 154 + (j : Int)) = rd g 188 (8 * (i : Int) + 154 + (j : Int))) (hn : 1 ≤ x ∧ ∀ j : Nat, j < 8 → rd g1 188 (8 * (ND.length : Int) + 154 + (j : Int)) = (dfl (tO T n) (tV T n 37) (tW T n 37 V) (tP T n) (x - 1)).getD j 0) : rDk T n V g1 (ND ++ [x]) := by
  intro i hi
  rw [List.length_append, List.length_singleton] at hi
  rcases Nat.lt_or_ge i ND.length with u | u
  · rw [getD_l u]
    exact ⟨(h i u).1, fun j hj => (f i j u (Nat.zero_le _) hj).trans ((h i u).2 j hj)⟩
  · have e : i = ND.length := by omega
    subst e
    rw [getD_e]
    exact hn
theorem rP_app (h : rPk T n V g NP) (f : ∀ i j : Nat, i < NP.length → 0 ≤ j → j < 4 → rd g1 188 (266 + 4 * (i : Int) + (j : Int)) = rd g 188 (266 + 4 * (i : Int) + (j : Int))) (hn : 1 ≤ x ∧ ∀ j : Nat, j < 4 → rd g1 188 (266 + 4 * (NP.length : Int) + (j : Int)) = (pfl (tV T n 37) (tW T n 37 V) (x - 1)).getD j 0) : rPk T n V g1 (NP ++ [x]) := by
  intro i hi
  rw [List.length_append, List.length_singleton] at hi
  rcases Nat.lt_or_ge i NP.length with u | u
  · rw [getD_l u]
    exact ⟨(h i u).1, fun j hj => (f i j u (Nat.zero_le _) hj).trans ((h i u).2 j hj)⟩
  · have e : i = NP.length := by omega
    subst e
    rw [getD_e]
    exact hn
theorem rdf_of (hp : ∀ k, 0 ≤ tP T n k) (hz : s.1 = 0) (hd : (drL (tO T n) (tV T n 37) (tW T n 37 V) (tP T n) R N s).1 = 0) (a : rd g 188 (8 * D + 154) = tW T n 37 V (drC (tO T n) (tV T n 37) (tW T n 37 V) (tP T n) R N s).2 - 14 ∧ rd g 188 (8 * D + 154 + 1) = tV T n 37 (drA (tO T n) (tV T n 37) (tW T n 37 V) (tP T n) N s).2 ∧ rd g 188 (8 * D + 154 + 2) = tV T n 37 (drB (tO T n) (tV T n 37) (tW T n 37 V) (tP T n) R N s).2 ∧ drFl T n V g D (drD (tO T n) (tV T n 37) (tW T n 37 V) (tP T n) R N s)) : ∀ j : Nat, j < 8 → rd g 188 (8 * D + 154 + (j : Int)) = (dfl (tO T n) (tV T n 37) (tW T n 37 V) (tP T n) (s.2 + 1 - 1)).getD j 0 := by
  obtain ⟨eA, eB, eC, eD, -, -⟩ := dr_at hp hz (opL_z hd)
  rw [eA, eB, eC, eD] at a
  obtain ⟨a1, a2, a3, a4, a5, a6, a7, a8⟩ := a
  rw [Nat.add_sub_cancel]
  intro j hj
  match j, hj with
  | 0, _ => rw [show 8 * D + 154 + ((0 : Nat) : Int) = 8 * D + 154 by omega]; exact a1
  | 1, _ => exact a2
  | 2, _ => exact a3
  | 3, _ => exact a4
  | 4, _ => exact a5
  | 5, _ => exact a6
  | 6, _ => exact a7
  | 7, _ => exact a8
  | j + 8, q => omega
theorem rpf_of {P : Int} (hp : ∀ k, 0 ≤ tP T n k) (hz : s.1 = 0) (hd : (psL (tO T n) (tV T n 37) (tW T n 37 V) (tP T n) R N s).1 = 0) (a : rd g 188 (266 + 4 * P) = tW T n 37 V (psA (tO T n) (tV T n 37) (tW T n 37 V) (tP T n) N s).2 - 18 ∧ rd g 188 (267 + 4 * P) = tV T n 37 (psB (tO T n) (tV T n 37) (tW T n 37 V) (tP T n) N s).2 ∧ rd g 188 (268 + 4 * P) = tV T n 37 (psC (tO T n) (tV T n 37) (tW T n 37 V) (tP T n) R N s).2 ∧ rd g 188 (269 + 4 * P) = tV T n 37 (psD (tO T n) (tV T n 37) (tW T n 37 V) (tP T n) R N s).2) : ∀ j : Nat, j < 4 → rd g 188 (266 + 4 * P + (j : Int)) = (pfl (tV T n 37) (tW T n 37 V) (s.2 + 1 - 1)).getD j 0 := by
  obtain ⟨eA, eB, eC, eD, -, -, -⟩ := ps_at hp hz hd
  rw [eA, eB, eC, eD] at a
  obtain ⟨a1, a2, a3, a4⟩ := a
  rw [Nat.add_sub_cancel]
  intro j hj
  match j, hj with
  | 0, _ => rw [show 266 + 4 * P + ((0 : Nat) : Int) = 266 + 4 * P by omega]; exact a1
  | 1, _ => rw [show 266 + 4 * P + ((1 : Nat) : Int) = 267 + 4 * P by omega]; exact a2
  | 2, _ => rw [show 266 + 4 * P + ((2 : Nat) : Int) = 268 + 4 * P by omega]; exact a3
  | 3, _ => rw [show 266 + 4 * P + ((3 : Nat) : Int) = 269 + 4 * P by omega]; exact a4
  | j + 4, q => omega
theorem DRKf_T {g' : LH} {y y' : QY} (hd : DRKf T n V g R y) (hf : frT g g') (hy : y'.2 = y.2) : DRKf T n V g' R y' := by
  obtain ⟨d, a, b, c⟩ := hd
  refine ⟨DRKc_T d hf hy, ?_, ?_, ?_⟩
  · rw [hy]; exact rD_same a (fun i j _ _ _ => hf _ _ (by unfold muTK; omega))
  · rw [hy]; exact rP_same b (fun i j _ _ _ => hf _ _ (by unfold muTK; omega))
  · rw [hy]; exact rL_same c (hf _ _ (by unfold muTK; omega)) (fun a i ha => hf _ _ (by unfold muTK; omega))
theorem RFD_of {G : LH} {y : QY} (hd : DRKf T n V G R y) (f8 : ∀ i, 0 ≤ i → i < 150 → rd g 188 i = rd G 188 (i + 150)) (fc : ∀ i, 0 ≤ i → i < rd G 182 13 → rd g 189 i = rd G 189 (i + 1100) ∧ rd g 190 i = rd G 190 (i + 1100)) : RFD T n V g y := by
  obtain ⟨⟨⟨d1, d2, d3, d4, d5, d6, d7, d8, d9, d10⟩, -⟩, dD, dP, dL⟩ := hd
  refine ⟨(f8 1 (by decide) (by decide)).trans d4, (f8 2 (by decide) (by decide)).trans d5, fun i hi => ⟨(dD i hi).1, fun j hj => ?_⟩, fun i hi => ⟨(dP i hi).1, fun j hj => ?_⟩, fun hl => ?_, fun hl => ?_⟩
  · rw [f8 _ (by omega) (by omega), show 8 * (i : Int) + 4 + (j : Int) + 150 = 8 * (i : Int) + 154 + (j : Int) by omega]
    exact (dD i hi).2 j hj
  · rw [f8 _ (by omega) (by omega), show 116 + 4 * (i : Int) + (j : Int) + 150 = 266 + 4 * (i : Int) + (j : Int) by omega]
    exact (dP i hi).2 j hj
  · rw [f8 3 (by decide) (by decide)]; exact (d9 hl).1
  · obtain ⟨a, b, c⟩ := dL hl
    refine ⟨by rw [f8 3 (by decide) (by decide)]; exact d10 hl, ?_, fun i hi => ?_⟩
    · rw [(fc _ (by omega) (by omega)).1, show (y.2.2.2.2.length : Int) + 1100 = 1100 + (y.2.2.2.2.length : Int) by omega]; exact b
    · rw [(fc i (by omega) (by omega)).1, (fc i (by omega) (by omega)).2, show (i : Int) + 1100 = 1100 + (i : Int) by omega]; exact c i hi
/-- behind a text without a fault: copies, a new day, answer 0 -/
theorem DQ_tail4 (he : 41 ≤ e) {G : LH} (gI : INV G) (gq : NQ G) (f0 : rd G 182 8 = 0) (k : ∀ g, INV g → (∀ i, rd g 187 i = rd G 187 i) → (∀ i, 0 ≤ i → i < 150 → rd g 188 i = rd G 188 (i + 150)) → (∀ m, 0 ≤ m → m < 4 → rd g 199 m = 0) → (BGN g ∧ rd g 182 28 = rd G 182 28 ∧ rd g 182 29 = rd G 182 29) → (rd g 182 18 = rd G 182 19 ∧ ∀ i, 0 ≤ i → i < rd G 182 19 → rd g 191 i = rd G 192 i ∧ rd g 193 i = rd G 194 i) → (∀ i, 0 ≤ i → i < rd G 182 13 → rd g 189 i = rd G 189 (i + 1100) ∧ rd g 190 i = rd G 190 (i + 1100)) → Q (some (.inl 0)) g) : Rn xs xl e mm_quarter 129 [some (.inr (.inr 182)), some (.inl 0)] [] G Q := by
  obtain ⟨q1, q2, q3, q4, q5⟩ := gq f0
  have c0 := rF_codes gI.1
  have n0 := rw_doors gI.1
  have n1 := rw_people gI.1
  refine q_copy1 (G := G) (fun g1 r1 c1 f1 => ?_) 150 G 0 (by omega) (by omega) (by omega) gI.1 (fun i i0 i1 => by omega) (fun _ _ _ => rfl)
  have e13 : rd g1 182 13 = rd G 182 13 := f1 _ _ (by omega)
  refine q_copy2 (G := g1) (by omega) (fun g2 r2 c2 f2 => ?_) (rd g1 182 13).toNat g1 0 (by omega) (by omega) (by omega) r1 (fun i i0 i1 => by omega) (fun _ _ _ => rfl)
  refine q_copy3N (G := g2) (fun g3 r3 f3 n3 => ?_) 20 g2 0 (by omega) (by omega) (by omega) r2 (fun _ _ _ => rfl) (fun i i0 i1 => by omega)
  have x188 : ∀ i, 0 ≤ i → i < 150 → rd g3 188 i = rd G 188 (i + 150) := fun i i0 i1 => ((f3 188 i (by omega)).trans (f2 188 i (by omega))).trans (c1 i i0 i1)
  have x0 := x188 0 (by omega) (by omega)
  have x1 := x188 1 (by omega) (by omega)
  have x2 := x188 2 (by omega) (by omega)
  have x3 := x188 3 (by omega) (by omega)
  have s4 : SP4 g3 := by
    have old : ∀ b j, b ≠ 188 → b ≠ 189 → b ≠ 190 → b ≠ 191 → b ≠ 193 → b ≠ 182 → rd g3 b j = rd G b j := fun b j n1 n2 n3 n4 n5 n6 => ((f3 b j (by omega)).trans (f2 b j (by omega))).trans (f1 b j (by omega))
    obtain ⟨⟨h1, h2, h3, h4, h5, h6, h7, h8⟩, hl, ht, hq, hw⟩ := gI.2
    refine ⟨⟨lines_same (fun j => old _ j (by decide) (by decide) (by decide) (by decide) (by decide) (by decide)) (fun j => old _ j (by decide) (by decide) (by decide) (by decide) (by decide) (by decide)) h1, lines_same (fun j => old _ j (by decide) (by decide) (by decide) (by decide) (by decide) (by decide)) (fun j => old _ j (by decide) (by decide) (by decide) (by decide) (by decide) (by decide)) h2, lines_same (fun j => old _ j (by decide) (by decide) (by decide) (by decide) (by decide) (by decide)) (fun j => old _ j (by decide) (by decide) (by decide) (by decide) (by decide) (by decide)) h3, lines_same (fun j => old _ j (by decide) (by decide) (by decide) (by decide) (by decide) (by decide)) (fun j => old _ j (by decide) (by decide) (by decide) (by decide) (by decide) (by decide)) h4, lines_same (fun j => old _ j (by decide) (by decide) (by decide) (by decide) (by decide) (by decide)) (fun j => old _ j (by decide) (by decide) (by decide) (by decide) (by decide) (by decide)) h5, lines_same (fun j => old _ j (by decide) (by decide) (by decide) (by decide) (by decide) (by decide)) (fun j => old _ j (by decide) (by decide) (by decide) (by decide) (by decide) (by decide)) h6, ?_, ?_⟩, ?_, ?_, ?_⟩
    · intro m m0 m1 q
      rw [old 195 _ (by decide) (by decide) (by decide) (by decide) (by decide) (by decide)] at q ⊢
      exact h7 m m0 m1 q
    · intro m m0 m1 j j0 j1 q
      rw [old 200 _ (by decide) (by decide) (by decide) (by decide) (by decide) (by decide)] at q ⊢
      exact h8 m m0 m1 j j0 j1 q
    · intro q
      rw [x3] at q
      rcases q5 with z | ⟨z1, n, z2, z3, z4⟩
      · have := z.1
        rw [show (3 + 150 : Int) = 153 by omega, this] at q
        cases q
      · have cp : ∀ j, 0 ≤ j → j < rd G 182 13 → rd g3 189 j = opR G j ∧ rd g3 190 j = arR G j := by
          intro j j0 j1
          have y := c2 j j0 (by omega)
          unfold opR arR
          rw [f3 189 j (by omega), f3 190 j (by omega), y.1, y.2, f1 189 _ (by omega), f1 190 _ (by omega), show (j + 1100 : Int) = 1100 + j by omega]
          exact ⟨rfl, rfl⟩
        have lt := seg_lt z3
        exact ⟨n, by omega, seg_same z3 (fun j j0 j1 => cp j j0 (by omega)), (cp n (by omega) (by omega)).1.trans z4⟩
    · unfold SPtok
      rw [old 184 _ (by decide) (by decide) (by decide) (by decide) (by decide) (by decide)]
      exact ht
    · refine ⟨fun d d0 d1 d2 => ?_, fun p p0 p1 p2 => ?_⟩
      · rw [x1] at d2
        rw [x188 _ (by omega) (by omega), x188 (6 + 8 * d) (by omega) (by omega), x0, show (5 + 8 * d + 150 : Int) = 155 + 8 * d by omega, show (6 + 8 * d + 150 : Int) = 156 + 8 * d by omega]
        exact q3 d d0 d2
      · rw [x2] at p2
        rw [x188 _ (by omega) (by omega), x0, show (117 + 4 * p + 150 : Int) = 267 + 4 * p by omega]
        exact q4 p p0 p2
  exact ⟨2, by omega, G_beginsX (by omega) r3 s4 (fun g4 i4 f4 m4 w4 v => B_quarter_258 (RF_of i4.1) (k g4 i4 (fun i => by rw [f4 187 i (by unfold muG; omega), f3 187 i (by omega), f2 187 i (by omega), f1 187 i (by omega)]) (fun i i0 i1 => (f4 188 i (by unfold muG; omega)).trans (x188 i i0 i1)) m4 ⟨w4, by rw [f4 182 28 (by unfold muG; omega), f3 182 28 (by omega), f2 182 28 (by omega), f1 182 28 (by omega)], by rw [f4 182 29 (by unfold muG; omega), f3 182 29 (by omega), f2 182 29 (by omega), f1 182 29 (by omega)]⟩ (by
    have o19 : rd g2 182 19 = rd G 182 19 := (f2 _ _ (by omega)).trans (f1 _ _ (by omega))
    rw [o19] at n3
    refine ⟨(f4 182 18 (by unfold muG; omega)).trans n3.1, fun i i0 i1 => ?_⟩
    rw [f4 191 i (by unfold muG; omega), f4 193 i (by unfold muG; omega), (n3.2 i i0 i1).1, (n3.2 i i0 i1).2, f2 192 i (by omega), f2 194 i (by omega), f1 192 i (by omega), f1 194 i (by omega)]
    exact ⟨rfl, rfl⟩) (fun i i0 i1 => by
    have y := c2 i i0 (by omega)
    rw [f4 189 i (by unfold muG; omega), f4 190 i (by unfold muG; omega), f3 189 i (by omega), f3 190 i (by omega), y.1, y.2, f1 189 _ (by omega), f1 190 _ (by omega)]
    exact ⟨rfl, rfl⟩)))⟩
theorem G_quarterF (he : 41 ≤ e) (hI : INV h) (h2 : rd h 182 2 = n) (n0 : 0 ≤ n) (n1 : n ≤ 1000) (hT : ∀ i, 0 ≤ i → i < n → rd h 183 i = T i) (hV : rd h 187 = V) (hi : Vinj V)
    (k : ∀ h', rd h' 187 = V → ((qF (tO T n) (tV T n 37) (tW T n 37 V) (tP T n)).1.1 ≠ 0 → ∀ a i, pq a i → rd h' a i = rd h a i) → ((qF (tO T n) (tV T n 37) (tW T n 37 V) (tP T n)).1.1 = 0 → rd h' 188 0 = qR (tV T n 37) (tW T n 37 V) (tP T n) ∧ (∀ m, 0 ≤ m → m < 4 → rd h' 199 m = 0) ∧ (BGN h' ∧ rd h' 182 28 = rd h 182 28 ∧ rd h' 182 29 = rd h 182 29) ∧ NMK T n h' (qF (tO T n) (tV T n 37) (tW T n 37 V) (tP T n)) ∧ RFD T n V h' (qF (tO T n) (tV T n 37) (tW T n 37 V) (tP T n))) → Q (some (.inl (qF (tO T n) (tV T n 37) (tW T n 37 V) (tP T n)).1.1)) h') : Rn xs xl e mm_quarter 0 [some (.inr (.inr 182)), none] [] h Q := by
  generalize eF : qF (tO T n) (tV T n 37) (tW T n 37 V) (tP T n) = Y at k
  obtain ⟨R, hRq⟩ : ∃ R, R = qR (tV T n 37) (tW T n 37 V) (tP T n) := ⟨_, rfl⟩
  rw [← hRq] at k
  have hp' : ∀ k, 0 ≤ tP T n k := fun k => tP_0 n1 n0 k
  have loop : ∀ (m : Nat) (c : Nat) (g : LH) (y : QY), qL (tO T n) (tV T n 37) (tW T n 37 V) (tP T n) R c y = Y → RSK T n V m g y.1 → INV g → NQ g → (∀ a i, pq a i → rd g a i = rd h a i) → (y.1.1 = 0 → DRKf T n V g R y ∧ 1000 ≤ y.1.2 + c) → Rn xs xl e mm_quarter 52 [some (.inr (.inr 182)), none] [] g Q := by
    intro m c
    induction c with
    | zero =>
      intro g y eY hs gI gq gf hd
      have gF := RF_of gI.1
      have e8 := hs.2.1
      have a7 := hs.2.2.2.1
      have p0 := hs.2.2.1
      have m1 := hs.1.2.2.2.2.1
      have eY' : y = Y := eY
      have stop : Rn xs xl e mm_quarter 115 [some (.inr (.inr 182)), none] [] g Q := by
        refine B_quarter_115 gF ⟨fun q => ?_, fun q => ?_⟩
        · have z : y.1.1 = 0 := by omega
          refine DQ_tail4 he gI gq (e8.trans z) (fun g4 _ f187 f188 f199 f34 fnm fcd => ?_)
          have := k g4 ((funext f187).trans hs.1.2.2.2.2.2.2.2.1)
          rw [← eY', z] at this
          exact this (fun q3 => absurd rfl q3) (fun _ => ⟨(f188 0 (by decide) (by decide)).trans (hd z).1.1.1.2.1, f199, ⟨f34.1, f34.2.1.trans (gf 182 28 (by unfold pq; omega)), f34.2.2.trans (gf 182 29 (by unfold pq; omega))⟩, NMK_of (hd z).1.1 fnm, RFD_of (hd z).1 f188 fcd⟩)
        · have := k g hs.1.2.2.2.2.2.2.2.1
          rw [← eY', ← e8] at this
          exact this (fun _ => gf) (fun q3 => absurd q3 (by omega))
      refine B_quarter_52 gF ⟨fun _ => stop, fun q => ⟨by omega, fun _ => stop, fun q2 => ?_⟩⟩
      have z : y.1.1 = 0 := e8.symm.trans q
      have eo := RS_o hs z
      have lt := RS_lt hs z (fun q3 => q2 (eo.trans q3))
      have := (hd z).2
      omega
    | succ c ih =>
      intro g y eY hs gI gq gf hd
      have gF := RF_of gI.1
      have e8 := hs.2.1
      have a7 := hs.2.2.2.1
      have p0 := hs.2.2.1
      have m1 := hs.1.2.2.2.2.1
      have stop : ¬ (y.1.1 = 0 ∧ tO T n y.1.2 ≠ 0) → Rn xs xl e mm_quarter 115 [some (.inr (.inr 182)), none] [] g Q := by
        intro ns
        have eY' : y = Y := by rw [qL_stop ns] at eY; exact eY
        refine B_quarter_115 gF ⟨fun q => ?_, fun q => ?_⟩
        · have z : y.1.1 = 0 := by omega
          refine DQ_tail4 he gI gq (e8.trans z) (fun g4 _ f187 f188 f199 f34 fnm fcd => ?_)
          have := k g4 ((funext f187).trans hs.1.2.2.2.2.2.2.2.1)
          rw [← eY', z] at this
          exact this (fun q3 => absurd rfl q3) (fun _ => ⟨(f188 0 (by decide) (by decide)).trans (hd z).1.1.1.2.1, f199, ⟨f34.1, f34.2.1.trans (gf 182 28 (by unfold pq; omega)), f34.2.2.trans (gf 182 29 (by unfold pq; omega))⟩, NMK_of (hd z).1.1 fnm, RFD_of (hd z).1 f188 fcd⟩)
        · have := k g hs.1.2.2.2.2.2.2.2.1
          rw [← eY', ← e8] at this
          exact this (fun _ => gf) (fun q3 => absurd q3 (by omega))
      refine B_quarter_52 gF ⟨fun q => stop (fun q3 => q (e8.trans q3.1)), fun q => ⟨by omega, fun q2 => stop (fun q3 => q3.2 ((RS_o hs q3.1).symm.trans q2)), fun q2 => ?_⟩⟩
      have z : y.1.1 = 0 := e8.symm.trans q
      have eo := RS_o hs z
      have no : tO T n y.1.2 ≠ 0 := fun q3 => q2 (eo.trans q3)
      have lt := RS_lt hs z no
      have l7 := (hs.2.2.2.2 z).1
      obtain ⟨D, hc⟩ := hd z
      rw [qL_go ⟨z, no⟩] at eY
      have gp : PB g := ⟨gI, trivial⟩
      have l9 : rd g 182 7 ≤ 999 := by omega
      have t106 : ∀ (g1 : LH) (s1 : Int × Nat), RSK T n V m g1 s1 → PL g g1 → (qS (tO T n) (tV T n 37) (tW T n 37 V) (tP T n) R y).1 = tkS (tO T n) (tV T n 37) (tP T n) 59 s1 → (s1.1 = 0 → DRKf T n V g1 R (qS (tO T n) (tV T n 37) (tW T n 37 V) (tP T n) R y)) → Rn xs xl e mm_quarter 106 [some (.inr (.inr 182)), none] [] g1 Q := by
        generalize qS (tO T n) (tV T n 37) (tW T n 37 V) (tP T n) R y = y' at eY
        intro g1 s1 r1 p1 e1 d1
        have A : Rn xs xl 1 mm_takeSign 0 [some (.inr (.inr 182)), some (.inl 59)] [] g1 (fun r g2 => r = none ∧ RSK T n V m g2 (tkS (tO T n) (tV T n 37) (tP T n) 59 s1) ∧ frT g1 g2) := G_takeSign (by omega) r1 (fun h' a b => ⟨rfl, a, b⟩)
        have B : Rn xs xl 1 mm_takeSign 0 [some (.inr (.inr 182)), some (.inl 59)] [] g1 (fun r g2 => r = none ∧ PG muT g1 g2) := D_takeSign (by omega) p1.1 (fun g2 p2 _ => ⟨rfl, p2⟩)
        refine B_quarter_106 (RF_of p1.1.1.1) ⟨1, by omega, (A.and B).mono (fun r g2 q => ?_)⟩
        obtain ⟨⟨rfl, a1, a2⟩, -, p2⟩ := q
        rw [← e1] at a1
        refine B_quarter_112 p2.rf (ih g2 y' eY a1 p2.inv (NQ_T p2 p1.2.2.1) (fun a i ha => ?_) (fun z' => ?_))
        · unfold pq at ha
          rw [p2.2.2.2 a i (by unfold muT; omega), p1.2.2.2 a i (by unfold muA; omega)]
          exact gf a i ha
        have z8 : rd g2 182 8 = 0 := a1.2.1.trans z'
        have z1 := p2.2.2.1 z8
        have ge := p2.2.1
        have g1' := (p1.2.1 z1).2
        have l2 := (a1.2.2.2.2 z').1
        exact ⟨DRKf_T (d1 (r1.2.1.symm.trans z1)) a2 rfl, by omega⟩
      obtain ⟨⟨⟨d1, d2, d3, d4, d5, d6, d7, d8, d9, d10⟩, C, dC, dR⟩, dD, dP, dL⟩ := D
      refine ⟨0, by omega, G_isWord hs (by omega) (fun _ ew => ?_) (fun nw => ?_)⟩
      · -- a door
        have B : Rn xs xl 5 mm_readDoor 0 [some (.inr (.inr 182)), none, none, none, none] [] g (fun r g1 => r = none ∧ PL g g1) := D_readDoor (by omega) gp gq l9 (e8.trans z) (fun g1 p1 => ⟨rfl, p1⟩)
        by_cases c14 : 14 ≤ y.2.2.1.length
        · have A : Rn xs xl 5 mm_readDoor 0 [some (.inr (.inr 182)), none, none, none, none] [] g (fun r g1 => r = none ∧ RSK T n V m g1 (tkE (tP T n) 5 y.1)) := G_readDoorX hs (by omega) (by omega) (fun h' a b => ⟨rfl, a⟩)
          refine B_quarter_76_1 gF ⟨5, by omega, (A.and B).mono (fun r g1 q => ?_)⟩
          obtain ⟨⟨rfl, a1⟩, -, p1⟩ := q
          have ne := tkE_ne' hs (v1 := 5) (by decide)
          refine B_quarter_83 (RF_of p1.1.1.1) (t106 g1 _ a1 p1 ?_ (fun q3 => absurd q3 ne))
          rw [tkS_f ne]
          unfold qS
          rw [if_pos ew, if_pos c14]
        · have A : Rn xs xl 5 mm_readDoor 0 [some (.inr (.inr 182)), none, none, none, none] [] g (fun r g1 => r = none ∧ RSK T n V m g1 (drL (tO T n) (tV T n 37) (tW T n 37 V) (tP T n) R y.2.1 y.1) ∧ ((drL (tO T n) (tV T n 37) (tW T n 37 V) (tP T n) R y.2.1 y.1).1 = 0 → (NRK T n g1 (y.2.1 ++ [y.1.2 + 1]) ∧ CDK g1 (C ++ [(y.2.2.1.length : Int)])) ∧ rd g1 188 151 = (y.2.2.1.length : Int) + 1 ∧ (rd g1 188 (8 * (y.2.2.1.length : Int) + 154) = tW T n 37 V (drC (tO T n) (tV T n 37) (tW T n 37 V) (tP T n) R y.2.1 y.1).2 - 14 ∧ rd g1 188 (8 * (y.2.2.1.length : Int) + 154 + 1) = tV T n 37 (drA (tO T n) (tV T n 37) (tW T n 37 V) (tP T n) y.2.1 y.1).2 ∧ rd g1 188 (8 * (y.2.2.1.length : Int) + 154 + 2) = tV T n 37 (drB (tO T n) (tV T n 37) (tW T n 37 V) (tP T n) R y.2.1 y.1).2 ∧ drFl T n V g1 (y.2.2.1.length : Int) (drD (tO T n) (tV T n 37) (tW T n 37 V) (tP T n) R y.2.1 y.1))) ∧ (∀ a i, ¬ muDR (y.2.2.1.length : Int) a i → rd g1 a i = rd g a i)) := G_readDoorC (by omega) hs z no d1 dC (by omega) d2 d3 d4 (by omega) (fun h' a b f => ⟨rfl, a, fun q3 => b q3, f⟩)
          refine B_quarter_76_1 gF ⟨5, by omega, (A.and B).mono (fun r g1 q => ?_)⟩
          obtain ⟨⟨rfl, a1, a2, a3⟩, -, p1⟩ := q
          refine B_quarter_83 (RF_of p1.1.1.1) (t106 g1 _ a1 p1 ?_ (fun q3 => ?_))
          · unfold qS
            rw [if_pos ew, if_neg c14]
          · obtain ⟨b1, b2, bF⟩ := a2 q3
            have DF := rD_app (x := y.1.2 + 1) dD (fun i j i0 j0 j1 => a3 188 _ (by unfold muDR muNK; omega)) ⟨Nat.le_add_left 1 _, rdf_of hp' z q3 bF⟩
            have PF := rP_same dP (fun i j i0 j0 j1 => a3 188 _ (by unfold muDR muNK; omega))
            have LF := rL_same dL (a3 182 13 (by unfold muDR muNK; omega)) (fun a i ha => a3 a i (by unfold muDR muNK; omega))
            unfold DRKf DRKc DRK qS
            rw [if_pos ew, if_neg c14]
            rw [a3 188 150 (by unfold muDR muNK; omega), a3 188 152 (by unfold muDR muNK; omega), a3 188 153 (by unfold muDR muNK; omega), a3 182 13 (by unfold muDR muNK; omega), b2]
            simp only [List.length_append, List.length_singleton]
            exact ⟨⟨⟨b1.1, d2, d3, by omega, d5, by omega, by omega, d8, d9, d10⟩, _, b1.2, CRel_d dR⟩, DF, PF, LF⟩
      · refine B_quarter_76_0 gF ⟨0, by omega, G_isWord hs (by omega) (fun _ ew => ?_) (fun nw7 => ?_)⟩
        · have n1' := nw z
          have B : Rn xs xl 5 mm_readPerson 0 [some (.inr (.inr 182)), none, none] [] g (fun r g1 => r = none ∧ PL g g1) := D_readPerson (by omega) gp gq l9 (e8.trans z) (fun g1 p1 => ⟨rfl, p1⟩)
          by_cases c6 : 6 ≤ y.2.2.2.1.length
          · have A : Rn xs xl 5 mm_readPerson 0 [some (.inr (.inr 182)), none, none] [] g (fun r g1 => r = none ∧ RSK T n V m g1 (tkE (tP T n) 5 y.1)) := B_readPerson_0 gF ⟨fun q3 => by omega, fun _ => ⟨0, by omega, G_wrong hs (by omega) (fun h1 s1 f1 => B_readPerson_20 s1.1.1 ⟨rfl, s1⟩)⟩⟩
            refine B_quarter_92_1 gF ⟨5, by omega, (A.and B).mono (fun r g1 q => ?_)⟩
            obtain ⟨⟨rfl, a1⟩, -, p1⟩ := q
            have ne := tkE_ne' hs (v1 := 5) (by decide)
            refine B_quarter_99 (RF_of p1.1.1.1) (t106 g1 _ a1 p1 ?_ (fun q3 => absurd q3 ne))
            rw [tkS_f ne]
            unfold qS
            rw [if_neg n1', if_pos ew, if_pos c6]
          · have A : Rn xs xl 5 mm_readPerson 0 [some (.inr (.inr 182)), none, none] [] g (fun r g1 => r = none ∧ RSK T n V m g1 (psL (tO T n) (tV T n 37) (tW T n 37 V) (tP T n) R y.2.1 y.1) ∧ ((psL (tO T n) (tV T n 37) (tW T n 37 V) (tP T n) R y.2.1 y.1).1 = 0 → (NRK T n g1 (y.2.1 ++ [y.1.2 + 1]) ∧ CDK g1 (C ++ [(y.2.2.2.1.length : Int) + 20])) ∧ rd g1 188 152 = (y.2.2.2.1.length : Int) + 1 ∧ (rd g1 188 (266 + 4 * (y.2.2.2.1.length : Int)) = tW T n 37 V (psA (tO T n) (tV T n 37) (tW T n 37 V) (tP T n) y.2.1 y.1).2 - 18 ∧ rd g1 188 (267 + 4 * (y.2.2.2.1.length : Int)) = tV T n 37 (psB (tO T n) (tV T n 37) (tW T n 37 V) (tP T n) y.2.1 y.1).2 ∧ rd g1 188 (268 + 4 * (y.2.2.2.1.length : Int)) = tV T n 37 (psC (tO T n) (tV T n 37) (tW T n 37 V) (tP T n) R y.2.1 y.1).2 ∧ rd g1 188 (269 + 4 * (y.2.2.2.1.length : Int)) = tV T n 37 (psD (tO T n) (tV T n 37) (tW T n 37 V) (tP T n) R y.2.1 y.1).2)) ∧ (∀ a i, ¬ muP (y.2.2.2.1.length : Int) a i → rd g1 a i = rd g a i)) := G_readPersonC (by omega) hs z no d1 dC (by omega) d2 d3 d5 (by omega) (fun h' a b f => ⟨rfl, a, fun q3 => b q3, f⟩)
            refine B_quarter_92_1 gF ⟨5, by omega, (A.and B).mono (fun r g1 q => ?_)⟩
            obtain ⟨⟨rfl, a1, a2, a3⟩, -, p1⟩ := q
            refine B_quarter_99 (RF_of p1.1.1.1) (t106 g1 _ a1 p1 ?_ (fun q3 => ?_))
            · unfold qS
              rw [if_neg n1', if_pos ew, if_neg c6]
            · obtain ⟨b1, b2, bF⟩ := a2 q3
              have PF := rP_app (x := y.1.2 + 1) dP (fun i j i0 j0 j1 => a3 188 _ (by unfold muP muNK; omega)) ⟨Nat.le_add_left 1 _, rpf_of hp' z q3 bF⟩
              have DF := rD_same dD (fun i j i0 j0 j1 => a3 188 _ (by unfold muP muNK; omega))
              have LF := rL_same dL (a3 182 13 (by unfold muP muNK; omega)) (fun a i ha => a3 a i (by unfold muP muNK; omega))
              unfold DRKf DRKc DRK qS
              rw [if_neg n1', if_pos ew, if_neg c6]
              rw [a3 188 150 (by unfold muP muNK; omega), a3 188 151 (by unfold muP muNK; omega), a3 188 153 (by unfold muP muNK; omega), a3 182 13 (by unfold muP muNK; omega), b2]
              simp only [List.length_append, List.length_singleton]
              exact ⟨⟨⟨b1.1, d2, d3, d4, by omega, by omega, d7, by omega, d9, d10⟩, _, b1.2, CRel_p dR⟩, DF, PF, LF⟩
        · have n1' := nw z
          have n7' := nw7 z
          have B : Rn xs xl 39 mm_readLet 0 [some (.inr (.inr 182))] [] g (fun r g1 => r = none ∧ PL g g1) := D_readLet (by omega) gp gq (e8.trans z) (fun g1 p1 => ⟨rfl, p1⟩)
          have h13 : rd g 188 153 < 0 → rd g 182 13 = 0 := by
            intro q3
            rcases Nat.eq_zero_or_pos y.2.2.2.2.length with u | u
            · exact (d9 u).2
            · have := d10 u
              omega
          by_cases w11 : tW T n 37 V y.1.2 = 11
          · by_cases cl : 0 < y.2.2.2.2.length
            · have A : Rn xs xl 39 mm_readLet 0 [some (.inr (.inr 182))] [] g (fun r g1 => r = none ∧ RSK T n V m g1 (tkE (tP T n) 3 y.1)) := G_readLet (by omega) hs z (fun q3 => absurd w11 q3) (fun _ _ h' a b => ⟨rfl, a⟩) h13 (fun _ q3 => absurd (d10 cl) (by omega))
              refine B_quarter_92_0 gF ⟨39, by omega, (A.and B).mono (fun r g1 q => ?_)⟩
              obtain ⟨⟨rfl, a1⟩, -, p1⟩ := q
              have ne := tkE_ne' hs (v1 := 3) (by decide)
              refine t106 g1 _ a1 p1 ?_ (fun q3 => absurd q3 ne)
              rw [tkS_f ne]
              unfold qS
              rw [if_neg n1', if_neg n7', if_pos w11, if_pos cl]
            · have d9' := d9 (by omega)
              have A : Rn xs xl 39 mm_readLet 0 [some (.inr (.inr 182))] [] g (fun r g1 => r = none ∧ RSK T n V m g1 (qX (tO T n) (tV T n 37) (tW T n 37 V) (tP T n) y.1).1 ∧ rd g1 188 153 = 0 ∧ ((qX (tO T n) (tV T n 37) (tW T n 37 V) (tP T n) y.1).1.1 = 0 → rd g1 182 13 = (qX (tO T n) (tV T n 37) (tW T n 37 V) (tP T n) y.1).2.length + 1 ∧ rd g1 189 (1100 + ((qX (tO T n) (tV T n 37) (tW T n 37 V) (tP T n) y.1).2.length : Int)) = 0 ∧ ∀ i : Nat, i < (qX (tO T n) (tV T n 37) (tW T n 37 V) (tP T n) y.1).2.length → rd g1 189 (1100 + i) = cdO ((qX (tO T n) (tV T n 37) (tW T n 37 V) (tP T n) y.1).2.getD i 0) ∧ rd g1 190 (1100 + i) = cdA ((qX (tO T n) (tV T n 37) (tW T n 37 V) (tP T n) y.1).2.getD i 0)) ∧ (∀ a i, ¬ muLL a i → rd g1 a i = rd g a i)) := G_readLet (by omega) hs z (fun q3 => absurd w11 q3) (fun _ q3 => absurd q3 (by omega)) h13 (fun _ _ h' a b cc f => ⟨rfl, a, b, cc, f⟩)
              refine B_quarter_92_0 gF ⟨39, by omega, (A.and B).mono (fun r g1 q => ?_)⟩
              obtain ⟨⟨rfl, a1, a2, aL, a3⟩, -, p1⟩ := q
              refine t106 g1 _ a1 p1 ?_ (fun q3 => ?_)
              · unfold qS
                rw [if_neg n1', if_neg n7', if_pos w11, if_neg cl]
              · have ln := qX_len (fun j => tP_0 hs.1.2.2.2.2.2.2.1 hs.1.2.2.2.2.2.1 j) q3
                have DF := rD_same (g1 := g1) dD (fun i j i0 j0 j1 => a3 188 _ (by unfold muLL muLK; omega))
                have PF := rP_same (g1 := g1) dP (fun i j i0 j0 j1 => a3 188 _ (by unfold muLL muLK; omega))
                have LF : rLk g1 (qX (tO T n) (tV T n 37) (tW T n 37 V) (tP T n) y.1).2 := fun _ => aL q3
                unfold DRKf DRKc DRK qS
                rw [if_neg n1', if_neg n7', if_pos w11, if_neg cl]
                rw [a3 188 150 (by unfold muLL muLK; omega), a3 188 151 (by unfold muLL muLK; omega), a3 188 152 (by unfold muLL muLK; omega), a2]
                have dn : NRK T n g1 y.2.1 := by
                  refine ⟨(a3 182 19 (by unfold muLL muLK; omega)).trans d1.1, fun i hi => ?_⟩
                  rw [a3 192 _ (by unfold muLL muLK; omega), a3 194 _ (by unfold muLL muLK; omega)]
                  exact d1.2 i hi
                exact ⟨⟨⟨dn, d2, d3, d4, d5, d6, d7, d8, fun q4 => absurd q4 (Nat.ne_of_gt ln), fun _ => Int.le_refl 0⟩, C, CDK_fr dC (a3 182 19 (by unfold muLL muLK; omega)) (fun i => a3 194 i (by unfold muLL muLK; omega)), dR⟩, DF, PF, LF⟩
          · have A : Rn xs xl 39 mm_readLet 0 [some (.inr (.inr 182))] [] g (fun r g1 => r = none ∧ RSK T n V m g1 (tkE (tP T n) 1 y.1)) := G_readLet (by omega) hs z (fun _ h' a b => ⟨rfl, a⟩) (fun q3 => absurd q3 w11) h13 (fun q3 => absurd q3 w11)
            refine B_quarter_92_0 gF ⟨39, by omega, (A.and B).mono (fun r g1 q => ?_)⟩
            obtain ⟨⟨rfl, a1⟩, -, p1⟩ := q
            have ne := tkE_ne' hs (v1 := 1) (by decide)
            refine t106 g1 _ a1 p1 ?_ (fun q3 => absurd q3 ne)
            rw [tkS_f ne]
            unfold qS
            rw [if_neg n1', if_neg n7', if_neg w11]
  have i0 : INV (wr h 182 0 0) := wF_thrown hI (by omega) (by omega)
  have A0 : Rn xs xl 2 mm_cutAll 0 [some (.inr (.inr 182)), none, none, none, none, none, none] [] (wr h 182 0 0) (fun r h1 => r = none ∧ ∃ m : Nat, (∀ j : Nat, j ≤ m → RTK T n h1 j) ∧ tO T n m = 0 ∧ (∀ j : Nat, j < m → tO T n j ≠ 0) ∧ m ≤ 1000) := F_cutAll (by omega) (RF_of i0.1) ((rdw_nei (by decide)).trans h2) n0 n1 (fun i i0 i1 => (rdw_ne (by decide)).trans (hT i i0 i1)) (fun h' m c1 c2 c3 c4 _ _ _ _ => ⟨rfl, m, c1, c2, c3, c4⟩)
  have B0 : Rn xs xl 2 mm_cutAll 0 [some (.inr (.inr 182)), none, none, none, none, none, none] [] (wr h 182 0 0) (fun r h1 => r = none ∧ INV h1 ∧ rd h1 182 7 = 0 ∧ rd h1 182 8 = 0 ∧ rd h1 182 2 = 0 ∧ (∀ a i, ¬ muC a i → rd h1 a i = rd (wr h 182 0 0) a i)) := D_cutAll (by omega) i0 (fun h1 i1 a1 f1 t1 fr1 => ⟨rfl, i1, a1, f1, t1, fr1⟩)
  refine B_quarter_0 (RF_of hI.1) ⟨2, by omega, (A0.and B0).mono (fun r h1 q => ?_)⟩
  obtain ⟨⟨rfl, m, c1, c2, c3, c4⟩, -, i1, a1, f1, t1, fr1⟩ := q
  have i2 : INV (wr (wr h1 182 13 0) 182 19 0) := wF_readMany (wF_codes i1 (by omega) (by omega)) (by omega) (by omega)
  refine B_quarter_9 (RF_of i1.1) ⟨0, by omega, D_stands i2 (fun h3 i3 m3 z3 fr3 => ?_)⟩
  have e3 : ∀ a i, ¬ (a = 188 ∧ 150 ≤ i) → ¬ (a = 182 ∧ (i = 13 ∨ i = 19)) → rd h3 a i = rd h1 a i := by
    intro a i n1 n2
    rw [fr3 a i n1, rd_wr, if_neg, rd_wr, if_neg] <;> (rintro ⟨rfl, rfl⟩; exact n2 (by omega))
  have x3 : rd h3 182 13 = 0 := (fr3 _ _ (by omega)).trans ((rdw_nei (by decide)).trans rdw_eq)
  have m3' : rd h3 182 19 = 0 := (fr3 _ _ (by omega)).trans rdw_eq
  have s3 : RSK T n V m h3 (0, 0) := by
    refine ⟨⟨RF_of i3.1, fun j hj => ?_, c2, c3, c4, n0, n1, ?_, hi⟩, ?_, Int.le_refl 0, ?_, fun _ => ⟨?_, Nat.zero_le _⟩⟩
    · obtain ⟨r1, r2, r3⟩ := c1 j hj
      exact ⟨(e3 _ _ (by omega) (by omega)).trans r1, (e3 _ _ (by omega) (by omega)).trans r2, fun q1 q2 => (e3 _ _ (by omega) (by omega)).trans (r3 q1 q2)⟩
    · rw [← hV]
      funext i
      rw [e3 _ _ (by omega) (by omega), fr1 _ _ (by unfold muC; omega), rdw_ne (by decide)]
    · rw [e3 _ _ (by omega) (by omega), f1]
    · rw [e3 _ _ (by omega) (by omega), a1]; decide
    · rw [e3 _ _ (by omega) (by omega), a1]; rfl
  have A4 : Rn xs xl 2 mm_takeWord 0 [some (.inr (.inr 182)), some (.inl 0)] [] h3 (fun r h4 => r = none ∧ RSK T n V m h4 (tkW (tW T n 37 V) (tP T n) 0 (0, 0))) := G_takeWord (by omega) s3 (by omega) (fun h' a b => ⟨rfl, a⟩)
  have B4 : Rn xs xl 2 mm_takeWord 0 [some (.inr (.inr 182)), some (.inl 0)] [] h3 (fun r h4 => r = none ∧ PG muT h3 h4) := D_takeWord (by omega) ⟨i3, trivial⟩ (by omega) (fun h4 p4 => ⟨rfl, p4⟩)
  refine B_quarter_26 (RF_of i3.1) ⟨2, by omega, (A4.and B4).mono (fun r h4 q => ?_)⟩
  obtain ⟨⟨rfl, s4⟩, -, p4⟩ := q
  have A5 : Rn xs xl 1 mm_takeNumber 0 [some (.inr (.inr 182)), some (.inl 2), some (.inl 10)] [] h4 (fun r h5 => ∃ x, r = some (.inl x) ∧ RSK T n V m h5 (tkN (tO T n) (tV T n 37) (tP T n) 2 10 (tkW (tW T n 37 V) (tP T n) 0 (0, 0))) ∧ ((tkN (tO T n) (tV T n 37) (tP T n) 2 10 (tkW (tW T n 37 V) (tP T n) 0 (0, 0))).1 = 0 → x = qR (tV T n 37) (tW T n 37 V) (tP T n))) := G_takeNumber (by omega) s4 ⟨by unfold i32; omega, by unfold i32; omega⟩ (fun h' r a _ b _ => ⟨r, rfl, a, fun q3 => (b q3).1⟩)
  have B5 : Rn xs xl 1 mm_takeNumber 0 [some (.inr (.inr 182)), some (.inl 2), some (.inl 10)] [] h4 (fun r h5 => ∃ x, r = some (.inl x) ∧ PG muT h4 h5 ∧ (rd h5 182 8 = 0 → 2 ≤ x ∧ x ≤ 10) ∧ (rd h5 182 8 ≠ 0 → x = 0)) := D_takeNumber (by omega) p4.1 (by unfold i32; omega) (by unfold i32; omega) (fun r h5 p5 a5 b5 => ⟨r, rfl, p5, fun q3 => ⟨(a5 q3).1, (a5 q3).2.1⟩, b5⟩)
  refine B_quarter_31 p4.rf ⟨1, by omega, (A5.and B5).mono (fun r h5 q => ?_)⟩
  obtain ⟨⟨x, rfl, s5, q5⟩, x', ex, p5, a5, b5⟩ := q
  cases ex
  have rb : 0 ≤ x ∧ x ≤ 10 := by
    by_cases z : rd h5 182 8 = 0
    · have := a5 z; omega
    · have := b5 z; omega
  have i6 : INV (wr h5 188 150 x) := wq_rooms p5.inv rb.1 rb.2
  have A7 : Rn xs xl 1 mm_takeSign 0 [some (.inr (.inr 182)), some (.inl 59)] [] (wr h5 188 150 x) (fun r h7 => r = none ∧ RSK T n V m h7 (qA (tO T n) (tV T n 37) (tW T n 37 V) (tP T n))) := G_takeSign (by omega) (RSK_w s5) (fun h' a b => ⟨rfl, a⟩)
  have B7 : Rn xs xl 1 mm_takeSign 0 [some (.inr (.inr 182)), some (.inl 59)] [] (wr h5 188 150 x) (fun r h7 => r = none ∧ PG muT (wr h5 188 150 x) h7) := D_takeSign (by omega) ⟨i6, trivial⟩ (fun h7 p7 _ => ⟨rfl, p7⟩)
  refine B_quarter_45 p5.rf ⟨1, by omega, (A7.and B7).mono (fun r h7 q => ?_)⟩
  obtain ⟨⟨rfl, s7⟩, -, p7⟩ := q
  have p45 := p4.trans p5
  have e7 : ∀ a i, ¬ muT a i → ¬ (a = 188 ∧ i = 150) → rd h7 a i = rd h3 a i := by
    intro a i n1 n2
    rw [p7.2.2.2 a i n1, rd_wr, if_neg (by rintro ⟨rfl, rfl⟩; exact n2 ⟨rfl, rfl⟩)]
    exact p45.2.2.2 a i n1
  have y : ∀ i, i ≠ 150 → rd h7 188 i = rd h3 188 i := fun i hi => e7 188 i (by unfold muT; omega) (by omega)
  have y0 : rd h7 188 150 = x := (p7.2.2.2 _ _ (by unfold muT; omega)).trans rdw_eq
  have y1 : rd h7 188 151 = 0 := (y 151 (by decide)).trans (z3 151 (by decide) (by decide) (by decide))
  have y2 : rd h7 188 152 = 0 := (y 152 (by decide)).trans (z3 152 (by decide) (by decide) (by decide))
  have y3 : rd h7 188 153 = -1 := (y 153 (by decide)).trans m3
  have yc : rd h7 182 13 = 0 := (e7 182 13 (by unfold muT; omega) (by omega)).trans x3
  have yn : rd h7 182 19 = 0 := (e7 182 19 (by unfold muT; omega) (by omega)).trans m3'
  refine loop m 1000 h7 (qB (tO T n) (tV T n 37) (tW T n 37 V) (tP T n)) (by rw [hRq]; exact eF) s7 p7.inv (fun z => ?_) (fun a i ha => ?_) (fun z => ⟨?_, ?_⟩)
  · have z6 := p7.2.2.1 z
    rw [rdw_ne (by decide)] at z6
    have r2 := a5 z6
    refine ⟨by omega, by omega, fun d d0 d1 => by omega, fun p p0 p1 => by omega, Or.inl ⟨y3, yc⟩⟩
  · unfold pq at ha
    rw [e7 a i (by unfold muT; omega) (by omega), e3 a i (by omega) (by omega), fr1 a i (by unfold muC; omega), rd_wr, if_neg (by omega)]
  · have z5 : (tkN (tO T n) (tV T n 37) (tP T n) 2 10 (tkW (tW T n 37 V) (tP T n) 0 (0, 0))).1 = 0 := tkS_z z
    have ex := q5 z5
    refine ⟨⟨⟨⟨yn, fun i hi => absurd hi (Nat.not_lt_zero i)⟩, y0.trans (ex.trans hRq.symm), by rw [hRq, ← ex]; exact rb, y1, y2, rfl, Nat.zero_le 14, Nat.zero_le 6, fun _ => ⟨by omega, yc⟩, fun q3 => absurd q3 (Nat.lt_irrefl 0)⟩, [], ⟨yn, fun i hi => absurd hi (Nat.not_lt_zero i)⟩, CRel_0⟩, fun i hi => absurd hi (Nat.not_lt_zero i), fun i hi => absurd hi (Nat.not_lt_zero i), fun hi => absurd hi (Nat.lt_irrefl 0)⟩
  · omega
end QH2
