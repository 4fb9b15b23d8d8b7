/-! days, part n1: the reference's quarter and the names that it leaves -/
/-- the codes C name what the names N are of: doors ND, people NP -/
def CRel (N ND NP : List Nat) (C : List Int) : Prop := C.length = N.length ∧ (∀ i : Nat, i < N.length → (∃ j : Nat, j < ND.length ∧ C.getD i 0 = (j : Int) ∧ ND.getD j 0 = N.getD i 0) ∨ (∃ j : Nat, j < NP.length ∧ C.getD i 0 = 20 + (j : Int) ∧ NP.getD j 0 = N.getD i 0)) ∧ (∀ j : Nat, j < ND.length → ∃ i : Nat, i < N.length ∧ C.getD i 0 = (j : Int) ∧ ND.getD j 0 = N.getD i 0) ∧ (∀ j : Nat, j < NP.length → ∃ i : Nat, i < N.length ∧ C.getD i 0 = 20 + (j : Int) ∧ NP.getD j 0 = N.getD i 0)
theorem CRel_0 : CRel [] [] [] [] := ⟨rfl, fun i hi => absurd hi (Nat.not_lt_zero i), fun i hi => absurd hi (Nat.not_lt_zero i), fun i hi => absurd hi (Nat.not_lt_zero i)⟩
theorem CRel_d {N ND NP : List Nat} {C : List Int} {x : Nat} (h : CRel N ND NP C) : CRel (N ++ [x]) (ND ++ [x]) NP (C ++ [(ND.length : Int)]) := by
  obtain ⟨h1, h2, h3, h4⟩ := h
  refine ⟨by rw [List.length_append, List.length_append, h1]; rfl, fun i hi => ?_, fun j hj => ?_, fun j hj => ?_⟩
  · rw [List.length_append, List.length_singleton] at hi
    rcases Nat.lt_or_ge i N.length with u | u
    · rw [getI_l (by omega), getD_l u]
      rcases h2 i u with ⟨j, j1, j2, j3⟩ | q
      · exact Or.inl ⟨j, by rw [List.length_append, List.length_singleton]; omega, j2, by rw [getD_l j1]; exact j3⟩
      · exact Or.inr q
    · have e : i = N.length := by omega
      subst e
      refine Or.inl ⟨ND.length, by rw [List.length_append, List.length_singleton]; omega, ?_, ?_⟩
      · rw [← h1, getI_e]
      · rw [getD_e, getD_e]
  · rw [List.length_append, List.length_singleton] at hj
    rcases Nat.lt_or_ge j ND.length with u | u
    · obtain ⟨i, i1, i2, i3⟩ := h3 j u
      exact ⟨i, by rw [List.length_append, List.length_singleton]; omega, by rw [getI_l (by omega)]; exact i2, by rw [getD_l u, getD_l i1]; exact i3⟩
    · have e : j = ND.length := by omega
      subst e
      refine ⟨N.length, by rw [List.length_append, List.length_singleton]; omega, ?_, ?_⟩
      · rw [← h1, getI_e]
      · rw [getD_e, getD_e]
  · obtain ⟨i, i1, i2, i3⟩ := h4 j hj
    exact ⟨i, by rw [List.length_append, List.length_singleton]; omega, by rw [getI_l (by omega)]; exact i2, by rw [getD_l i1]; exact i3⟩
theorem CRel_p {N ND NP : List Nat} {C : List Int} {x : Nat} (h : CRel N ND NP C) : CRel (N ++ [x]) ND (NP ++ [x]) (C ++ [(NP.length : Int) + 20]) := by
  obtain ⟨h1, h2, h3, h4⟩ := h
  refine ⟨by rw [List.length_append, List.length_append, h1]; rfl, fun i hi => ?_, fun j hj => ?_, fun j hj => ?_⟩
  · rw [List.length_append, List.length_singleton] at hi
    rcases Nat.lt_or_ge i N.length with u | u
    · rw [getI_l (by omega), getD_l u]
      rcases h2 i u with q | ⟨j, j1, j2, j3⟩
      · exact Or.inl q
      · exact Or.inr ⟨j, by rw [List.length_append, List.length_singleton]; omega, j2, by rw [getD_l j1]; exact j3⟩
    · have e : i = N.length := by omega
      subst e
      refine Or.inr ⟨NP.length, by rw [List.length_append, List.length_singleton]; omega, ?_, ?_⟩
      · rw [← h1, getI_e]; omega
      · rw [getD_e, getD_e]
  · obtain ⟨i, i1, i2, i3⟩ := h3 j hj
    exact ⟨i, by rw [List.length_append, List.length_singleton]; omega, by rw [getI_l (by omega)]; exact i2, by rw [getD_l i1]; exact i3⟩
  · rw [List.length_append, List.length_singleton] at hj
    rcases Nat.lt_or_ge j NP.length with u | u
    · obtain ⟨i, i1, i2, i3⟩ := h4 j u
      exact ⟨i, by rw [List.length_append, List.length_singleton]; omega, by rw [getI_l (by omega)]; exact i2, by rw [getD_l u, getD_l i1]; exact i3⟩
    · have e : j = NP.length := by omega
      subst e
      refine ⟨N.length, by rw [List.length_append, List.length_singleton]; omega, ?_, ?_⟩
      · rw [← h1, getI_e]; omega
      · rw [getD_e, getD_e]
section NB
variable {xs : Nat → Int} {xl e : Nat} {h : LH} {Q : Option LV → LH → Prop} {T : Int → Int} {n : Int} {V : Int → Int} {m : Nat}
theorem q_copy3N {G : LH} (k : ∀ g, RNG g → (∀ a i, ¬ (a = 191 ∨ a = 193 ∨ (a = 182 ∧ i = 18)) → rd g a i = rd G a i) → (rd g 182 18 = rd G 182 19 ∧ ∀ i, 0 ≤ i → i < rd G 182 19 → rd g 191 i = rd G 192 i ∧ rd g 193 i = rd G 194 i) → ∃ c, c < e ∧ Rn xs xl c mm_begins 0 [some (.inr (.inr 182)), none] [] g (fun r h' => ∀ v, Rn xs xl e mm_quarter 258 [some (.inr (.inr 182)), some (.inl v)] (r.toList ++ []) h' Q)) : ∀ (n : Nat) (g : LH) (v : Int), 20 - v ≤ n → 0 ≤ v → v ≤ 20 → RNG g → (∀ a i, ¬ (a = 191 ∨ a = 193) → rd g a i = rd G a i) → (∀ i, 0 ≤ i → i < v → rd g 191 i = rd G 192 i ∧ rd g 193 i = rd G 194 i) → Rn xs xl e mm_quarter 208 [some (.inr (.inr 182)), some (.inl v)] [] g Q := by
  have stop : ∀ (g : LH) (v : Int), RNG g → (∀ a i, ¬ (a = 191 ∨ a = 193) → rd g a i = rd G a i) → (∀ i, 0 ≤ i → i < v → rd g 191 i = rd G 192 i ∧ rd g 193 i = rd G 194 i) → rd g 182 19 ≤ v → ∃ c, c < e ∧ Rn xs xl c mm_begins 0 [some (.inr (.inr 182)), none] [] (wr g 182 18 (rd g 182 19)) (fun r h' => Rn xs xl e mm_quarter 258 [some (.inr (.inr 182)), some (.inl v)] (r.toList ++ []) h' Q) := by
    intro g v gr gf gc hv
    have m := rF_readMany gr
    have e19 : rd g 182 19 = rd G 182 19 := gf _ _ (by omega)
    obtain ⟨c, c1, c2⟩ := k (wr g 182 18 (rd g 182 19)) (wrR gr (Or.inl (by decide +kernel)) (lo := 0) (hi := 20) (leA1 (by decide +kernel)) m.1 m.2 ⟨by omega, by omega⟩) (fun a i hn => by
      rw [rd_wr, if_neg]
      · exact gf a i (fun q => hn (by omega))
      · rintro ⟨rfl, rfl⟩
        exact hn (by omega)) ⟨rdw_eq.trans e19, fun i i0 i1 => by
          rw [rdw_ne (by decide), rdw_ne (by decide)]
          exact gc i i0 (by omega)⟩
    exact ⟨c, c1, c2.mono (fun r h' q => q v)⟩
  intro n
  induction n with
  | zero =>
    intro g v hn v0 v1 gr gf gc
    have m := rF_readMany gr
    exact B_quarter_208 (RF_of gr) ⟨fun q => stop g v gr gf gc q, fun c => by omega⟩
  | succ n ih =>
    intro g v hn v0 v1 gr gf gc
    have m := rF_readMany gr
    refine B_quarter_208 (RF_of gr) ⟨fun q => stop g v gr gf gc q, fun c => ⟨by omega, by omega, by omega, by omega, by omega, ih _ (v + 1) (by omega) (by omega) (by omega) ?_ (fun a i hn => ?_) (fun i i0 i1 => ?_)⟩⟩
    · have o2 := rA_readNameOf gr (i := v) (by omega)
      exact wR_nameOf (wR_names gr (rd_readNames64 gr (by omega))) o2.1 o2.2
    · rw [rd_wr, if_neg, rd_wr, if_neg]
      · exact gf a i hn
      all_goals (rintro ⟨rfl, rfl⟩; exact hn (by omega))
    · have e2 : rd g 192 v = rd G 192 v := gf _ _ (by omega)
      have e4 : rd g 194 v = rd G 194 v := gf _ _ (by omega)
      by_cases z : i = v
      · subst z
        rw [rdw_ne (by decide), rdw_eq, rdw_eq, e2]
        exact ⟨rfl, e4⟩
      · rw [rdw_ne (by decide), rdw_nei (Ne.symm z), rdw_nei (Ne.symm z), rdw_ne (by decide)]
        exact gc i i0 (by omega)
/-- behind a text without a fault: copies, a new day, answer 0 -/
theorem DQ_tail3 (he : 41 ≤ e) {G : LH} (gI : INV G) (gq : NQ G) (f0 : rd G 182 8 = 0) (k : ∀ g, INV g → (∀ i, rd g 187 i = rd G 187 i) → (∀ i, 0 ≤ i → i < 150 → rd g 188 i = rd G 188 (i + 150)) → (∀ m, 0 ≤ m → m < 4 → rd g 199 m = 0) → rd g 198 34 = 0 → (rd g 182 18 = rd G 182 19 ∧ ∀ i, 0 ≤ i → i < rd G 182 19 → rd g 191 i = rd G 192 i ∧ rd g 193 i = rd G 194 i) → Q (some (.inl 0)) g) : Rn xs xl e mm_quarter 129 [some (.inr (.inr 182)), some (.inl 0)] [] G Q := by
  obtain ⟨q1, q2, q3, q4, q5⟩ := gq f0
  have c0 := rF_codes gI.1
  have n0 := rw_doors gI.1
  have n1 := rw_people gI.1
  refine q_copy1 (G := G) (fun g1 r1 c1 f1 => ?_) 150 G 0 (by omega) (by omega) (by omega) gI.1 (fun i i0 i1 => by omega) (fun _ _ _ => rfl)
  have e13 : rd g1 182 13 = rd G 182 13 := f1 _ _ (by omega)
  refine q_copy2 (G := g1) (by omega) (fun g2 r2 c2 f2 => ?_) (rd g1 182 13).toNat g1 0 (by omega) (by omega) (by omega) r1 (fun i i0 i1 => by omega) (fun _ _ _ => rfl)
  refine q_copy3N (G := g2) (fun g3 r3 f3 n3 => ?_) 20 g2 0 (by omega) (by omega) (by omega) r2 (fun _ _ _ => rfl) (fun i i0 i1 => by omega)
  have x188 : ∀ i, 0 ≤ i → i < 150 → rd g3 188 i = rd G 188 (i + 150) := fun i i0 i1 => ((f3 188 i (by omega)).trans (f2 188 i (by omega))).trans (c1 i i0 i1)
  have x0 := x188 0 (by omega) (by omega)
  have x1 := x188 1 (by omega) (by omega)
  have x2 := x188 2 (by omega) (by omega)
  have x3 := x188 3 (by omega) (by omega)
  have s4 : SP4 g3 := by
    have old : ∀ b j, b ≠ 188 → b ≠ 189 → b ≠ 190 → b ≠ 191 → b ≠ 193 → b ≠ 182 → rd g3 b j = rd G b j := fun b j n1 n2 n3 n4 n5 n6 => ((f3 b j (by omega)).trans (f2 b j (by omega))).trans (f1 b j (by omega))
    obtain ⟨⟨h1, h2, h3, h4, h5, h6, h7, h8⟩, hl, ht, hq, hw⟩ := gI.2
    refine ⟨⟨lines_same (fun j => old _ j (by decide) (by decide) (by decide) (by decide) (by decide) (by decide)) (fun j => old _ j (by decide) (by decide) (by decide) (by decide) (by decide) (by decide)) h1, lines_same (fun j => old _ j (by decide) (by decide) (by decide) (by decide) (by decide) (by decide)) (fun j => old _ j (by decide) (by decide) (by decide) (by decide) (by decide) (by decide)) h2, lines_same (fun j => old _ j (by decide) (by decide) (by decide) (by decide) (by decide) (by decide)) (fun j => old _ j (by decide) (by decide) (by decide) (by decide) (by decide) (by decide)) h3, lines_same (fun j => old _ j (by decide) (by decide) (by decide) (by decide) (by decide) (by decide)) (fun j => old _ j (by decide) (by decide) (by decide) (by decide) (by decide) (by decide)) h4, lines_same (fun j => old _ j (by decide) (by decide) (by decide) (by decide) (by decide) (by decide)) (fun j => old _ j (by decide) (by decide) (by decide) (by decide) (by decide) (by decide)) h5, lines_same (fun j => old _ j (by decide) (by decide) (by decide) (by decide) (by decide) (by decide)) (fun j => old _ j (by decide) (by decide) (by decide) (by decide) (by decide) (by decide)) h6, ?_, ?_⟩, ?_, ?_, ?_⟩
    · intro m m0 m1 q
      rw [old 195 _ (by decide) (by decide) (by decide) (by decide) (by decide) (by decide)] at q ⊢
      exact h7 m m0 m1 q
    · intro m m0 m1 j j0 j1 q
      rw [old 200 _ (by decide) (by decide) (by decide) (by decide) (by decide) (by decide)] at q ⊢
      exact h8 m m0 m1 j j0 j1 q
    · intro q
      rw [x3] at q
      rcases q5 with z | ⟨z1, n, z2, z3, z4⟩
      · have := z.1
        rw [show (3 + 150 : Int) = 153 by omega, this] at q
        cases q
      · have cp : ∀ j, 0 ≤ j → j < rd G 182 13 → rd g3 189 j = opR G j ∧ rd g3 190 j = arR G j := by
          intro j j0 j1
          have y := c2 j j0 (by omega)
          unfold opR arR
          rw [f3 189 j (by omega), f3 190 j (by omega), y.1, y.2, f1 189 _ (by omega), f1 190 _ (by omega), show (j + 1100 : Int) = 1100 + j by omega]
          exact ⟨rfl, rfl⟩
        have lt := seg_lt z3
        exact ⟨n, by omega, seg_same z3 (fun j j0 j1 => cp j j0 (by omega)), (cp n (by omega) (by omega)).1.trans z4⟩
    · unfold SPtok
      rw [old 184 _ (by decide) (by decide) (by decide) (by decide) (by decide) (by decide)]
      exact ht
    · refine ⟨fun d d0 d1 d2 => ?_, fun p p0 p1 p2 => ?_⟩
      · rw [x1] at d2
        rw [x188 _ (by omega) (by omega), x188 (6 + 8 * d) (by omega) (by omega), x0, show (5 + 8 * d + 150 : Int) = 155 + 8 * d by omega, show (6 + 8 * d + 150 : Int) = 156 + 8 * d by omega]
        exact q3 d d0 d2
      · rw [x2] at p2
        rw [x188 _ (by omega) (by omega), x0, show (117 + 4 * p + 150 : Int) = 267 + 4 * p by omega]
        exact q4 p p0 p2
  exact ⟨2, by omega, D_beginsM (by omega) r3 s4 (fun g4 i4 f4 m4 w4 v => B_quarter_258 (RF_of i4.1) (k g4 i4 (fun i => by rw [f4 187 i (by unfold muG; omega), f3 187 i (by omega), f2 187 i (by omega), f1 187 i (by omega)]) (fun i i0 i1 => (f4 188 i (by unfold muG; omega)).trans (x188 i i0 i1)) m4 w4 (by
    have o19 : rd g2 182 19 = rd G 182 19 := (f2 _ _ (by omega)).trans (f1 _ _ (by omega))
    rw [o19] at n3
    refine ⟨(f4 182 18 (by unfold muG; omega)).trans n3.1, fun i i0 i1 => ?_⟩
    rw [f4 191 i (by unfold muG; omega), f4 193 i (by unfold muG; omega), (n3.2 i i0 i1).1, (n3.2 i i0 i1).2, f2 192 i (by omega), f2 194 i (by omega), f1 192 i (by omega), f1 194 i (by omega)]
    exact ⟨rfl, rfl⟩)))⟩
def DRKc (T : Int → Int) (n : Int) (g : LH) (R : Int) (y : QY) : Prop := DRK T n g R y ∧ ∃ C, CDK g C ∧ CRel y.2.1 y.2.2.1 y.2.2.2.1 C
theorem DRKc_T {g g' : LH} {R : Int} {y y' : QY} (hd : DRKc T n g R y) (hf : frT g g') (hy : y'.2 = y.2) : DRKc T n g' R y' := by
  obtain ⟨d, C, c1, c2⟩ := hd
  exact ⟨DRK_T d hf hy, C, CDK_T c1 hf, by rw [hy]; exact c2⟩
/-- the reference's names, of the text's tokens -/
def NMK (T : Int → Int) (n : Int) (g : LH) (y : QY) : Prop := rd g 182 18 = (y.2.1.length : Int) ∧ y.2.1.length ≤ 20 ∧ ∃ C, CRel y.2.1 y.2.2.1 y.2.2.2.1 C ∧ ∀ i : Nat, i < y.2.1.length → rd g 191 i = tV T n 37 (y.2.1.getD i 0) ∧ rd g 193 i = C.getD i 0
theorem NMK_of {G g : LH} {R : Int} {y : QY} (hd : DRKc T n G R y) (hn : rd g 182 18 = rd G 182 19 ∧ ∀ i, 0 ≤ i → i < rd G 182 19 → rd g 191 i = rd G 192 i ∧ rd g 193 i = rd G 194 i) : NMK T n g y := by
  obtain ⟨⟨d1, d2, d3, d4, d5, d6, d7, d8, d9, d10⟩, C, c1, c2⟩ := hd
  have l19 := d1.1
  refine ⟨hn.1.trans d1.1, by omega, C, c2, fun i hi => ?_⟩
  obtain ⟨a, b⟩ := hn.2 i (by omega) (by omega)
  exact ⟨a.trans (d1.2 i hi).1, b.trans (c1.2 i (by rw [c2.1]; exact hi))⟩
theorem G_quarter3 (he : 41 ≤ e) (hI : INV h) (h2 : rd h 182 2 = n) (n0 : 0 ≤ n) (n1 : n ≤ 1000) (hT : ∀ i, 0 ≤ i → i < n → rd h 183 i = T i) (hV : rd h 187 = V) (hi : Vinj V)
    (k : ∀ h', rd h' 187 = V → ((qF (tO T n) (tV T n 37) (tW T n 37 V) (tP T n)).1.1 ≠ 0 → ∀ a i, pq a i → rd h' a i = rd h a i) → ((qF (tO T n) (tV T n 37) (tW T n 37 V) (tP T n)).1.1 = 0 → rd h' 188 0 = qR (tV T n 37) (tW T n 37 V) (tP T n) ∧ (∀ m, 0 ≤ m → m < 4 → rd h' 199 m = 0) ∧ rd h' 198 34 = 0 ∧ NMK T n h' (qF (tO T n) (tV T n 37) (tW T n 37 V) (tP T n))) → Q (some (.inl (qF (tO T n) (tV T n 37) (tW T n 37 V) (tP T n)).1.1)) h') : Rn xs xl e mm_quarter 0 [some (.inr (.inr 182)), none] [] h Q := by
  generalize eF : qF (tO T n) (tV T n 37) (tW T n 37 V) (tP T n) = Y at k
  obtain ⟨R, hRq⟩ : ∃ R, R = qR (tV T n 37) (tW T n 37 V) (tP T n) := ⟨_, rfl⟩
  rw [← hRq] at k
  have loop : ∀ (m : Nat) (c : Nat) (g : LH) (y : QY), qL (tO T n) (tV T n 37) (tW T n 37 V) (tP T n) R c y = Y → RSK T n V m g y.1 → INV g → NQ g → (∀ a i, pq a i → rd g a i = rd h a i) → (y.1.1 = 0 → DRKc T n g R y ∧ 1000 ≤ y.1.2 + c) → Rn xs xl e mm_quarter 52 [some (.inr (.inr 182)), none] [] g Q := by
    intro m c
    induction c with
    | zero =>
      intro g y eY hs gI gq gf hd
      have gF := RF_of gI.1
      have e8 := hs.2.1
      have a7 := hs.2.2.2.1
      have p0 := hs.2.2.1
      have m1 := hs.1.2.2.2.2.1
      have eY' : y = Y := eY
      have stop : Rn xs xl e mm_quarter 115 [some (.inr (.inr 182)), none] [] g Q := by
        refine B_quarter_115 gF ⟨fun q => ?_, fun q => ?_⟩
        · have z : y.1.1 = 0 := by omega
          refine DQ_tail3 he gI gq (e8.trans z) (fun g4 _ f187 f188 f199 f34 fnm => ?_)
          have := k g4 ((funext f187).trans hs.1.2.2.2.2.2.2.2.1)
          rw [← eY', z] at this
          exact this (fun q3 => absurd rfl q3) (fun _ => ⟨(f188 0 (by decide) (by decide)).trans (hd z).1.1.2.1, f199, f34, NMK_of (hd z).1 fnm⟩)
        · have := k g hs.1.2.2.2.2.2.2.2.1
          rw [← eY', ← e8] at this
          exact this (fun _ => gf) (fun q3 => absurd q3 (by omega))
      refine B_quarter_52 gF ⟨fun _ => stop, fun q => ⟨by omega, fun _ => stop, fun q2 => ?_⟩⟩
      have z : y.1.1 = 0 := e8.symm.trans q
      have eo := RS_o hs z
      have lt := RS_lt hs z (fun q3 => q2 (eo.trans q3))
      have := (hd z).2
      omega
    | succ c ih =>
      intro g y eY hs gI gq gf hd
      have gF := RF_of gI.1
      have e8 := hs.2.1
      have a7 := hs.2.2.2.1
      have p0 := hs.2.2.1
      have m1 := hs.1.2.2.2.2.1
      have stop : ¬ (y.1.1 = 0 ∧ tO T n y.1.2 ≠ 0) → Rn xs xl e mm_quarter 115 [some (.inr (.inr 182)), none] [] g Q := by
        intro ns
        have eY' : y = Y := by rw [qL_stop ns] at eY; exact eY
        refine B_quarter_115 gF ⟨fun q => ?_, fun q => ?_⟩
        · have z : y.1.1 = 0 := by omega
          refine DQ_tail3 he gI gq (e8.trans z) (fun g4 _ f187 f188 f199 f34 fnm => ?_)
          have := k g4 ((funext f187).trans hs.1.2.2.2.2.2.2.2.1)
          rw [← eY', z] at this
          exact this (fun q3 => absurd rfl q3) (fun _ => ⟨(f188 0 (by decide) (by decide)).trans (hd z).1.1.2.1, f199, f34, NMK_of (hd z).1 fnm⟩)
        · have := k g hs.1.2.2.2.2.2.2.2.1
          rw [← eY', ← e8] at this
          exact this (fun _ => gf) (fun q3 => absurd q3 (by omega))
      refine B_quarter_52 gF ⟨fun q => stop (fun q3 => q (e8.trans q3.1)), fun q => ⟨by omega, fun q2 => stop (fun q3 => q3.2 ((RS_o hs q3.1).symm.trans q2)), fun q2 => ?_⟩⟩
      have z : y.1.1 = 0 := e8.symm.trans q
      have eo := RS_o hs z
      have no : tO T n y.1.2 ≠ 0 := fun q3 => q2 (eo.trans q3)
      have lt := RS_lt hs z no
      have l7 := (hs.2.2.2.2 z).1
      obtain ⟨D, hc⟩ := hd z
      rw [qL_go ⟨z, no⟩] at eY
      have gp : PB g := ⟨gI, trivial⟩
      have l9 : rd g 182 7 ≤ 999 := by omega
      have t106 : ∀ (g1 : LH) (s1 : Int × Nat), RSK T n V m g1 s1 → PL g g1 → (qS (tO T n) (tV T n 37) (tW T n 37 V) (tP T n) R y).1 = tkS (tO T n) (tV T n 37) (tP T n) 59 s1 → (s1.1 = 0 → DRKc T n g1 R (qS (tO T n) (tV T n 37) (tW T n 37 V) (tP T n) R y)) → Rn xs xl e mm_quarter 106 [some (.inr (.inr 182)), none] [] g1 Q := by
        generalize qS (tO T n) (tV T n 37) (tW T n 37 V) (tP T n) R y = y' at eY
        intro g1 s1 r1 p1 e1 d1
        have A : Rn xs xl 1 mm_takeSign 0 [some (.inr (.inr 182)), some (.inl 59)] [] g1 (fun r g2 => r = none ∧ RSK T n V m g2 (tkS (tO T n) (tV T n 37) (tP T n) 59 s1) ∧ frT g1 g2) := G_takeSign (by omega) r1 (fun h' a b => ⟨rfl, a, b⟩)
        have B : Rn xs xl 1 mm_takeSign 0 [some (.inr (.inr 182)), some (.inl 59)] [] g1 (fun r g2 => r = none ∧ PG muT g1 g2) := D_takeSign (by omega) p1.1 (fun g2 p2 _ => ⟨rfl, p2⟩)
        refine B_quarter_106 (RF_of p1.1.1.1) ⟨1, by omega, (A.and B).mono (fun r g2 q => ?_)⟩
        obtain ⟨⟨rfl, a1, a2⟩, -, p2⟩ := q
        rw [← e1] at a1
        refine B_quarter_112 p2.rf (ih g2 y' eY a1 p2.inv (NQ_T p2 p1.2.2.1) (fun a i ha => ?_) (fun z' => ?_))
        · unfold pq at ha
          rw [p2.2.2.2 a i (by unfold muT; omega), p1.2.2.2 a i (by unfold muA; omega)]
          exact gf a i ha
        have z8 : rd g2 182 8 = 0 := a1.2.1.trans z'
        have z1 := p2.2.2.1 z8
        have ge := p2.2.1
        have g1' := (p1.2.1 z1).2
        have l2 := (a1.2.2.2.2 z').1
        exact ⟨DRKc_T (d1 (r1.2.1.symm.trans z1)) a2 rfl, by omega⟩
      obtain ⟨⟨d1, d2, d3, d4, d5, d6, d7, d8, d9, d10⟩, C, dC, dR⟩ := D
      refine ⟨0, by omega, G_isWord hs (by omega) (fun _ ew => ?_) (fun nw => ?_)⟩
      · -- a door
        have B : Rn xs xl 5 mm_readDoor 0 [some (.inr (.inr 182)), none, none, none, none] [] g (fun r g1 => r = none ∧ PL g g1) := D_readDoor (by omega) gp gq l9 (e8.trans z) (fun g1 p1 => ⟨rfl, p1⟩)
        by_cases c14 : 14 ≤ y.2.2.1.length
        · have A : Rn xs xl 5 mm_readDoor 0 [some (.inr (.inr 182)), none, none, none, none] [] g (fun r g1 => r = none ∧ RSK T n V m g1 (tkE (tP T n) 5 y.1)) := G_readDoorX hs (by omega) (by omega) (fun h' a b => ⟨rfl, a⟩)
          refine B_quarter_76_1 gF ⟨5, by omega, (A.and B).mono (fun r g1 q => ?_)⟩
          obtain ⟨⟨rfl, a1⟩, -, p1⟩ := q
          have ne := tkE_ne' hs (v1 := 5) (by decide)
          refine B_quarter_83 (RF_of p1.1.1.1) (t106 g1 _ a1 p1 ?_ (fun q3 => absurd q3 ne))
          rw [tkS_f ne]
          unfold qS
          rw [if_pos ew, if_pos c14]
        · have A : Rn xs xl 5 mm_readDoor 0 [some (.inr (.inr 182)), none, none, none, none] [] g (fun r g1 => r = none ∧ RSK T n V m g1 (drL (tO T n) (tV T n 37) (tW T n 37 V) (tP T n) R y.2.1 y.1) ∧ ((drL (tO T n) (tV T n 37) (tW T n 37 V) (tP T n) R y.2.1 y.1).1 = 0 → (NRK T n g1 (y.2.1 ++ [y.1.2 + 1]) ∧ CDK g1 (C ++ [(y.2.2.1.length : Int)])) ∧ rd g1 188 151 = (y.2.2.1.length : Int) + 1) ∧ (∀ a i, ¬ muDR (y.2.2.1.length : Int) a i → rd g1 a i = rd g a i)) := G_readDoorC (by omega) hs z no d1 dC (by omega) d2 d3 d4 (by omega) (fun h' a b f => ⟨rfl, a, fun q3 => ⟨(b q3).1, (b q3).2.1⟩, f⟩)
          refine B_quarter_76_1 gF ⟨5, by omega, (A.and B).mono (fun r g1 q => ?_)⟩
          obtain ⟨⟨rfl, a1, a2, a3⟩, -, p1⟩ := q
          refine B_quarter_83 (RF_of p1.1.1.1) (t106 g1 _ a1 p1 ?_ (fun q3 => ?_))
          · unfold qS
            rw [if_pos ew, if_neg c14]
          · obtain ⟨b1, b2⟩ := a2 q3
            unfold DRKc DRK qS
            rw [if_pos ew, if_neg c14]
            rw [a3 188 150 (by unfold muDR muNK; omega), a3 188 152 (by unfold muDR muNK; omega), a3 188 153 (by unfold muDR muNK; omega), a3 182 13 (by unfold muDR muNK; omega), b2]
            simp only [List.length_append, List.length_singleton]
            exact ⟨⟨b1.1, d2, d3, by omega, d5, by omega, by omega, d8, d9, d10⟩, _, b1.2, CRel_d dR⟩
      · refine B_quarter_76_0 gF ⟨0, by omega, G_isWord hs (by omega) (fun _ ew => ?_) (fun nw7 => ?_)⟩
        · have n1' := nw z
          have B : Rn xs xl 5 mm_readPerson 0 [some (.inr (.inr 182)), none, none] [] g (fun r g1 => r = none ∧ PL g g1) := D_readPerson (by omega) gp gq l9 (e8.trans z) (fun g1 p1 => ⟨rfl, p1⟩)
          by_cases c6 : 6 ≤ y.2.2.2.1.length
          · have A : Rn xs xl 5 mm_readPerson 0 [some (.inr (.inr 182)), none, none] [] g (fun r g1 => r = none ∧ RSK T n V m g1 (tkE (tP T n) 5 y.1)) := B_readPerson_0 gF ⟨fun q3 => by omega, fun _ => ⟨0, by omega, G_wrong hs (by omega) (fun h1 s1 f1 => B_readPerson_20 s1.1.1 ⟨rfl, s1⟩)⟩⟩
            refine B_quarter_92_1 gF ⟨5, by omega, (A.and B).mono (fun r g1 q => ?_)⟩
            obtain ⟨⟨rfl, a1⟩, -, p1⟩ := q
            have ne := tkE_ne' hs (v1 := 5) (by decide)
            refine B_quarter_99 (RF_of p1.1.1.1) (t106 g1 _ a1 p1 ?_ (fun q3 => absurd q3 ne))
            rw [tkS_f ne]
            unfold qS
            rw [if_neg n1', if_pos ew, if_pos c6]
          · have A : Rn xs xl 5 mm_readPerson 0 [some (.inr (.inr 182)), none, none] [] g (fun r g1 => r = none ∧ RSK T n V m g1 (psL (tO T n) (tV T n 37) (tW T n 37 V) (tP T n) R y.2.1 y.1) ∧ ((psL (tO T n) (tV T n 37) (tW T n 37 V) (tP T n) R y.2.1 y.1).1 = 0 → (NRK T n g1 (y.2.1 ++ [y.1.2 + 1]) ∧ CDK g1 (C ++ [(y.2.2.2.1.length : Int) + 20])) ∧ rd g1 188 152 = (y.2.2.2.1.length : Int) + 1) ∧ (∀ a i, ¬ muP (y.2.2.2.1.length : Int) a i → rd g1 a i = rd g a i)) := G_readPersonC (by omega) hs z no d1 dC (by omega) d2 d3 d5 (by omega) (fun h' a b f => ⟨rfl, a, fun q3 => ⟨(b q3).1, (b q3).2.1⟩, f⟩)
            refine B_quarter_92_1 gF ⟨5, by omega, (A.and B).mono (fun r g1 q => ?_)⟩
            obtain ⟨⟨rfl, a1, a2, a3⟩, -, p1⟩ := q
            refine B_quarter_99 (RF_of p1.1.1.1) (t106 g1 _ a1 p1 ?_ (fun q3 => ?_))
            · unfold qS
              rw [if_neg n1', if_pos ew, if_neg c6]
            · obtain ⟨b1, b2⟩ := a2 q3
              unfold DRKc DRK qS
              rw [if_neg n1', if_pos ew, if_neg c6]
              rw [a3 188 150 (by unfold muP muNK; omega), a3 188 151 (by unfold muP muNK; omega), a3 188 153 (by unfold muP muNK; omega), a3 182 13 (by unfold muP muNK; omega), b2]
              simp only [List.length_append, List.length_singleton]
              exact ⟨⟨b1.1, d2, d3, d4, by omega, by omega, d7, by omega, d9, d10⟩, _, b1.2, CRel_p dR⟩
        · have n1' := nw z
          have n7' := nw7 z
          have B : Rn xs xl 39 mm_readLet 0 [some (.inr (.inr 182))] [] g (fun r g1 => r = none ∧ PL g g1) := D_readLet (by omega) gp gq (e8.trans z) (fun g1 p1 => ⟨rfl, p1⟩)
          have h13 : rd g 188 153 < 0 → rd g 182 13 = 0 := by
            intro q3
            rcases Nat.eq_zero_or_pos y.2.2.2.2.length with u | u
            · exact (d9 u).2
            · have := d10 u
              omega
          by_cases w11 : tW T n 37 V y.1.2 = 11
          · by_cases cl : 0 < y.2.2.2.2.length
            · have A : Rn xs xl 39 mm_readLet 0 [some (.inr (.inr 182))] [] g (fun r g1 => r = none ∧ RSK T n V m g1 (tkE (tP T n) 3 y.1)) := G_readLet (by omega) hs z (fun q3 => absurd w11 q3) (fun _ _ h' a b => ⟨rfl, a⟩) h13 (fun _ q3 => absurd (d10 cl) (by omega))
              refine B_quarter_92_0 gF ⟨39, by omega, (A.and B).mono (fun r g1 q => ?_)⟩
              obtain ⟨⟨rfl, a1⟩, -, p1⟩ := q
              have ne := tkE_ne' hs (v1 := 3) (by decide)
              refine t106 g1 _ a1 p1 ?_ (fun q3 => absurd q3 ne)
              rw [tkS_f ne]
              unfold qS
              rw [if_neg n1', if_neg n7', if_pos w11, if_pos cl]
            · have d9' := d9 (by omega)
              have A : Rn xs xl 39 mm_readLet 0 [some (.inr (.inr 182))] [] g (fun r g1 => r = none ∧ RSK T n V m g1 (qX (tO T n) (tV T n 37) (tW T n 37 V) (tP T n) y.1).1 ∧ rd g1 188 153 = 0 ∧ (∀ a i, ¬ muLL a i → rd g1 a i = rd g a i)) := G_readLet (by omega) hs z (fun q3 => absurd w11 q3) (fun _ q3 => absurd q3 (by omega)) h13 (fun _ _ h' a b _ f => ⟨rfl, a, b, f⟩)
              refine B_quarter_92_0 gF ⟨39, by omega, (A.and B).mono (fun r g1 q => ?_)⟩
              obtain ⟨⟨rfl, a1, a2, a3⟩, -, p1⟩ := q
              refine t106 g1 _ a1 p1 ?_ (fun q3 => ?_)
              · unfold qS
                rw [if_neg n1', if_neg n7', if_pos w11, if_neg cl]
              · have ln := qX_len (fun j => tP_0 hs.1.2.2.2.2.2.2.1 hs.1.2.2.2.2.2.1 j) q3
                unfold DRKc DRK qS
                rw [if_neg n1', if_neg n7', if_pos w11, if_neg cl]
                rw [a3 188 150 (by unfold muLL muLK; omega), a3 188 151 (by unfold muLL muLK; omega), a3 188 152 (by unfold muLL muLK; omega), a2]
                have dn : NRK T n g1 y.2.1 := by
                  refine ⟨(a3 182 19 (by unfold muLL muLK; omega)).trans d1.1, fun i hi => ?_⟩
                  rw [a3 192 _ (by unfold muLL muLK; omega), a3 194 _ (by unfold muLL muLK; omega)]
                  exact d1.2 i hi
                exact ⟨⟨dn, d2, d3, d4, d5, d6, d7, d8, fun q4 => absurd q4 (Nat.ne_of_gt ln), fun _ => Int.le_refl 0⟩, C, CDK_fr dC (a3 182 19 (by unfold muLL muLK; omega)) (fun i => a3 194 i (by unfold muLL muLK; omega)), dR⟩
          · have A : Rn xs xl 39 mm_readLet 0 [some (.inr (.inr 182))] [] g (fun r g1 => r = none ∧ RSK T n V m g1 (tkE (tP T n) 1 y.1)) := G_readLet (by omega) hs z (fun _ h' a b => ⟨rfl, a⟩) (fun q3 => absurd q3 w11) h13 (fun q3 => absurd q3 w11)
            refine B_quarter_92_0 gF ⟨39, by omega, (A.and B).mono (fun r g1 q => ?_)⟩
            obtain ⟨⟨rfl, a1⟩, -, p1⟩ := q
            have ne := tkE_ne' hs (v1 := 1) (by decide)
            refine t106 g1 _ a1 p1 ?_ (fun q3 => absurd q3 ne)
            rw [tkS_f ne]
            unfold qS
            rw [if_neg n1', if_neg n7', if_neg w11]
  have i0 : INV (wr h 182 0 0) := wF_thrown hI (by omega) (by omega)
  have A0 : Rn xs xl 2 mm_cutAll 0 [some (.inr (.inr 182)), none, none, none, none, none, none] [] (wr h 182 0 0) (fun r h1 => r = none ∧ ∃ m : Nat, (∀ j : Nat, j ≤ m → RTK T n h1 j) ∧ tO T n m = 0 ∧ (∀ j : Nat, j < m → tO T n j ≠ 0) ∧ m ≤ 1000) := F_cutAll (by omega) (RF_of i0.1) ((rdw_nei (by decide)).trans h2) n0 n1 (fun i i0 i1 => (rdw_ne (by decide)).trans (hT i i0 i1)) (fun h' m c1 c2 c3 c4 _ _ _ _ => ⟨rfl, m, c1, c2, c3, c4⟩)
  have B0 : Rn xs xl 2 mm_cutAll 0 [some (.inr (.inr 182)), none, none, none, none, none, none] [] (wr h 182 0 0) (fun r h1 => r = none ∧ INV h1 ∧ rd h1 182 7 = 0 ∧ rd h1 182 8 = 0 ∧ rd h1 182 2 = 0 ∧ (∀ a i, ¬ muC a i → rd h1 a i = rd (wr h 182 0 0) a i)) := D_cutAll (by omega) i0 (fun h1 i1 a1 f1 t1 fr1 => ⟨rfl, i1, a1, f1, t1, fr1⟩)
  refine B_quarter_0 (RF_of hI.1) ⟨2, by omega, (A0.and B0).mono (fun r h1 q => ?_)⟩
  obtain ⟨⟨rfl, m, c1, c2, c3, c4⟩, -, i1, a1, f1, t1, fr1⟩ := q
  have i2 : INV (wr (wr h1 182 13 0) 182 19 0) := wF_readMany (wF_codes i1 (by omega) (by omega)) (by omega) (by omega)
  refine B_quarter_9 (RF_of i1.1) ⟨0, by omega, D_stands i2 (fun h3 i3 m3 z3 fr3 => ?_)⟩
  have e3 : ∀ a i, ¬ (a = 188 ∧ 150 ≤ i) → ¬ (a = 182 ∧ (i = 13 ∨ i = 19)) → rd h3 a i = rd h1 a i := by
    intro a i n1 n2
    rw [fr3 a i n1, rd_wr, if_neg, rd_wr, if_neg] <;> (rintro ⟨rfl, rfl⟩; exact n2 (by omega))
  have x3 : rd h3 182 13 = 0 := (fr3 _ _ (by omega)).trans ((rdw_nei (by decide)).trans rdw_eq)
  have m3' : rd h3 182 19 = 0 := (fr3 _ _ (by omega)).trans rdw_eq
  have s3 : RSK T n V m h3 (0, 0) := by
    refine ⟨⟨RF_of i3.1, fun j hj => ?_, c2, c3, c4, n0, n1, ?_, hi⟩, ?_, Int.le_refl 0, ?_, fun _ => ⟨?_, Nat.zero_le _⟩⟩
    · obtain ⟨r1, r2, r3⟩ := c1 j hj
      exact ⟨(e3 _ _ (by omega) (by omega)).trans r1, (e3 _ _ (by omega) (by omega)).trans r2, fun q1 q2 => (e3 _ _ (by omega) (by omega)).trans (r3 q1 q2)⟩
    · rw [← hV]
      funext i
      rw [e3 _ _ (by omega) (by omega), fr1 _ _ (by unfold muC; omega), rdw_ne (by decide)]
    · rw [e3 _ _ (by omega) (by omega), f1]
    · rw [e3 _ _ (by omega) (by omega), a1]; decide
    · rw [e3 _ _ (by omega) (by omega), a1]; rfl
  have A4 : Rn xs xl 2 mm_takeWord 0 [some (.inr (.inr 182)), some (.inl 0)] [] h3 (fun r h4 => r = none ∧ RSK T n V m h4 (tkW (tW T n 37 V) (tP T n) 0 (0, 0))) := G_takeWord (by omega) s3 (by omega) (fun h' a b => ⟨rfl, a⟩)
  have B4 : Rn xs xl 2 mm_takeWord 0 [some (.inr (.inr 182)), some (.inl 0)] [] h3 (fun r h4 => r = none ∧ PG muT h3 h4) := D_takeWord (by omega) ⟨i3, trivial⟩ (by omega) (fun h4 p4 => ⟨rfl, p4⟩)
  refine B_quarter_26 (RF_of i3.1) ⟨2, by omega, (A4.and B4).mono (fun r h4 q => ?_)⟩
  obtain ⟨⟨rfl, s4⟩, -, p4⟩ := q
  have A5 : Rn xs xl 1 mm_takeNumber 0 [some (.inr (.inr 182)), some (.inl 2), some (.inl 10)] [] h4 (fun r h5 => ∃ x, r = some (.inl x) ∧ RSK T n V m h5 (tkN (tO T n) (tV T n 37) (tP T n) 2 10 (tkW (tW T n 37 V) (tP T n) 0 (0, 0))) ∧ ((tkN (tO T n) (tV T n 37) (tP T n) 2 10 (tkW (tW T n 37 V) (tP T n) 0 (0, 0))).1 = 0 → x = qR (tV T n 37) (tW T n 37 V) (tP T n))) := G_takeNumber (by omega) s4 ⟨by unfold i32; omega, by unfold i32; omega⟩ (fun h' r a _ b _ => ⟨r, rfl, a, fun q3 => (b q3).1⟩)
  have B5 : Rn xs xl 1 mm_takeNumber 0 [some (.inr (.inr 182)), some (.inl 2), some (.inl 10)] [] h4 (fun r h5 => ∃ x, r = some (.inl x) ∧ PG muT h4 h5 ∧ (rd h5 182 8 = 0 → 2 ≤ x ∧ x ≤ 10) ∧ (rd h5 182 8 ≠ 0 → x = 0)) := D_takeNumber (by omega) p4.1 (by unfold i32; omega) (by unfold i32; omega) (fun r h5 p5 a5 b5 => ⟨r, rfl, p5, fun q3 => ⟨(a5 q3).1, (a5 q3).2.1⟩, b5⟩)
  refine B_quarter_31 p4.rf ⟨1, by omega, (A5.and B5).mono (fun r h5 q => ?_)⟩
  obtain ⟨⟨x, rfl, s5, q5⟩, x', ex, p5, a5, b5⟩ := q
  cases ex
  have rb : 0 ≤ x ∧ x ≤ 10 := by
    by_cases z : rd h5 182 8 = 0
    · have := a5 z; omega
    · have := b5 z; omega
  have i6 : INV (wr h5 188 150 x) := wq_rooms p5.inv rb.1 rb.2
  have A7 : Rn xs xl 1 mm_takeSign 0 [some (.inr (.inr 182)), some (.inl 59)] [] (wr h5 188 150 x) (fun r h7 => r = none ∧ RSK T n V m h7 (qA (tO T n) (tV T n 37) (tW T n 37 V) (tP T n))) := G_takeSign (by omega) (RSK_w s5) (fun h' a b => ⟨rfl, a⟩)
  have B7 : Rn xs xl 1 mm_takeSign 0 [some (.inr (.inr 182)), some (.inl 59)] [] (wr h5 188 150 x) (fun r h7 => r = none ∧ PG muT (wr h5 188 150 x) h7) := D_takeSign (by omega) ⟨i6, trivial⟩ (fun h7 p7 _ => ⟨rfl, p7⟩)
  refine B_quarter_45 p5.rf ⟨1, by omega, (A7.and B7).mono (fun r h7 q => ?_)⟩
  obtain ⟨⟨rfl, s7⟩, -, p7⟩ := q
  have p45 := p4.trans p5
  have e7 : ∀ a i, ¬ muT a i → ¬ (a = 188 ∧ i = 150) → rd h7 a i = rd h3 a i := by
    intro a i n1 n2
    rw [p7.2.2.2 a i n1, rd_wr, if_neg (by rintro ⟨rfl, rfl⟩; exact n2 ⟨rfl, rfl⟩)]
    exact p45.2.2.2 a i n1
  have y : ∀ i, i ≠ 150 → rd h7 188 i = rd h3 188 i := fun i hi => e7 188 i (by unfold muT; omega) (by omega)
  have y0 : rd h7 188 150 = x := (p7.2.2.2 _ _ (by unfold muT; omega)).trans rdw_eq
  have y1 : rd h7 188 151 = 0 := (y 151 (by decide)).trans (z3 151 (by decide) (by decide) (by decide))
  have y2 : rd h7 188 152 = 0 := (y 152 (by decide)).trans (z3 152 (by decide) (by decide) (by decide))
  have y3 : rd h7 188 153 = -1 := (y 153 (by decide)).trans m3
  have yc : rd h7 182 13 = 0 := (e7 182 13 (by unfold muT; omega) (by omega)).trans x3
  have yn : rd h7 182 19 = 0 := (e7 182 19 (by unfold muT; omega) (by omega)).trans m3'
  refine loop m 1000 h7 (qB (tO T n) (tV T n 37) (tW T n 37 V) (tP T n)) (by rw [hRq]; exact eF) s7 p7.inv (fun z => ?_) (fun a i ha => ?_) (fun z => ⟨?_, ?_⟩)
  · have z6 := p7.2.2.1 z
    rw [rdw_ne (by decide)] at z6
    have r2 := a5 z6
    refine ⟨by omega, by omega, fun d d0 d1 => by omega, fun p p0 p1 => by omega, Or.inl ⟨y3, yc⟩⟩
  · unfold pq at ha
    rw [e7 a i (by unfold muT; omega) (by omega), e3 a i (by omega) (by omega), fr1 a i (by unfold muC; omega), rd_wr, if_neg (by omega)]
  · have z5 : (tkN (tO T n) (tV T n 37) (tP T n) 2 10 (tkW (tW T n 37 V) (tP T n) 0 (0, 0))).1 = 0 := tkS_z z
    have ex := q5 z5
    refine ⟨⟨⟨yn, fun i hi => absurd hi (Nat.not_lt_zero i)⟩, y0.trans (ex.trans hRq.symm), by rw [hRq, ← ex]; exact rb, y1, y2, rfl, Nat.zero_le 14, Nat.zero_le 6, fun _ => ⟨by omega, yc⟩, fun q3 => absurd q3 (Nat.lt_irrefl 0)⟩, [], ⟨yn, fun i hi => absurd hi (Nat.not_lt_zero i)⟩, CRel_0⟩
  · omega
end NB
