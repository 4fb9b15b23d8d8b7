/-! LM, part 49: the reference reads a quarter: the whole -/
theorem hav188 {v : Int} (h0 : 0 ≤ v) : hav 188 (v + 150) = hav 188 v := by
  obtain ⟨L, hL, hn⟩ : ∃ L, RGL[(188 : Int).toNat]? = some L ∧ L.length = 150 := ⟨_, rfl, by decide +kernel⟩
  rw [havM hL hn (r := v.toNat % 150) (by omega), havM hL hn (r := v.toNat % 150) rfl]
theorem wR_names {h : LH} (hr : RNG h) {i v : Int} (hv : i64 v) : RNG (wr h 191 i v) := by
  refine RNG_wr hr ?_
  have e : hav 191 i = (1, -9223372036854775808, 9223372036854775807, 1) := by
    unfold hav
    rw [show RGL[(191 : Int).toNat]? = some [(1, -9223372036854775808, 9223372036854775807, 1)] by decide +kernel]
    simp only [List.length_singleton, Nat.mod_one]
    rfl
  rw [e, lkd_2 (by decide +kernel)]
  exact ⟨rfl, hv, hv.1, hv.2, Int.one_dvd _⟩
theorem rd_readNames64 {h : LH} (hr : RNG h) {i : Int} (hi : 0 ≤ i ∧ i < 20) : i64 (rd h 192 i) := by
  have q := hr 192 i (vldA (n := 20) (k := 2) (by decide +kernel) (by decide +kernel) hi)
  unfold hval at q
  rw [lkd_2 (by decide +kernel)] at q
  exact q.2.1
section C9
variable {xs : Nat → Int} {xl e : Nat} {h : LH} {Q : Option LV → LH → Prop}
theorem q_copy1 {G : LH} (k : ∀ g, RNG g → (∀ i, 0 ≤ i → i < 150 → rd g 188 i = rd G 188 (i + 150)) → (∀ a i, ¬ (a = 188 ∧ 0 ≤ i ∧ i < 150) → rd g a i = rd G a i) → Rn xs xl e mm_quarter 160 [some (.inr (.inr 182)), some (.inl 0)] [] g Q) : ∀ (n : Nat) (g : LH) (v : Int), 150 - v ≤ n → 0 ≤ v → v ≤ 150 → RNG g → (∀ i, 0 ≤ i → i < v → rd g 188 i = rd G 188 (i + 150)) → (∀ a i, ¬ (a = 188 ∧ 0 ≤ i ∧ i < 150) → rd g a i = rd G a i) → Rn xs xl e mm_quarter 129 [some (.inr (.inr 182)), some (.inl v)] [] g Q := by
  intro n
  induction n with
  | zero =>
    intro g v hn v0 v1 gr g1 gf
    exact B_quarter_129 (RF_of gr) ⟨fun _ => k g gr (fun i i0 i1 => g1 i i0 (by omega)) gf, fun c => by omega⟩
  | succ n ih =>
    intro g v hn v0 v1 gr g1 gf
    refine B_quarter_129 (RF_of gr) ⟨fun _ => k g gr (fun i i0 i1 => g1 i i0 (by omega)) gf, fun c => ⟨by omega, by omega, by omega, by omega, ih _ (v + 1) (by omega) (by omega) (by omega) ?_ (fun i i0 i1 => ?_) (fun a i hn => ?_)⟩⟩
    · refine RNG_wr gr ?_
      have q := gr 188 (v + 150) (vldA (n := 300) (k := 1) (by decide +kernel) (by decide +kernel) (by omega))
      unfold hval at q
      rw [lkd_1 (by decide +kernel), hav188 v0] at q
      rw [lkd_1 (by decide +kernel)]
      exact q
    · rw [rd_wr]
      split
      · next q => rw [gf 188 _ (by omega), show v = i by omega]
      · exact g1 i i0 (by omega)
    · rw [rd_wr, if_neg]
      · exact gf a i hn
      · rintro ⟨rfl, rfl⟩
        exact hn (by omega)
theorem q_copy2 {G : LH} (hc : rd G 182 13 ≤ 1000) (k : ∀ g, RNG g → (∀ i, 0 ≤ i → i < rd G 182 13 → rd g 189 i = rd G 189 (i + 1100) ∧ rd g 190 i = rd G 190 (i + 1100)) → (∀ a i, ¬ ((a = 189 ∨ a = 190) ∧ i < 1100) → rd g a i = rd G a i) → Rn xs xl e mm_quarter 208 [some (.inr (.inr 182)), some (.inl 0)] [] g Q) : ∀ (n : Nat) (g : LH) (v : Int), rd G 182 13 - v ≤ n → 0 ≤ v → v ≤ 1000 → RNG g → (∀ i, 0 ≤ i → i < v → rd g 189 i = rd G 189 (i + 1100) ∧ rd g 190 i = rd G 190 (i + 1100)) → (∀ a i, ¬ ((a = 189 ∨ a = 190) ∧ i < 1100) → rd g a i = rd G a i) → Rn xs xl e mm_quarter 160 [some (.inr (.inr 182)), some (.inl v)] [] g Q := by
  intro n
  induction n with
  | zero =>
    intro g v hn v0 v1 gr g1 gf
    have e13 : rd g 182 13 = rd G 182 13 := gf _ _ (by omega)
    exact B_quarter_160 (RF_of gr) ⟨fun _ => k g gr (fun i i0 i1 => g1 i i0 (by omega)) gf, fun c => by omega⟩
  | succ n ih =>
    intro g v hn v0 v1 gr g1 gf
    have e13 : rd g 182 13 = rd G 182 13 := gf _ _ (by omega)
    refine B_quarter_160 (RF_of gr) ⟨fun _ => k g gr (fun i i0 i1 => g1 i i0 (by omega)) gf, fun c => ⟨by omega, by omega, by omega, by omega, by omega, by omega, by omega, ih _ (v + 1) (by omega) (by omega) (by omega) ?_ (fun i i0 i1 => ?_) (fun a i hn => ?_)⟩⟩
    · have o1 := rA_op gr (i := v + 1100) (by omega)
      have o2 := rA_arg gr (i := v + 1100) (by omega)
      exact wR_arg (wR_op gr o1.1 o1.2) o2.1 o2.2
    · by_cases q : i = v
      · subst q
        exact ⟨((rdw_ne (by decide)).trans rdw_eq).trans (gf _ _ (by omega)), rdw_eq.trans (gf _ _ (by omega))⟩
      · rw [rdw_ne (by decide), rdw_nei (by omega), rdw_nei (by omega), rdw_ne (by decide)]
        exact g1 i i0 (by omega)
    · rw [rd_wr, if_neg, rd_wr, if_neg]
      · exact gf a i hn
      all_goals (rintro ⟨rfl, rfl⟩; exact hn (by omega))
theorem q_copy3 {G : LH} (k : ∀ g, RNG g → (∀ a i, ¬ (a = 191 ∨ a = 193 ∨ (a = 182 ∧ i = 18)) → rd g a i = rd G a i) → ∃ c, c < e ∧ Rn xs xl c mm_begins 0 [some (.inr (.inr 182)), none] [] g (fun r h' => ∀ v, Rn xs xl e mm_quarter 258 [some (.inr (.inr 182)), some (.inl v)] (r.toList ++ []) h' Q)) : ∀ (n : Nat) (g : LH) (v : Int), 20 - v ≤ n → 0 ≤ v → v ≤ 20 → RNG g → (∀ a i, ¬ (a = 191 ∨ a = 193) → rd g a i = rd G a i) → Rn xs xl e mm_quarter 208 [some (.inr (.inr 182)), some (.inl v)] [] g Q := by
  have stop : ∀ (g : LH) (v : Int), RNG g → (∀ a i, ¬ (a = 191 ∨ a = 193) → rd g a i = rd G a i) → ∃ c, c < e ∧ Rn xs xl c mm_begins 0 [some (.inr (.inr 182)), none] [] (wr g 182 18 (rd g 182 19)) (fun r h' => Rn xs xl e mm_quarter 258 [some (.inr (.inr 182)), some (.inl v)] (r.toList ++ []) h' Q) := by
    intro g v gr gf
    have m := rF_readMany gr
    obtain ⟨c, c1, c2⟩ := k (wr g 182 18 (rd g 182 19)) (wrR gr (Or.inl (by decide +kernel)) (lo := 0) (hi := 20) (leA1 (by decide +kernel)) m.1 m.2 ⟨by omega, by omega⟩) (fun a i hn => by
      rw [rd_wr, if_neg]
      · exact gf a i (fun q => hn (by omega))
      · rintro ⟨rfl, rfl⟩
        exact hn (by omega))
    exact ⟨c, c1, c2.mono (fun r h' q => q v)⟩
  intro n
  induction n with
  | zero =>
    intro g v hn v0 v1 gr gf
    have m := rF_readMany gr
    exact B_quarter_208 (RF_of gr) ⟨fun _ => stop g v gr gf, fun c => by omega⟩
  | succ n ih =>
    intro g v hn v0 v1 gr gf
    have m := rF_readMany gr
    refine B_quarter_208 (RF_of gr) ⟨fun _ => stop g v gr gf, fun c => ⟨by omega, by omega, by omega, by omega, by omega, ih _ (v + 1) (by omega) (by omega) (by omega) ?_ (fun a i hn => ?_)⟩⟩
    · have o2 := rA_readNameOf gr (i := v) (by omega)
      exact wR_nameOf (wR_names gr (rd_readNames64 gr (by omega))) o2.1 o2.2
    · rw [rd_wr, if_neg, rd_wr, if_neg]
      · exact gf a i hn
      all_goals (rintro ⟨rfl, rfl⟩; exact hn (by omega))
theorem D_quarter (he : 41 ≤ e) (hI : INV h) (k : ∀ r h', INV h' → rd h' 182 2 = 0 → (∀ a i, a < 182 → rd h' a i = rd h a i) → Q (some (.inl r)) h') : Rn xs xl e mm_quarter 0 [some (.inr (.inr 182)), none] [] h Q := by
  have i0 : INV (wr h 182 0 0) := wF_thrown hI (by omega) (by omega)
  -- a quarter without a fault
  have t129 : ∀ G, INV G → NQ G → rd G 182 8 = 0 → rd G 182 2 = 0 → (∀ a i, a < 182 → rd G a i = rd h a i) → Rn xs xl e mm_quarter 129 [some (.inr (.inr 182)), some (.inl 0)] [] G Q := by
    intro G gI gq f0 gt gf
    obtain ⟨q1, q2, q3, q4, q5⟩ := gq f0
    have c0 := rF_codes gI.1
    have n0 := rw_doors gI.1
    have n1 := rw_people gI.1
    refine q_copy1 (G := G) (fun g1 r1 c1 f1 => ?_) 150 G 0 (by omega) (by omega) (by omega) gI.1 (fun i i0 i1 => by omega) (fun _ _ _ => rfl)
    have e13 : rd g1 182 13 = rd G 182 13 := f1 _ _ (by omega)
    refine q_copy2 (G := g1) (by omega) (fun g2 r2 c2 f2 => ?_) (rd g1 182 13).toNat g1 0 (by omega) (by omega) (by omega) r1 (fun i i0 i1 => by omega) (fun _ _ _ => rfl)
    refine q_copy3 (G := g2) (fun g3 r3 f3 => ?_) 20 g2 0 (by omega) (by omega) (by omega) r2 (fun _ _ _ => rfl)
    have x188 : ∀ i, 0 ≤ i → i < 150 → rd g3 188 i = rd G 188 (i + 150) := fun i i0 i1 => ((f3 188 i (by omega)).trans (f2 188 i (by omega))).trans (c1 i i0 i1)
    have x0 := x188 0 (by omega) (by omega)
    have x1 := x188 1 (by omega) (by omega)
    have x2 := x188 2 (by omega) (by omega)
    have x3 := x188 3 (by omega) (by omega)
    have s4 : SP4 g3 := by
      have old : ∀ b j, b ≠ 188 → b ≠ 189 → b ≠ 190 → b ≠ 191 → b ≠ 193 → b ≠ 182 → rd g3 b j = rd G b j := fun b j n1 n2 n3 n4 n5 n6 => ((f3 b j (by omega)).trans (f2 b j (by omega))).trans (f1 b j (by omega))
      obtain ⟨⟨h1, h2, h3, h4, h5, h6, h7, h8⟩, hl, ht, hq, hw⟩ := gI.2
      refine ⟨⟨lines_same (fun j => old _ j (by decide) (by decide) (by decide) (by decide) (by decide) (by decide)) (fun j => old _ j (by decide) (by decide) (by decide) (by decide) (by decide) (by decide)) h1, lines_same (fun j => old _ j (by decide) (by decide) (by decide) (by decide) (by decide) (by decide)) (fun j => old _ j (by decide) (by decide) (by decide) (by decide) (by decide) (by decide)) h2, lines_same (fun j => old _ j (by decide) (by decide) (by decide) (by decide) (by decide) (by decide)) (fun j => old _ j (by decide) (by decide) (by decide) (by decide) (by decide) (by decide)) h3, lines_same (fun j => old _ j (by decide) (by decide) (by decide) (by decide) (by decide) (by decide)) (fun j => old _ j (by decide) (by decide) (by decide) (by decide) (by decide) (by decide)) h4, lines_same (fun j => old _ j (by decide) (by decide) (by decide) (by decide) (by decide) (by decide)) (fun j => old _ j (by decide) (by decide) (by decide) (by decide) (by decide) (by decide)) h5, lines_same (fun j => old _ j (by decide) (by decide) (by decide) (by decide) (by decide) (by decide)) (fun j => old _ j (by decide) (by decide) (by decide) (by decide) (by decide) (by decide)) h6, ?_, ?_⟩, ?_, ?_, ?_⟩
      · intro m m0 m1 q
        rw [old 195 _ (by decide) (by decide) (by decide) (by decide) (by decide) (by decide)] at q ⊢
        exact h7 m m0 m1 q
      · intro m m0 m1 j j0 j1 q
        rw [old 200 _ (by decide) (by decide) (by decide) (by decide) (by decide) (by decide)] at q ⊢
        exact h8 m m0 m1 j j0 j1 q
      · intro q
        rw [x3] at q
        rcases q5 with z | ⟨z1, n, z2, z3, z4⟩
        · have := z.1
          rw [show (3 + 150 : Int) = 153 by omega, this] at q
          cases q
        · have cp : ∀ j, 0 ≤ j → j < rd G 182 13 → rd g3 189 j = opR G j ∧ rd g3 190 j = arR G j := by
            intro j j0 j1
            have y := c2 j j0 (by omega)
            unfold opR arR
            rw [f3 189 j (by omega), f3 190 j (by omega), y.1, y.2, f1 189 _ (by omega), f1 190 _ (by omega), show (j + 1100 : Int) = 1100 + j by omega]
            exact ⟨rfl, rfl⟩
          have lt := seg_lt z3
          exact ⟨n, by omega, seg_same z3 (fun j j0 j1 => cp j j0 (by omega)), (cp n (by omega) (by omega)).1.trans z4⟩
      · unfold SPtok
        rw [old 184 _ (by decide) (by decide) (by decide) (by decide) (by decide) (by decide)]
        exact ht
      · refine ⟨fun d d0 d1 d2 => ?_, fun p p0 p1 p2 => ?_⟩
        · rw [x1] at d2
          rw [x188 _ (by omega) (by omega), x188 (6 + 8 * d) (by omega) (by omega), x0, show (5 + 8 * d + 150 : Int) = 155 + 8 * d by omega, show (6 + 8 * d + 150 : Int) = 156 + 8 * d by omega]
          exact q3 d d0 d2
        · rw [x2] at p2
          rw [x188 _ (by omega) (by omega), x0, show (117 + 4 * p + 150 : Int) = 267 + 4 * p by omega]
          exact q4 p p0 p2
    refine ⟨2, by omega, D_begins (by omega) r3 s4 (fun g4 i4 f4 v => ?_)⟩
    refine B_quarter_258 (RF_of i4.1) (k 0 g4 i4 ?_ (fun a i ha => ?_))
    · rw [f4 182 2 (by unfold muG; omega), f3 182 2 (by omega), f2 182 2 (by omega), f1 182 2 (by omega)]
      exact gt
    · rw [f4 a i (by unfold muG; omega), f3 a i (by omega), f2 a i (by omega), f1 a i (by omega)]
      exact gf a i ha
  have t115 : ∀ g, INV g → NQ g → rd g 182 2 = 0 → (∀ a i, a < 182 → rd g a i = rd h a i) → Rn xs xl e mm_quarter 115 [some (.inr (.inr 182)), none] [] g Q := by
    intro g gI gq gt gf
    have ff := rF_fault gI.1
    exact B_quarter_115 (RF_of gI.1) ⟨fun c => t129 g gI gq (by omega) gt gf, fun _ => k _ g gI gt gf⟩
  have loop : ∀ (n : Nat) (g : LH), (rd g 182 8 = 0 → 1000 - rd g 182 7 < n) → INV g → NQ g → rd g 182 2 = 0 → (∀ a i, a < 182 → rd g a i = rd h a i) → Rn xs xl e mm_quarter 52 [some (.inr (.inr 182)), none] [] g Q := by
    intro n
    induction n with
    | zero =>
      intro g hn gI gq gt gf
      have aa := rF_at gI.1
      refine B_quarter_52 (RF_of gI.1) ⟨fun _ => t115 g gI gq gt gf, fun c => ?_⟩
      have := hn c
      omega
    | succ n ih =>
      intro g hn gI gq gt gf
      have aa := rF_at gI.1
      have gF := RF_of gI.1
      have gp : PB g := ⟨gI, trivial⟩
      refine B_quarter_52 gF ⟨fun _ => t115 g gI gq gt gf, fun c => ⟨by omega, fun _ => t115 g gI gq gt gf, fun c2 => ?_⟩⟩
      have l9 := at_lt gI c2
      have hn := hn c
      have t106 : ∀ g1, PL g g1 → Rn xs xl e mm_quarter 106 [some (.inr (.inr 182)), none] [] g1 Q := by
        intro g1 p1
        refine B_quarter_106 (RF_of p1.1.1.1) ⟨1, by omega, D_takeSign (by omega) p1.1 (fun g2 p2 _ => ?_)⟩
        have q2 := p2.2.1
        refine B_quarter_112 p2.rf (ih g2 (fun z => ?_) p2.inv (NQ_T p2 p1.2.2.1) ?_ (fun a i ha => ?_))
        · have := (p1.2.1 (p2.2.2.1 z)).2
          omega
        · rw [p2.2.2.2 _ _ (by unfold muT; omega), p1.2.2.2 _ _ (by unfold muA; omega)]
          exact gt
        · rw [p2.2.2.2 _ _ (by unfold muT; omega), p1.2.2.2 _ _ (by unfold muA; omega)]
          exact gf a i ha
      refine ⟨0, by omega, C_isWord gI (by omega) (fun _ => ?_) (fun _ => ?_)⟩
      · exact B_quarter_76_1 gF ⟨4, by omega, D_readDoor (by omega) gp gq l9 c (fun g1 p1 => B_quarter_83 (RF_of p1.1.1.1) (t106 g1 p1))⟩
      · refine B_quarter_76_0 gF ⟨0, by omega, C_isWord gI (by omega) (fun _ => ?_) (fun _ => ?_)⟩
        · exact B_quarter_92_1 gF ⟨4, by omega, D_readPerson (by omega) gp gq l9 c (fun g1 p1 => B_quarter_99 (RF_of p1.1.1.1) (t106 g1 p1))⟩
        · exact B_quarter_92_0 gF ⟨39, by omega, D_readLet (by omega) gp gq c (fun g1 p1 => t106 g1 p1)⟩
  refine B_quarter_0 (RF_of hI.1) ⟨2, by omega, D_cutAll (by omega) i0 (fun h1 i1 a1 f1 t1 fr1 => ?_)⟩
  have i2 : INV (wr (wr h1 182 13 0) 182 19 0) := wF_readMany (wF_codes i1 (by omega) (by omega)) (by omega) (by omega)
  refine B_quarter_9 (RF_of i1.1) ⟨0, by omega, D_stands i2 (fun h3 i3 m3 z3 fr3 => ?_)⟩
  have e3 : ∀ a i, ¬ (a = 188 ∧ 150 ≤ i) → ¬ (a = 182 ∧ (i = 13 ∨ i = 19)) → rd h3 a i = rd h1 a i := by
    intro a i n1 n2
    rw [fr3 a i n1, rd_wr, if_neg, rd_wr, if_neg] <;> (rintro ⟨rfl, rfl⟩; exact n2 (by omega))
  have c3 : rd h3 182 13 = 0 := (fr3 _ _ (by omega)).trans ((rdw_nei (by decide)).trans rdw_eq)
  have m3' : rd h3 182 19 = 0 := (fr3 _ _ (by omega)).trans rdw_eq
  refine B_quarter_26 (RF_of i3.1) ⟨2, by omega, D_takeWord (by omega) ⟨i3, trivial⟩ (by omega) (fun h4 p4 => ?_)⟩
  refine B_quarter_31 p4.rf ⟨1, by omega, D_takeNumber (by omega) p4.1 (by unfold i32; omega) (by unfold i32; omega) (fun r h5 p5 a5 b5 => ?_)⟩
  have rb : 0 ≤ r ∧ r ≤ 10 := by
    by_cases z : rd h5 182 8 = 0
    · have := a5 z; omega
    · have := b5 z; omega
  have i6 : INV (wr h5 188 150 r) := wq_rooms p5.inv rb.1 rb.2
  refine B_quarter_45 p5.rf ⟨1, by omega, D_takeSign (by omega) ⟨i6, trivial⟩ (fun h7 p7 _ => ?_)⟩
  have p45 := p4.trans p5
  have e7 : ∀ a i, ¬ muT a i → ¬ (a = 188 ∧ i = 150) → rd h7 a i = rd h3 a i := by
    intro a i n1 n2
    rw [p7.2.2.2 a i n1, rd_wr, if_neg (by rintro ⟨rfl, rfl⟩; exact n2 ⟨rfl, rfl⟩)]
    exact p45.2.2.2 a i n1
  have a7 := rF_at p7.inv.1
  refine loop 1001 h7 (fun _ => by omega) p7.inv (fun z => ?_) ?_ (fun a i ha => ?_)
  · have z6 := p7.2.2.1 z
    rw [rdw_ne (by decide)] at z6
    have r2 := a5 z6
    have y : ∀ i, i ≠ 150 → rd h7 188 i = rd h3 188 i := fun i hi => e7 188 i (by unfold muT; omega) (by omega)
    have y0 : rd h7 188 150 = r := (p7.2.2.2 _ _ (by unfold muT; omega)).trans rdw_eq
    have y1 : rd h7 188 151 = 0 := (y 151 (by decide)).trans (z3 151 (by decide) (by decide) (by decide))
    have y2 : rd h7 188 152 = 0 := (y 152 (by decide)).trans (z3 152 (by decide) (by decide) (by decide))
    refine ⟨by omega, ?_, fun d d0 d1 => by omega, fun p p0 p1 => by omega, Or.inl ⟨(y 153 (by decide)).trans m3, (e7 182 13 (by unfold muT; omega) (by omega)).trans c3⟩⟩
    rw [e7 182 19 (by unfold muT; omega) (by omega), m3', y1, y2]
    rfl
  · rw [e7 182 2 (by unfold muT; omega) (by omega), e3 182 2 (by omega) (by omega)]
    exact t1
  · rw [e7 a i (by unfold muT; omega) (by omega), e3 a i (by omega) (by omega), fr1 a i (by unfold muC; omega), rdw_ne (by omega)]
end C9
