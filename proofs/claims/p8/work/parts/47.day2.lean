/-! LM, part 47: the reference reads a day -/
theorem SP_195 {h h' : LH} (e : ∀ b j, sens b j → b ≠ 195 → rd h' b j = rd h b j) (hp : pairsOk h' 195 1) (hs : SP h) : SP h' := by
  obtain ⟨⟨h1, h2, h3, h4, h5, h6, h7, h8⟩, hl, ht, hq, hw⟩ := hs
  have c : ∀ b j, (b = 63 ∨ b = 64 ∨ b = 71 ∨ b = 72 ∨ b = 106 ∨ b = 107 ∨ b = 114 ∨ b = 115 ∨ b = 122 ∨ b = 123 ∨ b = 130 ∨ b = 131 ∨ b = 200) → rd h' b j = rd h b j := fun b j hb => e b j (sens_c hb) (by rintro rfl; revert hb; decide)
  have e0 : ∀ j, 0 ≤ j → j < 150 → rd h' 188 j = rd h 188 j := fun j j0 j1 => e 188 j (by unfold sens; omega) (by decide)
  refine ⟨⟨lines_same (fun j => c _ j (by omega)) (fun j => c _ j (by omega)) h1, lines_same (fun j => c _ j (by omega)) (fun j => c _ j (by omega)) h2, lines_same (fun j => c _ j (by omega)) (fun j => c _ j (by omega)) h3, lines_same (fun j => c _ j (by omega)) (fun j => c _ j (by omega)) h4, lines_same (fun j => c _ j (by omega)) (fun j => c _ j (by omega)) h5, lines_same (fun j => c _ j (by omega)) (fun j => c _ j (by omega)) h6, hp, ?_⟩, ?_, ?_, ?_, ?_⟩
  · intro m m0 m1 k k0 k1 q
    rw [c 200 _ (by omega)] at q ⊢
    exact h8 m m0 m1 k k0 k1 q
  · intro q
    rw [e0 3 (by decide) (by decide)] at q
    obtain ⟨n, n1, n2, n3⟩ := hl q
    exact ⟨n, n1, seg_same n2 (fun k k1 k2 => ⟨e 189 k (by unfold sens; omega) (by decide), e 190 k (by unfold sens; omega) (by decide)⟩), by rw [e 189 n (by unfold sens; omega) (by decide)]; exact n3⟩
  · unfold SPtok
    rw [e 184 1000 (by unfold sens; omega) (by decide)]
    exact ht
  · refine ⟨fun d d0 d1 d2 => ?_, fun p p0 p1 p2 => ?_⟩
    · rw [e0 1 (by decide) (by decide)] at d2
      rw [e0 (5 + 8 * d) (by omega) (by omega), e0 (6 + 8 * d) (by omega) (by omega), e0 0 (by decide) (by decide)]
      exact hq.1 d d0 d1 d2
    · rw [e0 2 (by decide) (by decide)] at p2
      rw [e0 (117 + 4 * p) (by omega) (by omega), e0 0 (by decide) (by decide)]
      exact hq.2 p p0 p1 p2
  · obtain ⟨w1, w2, w3⟩ := hw
    have x0 := e0 0 (by decide) (by decide)
    have x2 := e0 2 (by decide) (by decide)
    refine ⟨wOk_same x0 x2 (fun p p0 p1 => e 198 _ (by unfold sens; omega) (by decide)) w1, fun m m0 m1 q => ?_, fun j j0 j1 q => ?_⟩
    · rw [e 199 m (by unfold sens; omega) (by decide)] at q
      exact wOk_same x0 x2 (fun p p0 p1 => e 198 _ (by unfold sens; omega) (by decide)) (w2 m m0 m1 q)
    · rw [e 182 25 (by unfold sens; omega) (by decide)] at q
      exact wOk_same x0 x2 (fun p p0 p1 => e 198 _ (by unfold sens; omega) (by decide)) (w3 j j0 j1 q)
def muL (a i : Int) : Prop := (a = 182 ∧ (i = 7 ∨ i = 8 ∨ i = 21)) ∨ (a = 195 ∧ 50 ≤ i)
theorem muT_L (x i : Int) (q : muT x i) : muL x i := by unfold muT at q; unfold muL; omega
def dl (h : LH) : Prop := ∀ k, 0 ≤ k → k < rd h 182 21 → (-1 ≤ rd h 195 (50 + 2 * k) ∧ rd h 195 (50 + 2 * k) ≤ 5) ∧ (-1 ≤ rd h 195 (51 + 2 * k) ∧ rd h 195 (51 + 2 * k) ≤ 13) ∧ (0 ≤ rd h 195 (50 + 2 * k) → 0 ≤ rd h 195 (51 + 2 * k))
theorem INV_l {h : LH} (hI : INV h) {i v : Int} (i0 : 50 ≤ i) (i1 : i < 100) (hv : i32 v) : INV (wr h 195 i v) := wX_lines hI (by omega) (by unfold sens; omega) (ix := (0, 50, 99, 1)) (lo := -2147483648) (hi := 2147483647) (by decide +kernel) (inv1 i0 (by omega)) hv.1 hv.2 hv
theorem PG_l {h : LH} {i v : Int} (hp : PB h) (i0 : 50 ≤ i) (i1 : i < 100) (hv : i32 v) : PG muL h (wr h 195 i v) := by
  refine ⟨⟨INV_l hp.1 i0 i1 hv, trivial⟩, by rw [rdw_ne (by decide)]; exact Int.le_refl _, by rw [rdw_ne (by decide)]; exact id, fun a j hn => ?_⟩
  rw [rd_wr, if_neg]
  rintro ⟨rfl, rfl⟩
  exact hn (by unfold muL; omega)
theorem dl_T {h h' : LH} (p : PG muT h h') (hd : dl h) : dl h' := by
  have e : ∀ i, rd h' 195 i = rd h 195 i := fun i => p.2.2.2 _ _ (by unfold muT; omega)
  intro k k0 k1
  rw [p.2.2.2 182 21 (by unfold muT; omega)] at k1
  rw [e, e]
  exact hd k k0 k1
section C7
variable {xs : Nat → Int} {xl e : Nat} {h : LH} {Q : Option LV → LH → Prop}
/-- a line more -/
theorem turn_end {h g : LH} {x y v : Int} (hv : v = rd g 182 21 + 1) (hd : dl h) (h23 : rd h 182 21 ≤ 23) (h0 : 0 ≤ rd h 182 21) (p : PG muL h g) (e21 : rd g 182 21 = rd h 182 21) (lt : rd h 182 7 < rd g 182 7) (old : ∀ i, i < 50 + 2 * rd h 182 21 → rd g 195 i = rd h 195 i) (ex : rd g 195 (50 + 2 * rd h 182 21) = x) (ey : rd g 195 (51 + 2 * rd h 182 21) = y) (hxy : rd g 182 8 = 0 → -1 ≤ x ∧ x ≤ 5 ∧ -1 ≤ y ∧ y ≤ 13 ∧ (0 ≤ x → 0 ≤ y)) (k : ∀ h', PG muL h h' → rd h 182 7 < rd h' 182 7 → rd h' 182 21 = rd h 182 21 + 1 → (rd h' 182 8 = 0 → dl h') → Q none h') : Q none (wr g 182 21 v) := by
  subst hv
  have x7 : rd (wr g 182 21 (rd g 182 21 + 1)) 182 7 = rd g 182 7 := rdw_nei (by decide)
  have x8 : rd (wr g 182 21 (rd g 182 21 + 1)) 182 8 = rd g 182 8 := rdw_nei (by decide)
  have x21 : rd (wr g 182 21 (rd g 182 21 + 1)) 182 21 = rd g 182 21 + 1 := rdw_eq
  have xl' : ∀ i, rd (wr g 182 21 (rd g 182 21 + 1)) 195 i = rd g 195 i := fun i => rdw_ne (by decide)
  refine k _ ⟨⟨wF_readLines p.inv (by omega) (by omega), trivial⟩, by rw [x7]; exact p.2.1, by rw [x8]; exact p.2.2.1, fun a i hn => ?_⟩ (by omega) (by omega) (fun z => ?_)
  · rw [rd_wr, if_neg]
    · exact p.2.2.2 a i hn
    · rintro ⟨rfl, rfl⟩
      exact hn (by unfold muL; omega)
  · rw [x8] at z
    obtain ⟨y1, y2, y3, y4, y5⟩ := hxy z
    intro m m0 m1
    rw [xl', xl']
    by_cases hm : m = rd h 182 21
    · subst hm
      rw [ex, ey]
      exact ⟨⟨y1, y2⟩, ⟨y3, y4⟩, y5⟩
    · rw [old _ (by omega), old _ (by omega)]
      exact hd m m0 (by omega)
theorem D_readTurn (he : 4 ≤ e) (hp : PB h) (h9 : rd h 182 7 ≤ 999) (h23 : rd h 182 21 ≤ 23) (hd : dl h) (k : ∀ h', PG muL h h' → rd h 182 7 < rd h' 182 7 → rd h' 182 21 = rd h 182 21 + 1 → (rd h' 182 8 = 0 → dl h') → Q none h') : Rn xs xl e mm_readTurn 0 [some (.inr (.inr 182)), none, none] [] h Q := by
  have hF := RF_of hp.1.1
  have ha := rF_at hp.1.1
  have hl := rF_readLines hp.1.1
  have p1 := PG_at hp (v := rd h 182 7 + 1) (by omega) (by omega)
  have e7 : rd (wr h 182 7 (rd h 182 7 + 1)) 182 7 = rd h 182 7 + 1 := rdw_eq
  have e21 : rd (wr h 182 7 (rd h 182 7 + 1)) 182 21 = rd h 182 21 := rdw_nei (by decide)
  have eL : ∀ i, rd (wr h 182 7 (rd h 182 7 + 1)) 195 i = rd h 195 i := fun i => rdw_ne (by decide)
  have go : ∀ w : Int, Rn xs xl e mm_readTurn 16 [some (.inr (.inr 182)), some (.inl (2 * rd h 182 21 + 50)), none] [.inl w] h Q := by
    intro w
    refine B_readTurn_16 hF ⟨by omega, fun c => ⟨3, by omega, D_takeTold (by omega) p1.1 (by omega) (by omega) (fun r h2 p2 a2 r32 => ?_)⟩, fun c => ⟨by omega, by omega, fun c2 => absurd c2 c, fun _ => ⟨by omega, by omega, ?_⟩⟩⟩
    · have e2 : rd h2 182 21 = rd h 182 21 := (p2.2.2.2 _ _ (by unfold muT; omega)).trans e21
      have l2 : ∀ i, rd h2 195 i = rd h 195 i := fun i => (p2.2.2.2 _ _ (by unfold muT; omega)).trans (eL i)
      have q2 := p2.2.1
      have p3 := PG_l p2.1 (i := 2 * rd h 182 21 + 50) (v := r) (by omega) (by omega) r32
      refine B_readTurn_48 p2.rf ⟨by omega, by omega, fun _ => ⟨3, by omega, D_takeTold (by omega) p3.1 (by omega) (by omega) (fun s h4 p4 a4 s32 => ?_)⟩, fun c2 => absurd c c2⟩
      have q4 := p4.2.1
      have q3 := p3.2.1
      have l4 : ∀ i, rd h4 195 i = rd (wr h2 195 (2 * rd h 182 21 + 50) r) 195 i := fun i => p4.2.2.2 _ _ (by unfold muT; omega)
      have e4 : rd h4 182 21 = rd h 182 21 := (p4.2.2.2 _ _ (by unfold muT; omega)).trans ((rdw_ne (by decide)).trans e2)
      have p5 := PG_l p4.1 (i := 2 * rd h 182 21 + 50 + 1) (v := s) (by omega) (by omega) s32
      have pAll : PG muL h (wr h4 195 (2 * rd h 182 21 + 50 + 1) s) := ((((p1.mono muT_L).trans (p2.mono muT_L)).trans p3).trans (p4.mono muT_L)).trans p5
      have e5 : rd (wr h4 195 (2 * rd h 182 21 + 50 + 1) s) 182 21 = rd h4 182 21 := rdw_ne (by decide)
      have e58 : rd (wr h4 195 (2 * rd h 182 21 + 50 + 1) s) 182 8 = rd h4 182 8 := rdw_ne (by decide)
      have e57 : rd (wr h4 195 (2 * rd h 182 21 + 50 + 1) s) 182 7 = rd h4 182 7 := rdw_ne (by decide)
      refine B_readTurn_71 p4.rf ⟨by omega, by omega, ?_⟩
      refine turn_end (x := r) (y := s) (by omega) hd h23 hl.1 pAll (by omega) (by omega) (fun i hi => ?_) ?_ ?_ (fun z => ?_) k
      · rw [rdw_nei (by omega), l4, rdw_nei (by omega), l2]
      · rw [rdw_nei (by omega), l4, show (50 + 2 * rd h 182 21 : Int) = 2 * rd h 182 21 + 50 by omega, rdw_eq]
      · rw [show (51 + 2 * rd h 182 21 : Int) = 2 * rd h 182 21 + 50 + 1 by omega, rdw_eq]
      · rw [e58] at z
        have b4 := a4 z
        have z2 := p4.2.2.1 z
        rw [rdw_ne (by decide)] at z2
        have b2 := a2 z2
        omega
    · have p2 := PG_l p1.1 (i := 2 * rd h 182 21 + 50) (v := -1) (by omega) (by omega) (by unfold i32; omega)
      have p3 := PG_l p2.1 (i := 2 * rd h 182 21 + 50 + 1) (v := -1) (by omega) (by omega) (by unfold i32; omega)
      have x21 : rd (wr (wr (wr h 182 7 (rd h 182 7 + 1)) 195 (2 * rd h 182 21 + 50) (-1)) 195 (2 * rd h 182 21 + 50 + 1) (-1)) 182 21 = rd h 182 21 := (rdw_ne (by decide)).trans ((rdw_ne (by decide)).trans e21)
      have x7 : rd (wr (wr (wr h 182 7 (rd h 182 7 + 1)) 195 (2 * rd h 182 21 + 50) (-1)) 195 (2 * rd h 182 21 + 50 + 1) (-1)) 182 7 = rd h 182 7 + 1 := (rdw_ne (by decide)).trans ((rdw_ne (by decide)).trans e7)
      refine turn_end (x := -1) (y := -1) (by omega) hd h23 hl.1 (((p1.mono muT_L).trans p2).trans p3) x21 (by omega) (fun i hi => ?_) ?_ ?_ (fun z => by omega) k
      · rw [rdw_nei (by omega), rdw_nei (by omega), eL]
      · rw [rdw_nei (by omega), show (50 + 2 * rd h 182 21 : Int) = 2 * rd h 182 21 + 50 by omega, rdw_eq]
      · rw [show (51 + 2 * rd h 182 21 : Int) = 2 * rd h 182 21 + 50 + 1 by omega, rdw_eq]
  exact B_readTurn_0 hF ⟨by omega, by omega, 0, by omega, C_isWord hp.1 (by omega) (fun _ => go 1) (fun _ => go 0)⟩
def muY (a i : Int) : Prop := (a = 182 ∧ (i = 0 ∨ i = 2 ∨ i = 3 ∨ i = 7 ∨ i = 8 ∨ i = 21)) ∨ a = 184 ∨ a = 185 ∨ a = 186 ∨ a = 195
theorem copy_lines {H : LH} (hI : INV H) (hd : dl H) (h24 : rd H 182 21 ≤ 24) (k : ∀ g, INV g → (∀ a i, ¬ (a = 195 ∧ 0 ≤ i ∧ i ≤ 48) → rd g a i = rd H a i) → Q (some (.inl 0)) g) : ∀ (n : Nat) (g : LH) (v : Int), 2 * rd H 182 21 - v ≤ n → 0 ≤ v → v ≤ 2 * rd H 182 21 → RNG g → (∀ a i, ¬ (a = 195 ∧ 0 ≤ i ∧ i ≤ 48) → rd g a i = rd H a i) → (∀ j, 0 ≤ j → j < v → rd g 195 (1 + j) = rd H 195 (50 + j)) → (∀ j, v ≤ j → j < 48 → rd g 195 (1 + j) = rd H 195 (1 + j)) → Rn xs xl e mm_day 113 [some (.inr (.inr 182)), some (.inl v)] [] g Q := by
  have hl := rF_readLines hI.1
  have stop : ∀ (g : LH) (v : Int), v = 2 * rd H 182 21 → RNG g → (∀ a i, ¬ (a = 195 ∧ 0 ≤ i ∧ i ≤ 48) → rd g a i = rd H a i) → (∀ j, 0 ≤ j → j < v → rd g 195 (1 + j) = rd H 195 (50 + j)) → (∀ j, v ≤ j → j < 48 → rd g 195 (1 + j) = rd H 195 (1 + j)) → Q (some (.inl 0)) g := by
    intro g v ev gr gf g1 g2
    refine k g ⟨gr, SP_195 (fun b j hb hn => gf b j (by omega)) (fun m m0 m1 q => ?_) hI.2⟩ gf
    by_cases hm : m < rd H 182 21
    · rw [g1 (2 * m) (by omega) (by omega)] at q
      rw [show (1 + 2 * m + 1 : Int) = 1 + (2 * m + 1) by omega, g1 (2 * m + 1) (by omega) (by omega)]
      have x := hd m m0 hm
      rw [show (50 + (2 * m + 1) : Int) = 51 + 2 * m by omega]
      exact x.2.2 q
    · rw [g2 (2 * m) (by omega) (by omega)] at q
      rw [show (1 + 2 * m + 1 : Int) = 1 + (2 * m + 1) by omega, g2 (2 * m + 1) (by omega) (by omega)]
      have x := hI.2.1.2.2.2.2.2.2.1 m m0 m1 q
      rw [show (1 + 2 * m + 1 : Int) = 1 + (2 * m + 1) by omega] at x
      exact x
  intro n
  induction n with
  | zero =>
    intro g v hn v0 v1 gr gf g1 g2
    have e21 : rd g 182 21 = rd H 182 21 := gf _ _ (by omega)
    exact B_day_113 (RF_of gr) ⟨by omega, fun _ => stop g v (by omega) gr gf g1 g2, fun c => by omega⟩
  | succ n ih =>
    intro g v hn v0 v1 gr gf g1 g2
    have e21 : rd g 182 21 = rd H 182 21 := gf _ _ (by omega)
    refine B_day_113 (RF_of gr) ⟨by omega, fun c => stop g v (by omega) gr gf g1 g2, fun c => ⟨by omega, by omega, by omega, by omega, by omega, ?_⟩⟩
    have e50 : rd g 195 (v + 50) = rd H 195 (v + 50) := gf _ _ (by omega)
    have gr2 : RNG (wr g 195 (v + 1) (rd g 195 (v + 50))) := by
      rw [e50]
      rcases (show v % 2 = 0 ∨ v % 2 = 1 by omega) with q | q
      · have x := hd (v / 2) (by omega) (by omega)
        rw [show (50 + 2 * (v / 2) : Int) = v + 50 by omega] at x
        exact wY_lines gr (ix := (0, 1, 47, 2)) (lo := -1) (hi := 5) (by decide +kernel) (invs (s := 2) (k := v / 2) (by omega) (by omega) (by omega)) x.1.1 x.1.2 ⟨by omega, by omega⟩
      · have x := hd (v / 2) (by omega) (by omega)
        rw [show (51 + 2 * (v / 2) : Int) = v + 50 by omega] at x
        exact wY_lines gr (ix := (0, 2, 48, 2)) (lo := -1) (hi := 13) (by decide +kernel) (invs (s := 2) (k := v / 2) (by omega) (by omega) (by omega)) x.2.1.1 x.2.1.2 ⟨by omega, by omega⟩
    refine ih _ (v + 1) (by omega) (by omega) (by omega) gr2 (fun a i hn => ?_) (fun j j0 j1 => ?_) (fun j j0 j1 => ?_)
    · rw [rd_wr, if_neg]
      · exact gf a i hn
      · rintro ⟨rfl, rfl⟩
        exact hn (by omega)
    · rw [rd_wr]
      split
      · next q => rw [e50, show (v + 50 : Int) = 50 + j by omega]
      · next q => exact g1 j j0 (by omega)
    · rw [rdw_nei (by omega)]
      exact g2 j (by omega) j1
theorem D_day (he : 5 ≤ e) (hI : INV h) (k : ∀ r h', INV h' → rd h' 182 2 = 0 → (∀ a i, ¬ muY a i → rd h' a i = rd h a i) → Q (some (.inl r)) h') : Rn xs xl e mm_day 0 [some (.inr (.inr 182)), none] [] h Q := by
  have i0 : INV (wr h 182 0 0) := wF_thrown hI (by omega) (by omega)
  refine B_day_0 (RF_of hI.1) ⟨2, by omega, D_cutAll (by omega) i0 (fun h1 i1 a1 f1 t1 fr1 => ?_)⟩
  have i2 : INV (wr h1 182 21 0) := wF_readLines i1 (by omega) (by omega)
  have fr2 : ∀ a i, ¬ muY a i → rd (wr h1 182 21 0) a i = rd h a i := by
    intro a i hn
    rw [rd_wr, if_neg, fr1 a i (fun q => hn (by unfold muC at q; unfold muY; omega)), rd_wr, if_neg] <;> (rintro ⟨rfl, rfl⟩; exact hn (by unfold muY; omega))
  refine B_day_9 (RF_of i1.1) ?_
  have t89 : ∀ g, INV g → (rd g 182 8 = 0 → dl g) → rd g 182 2 = 0 → (∀ a i, ¬ muY a i → rd g a i = rd h a i) → Rn xs xl e mm_day 89 [some (.inr (.inr 182)), none] [] g Q := by
    intro g gI gd gt gf
    have ff := rF_fault gI.1
    have fl := rF_readLines gI.1
    refine B_day_89 (RF_of gI.1) ⟨fun c => ?_, fun _ => k _ g gI gt gf⟩
    have gd := gd (by omega)
    have iz : INV (wr g 195 0 (rd g 182 21)) := wX_lines gI (by omega) (by unfold sens; omega) (ix := (0, 0, 0, 0)) (lo := 0) (hi := 24) (by decide +kernel) (pt 0) (by omega) (by omega) ⟨by omega, by omega⟩
    have z21 : rd (wr g 195 0 (rd g 182 21)) 182 21 = rd g 182 21 := rdw_ne (by decide)
    have zd : dl (wr g 195 0 (rd g 182 21)) := by
      intro m m0 m1
      rw [z21] at m1
      rw [rdw_nei (by omega), rdw_nei (by omega)]
      exact gd m m0 m1
    refine copy_lines iz zd (by omega) (fun g' gI' gf' => k 0 g' gI' ?_ (fun a i hn => ?_)) (2 * rd g 182 21).toNat _ 0 (by omega) (by omega) (by omega) iz.1 (fun _ _ _ => rfl) (fun j _ _ => by omega) (fun _ _ _ => rfl)
    · rw [gf' _ _ (by omega), rdw_ne (by decide)]
      exact gt
    · rw [gf' a i (fun q => hn (by unfold muY; omega)), rd_wr, if_neg]
      · exact gf a i hn
      · rintro ⟨rfl, rfl⟩
        exact hn (by unfold muY; omega)
  have loop : ∀ (n : Nat) (g : LH), (rd g 182 8 = 0 → 1000 - rd g 182 7 < n) → INV g → (rd g 182 8 = 0 → dl g) → rd g 182 2 = 0 → (∀ a i, ¬ muY a i → rd g a i = rd h a i) → Rn xs xl e mm_day 14 [some (.inr (.inr 182)), none] [] g Q := by
    intro n
    induction n with
    | zero =>
      intro g hn gI gd gt gf
      have aa := rF_at gI.1
      refine B_day_14 (RF_of gI.1) ⟨fun _ => t89 g gI gd gt gf, fun c => ?_⟩
      have := hn c
      omega
    | succ n ih =>
      intro g hn gI gd gt gf
      have aa := rF_at gI.1
      have ll := rF_readLines gI.1
      have gF := RF_of gI.1
      have gp : PB g := ⟨gI, trivial⟩
      refine B_day_14 gF ⟨fun _ => t89 g gI gd gt gf, fun c => ⟨by omega, fun _ => t89 g gI gd gt gf, fun c2 => ?_⟩⟩
      have l9 := at_lt gI c2
      have hn := hn c
      have t80 : ∀ g1, PG muL g g1 → (rd g1 182 8 = 0 → dl g1 ∧ rd g 182 7 < rd g1 182 7) → Rn xs xl e mm_day 80 [some (.inr (.inr 182)), none] [] g1 Q := by
        intro g1 p1 d1
        refine B_day_80 p1.rf ⟨1, by omega, D_takeSign (by omega) p1.1 (fun g2 p2 _ => ?_)⟩
        have pp := p1.trans (p2.mono muT_L)
        have q2 := p2.2.1
        refine B_day_86 p2.rf (ih g2 (fun z => ?_) p2.inv (fun z => dl_T p2 (d1 (p2.2.2.1 z)).1) ?_ (fun a i hm => ?_))
        · have := (d1 (p2.2.2.1 z)).2
          omega
        · rw [pp.2.2.2 _ _ (by unfold muL; omega)]
          exact gt
        · rw [pp.2.2.2 a i (fun q => hm (by unfold muL at q; unfold muY; omega))]
          exact gf a i hm
      have bad : ∀ g1, PG muT g g1 → rd g1 182 8 ≠ 0 → Rn xs xl e mm_day 80 [some (.inr (.inr 182)), none] [] g1 Q := fun g1 p1 z1 => t80 g1 (p1.mono muT_L) (fun z => absurd z z1)
      have rt : rd g 182 21 ≠ 24 → ∃ c, c < e ∧ Rn xs xl c mm_readTurn 0 [some (.inr (.inr 182)), none, none] [] g (fun r h' => Rn xs xl e mm_day 80 [some (.inr (.inr 182)), none] (r.toList ++ []) h' Q) := fun c3 => ⟨4, by omega, D_readTurn (by omega) gp l9 (by omega) (gd c) (fun g1 p1 lt1 _ d1 => t80 g1 p1 (fun z => ⟨d1 z, lt1⟩))⟩
      have w5 : ∃ c, c < e ∧ Rn xs xl c mm_wrong 0 [some (.inr (.inr 182)), some (.inl 5)] [] g (fun r h' => Rn xs xl e mm_day 73 [some (.inr (.inr 182)), none] (r.toList ++ []) h' Q) := ⟨0, by omega, D_wrong gp (by omega) (fun g1 p1 z1 _ => B_day_73 p1.rf (bad g1 p1 z1))⟩
      refine ⟨0, by omega, C_isWord gI (by omega) (fun _ => ?_) (fun _ => ?_)⟩
      · exact B_day_39_1 gF ⟨rt, fun _ => w5⟩
      · refine B_day_39_0 gF ⟨0, by omega, C_isWord gI (by omega) (fun _ => ?_) (fun _ => ?_)⟩
        · exact B_day_48_1 gF ⟨rt, fun _ => w5⟩
        · exact B_day_48_0 gF ⟨0, by omega, D_wrong gp (by omega) (fun g1 p1 z1 _ => B_day_56 p1.rf (bad g1 p1 z1))⟩
  have e7 : rd (wr h1 182 21 0) 182 7 = 0 := (rdw_nei (by decide)).trans a1
  refine loop 1001 _ (fun _ => by omega) i2 (fun _ m m0 m1 => ?_) ((rdw_nei (by decide)).trans t1) fr2
  rw [rdw_eq] at m1
  omega
end C7
