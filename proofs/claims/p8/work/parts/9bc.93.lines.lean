/-! LM, part 93: the class's day: lines told, played -/
theorem SP_mem {h h' : LH} (e : ∀ b j, sens b j → 131 < b → rd h' b j = rd h b j) (l : linesOk h' 63 64 ∧ linesOk h' 71 72 ∧ linesOk h' 106 107 ∧ linesOk h' 114 115 ∧ linesOk h' 122 123 ∧ linesOk h' 130 131) (hs : SP h) : SP h' := by
  obtain ⟨⟨h1, h2, h3, h4, h5, h6, h7, h8⟩, hl, ht, hq, hw⟩ := hs
  have e0 : ∀ j, 0 ≤ j → j < 150 → rd h' 188 j = rd h 188 j := fun j j0 j1 => e 188 j (by unfold sens; omega) (by decide)
  refine ⟨⟨l.1, l.2.1, l.2.2.1, l.2.2.2.1, l.2.2.2.2.1, l.2.2.2.2.2, ?_, ?_⟩, ?_, ?_, ?_, ?_⟩
  · intro k k0 k1 q
    rw [e 195 _ (by unfold sens; omega) (by decide)] at q ⊢
    exact h7 k k0 k1 q
  · intro m m0 m1 k k0 k1 q
    rw [e 200 _ (sens_c (by omega)) (by decide)] at q ⊢
    exact h8 m m0 m1 k k0 k1 q
  · intro q
    rw [e0 3 (by decide) (by decide)] at q
    obtain ⟨n, n1, n2, n3⟩ := hl q
    exact ⟨n, n1, seg_same n2 (fun k k1 k2 => ⟨e 189 k (by unfold sens; omega) (by decide), e 190 k (by unfold sens; omega) (by decide)⟩), by rw [e 189 n (by unfold sens; omega) (by decide)]; exact n3⟩
  · unfold SPtok
    rw [e 184 1000 (by unfold sens; omega) (by decide)]
    exact ht
  · refine ⟨fun d d0 d1 d2 => ?_, fun p p0 p1 p2 => ?_⟩
    · rw [e0 1 (by decide) (by decide)] at d2
      rw [e0 (5 + 8 * d) (by omega) (by omega), e0 (6 + 8 * d) (by omega) (by omega), e0 0 (by decide) (by decide)]
      exact hq.1 d d0 d1 d2
    · rw [e0 2 (by decide) (by decide)] at p2
      rw [e0 (117 + 4 * p) (by omega) (by omega), e0 0 (by decide) (by decide)]
      exact hq.2 p p0 p1 p2
  · obtain ⟨w1, w2, w3⟩ := hw
    have x0 := e0 0 (by decide) (by decide)
    have x2 := e0 2 (by decide) (by decide)
    refine ⟨wOk_same x0 x2 (fun p p0 p1 => e 198 _ (by unfold sens; omega) (by decide)) w1, fun m m0 m1 q => ?_, fun j j0 j1 q => ?_⟩
    · rw [e 199 m (by unfold sens; omega) (by decide)] at q
      exact wOk_same x0 x2 (fun p p0 p1 => e 198 _ (by unfold sens; omega) (by decide)) (w2 m m0 m1 q)
    · rw [e 182 25 (by unfold sens; omega) (by decide)] at q
      exact wOk_same x0 x2 (fun p p0 p1 => e 198 _ (by unfold sens; omega) (by decide)) (w3 j j0 j1 q)
section LX
variable {xs : Nat → Int} {xl e : Nat} {h : LH} {Q : Option LV → LH → Prop}
def frFl (h g : LH) : Prop := ∀ a i, ¬ (a = 2 ∧ 3 ≤ i ∧ i ≤ 8) → rd g a i = rd h a i
theorem D_fail {v : Int} (hv : 1 ≤ v ∧ v ≤ 5) (hI : INV h) (k : ∀ g, INV g → rd g 2 8 ≠ 0 → frFl h g → Q none g) : Rn xs xl e mm_Reader_fail 0 [some (.inr (.inr 2)), some (.inl v)] [] h Q := by
  have pl := rG_2_4 hI.1
  refine B_Reader_fail_0 (RF_of hI.1) ⟨fun z => k h hI z (fun _ _ _ => rfl), fun z => ⟨by omega, by omega, k _ (wG_2_8 hI (by omega) (by omega)) (by rw [rdw_eq]; omega) (fun a i hn => ?_)⟩⟩
  rw [rd_wr, if_neg]
  rintro ⟨rfl, rfl⟩
  exact hn ⟨rfl, by decide, by decide⟩
theorem D_takeKnown {v : Int} (he : 4 ≤ e) (hI : INV h) (k : ∀ g, INV g → frFl h g → (rd h 2 8 ≠ 0 → rd g 2 8 ≠ 0) → (v = -1 → rd g 2 8 ≠ 0) → Q (some (.inl v)) g) : Rn xs xl e mm_Reader_takeKnownName 0 [some (.inr (.inr 2)), some (.inl v)] [] h Q := by
  refine B_Reader_takeKnownName_0 (RF_of hI.1) ⟨1, by omega, K_isName (Nat.le_refl 1) hI (fun r h1 i1 f1 => ?_)⟩
  have F : ∀ {g : LH}, frFl h1 g → frFl h g := fun f a i hn => (f a i hn).trans (f1 a i)
  refine B_Reader_takeKnownName_4 (RF_of i1.1) ⟨fun z => ⟨fun z1 => ⟨3, by omega, K_step (Nat.le_refl 3) i1 (fun g gI gf => B_Reader_takeKnownName_32 (RF_of gI.1) (k g gI (fun a i hn => (gf a i (by omega)).trans (f1 a i)) (fun z2 => by rw [gf 2 8 (by decide), f1]; exact z2) (fun z2 => absurd z2 z1)))⟩, fun z1 => ⟨0, by omega, D_fail (by omega) i1 (fun g gI gn gf => B_Reader_takeKnownName_25 (RF_of gI.1) (k g gI (F gf) (fun _ => gn) (fun _ => gn)))⟩⟩, fun z => ⟨0, by omega, D_fail (by omega) i1 (fun g gI gn gf => B_Reader_takeKnownName_12 (RF_of gI.1) (k g gI (F gf) (fun _ => gn) (fun _ => gn)))⟩⟩
theorem D_takeSgn {c : Int} (hc : 0 ≤ c ∧ c ≤ 65535) (he : 4 ≤ e) (hI : INV h) (k : ∀ g, INV g → frFl h g → (rd h 2 8 ≠ 0 → rd g 2 8 ≠ 0) → Q none g) : Rn xs xl e mm_Reader_takeSign 0 [some (.inr (.inr 2)), some (.inl c)] [] h Q := by
  refine B_Reader_takeSign_0 (RF_of hI.1) ⟨1, by omega, K_isSign hc (Nat.le_refl 1) hI (fun r h1 i1 f1 => ?_)⟩
  exact B_Reader_takeSign_5 (RF_of i1.1) ⟨fun z => ⟨0, by omega, D_fail (by omega) i1 (fun g gI gn gf => B_Reader_takeSign_20 (RF_of gI.1) (k g gI (fun a i hn => (gf a i hn).trans (f1 a i)) (fun _ => gn)))⟩, fun z => ⟨3, by omega, K_step (Nat.le_refl 3) i1 (fun g gI gf => B_Reader_takeSign_12 (RF_of gI.1) (k g gI (fun a i hn => (gf a i (by omega)).trans (f1 a i)) (fun z2 => by rw [gf 2 8 (by decide), f1]; exact z2)))⟩⟩
theorem D_addLine {p d : Int} (hp : -1 ≤ p ∧ p ≤ 5) (hd : -1 ≤ d ∧ d ≤ 13) (hr : 0 ≤ p → 0 ≤ d) (hI : INV h) (k : ∀ g, INV g → (∀ a i, ¬ (a = 67 ∧ i = 1) → ¬ (a = 71 ∧ 0 ≤ i ∧ i ≤ 23) → ¬ (a = 72 ∧ 0 ≤ i ∧ i ≤ 23) → rd g a i = rd h a i) → Q none g) : Rn xs xl e mm_Memory_addLine 0 [some (.inr (.inr 67)), some (.inl p), some (.inl d)] [] h Q := by
  have n0 := rG_67_1 hI.1
  refine B_Memory_addLine_0 (RF_of hI.1) ⟨fun _ => k h hI (fun _ _ _ _ _ => rfl), fun z => ⟨by omega, by omega, by omega, ?_⟩⟩
  have r2 : RNG (wr (wr h 71 (rd h 67 1) p) 72 (rd h 67 1) d) := wS_72 (wS_71 hI.1 hp.1 hp.2) hd.1 hd.2
  generalize rd h 67 1 = n at *
  have ne : ∀ b j, b ≠ 71 → b ≠ 72 → rd (wr (wr h 71 n p) 72 n d) b j = rd h b j := fun b j n1 n2 => by rw [rdw_ne (fun q => n2 q.symm), rdw_ne (fun q => n1 q.symm)]
  have sp : SP (wr (wr h 71 n p) 72 n d) := by
    refine SP_mem (fun b j hb hb2 => ne b j (by omega) (by omega)) ⟨lines_same (fun j => ne 63 j (by decide) (by decide)) (fun j => ne 64 j (by decide) (by decide)) hI.2.1.1, ?_, lines_same (fun j => ne 106 j (by decide) (by decide)) (fun j => ne 107 j (by decide) (by decide)) hI.2.1.2.2.1, lines_same (fun j => ne 114 j (by decide) (by decide)) (fun j => ne 115 j (by decide) (by decide)) hI.2.1.2.2.2.1, lines_same (fun j => ne 122 j (by decide) (by decide)) (fun j => ne 123 j (by decide) (by decide)) hI.2.1.2.2.2.2.1, lines_same (fun j => ne 130 j (by decide) (by decide)) (fun j => ne 131 j (by decide) (by decide)) hI.2.1.2.2.2.2.2.1⟩ hI.2
    intro i hi
    by_cases c : i = n
    · subst c
      rw [rdw_ne (by decide), rdw_eq] at hi
      rw [rdw_eq]
      exact hr hi
    · rw [rdw_ne (by decide), rdw_nei (fun q => c q.symm)] at hi
      rw [rdw_nei (fun q => c q.symm), rdw_ne (by decide)]
      exact hI.2.1.2.1 i hi
  have i3 := wG_67_1 (h := wr (wr h 71 n p) 72 n d) ⟨r2, sp⟩ (v := n + 1) (by omega) (by omega)
  refine k _ i3 (fun a i m1 m2 m3 => ?_)
  rw [rd_wr, if_neg (fun q => m1 ⟨q.1.symm, q.2.symm⟩), rd_wr, if_neg (by omega), rd_wr, if_neg (by omega)]
def frD (h g : LH) : Prop := ∀ a i, ¬ (a = 2 ∧ 3 ≤ i ∧ i ≤ 8) → ¬ (a = 67 ∧ i = 1) → ¬ (a = 71 ∧ 0 ≤ i ∧ i ≤ 23) → ¬ (a = 72 ∧ 0 ≤ i ∧ i ≤ 23) → rd g a i = rd h a i
theorem L_day97 {q p d v : Int} (hq : q = 5 ∨ q = 32) (he : 1 ≤ e) (hp : -1 ≤ p ∧ p ≤ 5) (hd : -1 ≤ d ∧ d ≤ 13) (hI : INV h) (hr : rd h 2 8 = 0 → 0 ≤ p → 0 ≤ d) (k : ∀ g, INV g → frD h g → Q none g) : Rn xs xl e mm_Reader_dayLine 97 [some (.inr (.inr 2)), some (.inr (.inr q)), some (.inr (.inr 67)), some (.inl v), some (.inl p), some (.inl d)] [] h Q :=
  B_Reader_dayLine_97 hq (RF_of hI.1) ⟨fun _ => k h hI (fun _ _ _ _ _ _ => rfl), fun z => ⟨0, by omega, D_addLine hp hd (hr z) hI (fun g gI gf => B_Reader_dayLine_112 hq (RF_of gI.1) (k g gI (fun a i n1 n2 n3 n4 => gf a i n2 n3 n4)))⟩⟩
theorem L_day53 {q v : Int} (hq : q = 5 ∨ q = 32) (he : 5 ≤ e) (hI : INV h) (k : ∀ g, INV g → frD h g → Q none g) : Rn xs xl e mm_Reader_dayLine 53 [some (.inr (.inr 2)), some (.inr (.inr q)), some (.inr (.inr 67)), some (.inl v), none, none] [] h Q := by
  have J : ∀ {g : LH}, INV g → i64 (rd g 2 6) := fun gI => rJ gI.1 (vB_ok (by decide +kernel)) (by decide +kernel) (by decide +kernel)
  refine B_Reader_dayLine_53 hq (RF_of hI.1) ⟨fun z => ⟨4, by omega, D_takeSgn (by omega) (Nat.le_refl 4) hI (fun g gI gf _ => L_day97 hq (by omega) (by omega) (by omega) gI (fun _ z => by omega) (fun g2 i2 f2 => k g2 i2 (fun a i n1 n2 n3 n4 => (f2 a i n1 n2 n3 n4).trans (gf a i n1))))⟩, fun z => ⟨1, by omega, K_personNamed hq (J hI) (Nat.le_refl 1) hI (fun r1 h1 i1 f1 a0 a1 => ?_)⟩⟩
  refine B_Reader_dayLine_72 hq (RF_of i1.1) ⟨4, by omega, D_takeKnown (Nat.le_refl 4) i1 (fun h2 i2 f2 _ n2 => ?_)⟩
  refine B_Reader_dayLine_75 hq (RF_of i2.1) ⟨1, by omega, K_doorNamed hq (J i2) (Nat.le_refl 1) i2 (fun r2 h3 i3 f3 b0 b1 => ?_)⟩
  refine B_Reader_dayLine_86 hq (RF_of i3.1) ⟨4, by omega, D_takeKnown (Nat.le_refl 4) i3 (fun h4 i4 f4 m4 n4 => ?_)⟩
  refine B_Reader_dayLine_89 hq (RF_of i4.1) ⟨4, by omega, D_takeSgn (by omega) (Nat.le_refl 4) i4 (fun h5 i5 f5 m5 => ?_)⟩
  refine L_day97 hq (by omega) ⟨a0, a1⟩ ⟨b0, b1⟩ i5 (fun z5 z6 => ?_) (fun g2 i6 f6 => k g2 i6 (fun a i n1 n2 n3 n4 => (f6 a i n1 n2 n3 n4).trans ((f5 a i n1).trans ((f4 a i n1).trans ((f3 a i).trans ((f2 a i n1).trans (f1 a i)))))))
  by_cases c : r2 = -1
  · exact absurd z5 (m5 (n4 c))
  · omega
theorem D_dayLine {q : Int} (hq : q = 5 ∨ q = 32) (he : 5 ≤ e) (hI : INV h) (k : ∀ g, INV g → frD h g → Q none g) : Rn xs xl e mm_Reader_dayLine 0 [some (.inr (.inr 2)), some (.inr (.inr q)), some (.inr (.inr 67)), none, none, none] [] h Q := by
  have S : ∀ v : Int, ∃ c, c < e ∧ Rn xs xl c mm_Reader_step 0 [some (.inr (.inr 2)), none] [] h (fun r h' => Rn xs xl e mm_Reader_dayLine 53 [some (.inr (.inr 2)), some (.inr (.inr q)), some (.inr (.inr 67)), some (.inl v), none, none] (r.toList ++ []) h' Q) := fun v => ⟨3, by omega, K_step (Nat.le_refl 3) hI (fun g gI gf => L_day53 hq he gI (fun g2 i2 f2 => k g2 i2 (fun a i n1 n2 n3 n4 => (f2 a i n1 n2 n3 n4).trans (gf a i (by omega)))))⟩
  have F5 : ∀ v : Int, ∃ c, c < e ∧ Rn xs xl c mm_Reader_fail 0 [some (.inr (.inr 2)), some (.inl 5)] [] h (fun r h' => Rn xs xl e mm_Reader_dayLine 48 [some (.inr (.inr 2)), some (.inr (.inr q)), some (.inr (.inr 67)), some (.inl v), none, none] (r.toList ++ []) h' Q) := fun v => ⟨0, by omega, D_fail (by omega) hI (fun g gI _ gf => B_Reader_dayLine_48 hq (RF_of gI.1) (k g gI (fun a i n1 n2 n3 n4 => gf a i n1)))⟩
  exact B_Reader_dayLine_0 hq (RF_of hI.1) ⟨fun _ => ⟨fun _ => ⟨fun _ => S 0, fun _ => F5 0⟩, fun _ => ⟨0, by omega, D_fail (by omega) hI (fun g gI _ gf => B_Reader_dayLine_33 hq (RF_of gI.1) (k g gI (fun a i n1 n2 n3 n4 => gf a i n1)))⟩⟩, fun _ => ⟨fun _ => S 1, fun _ => F5 1⟩⟩
def frP (h g : LH) : Prop := ∀ a i, ¬ (a = 68 ∧ 0 ≤ i ∧ i ≤ 3) → ¬ (a = 69 ∧ 0 ≤ i ∧ i ≤ 5) → ¬ (a = 70 ∧ 0 ≤ i ∧ i ≤ 13) → rd g a i = rd h a i
theorem L_play {q : Int} (hq : q = 5 ∨ q = 32) (he : 4 ≤ e) : ∀ (m : Nat) (j w : Int) (h : LH), INV h → 0 ≤ j → j ≤ 24 → (24 - j).toNat ≤ m → -1 ≤ w → w ≤ 23 → (∀ r g, INV g → frP h g → -1 ≤ r → r ≤ 23 → Q (some (.inl r)) g) → Rn xs xl e mm_Memory_playDay 5 [some (.inr (.inr 59)), some (.inr (.inr q)), some (.inr (.inr 68)), some (.inl w), some (.inl j)] [] h Q := by
  intro m
  induction m with
  | zero =>
    intro j w h hI j0 j1 jm w0 w1 k
    have ln := rG_59_1 hI.1
    exact B_Memory_playDay_5 hq (RF_of hI.1) (by omega) ⟨fun _ => k w h hI (fun _ _ _ _ _ => rfl) w0 w1, fun z => absurd z (by omega)⟩
  | succ m ih =>
    intro j w h hI j0 j1 jm w0 w1 k
    have ln := rG_59_1 hI.1
    refine B_Memory_playDay_5 hq (RF_of hI.1) (by omega) ⟨fun _ => k w h hI (fun _ _ _ _ _ => rfl) w0 w1, fun z => ⟨by omega, fun z1 => ⟨by omega, by omega, 3, by omega, ?_⟩, fun z1 => ⟨2, by omega, K_pass (Nat.le_refl 2) hI (fun g gI gf => B_Memory_playDay_30 hq (RF_of gI.1) (by omega) (ih (j + 1) w g gI (by omega) (by omega) (by omega) w0 w1 (fun r g2 i2 f2 r0 r1 => k r g2 i2 (fun a i n1 n2 n3 => (f2 a i n1 n2 n3).trans (gf a i n1 n2 n3)) r0 r1)))⟩⟩⟩
    have go := rB_63 hI.1 (i := j) (by omega)
    have gb := rB_64 hI.1 (i := j) (by omega)
    have rel := hI.2.1.1 j (by omega)
    refine K_tryDoor hq (by omega) (by omega) (Nat.le_refl 3) hI (fun r g gI gf => ?_)
    have nx : ∀ w' : Int, -1 ≤ w' → w' ≤ 23 → Rn xs xl e mm_Memory_playDay 5 [some (.inr (.inr 59)), some (.inr (.inr q)), some (.inr (.inr 68)), some (.inl w'), some (.inl (j + 1))] [] g Q := fun w' a b => ih (j + 1) w' g gI (by omega) (by omega) (by omega) a b (fun r g2 i2 f2 r0 r1 => k r g2 i2 (fun a i n1 n2 n3 => (f2 a i n1 n2 n3).trans (gf a i n1 n2 n3)) r0 r1)
    exact B_Memory_playDay_52 hq (RF_of gI.1) (by omega) ⟨fun _ => nx w w0 w1, fun _ => ⟨fun _ => nx w w0 w1, fun _ => nx j (by omega) (by omega)⟩⟩
theorem D_playDay {q : Int} (hq : q = 5 ∨ q = 32) (he : 4 ≤ e) (hI : INV h) (k : ∀ r g, INV g → frP h g → -1 ≤ r → r ≤ 23 → Q (some (.inl r)) g) : Rn xs xl e mm_Memory_playDay 0 [some (.inr (.inr 59)), some (.inr (.inr q)), some (.inr (.inr 68)), none, none] [] h Q :=
  B_Memory_playDay_0 hq (RF_of hI.1) (L_play hq he 24 0 (-1) h hI (by omega) (by omega) (by omega) (by omega) (by omega) k)
end LX
