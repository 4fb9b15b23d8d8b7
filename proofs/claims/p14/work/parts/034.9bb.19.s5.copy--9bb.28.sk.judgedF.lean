section
/-! the scene, part s5: a scene of the class is copied, an hour passes, a day begins -/
/-- places of a scene -/
def scp (c a i : Int) : Prop := (a = c ∧ 0 ≤ i ∧ i < 4) ∨ (a = c + 1 ∧ 0 ≤ i ∧ i < 6) ∨ (a = c + 2 ∧ 0 ≤ i ∧ i < 14)
/-- scene c of g is what scene d of h was -/
def scq (h g : LH) (d c : Int) : Prop := (∀ i, 0 ≤ i → i < 4 → rd g c i = rd h d i) ∧ (∀ i, 0 ≤ i → i < 6 → rd g (c + 1) i = rd h (d + 1) i) ∧ ∀ i, 0 ≤ i → i < 14 → rd g (c + 2) i = rd h (d + 2) i
/-- nothing but scene c has changed -/
def scf (c : Int) (h g : LH) : Prop := ∀ a i, ¬ scp c a i → rd g a i = rd h a i
theorem scn_sep {c d : Int} (h1 : scn c) (h2 : scn d) (hn : c ≠ d) : c + 2 < d ∨ d + 2 < c := by
  unfold scn at h1 h2
  omega
theorem hv_c0 {c : Int} (hc : scn c) : ∀ i : Nat, i < 4 → (hav c (i : Int)).1 ≠ 2 := by
  refine scn_all (P := fun c => ∀ i : Nat, i < 4 → (hav c (i : Int)).1 ≠ 2) hc ?_ ?_ ?_ ?_ ?_ ?_ ?_ <;> decide +kernel
theorem hv_c1 {c : Int} (hc : scn c) : ∀ i : Nat, i < 6 → (hav (c + 1) (i : Int)).1 ≠ 2 := by
  refine scn_all (P := fun c => ∀ i : Nat, i < 6 → (hav (c + 1) (i : Int)).1 ≠ 2) hc ?_ ?_ ?_ ?_ ?_ ?_ ?_ <;> decide +kernel
theorem hv_c2 {c : Int} (hc : scn c) : ∀ i : Nat, i < 14 → (hav (c + 2) (i : Int)).1 ≠ 2 := by
  refine scn_all (P := fun c => ∀ i : Nat, i < 14 → (hav (c + 2) (i : Int)).1 ≠ 2) hc ?_ ?_ ?_ ?_ ?_ ?_ ?_ <;> decide +kernel
theorem RF_sc {h g : LH} {c : Int} (hc : scn c) (hF : RF h) (hf : scf c h g) : RF g := by
  intro a j x hv e
  rw [hf a j ?_]
  · exact hF a j x hv e
  · rintro (⟨rfl, -, z⟩ | ⟨rfl, -, z⟩ | ⟨rfl, -, z⟩)
    · exact hv_c0 hc j (by omega) (by rw [e])
    · exact hv_c1 hc j (by omega) (by rw [e])
    · exact hv_c2 hc j (by omega) (by rw [e])
theorem scf_trans {h g k : LH} {c : Int} (h1 : scf c h g) (h2 : scf c g k) : scf c h k := fun a i n => (h2 a i n).trans (h1 a i n)
section SC5
variable {xs : Nat → Int} {xl e : Nat} {h g : LH} {Q : Option LV → LH → Prop} {sc sd q v1 v : Int}
theorem F_scopy (hsc : scn sc) (hc0 : 60 ≤ sc) (hsd : scn sd) (hne : sc ≠ sd) (hF : RF h) (k : ∀ g, scq h g sd sc → scf sc h g → RF g → Q none g) : Rn xs xl e mm_Scene_copy 0 [some (.inr (.inr sc)), some (.inr (.inr sd))] [] h Q := by
  have sep := scn_sep hsc hsd hne
  refine B_scopy_0 hsc hc0 hsd hne hF ?_
  have w0 : ∀ a i, a ≠ sc → rd (wr (wr (wr (wr h sc 0 (rd h sd 0)) sc 1 (rd h sd 1)) sc 2 (rd h sd 2)) sc 3 (rd h sd 3)) a i = rd h a i := fun a i n => by
    rw [rdw_ne (by omega), rdw_ne (by omega), rdw_ne (by omega), rdw_ne (by omega)]
  have w1 : ∀ i, 0 ≤ i → i < 4 → rd (wr (wr (wr (wr h sc 0 (rd h sd 0)) sc 1 (rd h sd 1)) sc 2 (rd h sd 2)) sc 3 (rd h sd 3)) sc i = rd h sd i := fun i i0 i1 => by
    rcases (show i = 0 ∨ i = 1 ∨ i = 2 ∨ i = 3 by omega) with rfl | rfl | rfl | rfl
    · rw [rdw_nei (by decide), rdw_nei (by decide), rdw_nei (by decide), rdw_eq]
    · rw [rdw_nei (by decide), rdw_nei (by decide), rdw_eq]
    · rw [rdw_nei (by decide), rdw_eq]
    · rw [rdw_eq]
  have w2 : ∀ i, ¬ (0 ≤ i ∧ i < 4) → rd (wr (wr (wr (wr h sc 0 (rd h sd 0)) sc 1 (rd h sd 1)) sc 2 (rd h sd 2)) sc 3 (rd h sd 3)) sc i = rd h sc i := fun i n => by
    rw [rdw_nei (by omega), rdw_nei (by omega), rdw_nei (by omega), rdw_nei (by omega)]
  generalize wr (wr (wr (wr h sc 0 (rd h sd 0)) sc 1 (rd h sd 1)) sc 2 (rd h sd 2)) sc 3 (rd h sd 3) = W at *
  have n1 : ∀ b j, rd (cpyL W (sd + 1) 0 (sc + 1) 0 6 ++ W) b j = if b = sc + 1 ∧ 0 ≤ j ∧ j < 6 then rd W (sd + 1) j else rd W b j := fun b j => rd_cp0 6
  generalize cpyL W (sd + 1) 0 (sc + 1) 0 6 ++ W = H at *
  have f1 : scf sc h H := fun a i n => by
    rw [n1, if_neg (fun z => n (Or.inr (Or.inl z)))]
    by_cases c : a = sc
    · subst c
      exact w2 i (fun z => n (Or.inl ⟨rfl, z⟩))
    · exact w0 a i c
  have F1 := RF_sc hsc hF f1
  refine B_scopy_47 hsc hc0 hsd hne F1 ?_
  have n2 : ∀ b j, rd (cpyL H (sd + 2) 0 (sc + 2) 0 14 ++ H) b j = if b = sc + 2 ∧ 0 ≤ j ∧ j < 14 then rd H (sd + 2) j else rd H b j := fun b j => rd_cp0 14
  generalize cpyL H (sd + 2) 0 (sc + 2) 0 14 ++ H = G at *
  have f2 : scf sc h G := fun a i n => by
    rw [n2, if_neg (fun z => n (Or.inr (Or.inr z)))]
    exact f1 a i n
  have F2 := RF_sc hsc hF f2
  refine B_scopy_62 hsc hc0 hsd F2 (k G ⟨fun i i0 i1 => ?_, fun i i0 i1 => ?_, fun i i0 i1 => ?_⟩ f2 F2)
  · rw [n2, if_neg (by omega), n1, if_neg (by omega)]
    exact w1 i i0 i1
  · rw [n2, if_neg (by omega), n1, if_pos ⟨rfl, i0, i1⟩]
    exact w0 _ i (by omega)
  · rw [n2, if_pos ⟨rfl, i0, i1⟩, n1, if_neg (by omega)]
    exact w0 _ i (by omega)
theorem F_fillT (hsc : scn sc) (hc0 : 60 ≤ sc) (hF : RF h) (k : ∀ g, (∀ i, 0 ≤ i → i < 14 → rd g (sc + 2) i = v) → (∀ a i, ¬ (a = sc + 2 ∧ 0 ≤ i ∧ i < 14) → rd g a i = rd h a i) → Q none g) : Rn xs xl e mm_java_util_Arrays_fill 0 [some (.inr (.inr (sc + 2))), some (.inl v), none, none] [] h Q := by
  have l5 : ∀ (n : Nat) (g : LH) (m : Int), 14 - m ≤ n → 0 ≤ m → m ≤ 14 → (∀ i, 0 ≤ i → i < m → rd g (sc + 2) i = v) → (∀ a i, ¬ (a = sc + 2 ∧ 0 ≤ i ∧ i < 14) → rd g a i = rd h a i) → Rn xs xl e mm_java_util_Arrays_fill 5 [some (.inr (.inr (sc + 2))), some (.inl v), some (.inl m), some (.inl 14)] [] g Q := by
    intro n
    induction n with
    | zero =>
      intro g m hn m0 m1 gv gf
      have gF : RF g := RF_sc hsc hF (fun a i z => gf a i (fun y => z (Or.inr (Or.inr y))))
      exact B_fillT_5 hsc hc0 gF ⟨m0, m1⟩ ⟨fun _ => k g (fun i i0 i1 => gv i i0 (by omega)) gf, fun c => by omega⟩
    | succ n ih =>
      intro g m hn m0 m1 gv gf
      have gF : RF g := RF_sc hsc hF (fun a i z => gf a i (fun y => z (Or.inr (Or.inr y))))
      refine B_fillT_5 hsc hc0 gF ⟨m0, m1⟩ ⟨fun _ => k g (fun i i0 i1 => gv i i0 (by omega)) gf, fun c => ⟨by omega, ih _ (m + 1) (by omega) (by omega) (by omega) (fun i i0 i1 => ?_) (fun a i n => ?_)⟩⟩
      · by_cases z : m = i
        · rw [← z, rdw_eq]
        · rw [rdw_nei z]
          exact gv i i0 (by omega)
      · by_cases z : sc + 2 = a
        · subst z
          rw [rdw_nei (fun y => n ⟨rfl, by omega⟩)]
          exact gf _ i n
        · rw [rdw_ne z]
          exact gf a i n
  exact B_fillT_0 hsc hc0 hF (l5 14 h 0 (by omega) (by omega) (by omega) (fun i i0 i1 => by omega) (fun _ _ _ => rfl))
/-- hours have passed in a scene -/
def spd (c v : Int) (h g : LH) : Prop := rd g c 0 = (if rd h c 0 + v ≤ 24 then rd h c 0 + v else 24) ∧ rd g c 1 = rd h c 1 ∧ rd g c 2 = 0 ∧ rd g c 3 = rd h c 3 ∧ (∀ i, rd g (c + 1) i = rd h (c + 1) i) ∧ (∀ i, 0 ≤ i → i < 14 → rd g (c + 2) i = 0)
theorem F_spass (he : 1 ≤ e) (hsc : scn sc) (hc0 : 60 ≤ sc) (hF : RF h) (hv : 0 ≤ v1 ∧ v1 ≤ 24) (hh : 0 ≤ rd h sc 0 ∧ rd h sc 0 ≤ 24) (k : ∀ g, spd sc v1 h g → scf sc h g → RF g → Q none g) : Rn xs xl e mm_Scene_pass 0 [some (.inr (.inr sc)), some (.inl v1)] [] h Q := by
  refine B_Scene_pass_0 hsc hc0 hF ⟨by omega, fun m hm => ⟨0, by omega, ?_⟩⟩
  have F1 : RF (wr (wr h sc 0 m) sc 2 0) := RF_sc hsc hF (fun a i n => by
    by_cases c : a = sc
    · subst c
      rw [rdw_nei (fun z => n (Or.inl ⟨rfl, by omega⟩)), rdw_nei (fun z => n (Or.inl ⟨rfl, by omega⟩))]
    · rw [rdw_ne (fun z => c z.symm), rdw_ne (fun z => c z.symm)])
  refine F_fillT hsc hc0 F1 (fun g gv gf => ?_)
  have f1 : scf sc h g := fun a i n => by
    rw [gf a i (fun z => n (Or.inr (Or.inr z)))]
    by_cases c : a = sc
    · subst c
      rw [rdw_nei (fun z => n (Or.inl ⟨rfl, by omega⟩)), rdw_nei (fun z => n (Or.inl ⟨rfl, by omega⟩))]
    · rw [rdw_ne (fun z => c z.symm), rdw_ne (fun z => c z.symm)]
  have F2 := RF_sc hsc hF f1
  refine B_Scene_pass_28 hsc hc0 F2 (k g ⟨?_, ?_, ?_, ?_, fun i => ?_, gv⟩ f1 F2)
  · rw [gf _ _ (by omega), rdw_nei (by decide), rdw_eq]
    split <;> omega
  · rw [gf _ _ (by omega), rdw_nei (by decide), rdw_nei (by decide)]
  · rw [gf _ _ (by omega), rdw_eq]
  · rw [gf _ _ (by omega), rdw_nei (by decide), rdw_nei (by decide)]
  · rw [gf _ _ (by omega), rdw_ne (by omega), rdw_ne (by omega)]
/-- a day has begun in a scene: n people, whose cells are at q + 21 -/
def sbg (c q n : Int) (g : LH) : Prop := rd g c 0 = 0 ∧ rd g c 1 = 0 ∧ rd g c 2 = 0 ∧ (∀ p, 0 ≤ p → p < 32 → (bitZ (rd g c 3) p ↔ p < n ∧ rd g (q + 21 + p) 3 = rd g (q + 21 + p) 2)) ∧ (∀ p, 0 ≤ p → p < n → rd g (c + 1) p = rd g (q + 21 + p) 2) ∧ ∀ i, 0 ≤ i → i < 14 → rd g (c + 2) i = 0
theorem F_sbegin (he : 1 ≤ e) (hsc : scn sc) (hc0 : 60 ≤ sc) (hq : q = 5 ∨ q = 32) (hF : RF h) (hP : PT h) (hn : 0 ≤ rd h q 4 ∧ rd h q 4 ≤ 6) (k : ∀ g, sbg sc q (rd h q 4) g → scf sc h g → RF g → Q none g) : Rn xs xl e mm_Scene_begin 0 [some (.inr (.inr sc)), some (.inr (.inr q)), none, none] [] h Q := by
  have l30 : ∀ (n : Nat) (g : LH) (m : Int) (o : Option LV), rd h q 4 - m ≤ n → 0 ≤ m → m ≤ rd h q 4 → rd g sc 0 = 0 → rd g sc 1 = 0 → rd g sc 2 = 0 → (∀ p, 0 ≤ p → p < 32 → (bitZ (rd g sc 3) p ↔ p < m ∧ rd h (q + 21 + p) 3 = rd h (q + 21 + p) 2)) → (∀ p, 0 ≤ p → p < m → rd g (sc + 1) p = rd h (q + 21 + p) 2) → (∀ i, 0 ≤ i → i < 14 → rd g (sc + 2) i = 0) → scf sc h g → Rn xs xl e mm_Scene_begin 30 [some (.inr (.inr sc)), some (.inr (.inr q)), some (.inl m), o] [] g Q := by
    intro n
    have low : ∀ (g : LH), scf sc h g → ∀ a i, a < 60 → rd g a i = rd h a i := fun g gf a i n => gf a i (by unfold scp; omega)
    have stop : ∀ (g : LH) (m : Int), m = rd h q 4 → rd g sc 0 = 0 → rd g sc 1 = 0 → rd g sc 2 = 0 → (∀ p, 0 ≤ p → p < 32 → (bitZ (rd g sc 3) p ↔ p < m ∧ rd h (q + 21 + p) 3 = rd h (q + 21 + p) 2)) → (∀ p, 0 ≤ p → p < m → rd g (sc + 1) p = rd h (q + 21 + p) 2) → (∀ i, 0 ≤ i → i < 14 → rd g (sc + 2) i = 0) → scf sc h g → Q none g := by
      intro g m hm g0 g1 g2 g3 g4 g5 gf
      subst hm
      refine k g ⟨g0, g1, g2, fun p p0 p1 => ?_, fun p p0 p1 => ?_, g5⟩ gf (RF_sc hsc hF gf)
      · rw [g3 p p0 p1]
        constructor
        · rintro ⟨a, b⟩
          exact ⟨a, by rw [low g gf _ _ (by omega), low g gf _ _ (by omega)]; exact b⟩
        · rintro ⟨a, b⟩
          rw [low g gf _ _ (by omega), low g gf _ _ (by omega)] at b
          exact ⟨a, b⟩
      · rw [low g gf (q + 21 + p) 2 (by omega)]
        exact g4 p p0 p1
    induction n with
    | zero =>
      intro g m o hn' m0 m1 g0 g1 g2 g3 g4 g5 gf
      have gF := RF_sc hsc hF gf
      have gP : PT g := PT_fr hP (fun a i ha => low g gf a i (by omega))
      refine B_Scene_begin_30 hsc hc0 hq gF gP ⟨m0, by omega⟩ ⟨fun _ => stop g m (by omega) g0 g1 g2 g3 g4 g5 gf, fun c => ?_⟩
      rw [low g gf _ _ (by omega)] at c
      omega
    | succ n ih =>
      intro g m o hn' m0 m1 g0 g1 g2 g3 g4 g5 gf
      have gF := RF_sc hsc hF gf
      have gP : PT g := PT_fr hP (fun a i ha => low g gf a i (by omega))
      have l4 := low g gf q 4 (by omega)
      refine B_Scene_begin_30 hsc hc0 hq gF gP ⟨m0, by omega⟩ ⟨fun c => stop g m (by omega) g0 g1 g2 g3 g4 g5 gf, fun c => ⟨by omega, ?_⟩⟩
      rw [l4] at c
      have e2 := low g gf (q + 21 + m) 2 (by omega)
      have e3 := low g gf (q + 21 + m) 3 (by omega)
      have step : ∀ z : Int, (∀ p, 0 ≤ p → p < 32 → (bitZ z p ↔ p = m ∧ rd h (q + 21 + p) 3 = rd h (q + 21 + p) 2)) → Rn xs xl e mm_Scene_begin 30 [some (.inr (.inr sc)), some (.inr (.inr q)), some (.inl (m + 1)), some (.inr (.inr (q + 21 + m)))] [] (wr (wr g (sc + 1) m (rd g (q + 21 + m) 2)) sc 3 (zor (rd g sc 3) z)) Q := by
        intro z hz
        refine ih _ (m + 1) _ (by omega) (by omega) (by omega) ?_ ?_ ?_ (fun p p0 p1 => ?_) (fun p p0 p1 => ?_) (fun i i0 i1 => ?_) (fun a i n => ?_)
        · rw [rdw_nei (by decide), rdw_ne (by omega)]; exact g0
        · rw [rdw_nei (by decide), rdw_ne (by omega)]; exact g1
        · rw [rdw_nei (by decide), rdw_ne (by omega)]; exact g2
        · rw [rdw_eq, bit_or p0 p1, g3 p p0 p1, hz p p0 p1]
          constructor
          · rintro (⟨a, b⟩ | ⟨a, b⟩)
            · exact ⟨by omega, b⟩
            · exact ⟨by omega, b⟩
          · rintro ⟨a, b⟩
            by_cases y : p = m
            · exact Or.inr ⟨y, b⟩
            · exact Or.inl ⟨by omega, b⟩
        · rw [rdw_ne (by omega)]
          by_cases y : m = p
          · rw [← y, rdw_eq]; exact e2
          · rw [rdw_nei y]; exact g4 p p0 (by omega)
        · rw [rdw_ne (by omega), rdw_ne (by omega)]; exact g5 i i0 i1
        · by_cases c1 : a = sc
          · subst c1
            rw [rdw_nei (fun z => n (Or.inl ⟨rfl, by omega⟩)), rdw_ne (by omega)]
            exact gf _ i n
          · rw [rdw_ne (fun z => c1 z.symm)]
            by_cases c2 : a = sc + 1
            · subst c2
              rw [rdw_nei (fun z => n (Or.inr (Or.inl ⟨rfl, by omega⟩)))]
              exact gf _ i n
            · rw [rdw_ne (fun z => c2 z.symm)]
              exact gf a i n
      refine ⟨by omega, fun c2 => ?_, fun c2 => ?_⟩
      · refine step 0 (fun p p0 p1 => ⟨fun y => absurd y bit_zero, fun y => ?_⟩)
        have y1 := y.1
        have y2 := y.2
        subst y1
        rw [e2, e3] at c2
        exact absurd y2 c2
      · refine step (zshl 1 m) (fun p p0 p1 => ?_)
        rw [bit_shl m0 (by omega) p0 p1]
        constructor
        · intro y
          subst y
          rw [e2, e3] at c2
          exact ⟨rfl, c2⟩
        · exact fun y => y.1
  refine B_Scene_begin_0 hsc hc0 hq hF ⟨0, by omega, ?_⟩
  have w0 : ∀ a i, a ≠ sc → rd (wr (wr (wr (wr h sc 0 0) sc 1 0) sc 2 0) sc 3 0) a i = rd h a i := fun a i n => by
    rw [rdw_ne (fun z => n z.symm), rdw_ne (fun z => n z.symm), rdw_ne (fun z => n z.symm), rdw_ne (fun z => n z.symm)]
  have w1 : ∀ i, 0 ≤ i → i < 4 → rd (wr (wr (wr (wr h sc 0 0) sc 1 0) sc 2 0) sc 3 0) sc i = 0 := fun i i0 i1 => by
    rcases (show i = 0 ∨ i = 1 ∨ i = 2 ∨ i = 3 by omega) with rfl | rfl | rfl | rfl
    · rw [rdw_nei (by decide), rdw_nei (by decide), rdw_nei (by decide), rdw_eq]
    · rw [rdw_nei (by decide), rdw_nei (by decide), rdw_eq]
    · rw [rdw_nei (by decide), rdw_eq]
    · rw [rdw_eq]
  have w2 : ∀ i, ¬ (0 ≤ i ∧ i < 4) → rd (wr (wr (wr (wr h sc 0 0) sc 1 0) sc 2 0) sc 3 0) sc i = rd h sc i := fun i n => by
    rw [rdw_nei (by omega), rdw_nei (by omega), rdw_nei (by omega), rdw_nei (by omega)]
  generalize wr (wr (wr (wr h sc 0 0) sc 1 0) sc 2 0) sc 3 0 = W at *
  have f1 : scf sc h W := fun a i n => by
    by_cases c : a = sc
    · subst c
      exact w2 i (fun z => n (Or.inl ⟨rfl, z⟩))
    · exact w0 a i c
  have F1 := RF_sc hsc hF f1
  refine F_fillT hsc hc0 F1 (fun g gv gf => ?_)
  have f2 : scf sc h g := fun a i n => (gf a i (fun z => n (Or.inr (Or.inr z)))).trans (f1 a i n)
  have F2 := RF_sc hsc hF f2
  refine B_Scene_begin_28 hsc hc0 hq F2 (l30 (rd h q 4).toNat g 0 none (by omega) (by omega) (by omega) ?_ ?_ ?_ (fun p p0 p1 => ?_) (fun p p0 p1 => by omega) gv f2)
  · rw [gf _ _ (by omega)]; exact w1 0 (by decide) (by decide)
  · rw [gf _ _ (by omega)]; exact w1 1 (by decide) (by decide)
  · rw [gf _ _ (by omega)]; exact w1 2 (by decide) (by decide)
  · rw [gf _ _ (by omega), w1 3 (by decide) (by decide)]
    exact ⟨fun y => absurd y bit_zero, fun y => by omega⟩
end SC5
end
section
/-! LM, part 96, by program: the contracts, table E -/
set_option maxRecDepth 100000
def SME0 : SM := (198,1,[(2,182,182,0)],[(some (0,0,14,1),(2,188,1,0,0),[],[])],[],[])
def SME1 : SM := (197,2,[(2,182,182,0),(0,-2147483648,2147483647,1)],[(some (0,1,1,0),pv0,[(1,(0,0,13,1))],[]),(some (0,0,0,0),pv0,[],[])],[],[])
def SME2 : SM := (199,1,[(2,182,182,0),(0,0,13,1),(0,0,0,0)],[(some (0,0,3,1),pv0,[],[])],[],[])
def SME3 : SM := (202,1,[(2,182,182,0)],[(some (0,0,6,1),(2,188,2,0,0),[],[])],[],[])
def SME5 : SM := (208,1,[(0,-2147483648,2147483647,1),(0,-2147483648,2147483647,1)],[(some (0,1,1,0),pv0,[],[]),(some (0,0,0,0),pv0,[],[])],[],[])
def SME6 : SM := (254,6,[(2,182,182,0),(0,-2147483648,2147483647,1),(0,-2147483648,2147483647,1),(0,-2147483648,2147483647,1)],[(some (0,-2147483648,2147483647,1),pv0,[],[(182,28,(0,-1,-1,0)),(182,29,(0,-1,-1,0))])],[(182,182,0,0),(182,182,28,28),(182,182,29,29),(182,182,30,30),(182,182,31,31),(211,211,0,0),(211,211,1,1),(196,196,0,3),(197,197,0,1099),(210,210,0,9),(211,211,0,198),(211,211,1,199)],[(182,28,(0,-1,-1,0)),(182,29,(0,-1,-1,0))])
def SMtE0 : List SM := [SME0,SME1,SME2,SME3,SMgoesBy,SME5,SME6]
def SMttE : List (List SM) := [SMtE0]
def SMsE (i : Nat) : Option SM := (SMttE[i / 20]?).bind (fun B => B[i % 20]?)
/-! LM, by program: certificates E 0 -/
-- OneSidedModel.doors [(182, 182)]
def Eka0 : AV := (2,182,182,0)
def Ekl0 : AL := [some Eka0]
def Ekc0 : List Int := [0]
def Eke0 : SE := (Eka0,(1,0,0,0,0))
def Eka1 : AV := (2,188,188,0)
def Eke1 : SE := (Eka1,(2,182,10,0,0))
def Eka2 : AV := (0,1,1,0)
def Eke2 : SE := (Eka2,pv0)
def Eka3 : AV := (0,0,14,1)
def Eke3 : SE := (Eka3,(2,188,1,0,0))
def CNE0_0 : List ND := [(0,(Ekl0,[],[]),4,Ekc0,[1],0),
  (1,(Ekl0,[Eke0],[]),3,Ekc0,[2],0),
  (4,(Ekl0,[Eke1],[]),2,Ekc0,[3],0),
  (5,(Ekl0,[Eke2,Eke1],[]),1,Ekc0,[4],0),
  (6,(Ekl0,[Eke3],[]),0,Ekc0,[],0)]
def CNE0 : List (List ND) := [CNE0_0]
theorem CKE0 : chkS prot SMsE SME0 [] CNE0 = true := by decide +kernel
-- OneSidedModel.isDoor [(182, 182), (-2147483648, 2147483647)]
def Eka4 : AV := (0,-2147483648,2147483647,1)
def Ekl1 : AL := [some Eka0,some Eka4]
def Ekc1 : List Int := [0,0]
def Eke4 : SE := (Eka4,(1,1,0,0,0))
def Eka5 : AV := (0,0,2147483647,1)
def Ekl2 : AL := [some Eka0,some Eka5]
def Eke5 : SE := (Eka5,(1,1,0,0,0))
def Eka6 : AV := (0,0,13,1)
def Ekl3 : AL := [some Eka0,some Eka6]
def Eka7 : AV := (0,1,14,1)
def Ekf0 : FA := [(188,1,Eka7)]
def Eka8 : AV := (0,0,0,0)
def Eke6 : SE := (Eka8,pv0)
def CNE1_0 : List ND := [(0,(Ekl1,[],[]),10,Ekc1,[1],0),
  (1,(Ekl1,[Eke4],[]),9,Ekc1,[8,2],0),
  (4,(Ekl2,[],[]),8,Ekc1,[3],0),
  (5,(Ekl2,[Eke5],[]),7,Ekc1,[4],0),
  (6,(Ekl2,[Eke0,Eke5],[]),6,Ekc1,[5],0),
  (9,(Ekl2,[Eke3,Eke5],[]),5,Ekc1,[8,6],0),
  (12,(Ekl3,[],Ekf0),4,Ekc1,[7],0),
  (13,(Ekl3,[Eke2],Ekf0),3,Ekc1,[10],0),
  (16,(Ekl1,[],[]),1,Ekc1,[9],0),
  (17,(Ekl1,[Eke6],[]),0,Ekc1,[],1),
  (17,(Ekl3,[Eke2],Ekf0),2,Ekc1,[],0)]
def CNE1 : List (List ND) := [CNE1_0]
theorem CKE1 : chkS prot SMsE SME1 [(1,1)] CNE1 = true := by decide +kernel
-- OneSidedModel.doorOf [(182, 182), (0, 13), (0, 0)]
def Ekl4 : AL := [some Eka0,some Eka6,some Eka8]
def Ekc2 : List Int := [0,0,0]
def Eka9 : AV := (0,4,4,0)
def Eke7 : SE := (Eka9,pv0)
def Eka10 : AV := (0,8,8,0)
def Eke8 : SE := (Eka10,pv0)
def Eke9 : SE := (Eka6,(1,1,0,0,0))
def Eka11 : AV := (0,0,104,8)
def Eke10 : SE := (Eka11,pv0)
def Eka12 : AV := (0,4,108,8)
def Eke11 : SE := (Eka12,pv0)
def Eke12 : SE := (Eka8,(1,2,0,0,0))
def Eka13 : AV := (0,0,3,1)
def Eke13 : SE := (Eka13,pv0)
def CNE2_0 : List ND := [(0,(Ekl4,[],[]),10,Ekc2,[1],0),
  (1,(Ekl4,[Eke0],[]),9,Ekc2,[2],0),
  (4,(Ekl4,[Eke1],[]),8,Ekc2,[3],0),
  (5,(Ekl4,[Eke7,Eke1],[]),7,Ekc2,[4],0),
  (7,(Ekl4,[Eke8,Eke7,Eke1],[]),6,Ekc2,[5],0),
  (8,(Ekl4,[Eke9,Eke8,Eke7,Eke1],[]),5,Ekc2,[6],0),
  (9,(Ekl4,[Eke10,Eke7,Eke1],[]),4,Ekc2,[7],0),
  (10,(Ekl4,[Eke11,Eke1],[]),3,Ekc2,[8],0),
  (11,(Ekl4,[Eke12,Eke11,Eke1],[]),2,Ekc2,[9],0),
  (12,(Ekl4,[Eke11,Eke1],[]),1,Ekc2,[10],0),
  (13,(Ekl4,[Eke13],[]),0,Ekc2,[],0)]
def CNE2 : List (List ND) := [CNE2_0]
theorem CKE2 : chkS prot SMsE SME2 [] CNE2 = true := by decide +kernel
-- OneSidedModel.people [(182, 182)]
def Eka14 : AV := (0,2,2,0)
def Eke14 : SE := (Eka14,pv0)
def Eka15 : AV := (0,0,6,1)
def Eke15 : SE := (Eka15,(2,188,2,0,0))
def CNE3_0 : List ND := [(0,(Ekl0,[],[]),4,Ekc0,[1],0),
  (1,(Ekl0,[Eke0],[]),3,Ekc0,[2],0),
  (4,(Ekl0,[Eke1],[]),2,Ekc0,[3],0),
  (5,(Ekl0,[Eke14,Eke1],[]),1,Ekc0,[4],0),
  (6,(Ekl0,[Eke15],[]),0,Ekc0,[],0)]
def CNE3 : List (List ND) := [CNE3_0]
theorem CKE3 : chkS prot SMsE SME3 [] CNE3 = true := by decide +kernel
-- OneSidedModel.isIn [(-2147483648, 2147483647), (-2147483648, 2147483647)]
def Ekl5 : AL := [some Eka4,some Eka4]
def Eke16 : SE := (Eka4,(1,0,0,0,0))
def Eke17 : SE := (Eka4,pv0)
def Eka16 : AV := (0,0,1,1)
def Eke18 : SE := (Eka16,pv0)
def CNE5_0 : List ND := [(0,(Ekl5,[],[]),11,Ekc1,[1],0),
  (1,(Ekl5,[Eke16],[]),10,Ekc1,[2],0),
  (2,(Ekl5,[Eke4,Eke16],[]),9,Ekc1,[3],0),
  (3,(Ekl5,[Eke17],[]),8,Ekc1,[4],0),
  (4,(Ekl5,[Eke2,Eke17],[]),7,Ekc1,[5],0),
  (5,(Ekl5,[Eke18],[]),6,Ekc1,[6],0),
  (6,(Ekl5,[Eke2,Eke18],[]),5,Ekc1,[9,7],0),
  (9,(Ekl5,[],[]),2,Ekc1,[8],0),
  (10,(Ekl5,[Eke2],[]),1,Ekc1,[11],0),
  (13,(Ekl5,[],[]),4,Ekc1,[10],0),
  (14,(Ekl5,[Eke6],[]),3,Ekc1,[],1),
  (14,(Ekl5,[Eke2],[]),0,Ekc1,[],0)]
def CNE5 : List (List ND) := [CNE5_0]
theorem CKE5 : chkS prot SMsE SME5 [] CNE5 = true := by decide +kernel
-- OneSidedModel.rests [(182, 182), (-2147483648, 2147483647), (-2147483648, 2147483647), (-2147483648, 2147483647)]
def Ekl6 : AL := [some Eka0,some Eka4,some Eka4,some Eka4,none,none,none,none]
def Eka17 : AV := (0,-1,-1,0)
def Ekf1 : FA := [(182,28,Eka17),(182,29,Eka17)]
def Ekc3 : List Int := [0,0,0,0,0,0,0,0]
def Ekf2 : FA := [(182,0,Eka8),(182,28,Eka17),(182,29,Eka17)]
def Ekl7 : AL := [some Eka0,some Eka6,some Eka4,some Eka4,none,none,none,none]
def Eke19 : SE := (Eka4,(1,2,0,0,0))
def Ekl8 : AL := [some Eka0,some Eka6,some Eka6,some Eka4,none,none,none,none]
def Eke20 : SE := (Eka6,(1,2,0,0,0))
def Eke21 : SE := (Eka4,(1,3,0,0,0))
def Eke22 : SE := (Eka17,pv0)
def Eka18 : AV := (0,-1,2147483647,1)
def Ekl9 : AL := [some Eka0,some Eka6,some Eka6,some Eka18,none,none,none,none]
def Ekf3 : FA := [(182,0,Eka8),(182,28,Eka6),(182,29,Eka17)]
def Ekf4 : FA := [(182,0,Eka8),(182,28,Eka6),(182,29,Eka6)]
def Eka19 : AV := (0,0,100,1)
def Ekl10 : AL := [some Eka0,some Eka6,some Eka6,some Eka18,some Eka19,none,none,none]
def Ekc4 : List Int := [0,0,0,0,-383,0,0,0]
def Ekl11 : AL := [some Eka0,some Eka6,some Eka6,some Eka18,some Eka8,none,none,none]
def Eke23 : SE := (Eka8,(1,4,0,0,0))
def Eke24 : SE := (Eka19,(1,4,0,0,0))
def Eka20 : AV := (0,100,100,0)
def Eke25 : SE := (Eka20,pv0)
def Eka21 : AV := (0,0,99,1)
def Ekl12 : AL := [some Eka0,some Eka6,some Eka6,some Eka18,some Eka21,none,none,none]
def Eke26 : SE := (Eka21,(1,4,0,0,0))
def Eka22 : AV := (0,10,10,0)
def Eke27 : SE := (Eka22,pv0)
def Eka23 : AV := (0,0,9,1)
def Ekl13 : AL := [some Eka0,some Eka6,some Eka6,some Eka18,some Eka23,none,none,none]
def Eke28 : SE := (Eka23,pv0)
def Ekf5 : FA := [(182,0,Eka8),(182,28,Eka6),(182,29,Eka6),(182,30,Eka8)]
def Eka24 : AV := (2,211,211,0)
def Eke29 : SE := (Eka24,(2,182,50,0,0))
def Ekf6 : FA := [(182,0,Eka8),(182,28,Eka6),(182,29,Eka6),(182,30,Eka8),(182,31,Eka8)]
def Eka25 : AV := (0,0,198,2)
def Eke30 : SE := (Eka25,pv0)
def Ekf7 : FA := [(182,0,Eka8),(182,28,Eka6),(182,29,Eka6),(182,30,Eka8),(182,31,Eka8),(211,0,Eka8)]
def Eka26 : AV := (0,1,199,2)
def Eke31 : SE := (Eka26,pv0)
def Ekl14 : AL := [some Eka0,some Eka6,some Eka6,some Eka18,some Eka21,some Eka15,none,none]
def Ekc5 : List Int := [0,0,0,0,-383,-50,0,0]
def Ekl15 : AL := [some Eka0,some Eka6,some Eka6,some Eka18,some Eka8,some Eka8,none,none]
def Eke32 : SE := (Eka8,(1,5,0,0,0))
def Ekf8 : FA := [(182,0,Eka8),(182,28,Eka6),(182,29,Eka6),(182,30,Eka8),(182,31,Eka8),(211,0,Eka8),(211,1,Eka8)]
def Eke33 : SE := (Eka15,(1,5,0,0,0))
def Eka27 : AV := (0,0,5,1)
def Ekl16 : AL := [some Eka0,some Eka6,some Eka6,some Eka18,some Eka21,some Eka27,none,none]
def Eka28 : AV := (0,1,6,1)
def Ekf9 : FA := [(182,0,Eka8),(182,28,Eka6),(182,29,Eka6),(188,2,Eka28)]
def Ekf10 : FA := [(182,0,Eka8),(182,28,Eka6),(182,29,Eka6),(182,30,Eka8),(182,31,Eka8),(188,2,Eka28),(211,0,Eka8),(211,1,Eka8)]
def Eke34 : SE := (Eka27,(1,5,0,0,0))
def Ekl17 : AL := [some Eka0,some Eka6,some Eka6,some Eka18,some Eka21,some Eka27,some Eka4,none]
def Ekl18 : AL := [some Eka0,some Eka6,some Eka6,some Eka18,some Eka8,some Eka27,some Eka4,none]
def Eke35 : SE := (Eka8,(2,211,0,0,0))
def Eke36 : SE := (Eka4,(1,6,0,0,0))
def Eke37 : SE := (Eka8,(2,182,30,0,0))
def Ekl19 : AL := [some Eka0,some Eka6,some Eka6,some Eka18,some Eka23,some Eka27,some Eka4,none]
def Eka29 : AV := (0,0,18,2)
def Eke38 : SE := (Eka29,pv0)
def Ekf11 : FA := [(182,0,Eka8),(182,28,Eka6),(182,29,Eka6),(182,30,Eka8),(188,2,Eka28)]
def Eke39 : SE := (Eka23,(2,182,30,0,0))
def Eke40 : SE := (Eka8,(2,211,1,0,0))
def Eke41 : SE := (Eka8,(2,182,31,0,0))
def Eke42 : SE := (Eka23,(2,182,31,0,0))
def Ekl20 : AL := [some Eka0,some Eka6,some Eka6,some Eka18,some Eka21,some Eka28,some Eka4,none]
def Eka30 : AV := (0,1,100,1)
def Ekl21 : AL := [some Eka0,some Eka6,some Eka6,some Eka18,some Eka30,some Eka15,none,none]
def Ekl22 : AL := [some Eka0,some Eka6,some Eka6,some Eka18,some Eka20,none,none,none]
def Ekf12 : FA := [(182,0,Eka8),(182,28,Eka17),(182,29,Eka6)]
def Ekl23 : AL := [some Eka0,some Eka6,some Eka6,some Eka18,some Eka4,some Eka19,none,none]
def Ekc6 : List Int := [0,0,0,0,0,-617,0,0]
def Eke43 : SE := (Eka19,(1,5,0,0,0))
def Ekl24 : AL := [some Eka0,some Eka6,some Eka6,some Eka18,some Eka4,some Eka21,none,none]
def Ekl25 : AL := [some Eka0,some Eka6,some Eka6,some Eka18,some Eka4,some Eka21,some Eka2,none]
def Eka31 : AV := (0,0,10,1)
def Ekl26 : AL := [some Eka0,some Eka6,some Eka6,some Eka18,some Eka4,some Eka21,some Eka16,some Eka31]
def Ekc7 : List Int := [0,0,0,0,0,-617,0,-54]
def Ekl27 : AL := [some Eka0,some Eka6,some Eka6,some Eka18,some Eka8,some Eka8,some Eka2,some Eka8]
def Eke44 : SE := (Eka8,(1,7,0,0,0))
def Eke45 : SE := (Eka31,(1,7,0,0,0))
def Ekl28 : AL := [some Eka0,some Eka6,some Eka6,some Eka18,some Eka4,some Eka21,some Eka16,some Eka23]
def Eke46 : SE := (Eka2,(1,6,0,0,0))
def Eke47 : SE := (Eka16,(1,6,0,0,0))
def Ekl29 : AL := [some Eka0,some Eka6,some Eka6,some Eka18,some Eka4,some Eka21,some Eka2,some Eka23]
def Eke48 : SE := (Eka23,(1,7,0,0,0))
def Eka32 : AV := (0,0,90,10)
def Eke49 : SE := (Eka32,pv0)
def Ekl30 : AL := [some Eka0,some Eka6,some Eka6,some Eka18,some Eka8,some Eka8,some Eka2,some Eka23]
def Eke50 : SE := (Eka21,(1,5,0,0,0))
def Eke51 : SE := (Eka21,pv0)
def Ekl31 : AL := [some Eka0,some Eka6,some Eka6,some Eka18,some Eka23,some Eka23,some Eka2,some Eka23]
def Ekf13 : FA := [(182,0,Eka8),(182,28,Eka17),(182,29,Eka17),(211,0,Eka4)]
def Eka33 : AV := (0,1,10,1)
def Ekl32 : AL := [some Eka0,some Eka6,some Eka6,some Eka18,some Eka4,some Eka21,some Eka16,some Eka33]
def Ekl33 : AL := [some Eka0,some Eka6,some Eka6,some Eka18,some Eka4,some Eka21,some Eka16,some Eka22]
def Ekl34 : AL := [some Eka0,some Eka6,some Eka6,some Eka18,some Eka4,some Eka21,some Eka2,some Eka22]
def Ekl35 : AL := [some Eka0,some Eka6,some Eka6,some Eka18,some Eka8,some Eka8,some Eka2,some Eka22]
def Eke52 : SE := (Eka4,(1,4,0,0,0))
def Eke53 : SE := (Eka18,(1,3,0,0,0))
def Ekl36 : AL := [some Eka0,some Eka6,some Eka6,some Eka18,some Eka18,some Eka21,some Eka2,some Eka22]
def Ekl37 : AL := [some Eka0,some Eka6,some Eka6,some Eka8,some Eka8,some Eka8,some Eka2,some Eka22]
def Ekl38 : AL := [some Eka0,some Eka6,some Eka6,some Eka18,some Eka8,some Eka8,some Eka16,some Eka22]
def Ekl39 : AL := [some Eka0,some Eka6,some Eka6,some Eka18,some Eka8,some Eka8,some Eka8,some Eka22]
def Ekl40 : AL := [some Eka0,some Eka6,some Eka6,some Eka18,some Eka4,some Eka21,some Eka8,some Eka22]
def Ekl41 : AL := [some Eka0,some Eka6,some Eka6,some Eka18,some Eka4,some Eka30,some Eka16,some Eka22]
def Ekl42 : AL := [some Eka0,some Eka6,some Eka6,some Eka18,some Eka4,some Eka20,none,none]
def Ekl43 : AL := [some Eka0,some Eka6,some Eka6,some Eka17,some Eka4,some Eka20,none,none]
def Ekl44 : AL := [some Eka0,some Eka6,some Eka6,some Eka5,some Eka4,some Eka20,none,none]
def CNE6_0 : List ND := [(0,(Ekl6,[],Ekf1),101059,Ekc3,[1],0),
  (1,(Ekl6,[Eke0],Ekf1),101058,Ekc3,[2],0),
  (2,(Ekl6,[Eke6,Eke0],Ekf1),101057,Ekc3,[3],0),
  (5,(Ekl6,[],Ekf2),101056,Ekc3,[4],0),
  (6,(Ekl6,[Eke0],Ekf2),101055,Ekc3,[5],0),
  (7,(Ekl6,[Eke4,Eke0],Ekf2),101054,Ekc3,[7,6],1),
  (10,(Ekl6,[Eke6],Ekf2),101053,Ekc3,[31],0),
  (10,(Ekl7,[Eke2],Ekf2),101052,Ekc3,[8],0),
  (13,(Ekl7,[],Ekf2),101051,Ekc3,[9],0),
  (14,(Ekl7,[Eke0],Ekf2),101050,Ekc3,[10],0),
  (15,(Ekl7,[Eke19,Eke0],Ekf2),101049,Ekc3,[12,11],1),
  (18,(Ekl7,[Eke6],Ekf2),101048,Ekc3,[31],0),
  (18,(Ekl8,[Eke2],Ekf2),101047,Ekc3,[13],0),
  (21,(Ekl8,[],Ekf2),101046,Ekc3,[14],0),
  (22,(Ekl8,[Eke9],Ekf2),101045,Ekc3,[15],0),
  (23,(Ekl8,[Eke20,Eke9],Ekf2),101044,Ekc3,[31,16],0),
  (26,(Ekl8,[],Ekf2),101043,Ekc3,[17],0),
  (27,(Ekl8,[Eke0],Ekf2),101042,Ekc3,[18],0),
  (28,(Ekl8,[Eke9,Eke0],Ekf2),101041,Ekc3,[19],0),
  (29,(Ekl8,[Eke6,Eke9,Eke0],Ekf2),101040,Ekc3,[20],2),
  (32,(Ekl8,[Eke13],Ekf2),101039,Ekc3,[21],0),
  (33,(Ekl8,[Eke14,Eke13],Ekf2),101038,Ekc3,[31,22],0),
  (36,(Ekl8,[],Ekf2),101037,Ekc3,[23],0),
  (37,(Ekl8,[Eke0],Ekf2),101036,Ekc3,[24],0),
  (38,(Ekl8,[Eke20,Eke0],Ekf2),101035,Ekc3,[25],0),
  (39,(Ekl8,[Eke6,Eke20,Eke0],Ekf2),101034,Ekc3,[26],2),
  (42,(Ekl8,[Eke13],Ekf2),101033,Ekc3,[27],0),
  (43,(Ekl8,[Eke14,Eke13],Ekf2),101032,Ekc3,[31,28],0),
  (46,(Ekl8,[],Ekf2),101031,Ekc3,[29],0),
  (47,(Ekl8,[Eke21],Ekf2),101030,Ekc3,[30],0),
  (48,(Ekl8,[Eke22,Eke21],Ekf2),101029,Ekc3,[33,31],0),
  (51,(Ekl6,[],Ekf2),1,Ekc3,[32],0),
  (52,(Ekl6,[Eke22],Ekf2),0,Ekc3,[],0),
  (53,(Ekl9,[],Ekf2),101028,Ekc3,[34],0),
  (54,(Ekl9,[Eke0],Ekf2),101027,Ekc3,[35],0),
  (55,(Ekl9,[Eke9,Eke0],Ekf2),101026,Ekc3,[36],0),
  (58,(Ekl9,[],Ekf3),101025,Ekc3,[37],0),
  (59,(Ekl9,[Eke0],Ekf3),101024,Ekc3,[38],0),
  (60,(Ekl9,[Eke20,Eke0],Ekf3),101023,Ekc3,[39],0),
  (63,(Ekl9,[],Ekf4),101022,Ekc3,[40],0),
  (64,(Ekl9,[Eke6],Ekf4),101021,Ekc3,[41],0),
  (66,(Ekl10,[],Ekf4),101019,Ekc4,[43],0),
  (68,(Ekl11,[Eke23],Ekf4),101061,Ekc3,[44],0),
  (68,(Ekl10,[Eke24],Ekf4),101018,Ekc4,[45],0),
  (70,(Ekl11,[Eke25,Eke23],Ekf4),101060,Ekc3,[46],0),
  (70,(Ekl10,[Eke25,Eke24],Ekf4),101017,Ekc4,[175,46],0),
  (73,(Ekl12,[],Ekf4),101016,Ekc4,[47],0),
  (74,(Ekl12,[Eke0],Ekf4),101015,Ekc4,[49],0),
  (76,(Ekl11,[Eke23,Eke0],Ekf4),101064,Ekc3,[50],0),
  (76,(Ekl12,[Eke26,Eke0],Ekf4),101014,Ekc4,[51],0),
  (78,(Ekl11,[Eke27,Eke23,Eke0],Ekf4),101063,Ekc3,[52],0),
  (78,(Ekl12,[Eke27,Eke26,Eke0],Ekf4),101013,Ekc4,[53],0),
  (79,(Ekl13,[Eke6,Eke0],Ekf4),101062,Ekc3,[54],0),
  (79,(Ekl12,[Eke28,Eke0],Ekf4),101012,Ekc4,[54],0),
  (82,(Ekl12,[],Ekf4),101011,Ekc4,[55],0),
  (83,(Ekl12,[Eke0],Ekf4),101010,Ekc4,[57],0),
  (85,(Ekl11,[Eke23,Eke0],Ekf5),101067,Ekc3,[58],0),
  (85,(Ekl12,[Eke26,Eke0],Ekf4),101009,Ekc4,[59],0),
  (87,(Ekl11,[Eke27,Eke23,Eke0],Ekf5),101066,Ekc3,[60],0),
  (87,(Ekl12,[Eke27,Eke26,Eke0],Ekf4),101008,Ekc4,[61],0),
  (88,(Ekl11,[Eke6,Eke0],Ekf5),101065,Ekc3,[62],0),
  (88,(Ekl12,[Eke28,Eke0],Ekf4),101007,Ekc4,[62],0),
  (91,(Ekl12,[],Ekf4),101006,Ekc4,[63],0),
  (92,(Ekl12,[Eke0],Ekf4),101005,Ekc4,[64],0)]
def CNE6_1 : List ND := [(95,(Ekl12,[Eke29],Ekf4),101004,Ekc4,[65],0),
  (96,(Ekl12,[Eke14,Eke29],Ekf4),101003,Ekc4,[67],0),
  (98,(Ekl11,[Eke23,Eke14,Eke29],Ekf6),101070,Ekc3,[68],0),
  (98,(Ekl12,[Eke26,Eke14,Eke29],Ekf4),101002,Ekc4,[69],0),
  (99,(Ekl11,[Eke6,Eke29],Ekf6),101069,Ekc3,[70],0),
  (99,(Ekl12,[Eke30,Eke29],Ekf4),101001,Ekc4,[71],0),
  (100,(Ekl11,[Eke6,Eke6,Eke29],Ekf6),101068,Ekc3,[72],0),
  (100,(Ekl12,[Eke6,Eke30,Eke29],Ekf4),101000,Ekc4,[72],0),
  (101,(Ekl12,[],Ekf4),100999,Ekc4,[73],0),
  (102,(Ekl12,[Eke0],Ekf4),100998,Ekc4,[74],0),
  (105,(Ekl12,[Eke29],Ekf4),100997,Ekc4,[75],0),
  (106,(Ekl12,[Eke14,Eke29],Ekf4),100996,Ekc4,[77],0),
  (108,(Ekl11,[Eke23,Eke14,Eke29],Ekf7),101075,Ekc3,[78],0),
  (108,(Ekl12,[Eke26,Eke14,Eke29],Ekf4),100995,Ekc4,[79],0),
  (109,(Ekl11,[Eke6,Eke29],Ekf7),101074,Ekc3,[80],0),
  (109,(Ekl12,[Eke30,Eke29],Ekf4),100994,Ekc4,[81],0),
  (110,(Ekl11,[Eke2,Eke6,Eke29],Ekf7),101073,Ekc3,[82],0),
  (110,(Ekl12,[Eke2,Eke30,Eke29],Ekf4),100993,Ekc4,[83],0),
  (111,(Ekl11,[Eke2,Eke29],Ekf7),101072,Ekc3,[85],0),
  (111,(Ekl12,[Eke31,Eke29],Ekf4),100992,Ekc4,[84],0),
  (112,(Ekl12,[Eke6,Eke31,Eke29],Ekf4),100991,Ekc4,[86],0),
  (112,(Ekl11,[Eke6,Eke2,Eke29],Ekf7),101071,Ekc3,[86],0),
  (113,(Ekl12,[],Ekf4),100990,Ekc4,[87],0),
  (114,(Ekl12,[Eke6],Ekf4),100989,Ekc4,[88],0),
  (116,(Ekl14,[],Ekf4),100987,Ekc5,[90],0),
  (118,(Ekl15,[Eke32],Ekf8),101078,Ekc3,[91],0),
  (118,(Ekl14,[Eke33],Ekf4),100986,Ekc5,[92],0),
  (119,(Ekl15,[Eke0,Eke32],Ekf8),101077,Ekc3,[93],3),
  (119,(Ekl14,[Eke0,Eke33],Ekf4),100985,Ekc5,[94],3),
  (122,(Ekl15,[Eke15,Eke32],Ekf8),101076,Ekc3,[173,95],0),
  (122,(Ekl14,[Eke15,Eke33],Ekf4),100984,Ekc5,[173,95],0),
  (125,(Ekl16,[],Ekf9),100983,Ekc5,[96],0),
  (126,(Ekl16,[Eke0],Ekf9),100982,Ekc5,[98],0),
  (128,(Ekl15,[Eke32,Eke0],Ekf10),101079,Ekc3,[99],4),
  (128,(Ekl16,[Eke34,Eke0],Ekf9),100981,Ekc5,[99],4),
  (131,(Ekl16,[Eke17],Ekf9),100980,Ekc5,[100],0),
  (133,(Ekl17,[],Ekf9),100979,Ekc5,[101],0),
  (134,(Ekl17,[Eke0],Ekf9),100978,Ekc5,[102],0),
  (137,(Ekl17,[Eke29],Ekf9),100977,Ekc5,[103],0),
  (138,(Ekl17,[Eke14,Eke29],Ekf9),100976,Ekc5,[105],0),
  (140,(Ekl18,[Eke23,Eke14,Eke29],Ekf10),101093,Ekc3,[106],0),
  (140,(Ekl17,[Eke26,Eke14,Eke29],Ekf9),100975,Ekc5,[107],0),
  (141,(Ekl18,[Eke6,Eke29],Ekf10),101092,Ekc3,[108],0),
  (141,(Ekl17,[Eke30,Eke29],Ekf9),100974,Ekc5,[109],0),
  (142,(Ekl18,[Eke6,Eke29,Eke6,Eke29],Ekf10),101091,Ekc3,[110],0),
  (142,(Ekl17,[Eke30,Eke29,Eke30,Eke29],Ekf9),100973,Ekc5,[111],0),
  (143,(Ekl18,[Eke35,Eke6,Eke29],Ekf10),101090,Ekc3,[112],0),
  (143,(Ekl17,[Eke17,Eke30,Eke29],Ekf9),100972,Ekc5,[113],0),
  (145,(Ekl18,[Eke36,Eke35,Eke6,Eke29],Ekf10),101089,Ekc3,[114],0),
  (145,(Ekl17,[Eke36,Eke17,Eke30,Eke29],Ekf9),100971,Ekc5,[115],0),
  (146,(Ekl18,[Eke9,Eke36,Eke35,Eke6,Eke29],Ekf10),101088,Ekc3,[117,116],5),
  (146,(Ekl17,[Eke9,Eke36,Eke17,Eke30,Eke29],Ekf9),100970,Ekc5,[119,118],5),
  (149,(Ekl18,[Eke6,Eke35,Eke6,Eke29],Ekf10),101087,Ekc3,[127],0),
  (149,(Ekl18,[Eke2,Eke35,Eke6,Eke29],Ekf10),101085,Ekc3,[120],0),
  (149,(Ekl17,[Eke6,Eke17,Eke30,Eke29],Ekf9),100969,Ekc5,[128],0),
  (149,(Ekl17,[Eke2,Eke17,Eke30,Eke29],Ekf9),100968,Ekc5,[121],0),
  (152,(Ekl18,[Eke35,Eke6,Eke29],Ekf10),101084,Ekc3,[122],0),
  (152,(Ekl17,[Eke17,Eke30,Eke29],Ekf9),100967,Ekc5,[123],0),
  (153,(Ekl18,[Eke0,Eke35,Eke6,Eke29],Ekf10),101083,Ekc3,[124],0),
  (153,(Ekl17,[Eke0,Eke17,Eke30,Eke29],Ekf9),100966,Ekc5,[126],0),
  (156,(Ekl18,[Eke37,Eke35,Eke6,Eke29],Ekf10),101082,Ekc3,[129],0),
  (156,(Ekl19,[Eke37,Eke17,Eke38,Eke29],Ekf11),101094,Ekc3,[130],0),
  (156,(Ekl17,[Eke39,Eke17,Eke30,Eke29],Ekf9),100965,Ekc5,[131],0),
  (159,(Ekl18,[Eke35,Eke6,Eke29],Ekf10),101086,Ekc3,[129],0)]
def CNE6_2 : List ND := [(159,(Ekl17,[Eke17,Eke30,Eke29],Ekf9),100963,Ekc5,[130],0),
  (160,(Ekl18,[Eke6,Eke35,Eke6,Eke29],Ekf10),101081,Ekc3,[132],0),
  (160,(Ekl17,[Eke6,Eke17,Eke30,Eke29],Ekf9),100962,Ekc5,[133],0),
  (160,(Ekl17,[Eke39,Eke17,Eke30,Eke29],Ekf9),100964,Ekc5,[133],0),
  (161,(Ekl18,[Eke6,Eke6,Eke29],Ekf10),101080,Ekc3,[134],0),
  (161,(Ekl17,[Eke17,Eke30,Eke29],Ekf9),100961,Ekc5,[134],0),
  (162,(Ekl17,[],Ekf9),100960,Ekc5,[135],0),
  (163,(Ekl17,[Eke0],Ekf9),100959,Ekc5,[136],0),
  (166,(Ekl17,[Eke29],Ekf9),100958,Ekc5,[137],0),
  (167,(Ekl17,[Eke14,Eke29],Ekf9),100957,Ekc5,[139],0),
  (169,(Ekl18,[Eke23,Eke14,Eke29],Ekf10),101110,Ekc3,[140],0),
  (169,(Ekl17,[Eke26,Eke14,Eke29],Ekf9),100956,Ekc5,[141],0),
  (170,(Ekl18,[Eke6,Eke29],Ekf10),101109,Ekc3,[142],0),
  (170,(Ekl17,[Eke30,Eke29],Ekf9),100955,Ekc5,[143],0),
  (171,(Ekl18,[Eke2,Eke6,Eke29],Ekf10),101108,Ekc3,[144],0),
  (171,(Ekl17,[Eke2,Eke30,Eke29],Ekf9),100954,Ekc5,[145],0),
  (172,(Ekl18,[Eke2,Eke29],Ekf10),101107,Ekc3,[146],0),
  (172,(Ekl17,[Eke31,Eke29],Ekf9),100953,Ekc5,[147],0),
  (173,(Ekl18,[Eke2,Eke29,Eke2,Eke29],Ekf10),101106,Ekc3,[148],0),
  (173,(Ekl17,[Eke31,Eke29,Eke31,Eke29],Ekf9),100952,Ekc5,[149],0),
  (174,(Ekl18,[Eke40,Eke2,Eke29],Ekf10),101105,Ekc3,[150],0),
  (174,(Ekl17,[Eke17,Eke31,Eke29],Ekf9),100951,Ekc5,[151],0),
  (176,(Ekl18,[Eke36,Eke40,Eke2,Eke29],Ekf10),101104,Ekc3,[152],0),
  (176,(Ekl17,[Eke36,Eke17,Eke31,Eke29],Ekf9),100950,Ekc5,[153],0),
  (177,(Ekl18,[Eke20,Eke36,Eke40,Eke2,Eke29],Ekf10),101103,Ekc3,[156,155],5),
  (177,(Ekl17,[Eke20,Eke36,Eke17,Eke31,Eke29],Ekf9),100949,Ekc5,[157,154],5),
  (180,(Ekl17,[Eke6,Eke17,Eke31,Eke29],Ekf9),100943,Ekc5,[165],0),
  (180,(Ekl18,[Eke6,Eke40,Eke2,Eke29],Ekf10),101102,Ekc3,[164],0),
  (180,(Ekl18,[Eke2,Eke40,Eke2,Eke29],Ekf10),101100,Ekc3,[158],0),
  (180,(Ekl17,[Eke2,Eke17,Eke31,Eke29],Ekf9),100948,Ekc5,[159],0),
  (183,(Ekl18,[Eke40,Eke2,Eke29],Ekf10),101099,Ekc3,[160],0),
  (183,(Ekl17,[Eke17,Eke31,Eke29],Ekf9),100947,Ekc5,[161],0),
  (184,(Ekl18,[Eke0,Eke40,Eke2,Eke29],Ekf10),101098,Ekc3,[162],0),
  (184,(Ekl17,[Eke0,Eke17,Eke31,Eke29],Ekf9),100946,Ekc5,[163],0),
  (187,(Ekl18,[Eke41,Eke40,Eke2,Eke29],Ekf10),101097,Ekc3,[167],0),
  (187,(Ekl17,[Eke42,Eke17,Eke31,Eke29],Ekf9),100945,Ekc5,[168],0),
  (190,(Ekl18,[Eke40,Eke2,Eke29],Ekf10),101101,Ekc3,[167],0),
  (190,(Ekl17,[Eke17,Eke31,Eke29],Ekf9),100942,Ekc5,[166],0),
  (191,(Ekl17,[Eke6,Eke17,Eke31,Eke29],Ekf9),100941,Ekc5,[170],0),
  (191,(Ekl18,[Eke6,Eke40,Eke2,Eke29],Ekf10),101096,Ekc3,[169],0),
  (191,(Ekl17,[Eke42,Eke17,Eke31,Eke29],Ekf9),100944,Ekc5,[170],0),
  (192,(Ekl18,[Eke6,Eke2,Eke29],Ekf10),101095,Ekc3,[171],0),
  (192,(Ekl17,[Eke17,Eke31,Eke29],Ekf9),100940,Ekc5,[171],0),
  (193,(Ekl17,[],Ekf9),100939,Ekc5,[172],0),
  (196,(Ekl20,[],Ekf9),100988,Ekc5,[88],0),
  (199,(Ekl14,[],Ekf4),100638,Ekc4,[174],0),
  (202,(Ekl21,[],Ekf4),101020,Ekc4,[41],0),
  (205,(Ekl22,[],Ekf4),62337,Ekc3,[176],0),
  (206,(Ekl22,[Eke0],Ekf4),62336,Ekc3,[177],0),
  (207,(Ekl22,[Eke22,Eke0],Ekf4),62335,Ekc3,[178],0),
  (210,(Ekl22,[],Ekf12),62334,Ekc3,[179],0),
  (211,(Ekl22,[Eke0],Ekf12),62333,Ekc3,[180],0),
  (212,(Ekl22,[Eke22,Eke0],Ekf12),62332,Ekc3,[181],0),
  (215,(Ekl22,[],Ekf2),62331,Ekc3,[182],0),
  (216,(Ekl22,[Eke6],Ekf2),62330,Ekc3,[183],0),
  (218,(Ekl11,[],Ekf2),62329,Ekc3,[184],0),
  (219,(Ekl11,[Eke6],Ekf2),62328,Ekc3,[185],0),
  (221,(Ekl23,[],Ekf2),62326,Ekc6,[187],0),
  (223,(Ekl15,[Eke32],Ekf2),101112,Ekc3,[188],0),
  (223,(Ekl23,[Eke43],Ekf2),62325,Ekc6,[189],0),
  (225,(Ekl15,[Eke25,Eke32],Ekf2),101111,Ekc3,[190],0),
  (225,(Ekl23,[Eke25,Eke43],Ekf2),62324,Ekc6,[308,190],0),
  (228,(Ekl24,[],Ekf2),62323,Ekc6,[191],0),
  (229,(Ekl24,[Eke2],Ekf2),62322,Ekc6,[192],0)]
def CNE6_3 : List ND := [(231,(Ekl25,[],Ekf2),62321,Ekc6,[193],0),
  (232,(Ekl25,[Eke6],Ekf2),62320,Ekc6,[194],0),
  (234,(Ekl26,[],Ekf2),62318,Ekc7,[196],0),
  (236,(Ekl27,[Eke44],Ekf2),101114,Ekc3,[197],0),
  (236,(Ekl26,[Eke45],Ekf2),62317,Ekc7,[198],0),
  (238,(Ekl27,[Eke27,Eke44],Ekf2),101113,Ekc3,[199],0),
  (238,(Ekl26,[Eke27,Eke45],Ekf2),62316,Ekc7,[278,199],0),
  (241,(Ekl28,[],Ekf2),62315,Ekc7,[201],0),
  (243,(Ekl27,[Eke46],Ekf2),101115,Ekc3,[202],0),
  (243,(Ekl28,[Eke47],Ekf2),62314,Ekc7,[273,202],0),
  (246,(Ekl29,[],Ekf2),62313,Ekc7,[203],0),
  (247,(Ekl29,[Eke0],Ekf2),62312,Ekc7,[204],0),
  (250,(Ekl29,[Eke29],Ekf2),62311,Ekc7,[205],0),
  (251,(Ekl29,[Eke14,Eke29],Ekf2),62310,Ekc7,[206],0),
  (253,(Ekl29,[Eke27,Eke14,Eke29],Ekf2),62309,Ekc7,[208],0),
  (255,(Ekl27,[Eke44,Eke27,Eke14,Eke29],Ekf2),101122,Ekc3,[209],0),
  (255,(Ekl29,[Eke48,Eke27,Eke14,Eke29],Ekf2),62308,Ekc7,[210],0),
  (256,(Ekl27,[Eke6,Eke14,Eke29],Ekf2),101121,Ekc3,[211],0),
  (256,(Ekl29,[Eke49,Eke14,Eke29],Ekf2),62307,Ekc7,[213],0),
  (258,(Ekl27,[Eke32,Eke6,Eke14,Eke29],Ekf2),101120,Ekc3,[214],0),
  (258,(Ekl30,[Eke32,Eke49,Eke14,Eke29],Ekf2),101125,Ekc3,[215],0),
  (258,(Ekl29,[Eke50,Eke49,Eke14,Eke29],Ekf2),62306,Ekc7,[216],0),
  (260,(Ekl27,[Eke27,Eke32,Eke6,Eke14,Eke29],Ekf2),101119,Ekc3,[217],0),
  (260,(Ekl30,[Eke27,Eke32,Eke49,Eke14,Eke29],Ekf2),101124,Ekc3,[218],0),
  (260,(Ekl29,[Eke27,Eke50,Eke49,Eke14,Eke29],Ekf2),62305,Ekc7,[219],0),
  (261,(Ekl27,[Eke6,Eke6,Eke14,Eke29],Ekf2),101118,Ekc3,[220],0),
  (261,(Ekl30,[Eke6,Eke49,Eke14,Eke29],Ekf2),101123,Ekc3,[221],0),
  (261,(Ekl29,[Eke28,Eke49,Eke14,Eke29],Ekf2),62304,Ekc7,[221],0),
  (262,(Ekl27,[Eke6,Eke14,Eke29],Ekf2),101117,Ekc3,[222],0),
  (262,(Ekl29,[Eke51,Eke14,Eke29],Ekf2),62303,Ekc7,[223],0),
  (263,(Ekl27,[Eke6,Eke29],Ekf2),101116,Ekc3,[224],0),
  (263,(Ekl29,[Eke30,Eke29],Ekf2),62302,Ekc7,[224],0),
  (264,(Ekl29,[Eke17],Ekf2),62301,Ekc7,[225],0),
  (265,(Ekl29,[Eke0,Eke17],Ekf2),62300,Ekc7,[226],0),
  (268,(Ekl29,[Eke29,Eke17],Ekf2),62299,Ekc7,[227],0),
  (269,(Ekl29,[Eke14,Eke29,Eke17],Ekf2),62298,Ekc7,[229],0),
  (271,(Ekl30,[Eke32,Eke14,Eke29,Eke17],Ekf2),101127,Ekc3,[230],0),
  (271,(Ekl29,[Eke50,Eke14,Eke29,Eke17],Ekf2),62297,Ekc7,[231],0),
  (272,(Ekl30,[Eke6,Eke29,Eke17],Ekf2),101126,Ekc3,[232],0),
  (272,(Ekl29,[Eke30,Eke29,Eke17],Ekf2),62296,Ekc7,[232],0),
  (273,(Ekl29,[Eke17,Eke17],Ekf2),62295,Ekc7,[273,233],0),
  (276,(Ekl29,[],Ekf2),62294,Ekc7,[234],0),
  (277,(Ekl29,[Eke0],Ekf2),62293,Ekc7,[235],0),
  (280,(Ekl29,[Eke29],Ekf2),62292,Ekc7,[236],0),
  (281,(Ekl29,[Eke14,Eke29],Ekf2),62291,Ekc7,[238],0),
  (283,(Ekl30,[Eke32,Eke14,Eke29],Ekf2),101133,Ekc3,[239],0),
  (283,(Ekl29,[Eke50,Eke14,Eke29],Ekf2),62290,Ekc7,[240],0),
  (285,(Ekl30,[Eke27,Eke32,Eke14,Eke29],Ekf2),101132,Ekc3,[241],0),
  (285,(Ekl29,[Eke27,Eke50,Eke14,Eke29],Ekf2),62289,Ekc7,[242],0),
  (286,(Ekl31,[Eke6,Eke14,Eke29],Ekf2),101131,Ekc3,[243],0),
  (286,(Ekl29,[Eke28,Eke14,Eke29],Ekf2),62288,Ekc7,[244],0),
  (288,(Ekl31,[Eke27,Eke6,Eke14,Eke29],Ekf2),101130,Ekc3,[245],0),
  (288,(Ekl29,[Eke27,Eke28,Eke14,Eke29],Ekf2),62287,Ekc7,[246],0),
  (289,(Ekl31,[Eke6,Eke14,Eke29],Ekf2),101129,Ekc3,[248],0),
  (289,(Ekl29,[Eke49,Eke14,Eke29],Ekf2),62286,Ekc7,[249],0),
  (291,(Ekl27,[Eke44,Eke6,Eke14,Eke29],Ekf13),101138,Ekc3,[250],0),
  (291,(Ekl31,[Eke48,Eke6,Eke14,Eke29],Ekf2),101128,Ekc3,[251],0),
  (291,(Ekl29,[Eke48,Eke49,Eke14,Eke29],Ekf2),62285,Ekc7,[251],0),
  (292,(Ekl27,[Eke6,Eke14,Eke29],Ekf13),101137,Ekc3,[252],0),
  (292,(Ekl29,[Eke51,Eke14,Eke29],Ekf2),62284,Ekc7,[253],0),
  (293,(Ekl27,[Eke6,Eke29],Ekf13),101136,Ekc3,[254],0),
  (293,(Ekl29,[Eke30,Eke29],Ekf2),62283,Ekc7,[255],0),
  (294,(Ekl27,[Eke2,Eke6,Eke29],Ekf13),101135,Ekc3,[256],0),
  (294,(Ekl29,[Eke2,Eke30,Eke29],Ekf2),62282,Ekc7,[257],0)]
def CNE6_4 : List ND := [(295,(Ekl27,[Eke2,Eke29],Ekf13),101134,Ekc3,[258],0),
  (295,(Ekl29,[Eke31,Eke29],Ekf2),62281,Ekc7,[258],0),
  (296,(Ekl29,[Eke17],Ekf2),62280,Ekc7,[259],0),
  (297,(Ekl29,[Eke0,Eke17],Ekf2),62279,Ekc7,[260],0),
  (300,(Ekl29,[Eke29,Eke17],Ekf2),62278,Ekc7,[261],0),
  (301,(Ekl29,[Eke14,Eke29,Eke17],Ekf2),62277,Ekc7,[263],0),
  (303,(Ekl30,[Eke32,Eke14,Eke29,Eke17],Ekf2),101142,Ekc3,[264],0),
  (303,(Ekl29,[Eke50,Eke14,Eke29,Eke17],Ekf2),62276,Ekc7,[265],0),
  (304,(Ekl30,[Eke6,Eke29,Eke17],Ekf2),101141,Ekc3,[266],0),
  (304,(Ekl29,[Eke30,Eke29,Eke17],Ekf2),62275,Ekc7,[267],0),
  (305,(Ekl30,[Eke2,Eke6,Eke29,Eke17],Ekf2),101140,Ekc3,[268],0),
  (305,(Ekl29,[Eke2,Eke30,Eke29,Eke17],Ekf2),62274,Ekc7,[269],0),
  (306,(Ekl30,[Eke2,Eke29,Eke17],Ekf2),101139,Ekc3,[270],0),
  (306,(Ekl29,[Eke31,Eke29,Eke17],Ekf2),62273,Ekc7,[270],0),
  (307,(Ekl29,[Eke17,Eke17],Ekf2),62272,Ekc7,[273,271],0),
  (310,(Ekl29,[],Ekf2),62271,Ekc7,[272],0),
  (311,(Ekl29,[Eke2],Ekf2),62270,Ekc7,[275],0),
  (314,(Ekl28,[],Ekf2),62268,Ekc7,[274],0),
  (315,(Ekl28,[Eke6],Ekf2),62267,Ekc7,[276],0),
  (315,(Ekl29,[Eke2],Ekf2),62269,Ekc7,[276],0),
  (317,(Ekl28,[],Ekf2),62266,Ekc7,[277],0),
  (320,(Ekl32,[],Ekf2),62319,Ekc7,[194],0),
  (323,(Ekl33,[],Ekf2),61725,Ekc6,[279],0),
  (325,(Ekl33,[Eke47],Ekf2),61724,Ekc6,[288,280],0),
  (328,(Ekl34,[],Ekf2),61723,Ekc6,[282],0),
  (330,(Ekl35,[Eke23],Ekf2),101144,Ekc3,[283],0),
  (330,(Ekl34,[Eke52],Ekf2),61722,Ekc6,[284],0),
  (331,(Ekl35,[Eke53,Eke23],Ekf2),101143,Ekc3,[288,285],0),
  (331,(Ekl34,[Eke53,Eke52],Ekf2),61721,Ekc6,[288,285],0),
  (334,(Ekl36,[],Ekf2),3,Ekc3,[287],0),
  (336,(Ekl37,[Eke32],Ekf2),101145,Ekc3,[],0),
  (336,(Ekl36,[Eke50],Ekf2),2,Ekc3,[],0),
  (337,(Ekl33,[],Ekf2),61720,Ekc6,[290],0),
  (339,(Ekl38,[Eke23],Ekf2),101154,Ekc3,[291],0),
  (339,(Ekl33,[Eke52],Ekf2),61719,Ekc6,[292],0),
  (341,(Ekl38,[Eke47,Eke23],Ekf2),101153,Ekc3,[297,293],0),
  (341,(Ekl33,[Eke47,Eke52],Ekf2),61718,Ekc6,[298,294],0),
  (344,(Ekl35,[Eke23],Ekf2),101152,Ekc3,[295],0),
  (344,(Ekl34,[Eke52],Ekf2),61717,Ekc6,[296],0),
  (345,(Ekl35,[Eke2,Eke23],Ekf2),101151,Ekc3,[300],0),
  (345,(Ekl34,[Eke2,Eke52],Ekf2),61716,Ekc6,[302],0),
  (348,(Ekl39,[Eke23],Ekf2),101148,Ekc3,[299],0),
  (348,(Ekl40,[Eke52],Ekf2),61714,Ekc6,[301],0),
  (349,(Ekl39,[Eke6,Eke23],Ekf2),101147,Ekc3,[303],0),
  (349,(Ekl35,[Eke2,Eke23],Ekf2),101150,Ekc3,[304],0),
  (349,(Ekl40,[Eke6,Eke52],Ekf2),61713,Ekc6,[305],0),
  (349,(Ekl34,[Eke2,Eke52],Ekf2),61715,Ekc6,[305],0),
  (350,(Ekl39,[Eke6],Ekf2),101146,Ekc3,[306],0),
  (350,(Ekl35,[Eke2],Ekf2),101149,Ekc3,[306],0),
  (350,(Ekl33,[Eke17],Ekf2),61712,Ekc6,[306],0),
  (352,(Ekl33,[],Ekf2),61711,Ekc6,[307],0),
  (355,(Ekl41,[],Ekf2),62327,Ekc6,[185],0),
  (358,(Ekl42,[],Ekf2),10,Ekc3,[309],0),
  (359,(Ekl42,[Eke53],Ekf2),9,Ekc3,[312,310],0),
  (362,(Ekl43,[],Ekf2),8,Ekc3,[311],0),
  (364,(Ekl43,[Eke52],Ekf2),7,Ekc3,[314],0),
  (367,(Ekl44,[],Ekf2),5,Ekc3,[313],0),
  (368,(Ekl44,[Eke22],Ekf2),4,Ekc3,[],0),
  (368,(Ekl43,[Eke52],Ekf2),6,Ekc3,[],0)]
def CNE6 : List (List ND) := [CNE6_0, CNE6_1, CNE6_2, CNE6_3, CNE6_4]
theorem CKE6_0 : chkB prot SMsE SME6 [] CNE6 CNE6_0 = true := by decide +kernel
theorem CKE6_1 : chkB prot SMsE SME6 [] CNE6 CNE6_1 = true := by decide +kernel
theorem CKE6_2 : chkB prot SMsE SME6 [] CNE6 CNE6_2 = true := by decide +kernel
theorem CKE6_3 : chkB prot SMsE SME6 [] CNE6 CNE6_3 = true := by decide +kernel
theorem CKE6_4 : chkB prot SMsE SME6 [] CNE6 CNE6_4 = true := by decide +kernel
theorem CKE6 : chkS prot SMsE SME6 [] CNE6 = true := chkS_of (allc CKE6_0 (allc CKE6_1 (allc CKE6_2 (allc CKE6_3 (allc CKE6_4 (alln)))))) (by decide +kernel)
/-! LM, by program: the table E holds -/
section TB
variable {xs : Nat → Int} {xl : Nat}
def lowE (xs : Nat → Int) (xl : Nat) (S : SM) : Prop := ∀ k T, SMsE k = some T → T.2.1 < S.2.1 → SMok xs xl INV T
theorem all_cE {P : SM → Prop} {A : SM} {L : List SM} (h : P A) (hl : ∀ B ∈ L, P B) : ∀ B ∈ A :: L, P B := fun B hB => by
  rcases List.mem_cons.mp hB with rfl | q
  · exact h
  · exact hl B q
theorem all_nE {P : SM → Prop} : ∀ B ∈ ([] : List SM), P B := fun B hB => by cases hB
theorem all_lE {P : SM → Prop} {A : List SM} {L : List (List SM)} (h : ∀ B ∈ A, P B) (hl : ∀ C ∈ L, ∀ B ∈ C, P B) : ∀ C ∈ A :: L, ∀ B ∈ C, P B := fun C hC => by
  rcases List.mem_cons.mp hC with rfl | q
  · exact h
  · exact hl C q
theorem tbE_0 : ∀ S ∈ SMtE0, lowE xs xl S → SMok xs xl INV S := all_cE (fun hS => ai_ok INV_ok hS CKE0) (all_cE (fun hS => ai_ok INV_ok hS CKE1) (all_cE (fun hS => ai_ok INV_ok hS CKE2) (all_cE (fun hS => ai_ok INV_ok hS CKE3) (all_cE (fun _ => ok_goesBy) (all_cE (fun hS => ai_ok INV_ok hS CKE5) (all_cE (fun hS => ai_ok INV_ok hS CKE6) (all_nE)))))))
theorem tblE : ∀ C ∈ SMttE, ∀ S ∈ C, lowE xs xl S → SMok xs xl INV S := (all_lE tbE_0 (fun C hC => by cases hC))
theorem tabE {j : Nat} {S : SM} (hj : SMsE j = some S) : SMok xs xl INV S := by
  refine tab_ok (SMs := SMsE) (fun j S hS hl => ?_) S.2.1 j S hj (Nat.le_refl _)
  unfold SMsE at hS
  rw [Option.bind_eq_some_iff] at hS
  obtain ⟨C, c1, c2⟩ := hS
  exact tblE C (List.mem_of_getElem? c1) S (List.mem_of_getElem? c2) hl
theorem TE_rests : SMok xs xl INV SME6 := tabE (j := 6) rfl
end TB
end
section
/-! the scene, part s7: the reference's blocks: kept, passed, begun -/
/-- block c of g is what block b of h was -/
def blq (h g : LH) (b c : Int) : Prop := ∀ i, 0 ≤ i → i < 34 → rd g 198 (c + i) = rd h 198 (b + i)
/-- what keeps leaves -/
def kpx (h g : LH) : Prop := (rd h 182 25 < 16 → rd g 182 25 = rd h 182 25 + 1 ∧ (∀ k, 0 ≤ k → k < rd h 182 25 → blq h g (70 * k + 350) (70 * k + 350)) ∧ blq h g 0 (70 * rd h 182 25 + 350)) ∧ (rd h 182 25 = 16 → rd g 182 25 = 16 ∧ (∀ k, 0 ≤ k → k < 15 → blq h g (70 * k + 420) (70 * k + 350)) ∧ blq h g 0 1400)
/-- an hour has passed in block b -/
def psx (b : Int) (h g : LH) : Prop := rd g 198 b = (if rd h 198 b < 24 then rd h 198 b + 1 else rd h 198 b) ∧ (∀ p, 0 ≤ p → p < 6 → rd g 198 (b + p + 14) = 0) ∧ ∀ d, 0 ≤ d → d < 14 → rd g 198 (b + d + 20) = 0
/-- a day has begun in block b -/
def sdx (b : Int) (g : LH) : Prop := rd g 198 b = 0 ∧ (∀ p, 0 ≤ p → p ≤ 5 → rd g 198 (b + p + 2) = rd g 188 (4 * p + 117) ∧ rd g 198 (b + p + 8) = (if rd g 188 (4 * p + 117) = rd g 188 (4 * p + 118) then 1 else 0) ∧ rd g 198 (b + p + 14) = 0) ∧ ∀ d, 0 ≤ d → d < 14 → rd g 198 (b + d + 20) = 0
section SC7
variable {xs : Nat → Int} {xl e : Nat} {h g : LH} {Q : Option LV → LH → Prop}
theorem G_keepsX (he : 1 ≤ e) (hI : INV h) (k : ∀ g, INV g → (∀ a i, ¬ (a = 198 ∧ 350 ≤ i ∧ i < 1434) → ¬ (a = 182 ∧ i = 25) → rd g a i = rd h a i) → kpx h g → Q none g) : Rn xs xl e mm_keeps 0 [some (.inr (.inr 182)), none] [] h Q := by
  have n0 := rF_undos hI.1
  have A : Rn xs xl e mm_keeps 0 [some (.inr (.inr 182)), none] [] h (fun r g => r = none ∧ kpx h g) := by
    have t53 : ∀ (g : LH) (o1 : Option LV), RNG g → (0 ≤ rd g 182 25 ∧ rd g 182 25 ≤ 15) → (∀ u, (∀ a i, ¬ (a = 198 ∧ 70 * rd g 182 25 + 350 ≤ i ∧ i < 70 * rd g 182 25 + 350 + 34) → a ≠ 182 → rd u a i = rd g a i) → rd u 182 25 = rd g 182 25 + 1 → blq g u 0 (70 * rd g 182 25 + 350) → kpx h u) → Rn xs xl e mm_keeps 53 [some (.inr (.inr 182)), o1] [] g (fun r g => r = none ∧ kpx h g) := by
      intro g o1 gr n1 kk
      refine B_keeps_53 (RF_of gr) ⟨by omega, by omega, 0, by omega, D_copies gr (by omega) (by omega) (by omega) (fun u ur uf uc => ?_)⟩
      have un : rd u 182 25 = rd g 182 25 := uf 182 25 (by omega)
      refine B_keeps_69 (RF_of ur) ⟨by omega, rfl, kk _ (fun a i n1 n2 => ?_) ?_ (fun i i0 i1 => ?_)⟩
      · rw [rdw_ne (fun z => n2 z.symm)]
        exact uf a i n1
      · rw [rdw_eq, un]
      · rw [rdw_ne (by decide)]
        exact uc i i0 i1
    have l11 : ∀ (n : Nat) (g : LH) (v1 : Int), 16 - v1 < n → 1 ≤ v1 → v1 ≤ 16 → RNG g → (∀ a i, ¬ (a = 198 ∧ 350 ≤ i ∧ i < 1434) → rd g a i = rd h a i) → rd h 182 25 = 16 → (∀ j, 0 ≤ j → j < v1 - 1 → blq h g (70 * j + 420) (70 * j + 350)) → (∀ j, v1 - 1 ≤ j → j ≤ 15 → blq h g (70 * j + 350) (70 * j + 350)) → Rn xs xl e mm_keeps 11 [some (.inr (.inr 182)), some (.inl v1)] [] g (fun r g => r = none ∧ kpx h g) := by
      intro n
      induction n with
      | zero =>
        intro g v1 hn
        omega
      | succ n ih =>
        intro g v1 hn a0 a1 gr gf h16 gs go
        have g16 : rd g 182 25 = 16 := (gf 182 25 (by omega)).trans h16
        refine B_keeps_11 (RF_of gr) ⟨a0, a1⟩ ⟨fun c => ⟨by omega, ?_⟩, fun c => ⟨0, by omega, D_copies gr (by omega) (by omega) (by omega) (fun u ur uf uc => B_keeps_37 (RF_of ur) (by omega) (ih u (v1 + 1) (by omega) (by omega) (by omega) ur (fun a i m => (uf a i (by omega)).trans (gf a i m)) h16 (fun j j0 j1 => ?_) (fun j j0 j1 => ?_)))⟩⟩
        · have r1 := wu gr (v := rd g 182 25 - 1) (by omega) (by omega)
          have e15 : rd (wr g 182 25 (rd g 182 25 - 1)) 182 25 = 15 := by rw [rdw_eq, g16]; rfl
          refine t53 _ _ r1 (by omega) (fun u uf un ub => ⟨fun z => absurd z (by omega), fun _ => ⟨by omega, fun j j0 j1 i i0 i1 => ?_, fun i i0 i1 => ?_⟩⟩)
          · rw [uf 198 _ (by omega) (by decide), rdw_ne (by decide)]
            exact gs j j0 (by omega) i i0 i1
          · have z := ub i i0 i1
            rw [e15, rdw_ne (by decide), gf 198 _ (by omega)] at z
            exact z
        · by_cases z : j = v1 - 1
          · intro i i0 i1
            have y := uc i i0 i1
            have x := go v1 (by omega) (by omega) i i0 i1
            rw [show 70 * j + 350 + i = 70 * v1 + 280 + i by omega, y, x, show 70 * j + 420 + i = 70 * v1 + 350 + i by omega]
          · intro i i0 i1
            rw [uf 198 _ (by omega)]
            exact gs j j0 (by omega) i i0 i1
        · intro i i0 i1
          rw [uf 198 _ (by omega)]
          exact go j (by omega) j1 i i0 i1
    refine B_keeps_0 (RF_of hI.1) ⟨fun c => t53 h _ hI.1 (by omega) (fun u uf un ub => ⟨fun _ => ⟨un, fun j j0 j1 i i0 i1 => uf 198 _ (by omega) (by decide), ub⟩, fun z => absurd z c⟩), fun c => l11 16 h 1 (by omega) (by omega) (by omega) hI.1 (fun _ _ _ => rfl) c (fun j j0 j1 => by omega) (fun j j0 j1 i i0 i1 => rfl)⟩
  have B : Rn xs xl e mm_keeps 0 [some (.inr (.inr 182)), none] [] h (fun r g => INV g ∧ (∀ a i, ¬ (a = 198 ∧ 350 ≤ i ∧ i < 1434) → ¬ (a = 182 ∧ i = 25) → rd g a i = rd h a i)) := D_keeps he hI (fun g gI gf => ⟨gI, gf⟩)
  refine (A.and B).mono (fun r g z => ?_)
  obtain ⟨⟨rfl, a⟩, b, c⟩ := z
  exact k g b c a
theorem G_passesX {b : Int} (hI : INV h) (b0 : b % 70 = 0) (hb : 0 ≤ b ∧ b ≤ 1540) (k : ∀ g, INV g → (∀ a i, ¬ (a = 198 ∧ (i = b ∨ (b + 14 ≤ i ∧ i ≤ b + 33))) → rd g a i = rd h a i) → psx b h g → Q none g) : Rn xs xl e mm_passes 0 [some (.inr (.inr 182)), some (.inl b), none] [] h Q := by
  have qh := rs_now hI.1 (i := b) b 0 (by omega) (by omega) (by omega) (by omega) (by omega) (by omega)
  have l57 : ∀ (n : Nat) (g : LH) (v2 : Int), 14 - v2 < n → 0 ≤ v2 → v2 ≤ 14 → INV g → (∀ a i, ¬ (a = 198 ∧ (i = b ∨ (b + 14 ≤ i ∧ i ≤ b + 33))) → rd g a i = rd h a i) → rd g 198 b = (if rd h 198 b < 24 then rd h 198 b + 1 else rd h 198 b) → (∀ p, 0 ≤ p → p < 6 → rd g 198 (b + p + 14) = 0) → (∀ d, 0 ≤ d → d < v2 → rd g 198 (b + d + 20) = 0) → Rn xs xl e mm_passes 57 [some (.inr (.inr 182)), some (.inl b), some (.inl v2)] [] g Q := by
    intro n
    induction n with
    | zero =>
      intro g v2 hn
      omega
    | succ n ih =>
      intro g v2 hn a0 a1 gI gf gt gp gd
      refine B_passes_57 (RF_of gI.1) hb ⟨a0, a1⟩ ⟨fun _ => k g gI gf ⟨gt, gp, fun d d0 d1 => gd d d0 (by omega)⟩, fun c => ?_⟩
      have r1 := ws gI.1 (i := b + v2 + 20) (v := 0) 20 33 (-2147483648) 2147483647 (by omega) (by omega) (by omega) (by decide +kernel) (by omega) (by omega) (by unfold i32; omega)
      refine ih _ (v2 + 1) (by omega) (by omega) (by omega) (INV_ws gI r1 (by omega)) (fun a i q => ?_) ?_ (fun p p0 p1 => ?_) (fun d d0 d1 => ?_)
      · rw [rd_wr, if_neg (by omega)]
        exact gf a i q
      · rw [rdw_nei (by omega)]
        exact gt
      · rw [rdw_nei (by omega)]
        exact gp p p0 p1
      · by_cases z : d = v2
        · rw [z, rdw_eq]
        · rw [rdw_nei (by omega)]
          exact gd d d0 (by omega)
  have l31 : ∀ (n : Nat) (g : LH) (v2 : Int), 6 - v2 < n → 0 ≤ v2 → v2 ≤ 6 → INV g → (∀ a i, ¬ (a = 198 ∧ (i = b ∨ (b + 14 ≤ i ∧ i ≤ b + 33))) → rd g a i = rd h a i) → rd g 198 b = (if rd h 198 b < 24 then rd h 198 b + 1 else rd h 198 b) → (∀ p, 0 ≤ p → p < v2 → rd g 198 (b + p + 14) = 0) → Rn xs xl e mm_passes 31 [some (.inr (.inr 182)), some (.inl b), some (.inl v2)] [] g Q := by
    intro n
    induction n with
    | zero =>
      intro g v2 hn
      omega
    | succ n ih =>
      intro g v2 hn a0 a1 gI gf gt gp
      refine B_passes_31 (RF_of gI.1) hb ⟨a0, a1⟩ ⟨fun _ => l57 15 g 0 (by omega) (by omega) (by omega) gI gf gt (fun p p0 p1 => gp p p0 (by omega)) (fun d d0 d1 => by omega), fun c => ?_⟩
      have r1 := ws gI.1 (i := b + v2 + 14) (v := 0) 14 19 0 1 (by omega) (by omega) (by omega) (by decide +kernel) (by omega) (by omega) (by unfold i32; omega)
      refine ih _ (v2 + 1) (by omega) (by omega) (by omega) (INV_ws gI r1 (by omega)) (fun a i q => ?_) ?_ (fun p p0 p1 => ?_)
      · rw [rd_wr, if_neg (by omega)]
        exact gf a i q
      · rw [rdw_nei (by omega)]
        exact gt
      · by_cases z : p = v2
        · rw [z, rdw_eq]
        · rw [rdw_nei (by omega)]
          exact gp p p0 (by omega)
  have st : ∀ v : Int, 0 ≤ v → v ≤ 24 → v = (if rd h 198 b < 24 then rd h 198 b + 1 else rd h 198 b) → Rn xs xl e mm_passes 31 [some (.inr (.inr 182)), some (.inl b), some (.inl 0)] [] (wr h 198 b v) Q := by
    intro v v0 v1 v2
    have r1 := ws hI.1 (i := b) (v := v) 0 0 0 24 (by omega) (by omega) (by omega) (by decide +kernel) (by omega) (by omega) (by unfold i32; omega)
    refine l31 7 _ 0 (by omega) (by omega) (by omega) (INV_ws hI r1 (by omega)) (fun a i q => ?_) ?_ (fun p p0 p1 => by omega)
    · rw [rd_wr, if_neg (by omega)]
    · rw [rdw_eq]
      exact v2
  exact B_passes_0 (RF_of hI.1) hb ⟨fun c => ⟨by omega, st _ (by omega) (by omega) (by rw [if_neg (by omega)])⟩, fun c => ⟨by omega, st _ (by omega) (by omega) (by rw [if_pos c])⟩⟩
theorem G_startsX {b : Int} (he : 1 ≤ e) (hr : RNG h) (b0 : b % 70 = 0) (b1 : 0 ≤ b) (b2 : b ≤ 1540) (k : ∀ g, RNG g → sdx b g → (∀ a i, ¬ (a = 198 ∧ b ≤ i ∧ i < b + 34 ∧ i ≠ b + 1) → rd g a i = rd h a i) → Q none g) : Rn xs xl e mm_startsDay 0 [some (.inr (.inr 182)), some (.inl b), none] [] h Q := by
  have l84 : ∀ (n : Nat) (g : LH) (v : Int), 14 - v ≤ n → 0 ≤ v → v ≤ 14 → RNG g → rd g 198 b = 0 → (∀ p, 0 ≤ p → p ≤ 5 → rd g 198 (b + p + 2) = rd h 188 (4 * p + 117) ∧ rd g 198 (b + p + 8) = (if rd h 188 (4 * p + 117) = rd h 188 (4 * p + 118) then 1 else 0) ∧ rd g 198 (b + p + 14) = 0) → (∀ d, 0 ≤ d → d < v → rd g 198 (b + d + 20) = 0) → (∀ a i, ¬ (a = 198 ∧ b ≤ i ∧ i < b + 34 ∧ i ≠ b + 1) → rd g a i = rd h a i) → Rn xs xl e mm_startsDay 84 [some (.inr (.inr 182)), some (.inl b), some (.inl v)] [] g Q := by
    intro n
    have stop : ∀ (g : LH), RNG g → rd g 198 b = 0 → (∀ p, 0 ≤ p → p ≤ 5 → rd g 198 (b + p + 2) = rd h 188 (4 * p + 117) ∧ rd g 198 (b + p + 8) = (if rd h 188 (4 * p + 117) = rd h 188 (4 * p + 118) then 1 else 0) ∧ rd g 198 (b + p + 14) = 0) → (∀ d, 0 ≤ d → d < 14 → rd g 198 (b + d + 20) = 0) → (∀ a i, ¬ (a = 198 ∧ b ≤ i ∧ i < b + 34 ∧ i ≠ b + 1) → rd g a i = rd h a i) → Q none g := by
      intro g gr g0 gp gd gf
      refine k g gr ⟨g0, fun p p0 p1 => ?_, gd⟩ gf
      rw [gf 188 _ (by omega), gf 188 _ (by omega)]
      exact gp p p0 p1
    induction n with
    | zero =>
      intro g v hn v0 v1 gr g0 gp gd gf
      exact B_startsDay_84 (RF_of gr) ⟨fun _ => stop g gr g0 gp (fun d d0 d1 => gd d d0 (by omega)) gf, fun c => by omega⟩
    | succ n ih =>
      intro g v hn v0 v1 gr g0 gp gd gf
      refine B_startsDay_84 (RF_of gr) ⟨fun _ => stop g gr g0 gp (fun d d0 d1 => gd d d0 (by omega)) gf, fun c => ⟨by omega, by omega, by omega, by omega, ih _ (v + 1) (by omega) (by omega) (by omega) (ws gr 20 33 (-2147483648) 2147483647 (by omega) (by omega) (by omega) (by decide +kernel) (by omega) (by omega) (by unfold i32; omega)) ?_ (fun p p0 p1 => ?_) (fun d d0 d1 => ?_) (fun a i hn => ?_)⟩⟩
      · rw [rdw_nei (by omega)]
        exact g0
      · rw [rdw_nei (by omega), rdw_nei (by omega), rdw_nei (by omega)]
        exact gp p p0 p1
      · by_cases z : d = v
        · rw [z, rdw_eq]
        · rw [rdw_nei (by omega)]
          exact gd d d0 (by omega)
      · rw [rd_wr, if_neg]
        · exact gf a i hn
        · rintro ⟨rfl, rfl⟩
          exact hn (by omega)
  have l11 : ∀ (n : Nat) (g : LH) (v : Int), 6 - v ≤ n → 0 ≤ v → v ≤ 6 → RNG g → rd g 198 b = 0 → (∀ p, 0 ≤ p → p < v → rd g 198 (b + p + 2) = rd h 188 (4 * p + 117) ∧ rd g 198 (b + p + 8) = (if rd h 188 (4 * p + 117) = rd h 188 (4 * p + 118) then 1 else 0) ∧ rd g 198 (b + p + 14) = 0) → (∀ a i, ¬ (a = 198 ∧ b ≤ i ∧ i < b + 34 ∧ i ≠ b + 1) → rd g a i = rd h a i) → Rn xs xl e mm_startsDay 11 [some (.inr (.inr 182)), some (.inl b), some (.inl v)] [] g Q := by
    intro n
    induction n with
    | zero =>
      intro g v hn v0 v1 gr g0 gw gf
      exact B_startsDay_11 (RF_of gr) he ⟨fun _ => l84 14 g 0 (by omega) (by omega) (by omega) gr g0 (fun p p0 p1 => gw p p0 (by omega)) (fun d d0 d1 => by omega) gf, fun c => by omega⟩
    | succ n ih =>
      intro g v hn v0 v1 gr g0 gw gf
      by_cases hv : v < 6
      · have hm := rq_p1 gr (i := 4 * v + 117) (d := v) (by omega) (by omega) (by omega)
        have e7 : rd g 188 (4 * v + 117) = rd h 188 (4 * v + 117) := gf 188 _ (by omega)
        have e8 : rd g 188 (4 * v + 118) = rd h 188 (4 * v + 118) := gf 188 _ (by omega)
        have go : ∀ w : Int, 0 ≤ w → w ≤ 1 → w = (if rd h 188 (4 * v + 117) = rd h 188 (4 * v + 118) then 1 else 0) → Rn xs xl e mm_startsDay 11 [some (.inr (.inr 182)), some (.inl b), some (.inl (v + 1))] [] (wr (wr (wr g 198 (b + v + 2) (rd g 188 (4 * v + 117))) 198 (b + v + 8) w) 198 (b + v + 14) 0) Q := by
          intro w w0 w1 ew
          have r1 := ws gr (i := b + v + 2) (v := rd g 188 (4 * v + 117)) 2 7 0 9 (by omega) (by omega) (by omega) (by decide +kernel) hm.1 hm.2 ⟨by omega, by omega⟩
          have r2 := ws r1 (i := b + v + 8) (v := w) 8 13 0 1 (by omega) (by omega) (by omega) (by decide +kernel) w0 w1 ⟨by omega, by omega⟩
          have r3 := ws r2 (i := b + v + 14) (v := 0) 14 19 0 1 (by omega) (by omega) (by omega) (by decide +kernel) (by omega) (by omega) ⟨by omega, by omega⟩
          refine ih _ (v + 1) (by omega) (by omega) (by omega) r3 ?_ (fun p p0 p1 => ?_) (fun a i hn => ?_)
          · rw [rdw_nei (by omega), rdw_nei (by omega), rdw_nei (by omega)]
            exact g0
          · by_cases z : p = v
            · subst z
              refine ⟨?_, ?_, rdw_eq⟩
              · rw [rdw_nei (by omega), rdw_nei (by omega), rdw_eq, e7]
              · rw [rdw_nei (by omega), rdw_eq, ew]
            · rw [rdw_nei (by omega), rdw_nei (by omega), rdw_nei (by omega), rdw_nei (by omega), rdw_nei (by omega), rdw_nei (by omega), rdw_nei (by omega), rdw_nei (by omega), rdw_nei (by omega)]
              exact gw p p0 (by omega)
          · rw [rd_wr, if_neg, rd_wr, if_neg, rd_wr, if_neg]
            · exact gf a i hn
            all_goals (rintro ⟨rfl, rfl⟩; exact hn (by omega))
        exact B_startsDay_11 (RF_of gr) he ⟨fun c => by omega, fun c => ⟨by omega, by omega, by omega, by omega, by omega, by omega, by omega, by omega, by omega, by omega, by omega, by omega, by omega, by omega, by omega, by omega, by omega, fun c2 => ⟨by omega, by omega, by omega, by omega, by omega, go 0 (by omega) (by omega) (by rw [if_neg (fun z => c2 (by rw [e7, e8]; exact z))])⟩, fun c2 => ⟨by omega, by omega, by omega, by omega, by omega, go 1 (by omega) (by omega) (by rw [if_pos (by rw [← e7, ← e8]; exact c2)])⟩⟩⟩
      · exact B_startsDay_11 (RF_of gr) he ⟨fun _ => l84 14 g 0 (by omega) (by omega) (by omega) gr g0 (fun p p0 p1 => gw p p0 (by omega)) (fun d d0 d1 => by omega) gf, fun c => by omega⟩
  refine B_startsDay_0 (RF_of hr) ⟨by omega, by omega, l11 6 _ 0 (by omega) (by omega) (by omega) (ws hr 0 0 0 24 (by omega) (by omega) (by omega) (by decide +kernel) (by omega) (by omega) (by unfold i32; omega)) rdw_eq (fun p p0 p1 => by omega) (fun a i hn => ?_)⟩
  rw [rd_wr, if_neg]
  rintro ⟨rfl, rfl⟩
  exact hn (by omega)
end SC7
end
section
/-! the scene, part s9: the reference's begins -/
/-- behind begins -/
def BGN (g : LH) : Prop := rd g 198 34 = 0 ∧ rd g 182 25 = 0 ∧ rd g 198 1 = 0 ∧ sdx 0 g
section SC9
variable {xs : Nat → Int} {xl e : Nat} {h : LH} {Q : Option LV → LH → Prop}
theorem G_beginsX (he : 2 ≤ e) (hr : RNG h) (hs : SP4 h) (k : ∀ g, INV g → (∀ a i, ¬ muG a i → rd g a i = rd h a i) → (∀ m, 0 ≤ m → m < 4 → rd g 199 m = 0) → BGN g → Q none g) : Rn xs xl e mm_begins 0 [some (.inr (.inr 182)), none] [] h Q := by
  refine B_begins_0 (RF_of hr) ⟨1, by omega, G_startsX (by omega) hr (by omega) (by omega) (by omega) (fun g gr gsd gf0 => ?_)⟩
  have gf : ∀ a i, ¬ (a = 198 ∧ 0 ≤ i ∧ i < 34) → rd g a i = rd h a i := fun a i n => gf0 a i (by omega)
  have gw : ∀ p, 0 ≤ p → p ≤ 5 → rd g 198 (0 + 2 + p) = rd h 188 (117 + 4 * p) := fun p p0 p1 => by
    have z := (gsd.2.1 p p0 p1).1
    rw [gf0 188 _ (by omega)] at z
    rw [show (0 + 2 + p : Int) = 0 + p + 2 by omega, z, show (4 * p + 117 : Int) = 117 + 4 * p by omega]
  have r1 := ws gr (i := 1) (v := 0) 1 1 (-2147483648) 2147483647 (by omega) (by omega) (by omega) (by decide +kernel) (by omega) (by omega) (by unfold i32; omega)
  have r2 := ws r1 (i := 34) (v := 0) 34 34 0 10 (by omega) (by omega) (by omega) (by decide +kernel) (by omega) (by omega) (by unfold i32; omega)
  have r3 := wY_lines r2 (i := 0) (v := 0) (ix := (0, 0, 0, 0)) (lo := 0) (hi := 24) (by decide +kernel) (pt 0) (by omega) (by omega) (by unfold i32; omega)
  have r4 := wu r3 (v := 0) (by omega) (by omega)
  generalize hg4 : wr (wr (wr (wr g 198 1 0) 198 34 0) 195 0 0) 182 25 0 = g4 at *
  have f4 : ∀ a i, ¬ muG a i → rd g4 a i = rd h a i := by
    intro a i hn
    rw [← hg4, rd_wr, if_neg, rd_wr, if_neg, rd_wr, if_neg, rd_wr, if_neg]
    · exact gf a i (fun q => hn (by unfold muG; omega))
    all_goals (rintro ⟨rfl, rfl⟩; exact hn (by unfold muG; omega))
  have w4 : ∀ p, 0 ≤ p → p ≤ 5 → rd g4 198 (0 + 2 + p) = rd h 188 (117 + 4 * p) := by
    intro p p0 p1
    rw [← hg4, rdw_ne (by decide), rdw_ne (by decide), rdw_nei (by omega), rdw_nei (by omega)]
    exact gw p p0 p1
  have u4 : rd g4 182 25 = 0 := by
    rw [← hg4]
    exact rdw_eq
  have u34 : rd g4 198 34 = 0 := by
    rw [← hg4, rdw_ne (by decide), rdw_ne (by decide)]
    exact rdw_eq
  have u1 : rd g4 198 1 = 0 := by
    rw [← hg4, rdw_ne (by decide), rdw_ne (by decide), rdw_nei (by decide)]
    exact rdw_eq
  have sd4 : sdx 0 g4 := by
    have e8 : ∀ i, rd g4 188 i = rd g 188 i := fun i => by rw [← hg4, rdw_ne (by decide), rdw_ne (by decide), rdw_ne (by decide), rdw_ne (by decide)]
    have e9 : ∀ i, i ≠ 1 → i ≠ 34 → rd g4 198 i = rd g 198 i := fun i n1 n2 => by rw [← hg4, rdw_ne (by decide), rdw_ne (by decide), rdw_nei (fun z => n2 z.symm), rdw_nei (fun z => n1 z.symm)]
    refine ⟨(e9 0 (by decide) (by decide)).trans gsd.1, fun p p0 p1 => ?_, fun d d0 d1 => (e9 _ (by omega) (by omega)).trans (gsd.2.2 d d0 d1)⟩
    rw [e8, e8, e9 _ (by omega) (by omega), e9 _ (by omega) (by omega), e9 _ (by omega) (by omega)]
    exact gsd.2.1 p p0 p1
  refine B_begins_5 (RF_of gr) ?_
  rw [hg4]
  have loop : ∀ (n : Nat) (q : LH) (v : Int), 4 - v ≤ n → 0 ≤ v → v ≤ 4 → RNG q → (∀ m, 0 ≤ m → m < v → rd q 199 m = 0) → (∀ a i, a ≠ 199 → rd q a i = rd g4 a i) → Rn xs xl e mm_begins 34 [some (.inr (.inr 182)), some (.inl v)] [] q Q := by
    have stop : ∀ (q : LH), RNG q → (∀ m, 0 ≤ m → m < 4 → rd q 199 m = 0) → (∀ a i, a ≠ 199 → rd q a i = rd g4 a i) → Q none q := by
      intro q qr qm qf
      have qh : ∀ a i, ¬ muG a i → rd q a i = rd h a i := fun a i hn => (qf a i (fun z => hn (by unfold muG; omega))).trans (f4 a i hn)
      have s4 : SP4 q := SP4_of (fun b j hb n1 n2 n3 => qh b j (by unfold muG; unfold sens at hb; omega)) hs
      refine k q ⟨qr, s4.1, s4.2.1, s4.2.2.1, s4.2.2.2, ?_, fun m m0 m1 z => ?_, fun j j0 j1 z => ?_⟩ qh qm ⟨(qf 198 34 (by decide)).trans u34, (qf 182 25 (by decide)).trans u4, (qf 198 1 (by decide)).trans u1, (qf 198 0 (by decide)).trans sd4.1, fun p p0 p1 => by rw [qf 198 _ (by decide), qf 198 _ (by decide), qf 198 _ (by decide), qf 188 _ (by decide), qf 188 _ (by decide)]; exact sd4.2.1 p p0 p1, fun d d0 d1 => (qf 198 _ (by decide)).trans (sd4.2.2 d d0 d1)⟩
      · intro p p0 p1 p2
        rw [qf 198 _ (by decide), w4 p p0 p1, qh 188 0 (by unfold muG; omega)]
        rw [qh 188 2 (by unfold muG; omega)] at p2
        exact hs.2.2.2.2 p p0 p1 p2
      · rw [qm m m0 m1] at z
        cases z
      · rw [qf 182 25 (by decide), u4] at z
        omega
    intro n
    induction n with
    | zero =>
      intro q v hn v0 v1 qr qm qf
      exact B_begins_34 (RF_of qr) ⟨fun _ => stop q qr (fun m m0 m1 => qm m m0 (by omega)) qf, fun c => by omega⟩
    | succ n ih =>
      intro q v hn v0 v1 qr qm qf
      refine B_begins_34 (RF_of qr) ⟨fun _ => stop q qr (fun m m0 m1 => qm m m0 (by omega)) qf, fun c => ⟨by omega, by omega, ih _ (v + 1) (by omega) (by omega) (by omega) (wR_isMarked qr (by omega) (by omega)) (fun m m0 m1 => ?_) (fun a i hn => ?_)⟩⟩
      · rw [rd_wr]
        split
        · rfl
        · exact qm m m0 (by omega)
      · rw [rdw_ne (fun q => hn q.symm)]
        exact qf a i hn
  exact loop 4 g4 0 (by omega) (by omega) (by omega) r4 (fun m _ _ => by omega) (fun _ _ _ => rfl)
end SC9
end
section
/-! the quarter as read, part q2: the reference keeps the fields -/
def rDk (T : Int → Int) (n : Int) (V : Int → Int) (g : LH) (ND : List Nat) : Prop := ∀ i : Nat, i < ND.length → 1 ≤ ND.getD i 0 ∧ ∀ j : Nat, j < 8 → rd g 188 (8 * (i : Int) + 154 + (j : Int)) = (dfl (tO T n) (tV T n 37) (tW T n 37 V) (tP T n) (ND.getD i 0 - 1)).getD j 0
def rPk (T : Int → Int) (n : Int) (V : Int → Int) (g : LH) (NP : List Nat) : Prop := ∀ i : Nat, i < NP.length → 1 ≤ NP.getD i 0 ∧ ∀ j : Nat, j < 4 → rd g 188 (266 + 4 * (i : Int) + (j : Int)) = (pfl (tV T n 37) (tW T n 37 V) (NP.getD i 0 - 1)).getD j 0
def rLk (g : LH) (L : List Int) : Prop := 0 < L.length → rd g 182 13 = L.length + 1 ∧ rd g 189 (1100 + (L.length : Int)) = 0 ∧ ∀ i : Nat, i < L.length → rd g 189 (1100 + i) = cdO (L.getD i 0) ∧ rd g 190 (1100 + i) = cdA (L.getD i 0)
def DRKf (T : Int → Int) (n : Int) (V : Int → Int) (g : LH) (R : Int) (y : QY) : Prop := DRKc T n g R y ∧ rDk T n V g y.2.2.1 ∧ rPk T n V g y.2.2.2.1 ∧ rLk g y.2.2.2.2
/-- the fields of the current quarter -/
def RFD (T : Int → Int) (n : Int) (V : Int → Int) (g : LH) (y : QY) : Prop := rd g 188 1 = (y.2.2.1.length : Int) ∧ rd g 188 2 = (y.2.2.2.1.length : Int) ∧ (∀ i : Nat, i < y.2.2.1.length → 1 ≤ y.2.2.1.getD i 0 ∧ ∀ j : Nat, j < 8 → rd g 188 (8 * (i : Int) + 4 + (j : Int)) = (dfl (tO T n) (tV T n 37) (tW T n 37 V) (tP T n) (y.2.2.1.getD i 0 - 1)).getD j 0) ∧ (∀ i : Nat, i < y.2.2.2.1.length → 1 ≤ y.2.2.2.1.getD i 0 ∧ ∀ j : Nat, j < 4 → rd g 188 (116 + 4 * (i : Int) + (j : Int)) = (pfl (tV T n 37) (tW T n 37 V) (y.2.2.2.1.getD i 0 - 1)).getD j 0) ∧ (y.2.2.2.2.length = 0 → rd g 188 3 < 0) ∧ (0 < y.2.2.2.2.length → 0 ≤ rd g 188 3 ∧ rd g 189 (y.2.2.2.2.length : Int) = 0 ∧ ∀ i : Nat, i < y.2.2.2.2.length → rd g 189 i = cdO (y.2.2.2.2.getD i 0) ∧ rd g 190 i = cdA (y.2.2.2.2.getD i 0))
section QH2
variable {xs : Nat → Int} {xl e : Nat} {h g g1 : LH} {Q : Option LV → LH → Prop} {R : Int} {T : Int → Int} {n : Int} {V : Int → Int} {s : Int × Nat} {N ND NP : List Nat} {L : List Int} {x : Nat} {D : Int} {m : Nat}
theorem rD_same (h : rDk T n V g ND) (f : ∀ i j : Nat, i < ND.length → 0 ≤ j → j < 8 → rd g1 188 (8 * (i : Int) + 154 + (j : Int)) = rd g 188 (8 * (i : Int) + 154 + (j : Int))) : rDk T n V g1 ND := fun i hi => ⟨(h i hi).1, fun j hj => (f i j hi (Nat.zero_le _) hj).trans ((h i hi).2 j hj)⟩
theorem rP_same (h : rPk T n V g NP) (f : ∀ i j : Nat, i < NP.length → 0 ≤ j → j < 4 → rd g1 188 (266 + 4 * (i : Int) + (j : Int)) = rd g 188 (266 + 4 * (i : Int) + (j : Int))) : rPk T n V g1 NP := fun i hi => ⟨(h i hi).1, fun j hj => (f i j hi (Nat.zero_le _) hj).trans ((h i hi).2 j hj)⟩
theorem rL_same (h : rLk g L) (e : rd g1 182 13 = rd g 182 13) (f : ∀ a i, a = 189 ∨ a = 190 → rd g1 a i = rd g a i) : rLk g1 L := fun hl => by
  obtain ⟨a, b, c⟩ := h hl
  exact ⟨e.trans a, (f _ _ (Or.inl rfl)).trans b, fun i hi => ⟨(f _ _ (Or.inl rfl)).trans (c i hi).1, (f _ _ (Or.inr rfl)).trans (c i hi).2⟩⟩
theorem rD_app (h : rDk T n V g ND) (f : ∀ i j : Nat, i < ND.length → 0 ≤ j → j < 8 → rd g1 188 (8 * (i : Int) + 154 + (j : Int)) = rd g 188 (8 * (i : Int) + 154 + (j : Int))) (hn : 1 ≤ x ∧ ∀ j : Nat, j < 8 → rd g1 188 (8 * (ND.length : Int) + 154 + (j : Int)) = (dfl (tO T n) (tV T n 37) (tW T n 37 V) (tP T n) (x - 1)).getD j 0) : rDk T n V g1 (ND ++ [x]) := by
  intro i hi
  rw [List.length_append, List.length_singleton] at hi
  rcases Nat.lt_or_ge i ND.length with u | u
  · rw [getD_l u]
    exact ⟨(h i u).1, fun j hj => (f i j u (Nat.zero_le _) hj).trans ((h i u).2 j hj)⟩
  · have e : i = ND.length := by omega
    subst e
    rw [getD_e]
    exact hn
theorem rP_app (h : rPk T n V g NP) (f : ∀ i j : Nat, i < NP.length → 0 ≤ j → j < 4 → rd g1 188 (266 + 4 * (i : Int) + (j : Int)) = rd g 188 (266 + 4 * (i : Int) + (j : Int))) (hn : 1 ≤ x ∧ ∀ j : Nat, j < 4 → rd g1 188 (266 + 4 * (NP.length : Int) + (j : Int)) = (pfl (tV T n 37) (tW T n 37 V) (x - 1)).getD j 0) : rPk T n V g1 (NP ++ [x]) := by
  intro i hi
  rw [List.length_append, List.length_singleton] at hi
  rcases Nat.lt_or_ge i NP.length with u | u
  · rw [getD_l u]
    exact ⟨(h i u).1, fun j hj => (f i j u (Nat.zero_le _) hj).trans ((h i u).2 j hj)⟩
  · have e : i = NP.length := by omega
    subst e
    rw [getD_e]
    exact hn
theorem rdf_of (hp : ∀ k, 0 ≤ tP T n k) (hz : s.1 = 0) (hd : (drL (tO T n) (tV T n 37) (tW T n 37 V) (tP T n) R N s).1 = 0) (a : rd g 188 (8 * D + 154) = tW T n 37 V (drC (tO T n) (tV T n 37) (tW T n 37 V) (tP T n) R N s).2 - 14 ∧ rd g 188 (8 * D + 154 + 1) = tV T n 37 (drA (tO T n) (tV T n 37) (tW T n 37 V) (tP T n) N s).2 ∧ rd g 188 (8 * D + 154 + 2) = tV T n 37 (drB (tO T n) (tV T n 37) (tW T n 37 V) (tP T n) R N s).2 ∧ drFl T n V g D (drD (tO T n) (tV T n 37) (tW T n 37 V) (tP T n) R N s)) : ∀ j : Nat, j < 8 → rd g 188 (8 * D + 154 + (j : Int)) = (dfl (tO T n) (tV T n 37) (tW T n 37 V) (tP T n) (s.2 + 1 - 1)).getD j 0 := by
  obtain ⟨eA, eB, eC, eD, -, -⟩ := dr_at hp hz (opL_z hd)
  rw [eA, eB, eC, eD] at a
  obtain ⟨a1, a2, a3, a4, a5, a6, a7, a8⟩ := a
  rw [Nat.add_sub_cancel]
  intro j hj
  match j, hj with
  | 0, _ => rw [show 8 * D + 154 + ((0 : Nat) : Int) = 8 * D + 154 by omega]; exact a1
  | 1, _ => exact a2
  | 2, _ => exact a3
  | 3, _ => exact a4
  | 4, _ => exact a5
  | 5, _ => exact a6
  | 6, _ => exact a7
  | 7, _ => exact a8
  | j + 8, q => omega
theorem rpf_of {P : Int} (hp : ∀ k, 0 ≤ tP T n k) (hz : s.1 = 0) (hd : (psL (tO T n) (tV T n 37) (tW T n 37 V) (tP T n) R N s).1 = 0) (a : rd g 188 (266 + 4 * P) = tW T n 37 V (psA (tO T n) (tV T n 37) (tW T n 37 V) (tP T n) N s).2 - 18 ∧ rd g 188 (267 + 4 * P) = tV T n 37 (psB (tO T n) (tV T n 37) (tW T n 37 V) (tP T n) N s).2 ∧ rd g 188 (268 + 4 * P) = tV T n 37 (psC (tO T n) (tV T n 37) (tW T n 37 V) (tP T n) R N s).2 ∧ rd g 188 (269 + 4 * P) = tV T n 37 (psD (tO T n) (tV T n 37) (tW T n 37 V) (tP T n) R N s).2) : ∀ j : Nat, j < 4 → rd g 188 (266 + 4 * P + (j : Int)) = (pfl (tV T n 37) (tW T n 37 V) (s.2 + 1 - 1)).getD j 0 := by
  obtain ⟨eA, eB, eC, eD, -, -, -⟩ := ps_at hp hz hd
  rw [eA, eB, eC, eD] at a
  obtain ⟨a1, a2, a3, a4⟩ := a
  rw [Nat.add_sub_cancel]
  intro j hj
  match j, hj with
  | 0, _ => rw [show 266 + 4 * P + ((0 : Nat) : Int) = 266 + 4 * P by omega]; exact a1
  | 1, _ => rw [show 266 + 4 * P + ((1 : Nat) : Int) = 267 + 4 * P by omega]; exact a2
  | 2, _ => rw [show 266 + 4 * P + ((2 : Nat) : Int) = 268 + 4 * P by omega]; exact a3
  | 3, _ => rw [show 266 + 4 * P + ((3 : Nat) : Int) = 269 + 4 * P by omega]; exact a4
  | j + 4, q => omega
theorem DRKf_T {g' : LH} {y y' : QY} (hd : DRKf T n V g R y) (hf : frT g g') (hy : y'.2 = y.2) : DRKf T n V g' R y' := by
  obtain ⟨d, a, b, c⟩ := hd
  refine ⟨DRKc_T d hf hy, ?_, ?_, ?_⟩
  · rw [hy]; exact rD_same a (fun i j _ _ _ => hf _ _ (by unfold muTK; omega))
  · rw [hy]; exact rP_same b (fun i j _ _ _ => hf _ _ (by unfold muTK; omega))
  · rw [hy]; exact rL_same c (hf _ _ (by unfold muTK; omega)) (fun a i ha => hf _ _ (by unfold muTK; omega))
theorem RFD_of {G : LH} {y : QY} (hd : DRKf T n V G R y) (f8 : ∀ i, 0 ≤ i → i < 150 → rd g 188 i = rd G 188 (i + 150)) (fc : ∀ i, 0 ≤ i → i < rd G 182 13 → rd g 189 i = rd G 189 (i + 1100) ∧ rd g 190 i = rd G 190 (i + 1100)) : RFD T n V g y := by
  obtain ⟨⟨⟨d1, d2, d3, d4, d5, d6, d7, d8, d9, d10⟩, -⟩, dD, dP, dL⟩ := hd
  refine ⟨(f8 1 (by decide) (by decide)).trans d4, (f8 2 (by decide) (by decide)).trans d5, fun i hi => ⟨(dD i hi).1, fun j hj => ?_⟩, fun i hi => ⟨(dP i hi).1, fun j hj => ?_⟩, fun hl => ?_, fun hl => ?_⟩
  · rw [f8 _ (by omega) (by omega), show 8 * (i : Int) + 4 + (j : Int) + 150 = 8 * (i : Int) + 154 + (j : Int) by omega]
    exact (dD i hi).2 j hj
  · rw [f8 _ (by omega) (by omega), show 116 + 4 * (i : Int) + (j : Int) + 150 = 266 + 4 * (i : Int) + (j : Int) by omega]
    exact (dP i hi).2 j hj
  · rw [f8 3 (by decide) (by decide)]; exact (d9 hl).1
  · obtain ⟨a, b, c⟩ := dL hl
    refine ⟨by rw [f8 3 (by decide) (by decide)]; exact d10 hl, ?_, fun i hi => ?_⟩
    · rw [(fc _ (by omega) (by omega)).1, show (y.2.2.2.2.length : Int) + 1100 = 1100 + (y.2.2.2.2.length : Int) by omega]; exact b
    · rw [(fc i (by omega) (by omega)).1, (fc i (by omega) (by omega)).2, show (i : Int) + 1100 = 1100 + (i : Int) by omega]; exact c i hi
/-- behind a text without a fault: copies, a new day, answer 0 -/
theorem DQ_tail4 (he : 41 ≤ e) {G : LH} (gI : INV G) (gq : NQ G) (f0 : rd G 182 8 = 0) (k : ∀ g, INV g → (∀ i, rd g 187 i = rd G 187 i) → (∀ i, 0 ≤ i → i < 150 → rd g 188 i = rd G 188 (i + 150)) → (∀ m, 0 ≤ m → m < 4 → rd g 199 m = 0) → (BGN g ∧ rd g 182 28 = rd G 182 28 ∧ rd g 182 29 = rd G 182 29) → (rd g 182 18 = rd G 182 19 ∧ ∀ i, 0 ≤ i → i < rd G 182 19 → rd g 191 i = rd G 192 i ∧ rd g 193 i = rd G 194 i) → (∀ i, 0 ≤ i → i < rd G 182 13 → rd g 189 i = rd G 189 (i + 1100) ∧ rd g 190 i = rd G 190 (i + 1100)) → Q (some (.inl 0)) g) : Rn xs xl e mm_quarter 129 [some (.inr (.inr 182)), some (.inl 0)] [] G Q := by
  obtain ⟨q1, q2, q3, q4, q5⟩ := gq f0
  have c0 := rF_codes gI.1
  have n0 := rw_doors gI.1
  have n1 := rw_people gI.1
  refine q_copy1 (G := G) (fun g1 r1 c1 f1 => ?_) 150 G 0 (by omega) (by omega) (by omega) gI.1 (fun i i0 i1 => by omega) (fun _ _ _ => rfl)
  have e13 : rd g1 182 13 = rd G 182 13 := f1 _ _ (by omega)
  refine q_copy2 (G := g1) (by omega) (fun g2 r2 c2 f2 => ?_) (rd g1 182 13).toNat g1 0 (by omega) (by omega) (by omega) r1 (fun i i0 i1 => by omega) (fun _ _ _ => rfl)
  refine q_copy3N (G := g2) (fun g3 r3 f3 n3 => ?_) 20 g2 0 (by omega) (by omega) (by omega) r2 (fun _ _ _ => rfl) (fun i i0 i1 => by omega)
  have x188 : ∀ i, 0 ≤ i → i < 150 → rd g3 188 i = rd G 188 (i + 150) := fun i i0 i1 => ((f3 188 i (by omega)).trans (f2 188 i (by omega))).trans (c1 i i0 i1)
  have x0 := x188 0 (by omega) (by omega)
  have x1 := x188 1 (by omega) (by omega)
  have x2 := x188 2 (by omega) (by omega)
  have x3 := x188 3 (by omega) (by omega)
  have s4 : SP4 g3 := by
    have old : ∀ b j, b ≠ 188 → b ≠ 189 → b ≠ 190 → b ≠ 191 → b ≠ 193 → b ≠ 182 → rd g3 b j = rd G b j := fun b j n1 n2 n3 n4 n5 n6 => ((f3 b j (by omega)).trans (f2 b j (by omega))).trans (f1 b j (by omega))
    obtain ⟨⟨h1, h2, h3, h4, h5, h6, h7, h8⟩, hl, ht, hq, hw⟩ := gI.2
    refine ⟨⟨lines_same (fun j => old _ j (by decide) (by decide) (by decide) (by decide) (by decide) (by decide)) (fun j => old _ j (by decide) (by decide) (by decide) (by decide) (by decide) (by decide)) h1, lines_same (fun j => old _ j (by decide) (by decide) (by decide) (by decide) (by decide) (by decide)) (fun j => old _ j (by decide) (by decide) (by decide) (by decide) (by decide) (by decide)) h2, lines_same (fun j => old _ j (by decide) (by decide) (by decide) (by decide) (by decide) (by decide)) (fun j => old _ j (by decide) (by decide) (by decide) (by decide) (by decide) (by decide)) h3, lines_same (fun j => old _ j (by decide) (by decide) (by decide) (by decide) (by decide) (by decide)) (fun j => old _ j (by decide) (by decide) (by decide) (by decide) (by decide) (by decide)) h4, lines_same (fun j => old _ j (by decide) (by decide) (by decide) (by decide) (by decide) (by decide)) (fun j => old _ j (by decide) (by decide) (by decide) (by decide) (by decide) (by decide)) h5, lines_same (fun j => old _ j (by decide) (by decide) (by decide) (by decide) (by decide) (by decide)) (fun j => old _ j (by decide) (by decide) (by decide) (by decide) (by decide) (by decide)) h6, ?_, ?_⟩, ?_, ?_, ?_⟩
    · intro m m0 m1 q
      rw [old 195 _ (by decide) (by decide) (by decide) (by decide) (by decide) (by decide)] at q ⊢
      exact h7 m m0 m1 q
    · intro m m0 m1 j j0 j1 q
      rw [old 200 _ (by decide) (by decide) (by decide) (by decide) (by decide) (by decide)] at q ⊢
      exact h8 m m0 m1 j j0 j1 q
    · intro q
      rw [x3] at q
      rcases q5 with z | ⟨z1, n, z2, z3, z4⟩
      · have := z.1
        rw [show (3 + 150 : Int) = 153 by omega, this] at q
        cases q
      · have cp : ∀ j, 0 ≤ j → j < rd G 182 13 → rd g3 189 j = opR G j ∧ rd g3 190 j = arR G j := by
          intro j j0 j1
          have y := c2 j j0 (by omega)
          unfold opR arR
          rw [f3 189 j (by omega), f3 190 j (by omega), y.1, y.2, f1 189 _ (by omega), f1 190 _ (by omega), show (j + 1100 : Int) = 1100 + j by omega]
          exact ⟨rfl, rfl⟩
        have lt := seg_lt z3
        exact ⟨n, by omega, seg_same z3 (fun j j0 j1 => cp j j0 (by omega)), (cp n (by omega) (by omega)).1.trans z4⟩
    · unfold SPtok
      rw [old 184 _ (by decide) (by decide) (by decide) (by decide) (by decide) (by decide)]
      exact ht
    · refine ⟨fun d d0 d1 d2 => ?_, fun p p0 p1 p2 => ?_⟩
      · rw [x1] at d2
        rw [x188 _ (by omega) (by omega), x188 (6 + 8 * d) (by omega) (by omega), x0, show (5 + 8 * d + 150 : Int) = 155 + 8 * d by omega, show (6 + 8 * d + 150 : Int) = 156 + 8 * d by omega]
        exact q3 d d0 d2
      · rw [x2] at p2
        rw [x188 _ (by omega) (by omega), x0, show (117 + 4 * p + 150 : Int) = 267 + 4 * p by omega]
        exact q4 p p0 p2
  exact ⟨2, by omega, G_beginsX (by omega) r3 s4 (fun g4 i4 f4 m4 w4 v => B_quarter_258 (RF_of i4.1) (k g4 i4 (fun i => by rw [f4 187 i (by unfold muG; omega), f3 187 i (by omega), f2 187 i (by omega), f1 187 i (by omega)]) (fun i i0 i1 => (f4 188 i (by unfold muG; omega)).trans (x188 i i0 i1)) m4 ⟨w4, by rw [f4 182 28 (by unfold muG; omega), f3 182 28 (by omega), f2 182 28 (by omega), f1 182 28 (by omega)], by rw [f4 182 29 (by unfold muG; omega), f3 182 29 (by omega), f2 182 29 (by omega), f1 182 29 (by omega)]⟩ (by
    have o19 : rd g2 182 19 = rd G 182 19 := (f2 _ _ (by omega)).trans (f1 _ _ (by omega))
    rw [o19] at n3
    refine ⟨(f4 182 18 (by unfold muG; omega)).trans n3.1, fun i i0 i1 => ?_⟩
    rw [f4 191 i (by unfold muG; omega), f4 193 i (by unfold muG; omega), (n3.2 i i0 i1).1, (n3.2 i i0 i1).2, f2 192 i (by omega), f2 194 i (by omega), f1 192 i (by omega), f1 194 i (by omega)]
    exact ⟨rfl, rfl⟩) (fun i i0 i1 => by
    have y := c2 i i0 (by omega)
    rw [f4 189 i (by unfold muG; omega), f4 190 i (by unfold muG; omega), f3 189 i (by omega), f3 190 i (by omega), y.1, y.2, f1 189 _ (by omega), f1 190 _ (by omega)]
    exact ⟨rfl, rfl⟩)))⟩
theorem G_quarterF (he : 41 ≤ e) (hI : INV h) (h2 : rd h 182 2 = n) (n0 : 0 ≤ n) (n1 : n ≤ 1000) (hT : ∀ i, 0 ≤ i → i < n → rd h 183 i = T i) (hV : rd h 187 = V) (hi : Vinj V)
    (k : ∀ h', rd h' 187 = V → ((qF (tO T n) (tV T n 37) (tW T n 37 V) (tP T n)).1.1 ≠ 0 → ∀ a i, pq a i → rd h' a i = rd h a i) → ((qF (tO T n) (tV T n 37) (tW T n 37 V) (tP T n)).1.1 = 0 → rd h' 188 0 = qR (tV T n 37) (tW T n 37 V) (tP T n) ∧ (∀ m, 0 ≤ m → m < 4 → rd h' 199 m = 0) ∧ (BGN h' ∧ rd h' 182 28 = rd h 182 28 ∧ rd h' 182 29 = rd h 182 29) ∧ NMK T n h' (qF (tO T n) (tV T n 37) (tW T n 37 V) (tP T n)) ∧ RFD T n V h' (qF (tO T n) (tV T n 37) (tW T n 37 V) (tP T n))) → Q (some (.inl (qF (tO T n) (tV T n 37) (tW T n 37 V) (tP T n)).1.1)) h') : Rn xs xl e mm_quarter 0 [some (.inr (.inr 182)), none] [] h Q := by
  generalize eF : qF (tO T n) (tV T n 37) (tW T n 37 V) (tP T n) = Y at k
  obtain ⟨R, hRq⟩ : ∃ R, R = qR (tV T n 37) (tW T n 37 V) (tP T n) := ⟨_, rfl⟩
  rw [← hRq] at k
  have hp' : ∀ k, 0 ≤ tP T n k := fun k => tP_0 n1 n0 k
  have loop : ∀ (m : Nat) (c : Nat) (g : LH) (y : QY), qL (tO T n) (tV T n 37) (tW T n 37 V) (tP T n) R c y = Y → RSK T n V m g y.1 → INV g → NQ g → (∀ a i, pq a i → rd g a i = rd h a i) → (y.1.1 = 0 → DRKf T n V g R y ∧ 1000 ≤ y.1.2 + c) → Rn xs xl e mm_quarter 52 [some (.inr (.inr 182)), none] [] g Q := by
    intro m c
    induction c with
    | zero =>
      intro g y eY hs gI gq gf hd
      have gF := RF_of gI.1
      have e8 := hs.2.1
      have a7 := hs.2.2.2.1
      have p0 := hs.2.2.1
      have m1 := hs.1.2.2.2.2.1
      have eY' : y = Y := eY
      have stop : Rn xs xl e mm_quarter 115 [some (.inr (.inr 182)), none] [] g Q := by
        refine B_quarter_115 gF ⟨fun q => ?_, fun q => ?_⟩
        · have z : y.1.1 = 0 := by omega
          refine DQ_tail4 he gI gq (e8.trans z) (fun g4 _ f187 f188 f199 f34 fnm fcd => ?_)
          have := k g4 ((funext f187).trans hs.1.2.2.2.2.2.2.2.1)
          rw [← eY', z] at this
          exact this (fun q3 => absurd rfl q3) (fun _ => ⟨(f188 0 (by decide) (by decide)).trans (hd z).1.1.1.2.1, f199, ⟨f34.1, f34.2.1.trans (gf 182 28 (by unfold pq; omega)), f34.2.2.trans (gf 182 29 (by unfold pq; omega))⟩, NMK_of (hd z).1.1 fnm, RFD_of (hd z).1 f188 fcd⟩)
        · have := k g hs.1.2.2.2.2.2.2.2.1
          rw [← eY', ← e8] at this
          exact this (fun _ => gf) (fun q3 => absurd q3 (by omega))
      refine B_quarter_52 gF ⟨fun _ => stop, fun q => ⟨by omega, fun _ => stop, fun q2 => ?_⟩⟩
      have z : y.1.1 = 0 := e8.symm.trans q
      have eo := RS_o hs z
      have lt := RS_lt hs z (fun q3 => q2 (eo.trans q3))
      have := (hd z).2
      omega
    | succ c ih =>
      intro g y eY hs gI gq gf hd
      have gF := RF_of gI.1
      have e8 := hs.2.1
      have a7 := hs.2.2.2.1
      have p0 := hs.2.2.1
      have m1 := hs.1.2.2.2.2.1
      have stop : ¬ (y.1.1 = 0 ∧ tO T n y.1.2 ≠ 0) → Rn xs xl e mm_quarter 115 [some (.inr (.inr 182)), none] [] g Q := by
        intro ns
        have eY' : y = Y := by rw [qL_stop ns] at eY; exact eY
        refine B_quarter_115 gF ⟨fun q => ?_, fun q => ?_⟩
        · have z : y.1.1 = 0 := by omega
          refine DQ_tail4 he gI gq (e8.trans z) (fun g4 _ f187 f188 f199 f34 fnm fcd => ?_)
          have := k g4 ((funext f187).trans hs.1.2.2.2.2.2.2.2.1)
          rw [← eY', z] at this
          exact this (fun q3 => absurd rfl q3) (fun _ => ⟨(f188 0 (by decide) (by decide)).trans (hd z).1.1.1.2.1, f199, ⟨f34.1, f34.2.1.trans (gf 182 28 (by unfold pq; omega)), f34.2.2.trans (gf 182 29 (by unfold pq; omega))⟩, NMK_of (hd z).1.1 fnm, RFD_of (hd z).1 f188 fcd⟩)
        · have := k g hs.1.2.2.2.2.2.2.2.1
          rw [← eY', ← e8] at this
          exact this (fun _ => gf) (fun q3 => absurd q3 (by omega))
      refine B_quarter_52 gF ⟨fun q => stop (fun q3 => q (e8.trans q3.1)), fun q => ⟨by omega, fun q2 => stop (fun q3 => q3.2 ((RS_o hs q3.1).symm.trans q2)), fun q2 => ?_⟩⟩
      have z : y.1.1 = 0 := e8.symm.trans q
      have eo := RS_o hs z
      have no : tO T n y.1.2 ≠ 0 := fun q3 => q2 (eo.trans q3)
      have lt := RS_lt hs z no
      have l7 := (hs.2.2.2.2 z).1
      obtain ⟨D, hc⟩ := hd z
      rw [qL_go ⟨z, no⟩] at eY
      have gp : PB g := ⟨gI, trivial⟩
      have l9 : rd g 182 7 ≤ 999 := by omega
      have t106 : ∀ (g1 : LH) (s1 : Int × Nat), RSK T n V m g1 s1 → PL g g1 → (qS (tO T n) (tV T n 37) (tW T n 37 V) (tP T n) R y).1 = tkS (tO T n) (tV T n 37) (tP T n) 59 s1 → (s1.1 = 0 → DRKf T n V g1 R (qS (tO T n) (tV T n 37) (tW T n 37 V) (tP T n) R y)) → Rn xs xl e mm_quarter 106 [some (.inr (.inr 182)), none] [] g1 Q := by
        generalize qS (tO T n) (tV T n 37) (tW T n 37 V) (tP T n) R y = y' at eY
        intro g1 s1 r1 p1 e1 d1
        have A : Rn xs xl 1 mm_takeSign 0 [some (.inr (.inr 182)), some (.inl 59)] [] g1 (fun r g2 => r = none ∧ RSK T n V m g2 (tkS (tO T n) (tV T n 37) (tP T n) 59 s1) ∧ frT g1 g2) := G_takeSign (by omega) r1 (fun h' a b => ⟨rfl, a, b⟩)
        have B : Rn xs xl 1 mm_takeSign 0 [some (.inr (.inr 182)), some (.inl 59)] [] g1 (fun r g2 => r = none ∧ PG muT g1 g2) := D_takeSign (by omega) p1.1 (fun g2 p2 _ => ⟨rfl, p2⟩)
        refine B_quarter_106 (RF_of p1.1.1.1) ⟨1, by omega, (A.and B).mono (fun r g2 q => ?_)⟩
        obtain ⟨⟨rfl, a1, a2⟩, -, p2⟩ := q
        rw [← e1] at a1
        refine B_quarter_112 p2.rf (ih g2 y' eY a1 p2.inv (NQ_T p2 p1.2.2.1) (fun a i ha => ?_) (fun z' => ?_))
        · unfold pq at ha
          rw [p2.2.2.2 a i (by unfold muT; omega), p1.2.2.2 a i (by unfold muA; omega)]
          exact gf a i ha
        have z8 : rd g2 182 8 = 0 := a1.2.1.trans z'
        have z1 := p2.2.2.1 z8
        have ge := p2.2.1
        have g1' := (p1.2.1 z1).2
        have l2 := (a1.2.2.2.2 z').1
        exact ⟨DRKf_T (d1 (r1.2.1.symm.trans z1)) a2 rfl, by omega⟩
      obtain ⟨⟨⟨d1, d2, d3, d4, d5, d6, d7, d8, d9, d10⟩, C, dC, dR⟩, dD, dP, dL⟩ := D
      refine ⟨0, by omega, G_isWord hs (by omega) (fun _ ew => ?_) (fun nw => ?_)⟩
      · -- a door
        have B : Rn xs xl 5 mm_readDoor 0 [some (.inr (.inr 182)), none, none, none, none] [] g (fun r g1 => r = none ∧ PL g g1) := D_readDoor (by omega) gp gq l9 (e8.trans z) (fun g1 p1 => ⟨rfl, p1⟩)
        by_cases c14 : 14 ≤ y.2.2.1.length
        · have A : Rn xs xl 5 mm_readDoor 0 [some (.inr (.inr 182)), none, none, none, none] [] g (fun r g1 => r = none ∧ RSK T n V m g1 (tkE (tP T n) 5 y.1)) := G_readDoorX hs (by omega) (by omega) (fun h' a b => ⟨rfl, a⟩)
          refine B_quarter_76_1 gF ⟨5, by omega, (A.and B).mono (fun r g1 q => ?_)⟩
          obtain ⟨⟨rfl, a1⟩, -, p1⟩ := q
          have ne := tkE_ne' hs (v1 := 5) (by decide)
          refine B_quarter_83 (RF_of p1.1.1.1) (t106 g1 _ a1 p1 ?_ (fun q3 => absurd q3 ne))
          rw [tkS_f ne]
          unfold qS
          rw [if_pos ew, if_pos c14]
        · have A : Rn xs xl 5 mm_readDoor 0 [some (.inr (.inr 182)), none, none, none, none] [] g (fun r g1 => r = none ∧ RSK T n V m g1 (drL (tO T n) (tV T n 37) (tW T n 37 V) (tP T n) R y.2.1 y.1) ∧ ((drL (tO T n) (tV T n 37) (tW T n 37 V) (tP T n) R y.2.1 y.1).1 = 0 → (NRK T n g1 (y.2.1 ++ [y.1.2 + 1]) ∧ CDK g1 (C ++ [(y.2.2.1.length : Int)])) ∧ rd g1 188 151 = (y.2.2.1.length : Int) + 1 ∧ (rd g1 188 (8 * (y.2.2.1.length : Int) + 154) = tW T n 37 V (drC (tO T n) (tV T n 37) (tW T n 37 V) (tP T n) R y.2.1 y.1).2 - 14 ∧ rd g1 188 (8 * (y.2.2.1.length : Int) + 154 + 1) = tV T n 37 (drA (tO T n) (tV T n 37) (tW T n 37 V) (tP T n) y.2.1 y.1).2 ∧ rd g1 188 (8 * (y.2.2.1.length : Int) + 154 + 2) = tV T n 37 (drB (tO T n) (tV T n 37) (tW T n 37 V) (tP T n) R y.2.1 y.1).2 ∧ drFl T n V g1 (y.2.2.1.length : Int) (drD (tO T n) (tV T n 37) (tW T n 37 V) (tP T n) R y.2.1 y.1))) ∧ (∀ a i, ¬ muDR (y.2.2.1.length : Int) a i → rd g1 a i = rd g a i)) := G_readDoorC (by omega) hs z no d1 dC (by omega) d2 d3 d4 (by omega) (fun h' a b f => ⟨rfl, a, fun q3 => b q3, f⟩)
          refine B_quarter_76_1 gF ⟨5, by omega, (A.and B).mono (fun r g1 q => ?_)⟩
          obtain ⟨⟨rfl, a1, a2, a3⟩, -, p1⟩ := q
          refine B_quarter_83 (RF_of p1.1.1.1) (t106 g1 _ a1 p1 ?_ (fun q3 => ?_))
          · unfold qS
            rw [if_pos ew, if_neg c14]
          · obtain ⟨b1, b2, bF⟩ := a2 q3
            have DF := rD_app (x := y.1.2 + 1) dD (fun i j i0 j0 j1 => a3 188 _ (by unfold muDR muNK; omega)) ⟨Nat.le_add_left 1 _, rdf_of hp' z q3 bF⟩
            have PF := rP_same dP (fun i j i0 j0 j1 => a3 188 _ (by unfold muDR muNK; omega))
            have LF := rL_same dL (a3 182 13 (by unfold muDR muNK; omega)) (fun a i ha => a3 a i (by unfold muDR muNK; omega))
            unfold DRKf DRKc DRK qS
            rw [if_pos ew, if_neg c14]
            rw [a3 188 150 (by unfold muDR muNK; omega), a3 188 152 (by unfold muDR muNK; omega), a3 188 153 (by unfold muDR muNK; omega), a3 182 13 (by unfold muDR muNK; omega), b2]
            simp only [List.length_append, List.length_singleton]
            exact ⟨⟨⟨b1.1, d2, d3, by omega, d5, by omega, by omega, d8, d9, d10⟩, _, b1.2, CRel_d dR⟩, DF, PF, LF⟩
      · refine B_quarter_76_0 gF ⟨0, by omega, G_isWord hs (by omega) (fun _ ew => ?_) (fun nw7 => ?_)⟩
        · have n1' := nw z
          have B : Rn xs xl 5 mm_readPerson 0 [some (.inr (.inr 182)), none, none] [] g (fun r g1 => r = none ∧ PL g g1) := D_readPerson (by omega) gp gq l9 (e8.trans z) (fun g1 p1 => ⟨rfl, p1⟩)
          by_cases c6 : 6 ≤ y.2.2.2.1.length
          · have A : Rn xs xl 5 mm_readPerson 0 [some (.inr (.inr 182)), none, none] [] g (fun r g1 => r = none ∧ RSK T n V m g1 (tkE (tP T n) 5 y.1)) := B_readPerson_0 gF ⟨fun q3 => by omega, fun _ => ⟨0, by omega, G_wrong hs (by omega) (fun h1 s1 f1 => B_readPerson_20 s1.1.1 ⟨rfl, s1⟩)⟩⟩
            refine B_quarter_92_1 gF ⟨5, by omega, (A.and B).mono (fun r g1 q => ?_)⟩
            obtain ⟨⟨rfl, a1⟩, -, p1⟩ := q
            have ne := tkE_ne' hs (v1 := 5) (by decide)
            refine B_quarter_99 (RF_of p1.1.1.1) (t106 g1 _ a1 p1 ?_ (fun q3 => absurd q3 ne))
            rw [tkS_f ne]
            unfold qS
            rw [if_neg n1', if_pos ew, if_pos c6]
          · have A : Rn xs xl 5 mm_readPerson 0 [some (.inr (.inr 182)), none, none] [] g (fun r g1 => r = none ∧ RSK T n V m g1 (psL (tO T n) (tV T n 37) (tW T n 37 V) (tP T n) R y.2.1 y.1) ∧ ((psL (tO T n) (tV T n 37) (tW T n 37 V) (tP T n) R y.2.1 y.1).1 = 0 → (NRK T n g1 (y.2.1 ++ [y.1.2 + 1]) ∧ CDK g1 (C ++ [(y.2.2.2.1.length : Int) + 20])) ∧ rd g1 188 152 = (y.2.2.2.1.length : Int) + 1 ∧ (rd g1 188 (266 + 4 * (y.2.2.2.1.length : Int)) = tW T n 37 V (psA (tO T n) (tV T n 37) (tW T n 37 V) (tP T n) y.2.1 y.1).2 - 18 ∧ rd g1 188 (267 + 4 * (y.2.2.2.1.length : Int)) = tV T n 37 (psB (tO T n) (tV T n 37) (tW T n 37 V) (tP T n) y.2.1 y.1).2 ∧ rd g1 188 (268 + 4 * (y.2.2.2.1.length : Int)) = tV T n 37 (psC (tO T n) (tV T n 37) (tW T n 37 V) (tP T n) R y.2.1 y.1).2 ∧ rd g1 188 (269 + 4 * (y.2.2.2.1.length : Int)) = tV T n 37 (psD (tO T n) (tV T n 37) (tW T n 37 V) (tP T n) R y.2.1 y.1).2)) ∧ (∀ a i, ¬ muP (y.2.2.2.1.length : Int) a i → rd g1 a i = rd g a i)) := G_readPersonC (by omega) hs z no d1 dC (by omega) d2 d3 d5 (by omega) (fun h' a b f => ⟨rfl, a, fun q3 => b q3, f⟩)
            refine B_quarter_92_1 gF ⟨5, by omega, (A.and B).mono (fun r g1 q => ?_)⟩
            obtain ⟨⟨rfl, a1, a2, a3⟩, -, p1⟩ := q
            refine B_quarter_99 (RF_of p1.1.1.1) (t106 g1 _ a1 p1 ?_ (fun q3 => ?_))
            · unfold qS
              rw [if_neg n1', if_pos ew, if_neg c6]
            · obtain ⟨b1, b2, bF⟩ := a2 q3
              have PF := rP_app (x := y.1.2 + 1) dP (fun i j i0 j0 j1 => a3 188 _ (by unfold muP muNK; omega)) ⟨Nat.le_add_left 1 _, rpf_of hp' z q3 bF⟩
              have DF := rD_same dD (fun i j i0 j0 j1 => a3 188 _ (by unfold muP muNK; omega))
              have LF := rL_same dL (a3 182 13 (by unfold muP muNK; omega)) (fun a i ha => a3 a i (by unfold muP muNK; omega))
              unfold DRKf DRKc DRK qS
              rw [if_neg n1', if_pos ew, if_neg c6]
              rw [a3 188 150 (by unfold muP muNK; omega), a3 188 151 (by unfold muP muNK; omega), a3 188 153 (by unfold muP muNK; omega), a3 182 13 (by unfold muP muNK; omega), b2]
              simp only [List.length_append, List.length_singleton]
              exact ⟨⟨⟨b1.1, d2, d3, d4, by omega, by omega, d7, by omega, d9, d10⟩, _, b1.2, CRel_p dR⟩, DF, PF, LF⟩
        · have n1' := nw z
          have n7' := nw7 z
          have B : Rn xs xl 39 mm_readLet 0 [some (.inr (.inr 182))] [] g (fun r g1 => r = none ∧ PL g g1) := D_readLet (by omega) gp gq (e8.trans z) (fun g1 p1 => ⟨rfl, p1⟩)
          have h13 : rd g 188 153 < 0 → rd g 182 13 = 0 := by
            intro q3
            rcases Nat.eq_zero_or_pos y.2.2.2.2.length with u | u
            · exact (d9 u).2
            · have := d10 u
              omega
          by_cases w11 : tW T n 37 V y.1.2 = 11
          · by_cases cl : 0 < y.2.2.2.2.length
            · have A : Rn xs xl 39 mm_readLet 0 [some (.inr (.inr 182))] [] g (fun r g1 => r = none ∧ RSK T n V m g1 (tkE (tP T n) 3 y.1)) := G_readLet (by omega) hs z (fun q3 => absurd w11 q3) (fun _ _ h' a b => ⟨rfl, a⟩) h13 (fun _ q3 => absurd (d10 cl) (by omega))
              refine B_quarter_92_0 gF ⟨39, by omega, (A.and B).mono (fun r g1 q => ?_)⟩
              obtain ⟨⟨rfl, a1⟩, -, p1⟩ := q
              have ne := tkE_ne' hs (v1 := 3) (by decide)
              refine t106 g1 _ a1 p1 ?_ (fun q3 => absurd q3 ne)
              rw [tkS_f ne]
              unfold qS
              rw [if_neg n1', if_neg n7', if_pos w11, if_pos cl]
            · have d9' := d9 (by omega)
              have A : Rn xs xl 39 mm_readLet 0 [some (.inr (.inr 182))] [] g (fun r g1 => r = none ∧ RSK T n V m g1 (qX (tO T n) (tV T n 37) (tW T n 37 V) (tP T n) y.1).1 ∧ rd g1 188 153 = 0 ∧ ((qX (tO T n) (tV T n 37) (tW T n 37 V) (tP T n) y.1).1.1 = 0 → rd g1 182 13 = (qX (tO T n) (tV T n 37) (tW T n 37 V) (tP T n) y.1).2.length + 1 ∧ rd g1 189 (1100 + ((qX (tO T n) (tV T n 37) (tW T n 37 V) (tP T n) y.1).2.length : Int)) = 0 ∧ ∀ i : Nat, i < (qX (tO T n) (tV T n 37) (tW T n 37 V) (tP T n) y.1).2.length → rd g1 189 (1100 + i) = cdO ((qX (tO T n) (tV T n 37) (tW T n 37 V) (tP T n) y.1).2.getD i 0) ∧ rd g1 190 (1100 + i) = cdA ((qX (tO T n) (tV T n 37) (tW T n 37 V) (tP T n) y.1).2.getD i 0)) ∧ (∀ a i, ¬ muLL a i → rd g1 a i = rd g a i)) := G_readLet (by omega) hs z (fun q3 => absurd w11 q3) (fun _ q3 => absurd q3 (by omega)) h13 (fun _ _ h' a b cc f => ⟨rfl, a, b, cc, f⟩)
              refine B_quarter_92_0 gF ⟨39, by omega, (A.and B).mono (fun r g1 q => ?_)⟩
              obtain ⟨⟨rfl, a1, a2, aL, a3⟩, -, p1⟩ := q
              refine t106 g1 _ a1 p1 ?_ (fun q3 => ?_)
              · unfold qS
                rw [if_neg n1', if_neg n7', if_pos w11, if_neg cl]
              · have ln := qX_len (fun j => tP_0 hs.1.2.2.2.2.2.2.1 hs.1.2.2.2.2.2.1 j) q3
                have DF := rD_same (g1 := g1) dD (fun i j i0 j0 j1 => a3 188 _ (by unfold muLL muLK; omega))
                have PF := rP_same (g1 := g1) dP (fun i j i0 j0 j1 => a3 188 _ (by unfold muLL muLK; omega))
                have LF : rLk g1 (qX (tO T n) (tV T n 37) (tW T n 37 V) (tP T n) y.1).2 := fun _ => aL q3
                unfold DRKf DRKc DRK qS
                rw [if_neg n1', if_neg n7', if_pos w11, if_neg cl]
                rw [a3 188 150 (by unfold muLL muLK; omega), a3 188 151 (by unfold muLL muLK; omega), a3 188 152 (by unfold muLL muLK; omega), a2]
                have dn : NRK T n g1 y.2.1 := by
                  refine ⟨(a3 182 19 (by unfold muLL muLK; omega)).trans d1.1, fun i hi => ?_⟩
                  rw [a3 192 _ (by unfold muLL muLK; omega), a3 194 _ (by unfold muLL muLK; omega)]
                  exact d1.2 i hi
                exact ⟨⟨⟨dn, d2, d3, d4, d5, d6, d7, d8, fun q4 => absurd q4 (Nat.ne_of_gt ln), fun _ => Int.le_refl 0⟩, C, CDK_fr dC (a3 182 19 (by unfold muLL muLK; omega)) (fun i => a3 194 i (by unfold muLL muLK; omega)), dR⟩, DF, PF, LF⟩
          · have A : Rn xs xl 39 mm_readLet 0 [some (.inr (.inr 182))] [] g (fun r g1 => r = none ∧ RSK T n V m g1 (tkE (tP T n) 1 y.1)) := G_readLet (by omega) hs z (fun _ h' a b => ⟨rfl, a⟩) (fun q3 => absurd q3 w11) h13 (fun q3 => absurd q3 w11)
            refine B_quarter_92_0 gF ⟨39, by omega, (A.and B).mono (fun r g1 q => ?_)⟩
            obtain ⟨⟨rfl, a1⟩, -, p1⟩ := q
            have ne := tkE_ne' hs (v1 := 1) (by decide)
            refine t106 g1 _ a1 p1 ?_ (fun q3 => absurd q3 ne)
            rw [tkS_f ne]
            unfold qS
            rw [if_neg n1', if_neg n7', if_neg w11]
  have i0 : INV (wr h 182 0 0) := wF_thrown hI (by omega) (by omega)
  have A0 : Rn xs xl 2 mm_cutAll 0 [some (.inr (.inr 182)), none, none, none, none, none, none] [] (wr h 182 0 0) (fun r h1 => r = none ∧ ∃ m : Nat, (∀ j : Nat, j ≤ m → RTK T n h1 j) ∧ tO T n m = 0 ∧ (∀ j : Nat, j < m → tO T n j ≠ 0) ∧ m ≤ 1000) := F_cutAll (by omega) (RF_of i0.1) ((rdw_nei (by decide)).trans h2) n0 n1 (fun i i0 i1 => (rdw_ne (by decide)).trans (hT i i0 i1)) (fun h' m c1 c2 c3 c4 _ _ _ _ => ⟨rfl, m, c1, c2, c3, c4⟩)
  have B0 : Rn xs xl 2 mm_cutAll 0 [some (.inr (.inr 182)), none, none, none, none, none, none] [] (wr h 182 0 0) (fun r h1 => r = none ∧ INV h1 ∧ rd h1 182 7 = 0 ∧ rd h1 182 8 = 0 ∧ rd h1 182 2 = 0 ∧ (∀ a i, ¬ muC a i → rd h1 a i = rd (wr h 182 0 0) a i)) := D_cutAll (by omega) i0 (fun h1 i1 a1 f1 t1 fr1 => ⟨rfl, i1, a1, f1, t1, fr1⟩)
  refine B_quarter_0 (RF_of hI.1) ⟨2, by omega, (A0.and B0).mono (fun r h1 q => ?_)⟩
  obtain ⟨⟨rfl, m, c1, c2, c3, c4⟩, -, i1, a1, f1, t1, fr1⟩ := q
  have i2 : INV (wr (wr h1 182 13 0) 182 19 0) := wF_readMany (wF_codes i1 (by omega) (by omega)) (by omega) (by omega)
  refine B_quarter_9 (RF_of i1.1) ⟨0, by omega, D_stands i2 (fun h3 i3 m3 z3 fr3 => ?_)⟩
  have e3 : ∀ a i, ¬ (a = 188 ∧ 150 ≤ i) → ¬ (a = 182 ∧ (i = 13 ∨ i = 19)) → rd h3 a i = rd h1 a i := by
    intro a i n1 n2
    rw [fr3 a i n1, rd_wr, if_neg, rd_wr, if_neg] <;> (rintro ⟨rfl, rfl⟩; exact n2 (by omega))
  have x3 : rd h3 182 13 = 0 := (fr3 _ _ (by omega)).trans ((rdw_nei (by decide)).trans rdw_eq)
  have m3' : rd h3 182 19 = 0 := (fr3 _ _ (by omega)).trans rdw_eq
  have s3 : RSK T n V m h3 (0, 0) := by
    refine ⟨⟨RF_of i3.1, fun j hj => ?_, c2, c3, c4, n0, n1, ?_, hi⟩, ?_, Int.le_refl 0, ?_, fun _ => ⟨?_, Nat.zero_le _⟩⟩
    · obtain ⟨r1, r2, r3⟩ := c1 j hj
      exact ⟨(e3 _ _ (by omega) (by omega)).trans r1, (e3 _ _ (by omega) (by omega)).trans r2, fun q1 q2 => (e3 _ _ (by omega) (by omega)).trans (r3 q1 q2)⟩
    · rw [← hV]
      funext i
      rw [e3 _ _ (by omega) (by omega), fr1 _ _ (by unfold muC; omega), rdw_ne (by decide)]
    · rw [e3 _ _ (by omega) (by omega), f1]
    · rw [e3 _ _ (by omega) (by omega), a1]; decide
    · rw [e3 _ _ (by omega) (by omega), a1]; rfl
  have A4 : Rn xs xl 2 mm_takeWord 0 [some (.inr (.inr 182)), some (.inl 0)] [] h3 (fun r h4 => r = none ∧ RSK T n V m h4 (tkW (tW T n 37 V) (tP T n) 0 (0, 0))) := G_takeWord (by omega) s3 (by omega) (fun h' a b => ⟨rfl, a⟩)
  have B4 : Rn xs xl 2 mm_takeWord 0 [some (.inr (.inr 182)), some (.inl 0)] [] h3 (fun r h4 => r = none ∧ PG muT h3 h4) := D_takeWord (by omega) ⟨i3, trivial⟩ (by omega) (fun h4 p4 => ⟨rfl, p4⟩)
  refine B_quarter_26 (RF_of i3.1) ⟨2, by omega, (A4.and B4).mono (fun r h4 q => ?_)⟩
  obtain ⟨⟨rfl, s4⟩, -, p4⟩ := q
  have A5 : Rn xs xl 1 mm_takeNumber 0 [some (.inr (.inr 182)), some (.inl 2), some (.inl 10)] [] h4 (fun r h5 => ∃ x, r = some (.inl x) ∧ RSK T n V m h5 (tkN (tO T n) (tV T n 37) (tP T n) 2 10 (tkW (tW T n 37 V) (tP T n) 0 (0, 0))) ∧ ((tkN (tO T n) (tV T n 37) (tP T n) 2 10 (tkW (tW T n 37 V) (tP T n) 0 (0, 0))).1 = 0 → x = qR (tV T n 37) (tW T n 37 V) (tP T n))) := G_takeNumber (by omega) s4 ⟨by unfold i32; omega, by unfold i32; omega⟩ (fun h' r a _ b _ => ⟨r, rfl, a, fun q3 => (b q3).1⟩)
  have B5 : Rn xs xl 1 mm_takeNumber 0 [some (.inr (.inr 182)), some (.inl 2), some (.inl 10)] [] h4 (fun r h5 => ∃ x, r = some (.inl x) ∧ PG muT h4 h5 ∧ (rd h5 182 8 = 0 → 2 ≤ x ∧ x ≤ 10) ∧ (rd h5 182 8 ≠ 0 → x = 0)) := D_takeNumber (by omega) p4.1 (by unfold i32; omega) (by unfold i32; omega) (fun r h5 p5 a5 b5 => ⟨r, rfl, p5, fun q3 => ⟨(a5 q3).1, (a5 q3).2.1⟩, b5⟩)
  refine B_quarter_31 p4.rf ⟨1, by omega, (A5.and B5).mono (fun r h5 q => ?_)⟩
  obtain ⟨⟨x, rfl, s5, q5⟩, x', ex, p5, a5, b5⟩ := q
  cases ex
  have rb : 0 ≤ x ∧ x ≤ 10 := by
    by_cases z : rd h5 182 8 = 0
    · have := a5 z; omega
    · have := b5 z; omega
  have i6 : INV (wr h5 188 150 x) := wq_rooms p5.inv rb.1 rb.2
  have A7 : Rn xs xl 1 mm_takeSign 0 [some (.inr (.inr 182)), some (.inl 59)] [] (wr h5 188 150 x) (fun r h7 => r = none ∧ RSK T n V m h7 (qA (tO T n) (tV T n 37) (tW T n 37 V) (tP T n))) := G_takeSign (by omega) (RSK_w s5) (fun h' a b => ⟨rfl, a⟩)
  have B7 : Rn xs xl 1 mm_takeSign 0 [some (.inr (.inr 182)), some (.inl 59)] [] (wr h5 188 150 x) (fun r h7 => r = none ∧ PG muT (wr h5 188 150 x) h7) := D_takeSign (by omega) ⟨i6, trivial⟩ (fun h7 p7 _ => ⟨rfl, p7⟩)
  refine B_quarter_45 p5.rf ⟨1, by omega, (A7.and B7).mono (fun r h7 q => ?_)⟩
  obtain ⟨⟨rfl, s7⟩, -, p7⟩ := q
  have p45 := p4.trans p5
  have e7 : ∀ a i, ¬ muT a i → ¬ (a = 188 ∧ i = 150) → rd h7 a i = rd h3 a i := by
    intro a i n1 n2
    rw [p7.2.2.2 a i n1, rd_wr, if_neg (by rintro ⟨rfl, rfl⟩; exact n2 ⟨rfl, rfl⟩)]
    exact p45.2.2.2 a i n1
  have y : ∀ i, i ≠ 150 → rd h7 188 i = rd h3 188 i := fun i hi => e7 188 i (by unfold muT; omega) (by omega)
  have y0 : rd h7 188 150 = x := (p7.2.2.2 _ _ (by unfold muT; omega)).trans rdw_eq
  have y1 : rd h7 188 151 = 0 := (y 151 (by decide)).trans (z3 151 (by decide) (by decide) (by decide))
  have y2 : rd h7 188 152 = 0 := (y 152 (by decide)).trans (z3 152 (by decide) (by decide) (by decide))
  have y3 : rd h7 188 153 = -1 := (y 153 (by decide)).trans m3
  have yc : rd h7 182 13 = 0 := (e7 182 13 (by unfold muT; omega) (by omega)).trans x3
  have yn : rd h7 182 19 = 0 := (e7 182 19 (by unfold muT; omega) (by omega)).trans m3'
  refine loop m 1000 h7 (qB (tO T n) (tV T n 37) (tW T n 37 V) (tP T n)) (by rw [hRq]; exact eF) s7 p7.inv (fun z => ?_) (fun a i ha => ?_) (fun z => ⟨?_, ?_⟩)
  · have z6 := p7.2.2.1 z
    rw [rdw_ne (by decide)] at z6
    have r2 := a5 z6
    refine ⟨by omega, by omega, fun d d0 d1 => by omega, fun p p0 p1 => by omega, Or.inl ⟨y3, yc⟩⟩
  · unfold pq at ha
    rw [e7 a i (by unfold muT; omega) (by omega), e3 a i (by omega) (by omega), fr1 a i (by unfold muC; omega), rd_wr, if_neg (by omega)]
  · have z5 : (tkN (tO T n) (tV T n 37) (tP T n) 2 10 (tkW (tW T n 37 V) (tP T n) 0 (0, 0))).1 = 0 := tkS_z z
    have ex := q5 z5
    refine ⟨⟨⟨⟨yn, fun i hi => absurd hi (Nat.not_lt_zero i)⟩, y0.trans (ex.trans hRq.symm), by rw [hRq, ← ex]; exact rb, y1, y2, rfl, Nat.zero_le 14, Nat.zero_le 6, fun _ => ⟨by omega, yc⟩, fun q3 => absurd q3 (Nat.lt_irrefl 0)⟩, [], ⟨yn, fun i hi => absurd hi (Nat.not_lt_zero i)⟩, CRel_0⟩, fun i hi => absurd hi (Nat.not_lt_zero i), fun i hi => absurd hi (Nat.not_lt_zero i), fun hi => absurd hi (Nat.lt_irrefl 0)⟩
  · omega
end QH2
end
section
/-! doors by sort and hour, part qc: what leadsTo is determined to answer is inF -/
/-- the reference's quarter with this law, no price put in -/
def LRQ (h : LH) (L : List Int) : Prop := (L.length = 0 → rd h 188 3 < 0) ∧ (0 < L.length → rd h 188 3 = 0 ∧ rd h 189 (L.length : Int) = 0 ∧ ∀ i : Nat, i < L.length → rd h 189 i = cdO (L.getD i 0) ∧ rd h 190 i = cdA (L.getD i 0)) ∧ L.length ≤ 1000 ∧ hOk 32 L 0 ∧ (0 < L.length → hEnd L 0 = 1) ∧ ∀ c ∈ L, cdR c
section QMc
variable {h : LH} {d s room hr sh : Int} {L : List Int} {f : Int → Int}
theorem LF_in (hI : INV h) (hd : 0 ≤ d ∧ d ≤ 13) (hs : 0 ≤ s ∧ s ≤ 3) (hro : 0 ≤ room ∧ room ≤ 9) (hhr : 0 ≤ hr ∧ hr ≤ 25) (hf : ∀ j : Nat, j < 8 → f ((j : Int) + 1) = rd h 188 (8 * d + 4 + (j : Int))) (h2 : 0 ≤ f 2 ∧ f 2 ≤ 9) (h3 : 0 ≤ f 3 ∧ f 3 ≤ 9) (h6 : -1 ≤ f 6) (p1 : rd h 182 28 = -1) (p2 : rd h 182 29 = -1) (hl : LRQ h L) : LF (key h) d s room hr sh 0 = inF f L s room hr sh d := by
  obtain ⟨l0, l1, l3, hO, hE, hr'⟩ := hl
  have a := (LF_ok (key h) sh 0 hd hs hro hhr).2.2.2 (fun _ => 0) 0 3 h (fun r _ => r = some (.inl (LF (key h) d s room hr sh 0))) (by decide) hI rfl (fun _ _ _ => rfl)
  have b := G_leadsTo0 (xs := fun _ => 0) (xl := 0) (e := 3) (s := s) (room := room) (hr := hr) (sh := sh) (Q := fun r _ => r = some (.inl (inF f L s room hr sh d))) (by decide) hd (RF_of hI.1) hf h2 h3 h6 (by omega) (by omega) l0 l1 l3 hO hE hr' (fun _ => rfl)
  obtain ⟨_, r, _, _, e1, e2⟩ := a.and b
  rw [e1] at e2
  injection e2 with e3
  injection e3 with e4
end QMc
end
section
/-! the scene, part s3: a scene of the class and a block of the reference are alike -/
/-- bit p of x is v -/
def bt (x p v : Int) : Prop := (v = 0 ∧ ¬ bitZ x p) ∨ (v = 1 ∧ bitZ x p)
def SR (h : LH) (sc b : Int) : Prop := rd h sc 0 = rd h 198 b ∧ rd h sc 1 = rd h 198 (b + 1) ∧ (∀ p, 0 ≤ p → p < rd h 188 2 → rd h (sc + 1) p = rd h 198 (b + p + 2) ∧ bt (rd h sc 3) p (rd h 198 (b + p + 8)) ∧ bt (rd h sc 2) p (rd h 198 (b + p + 14))) ∧ (∀ d, 0 ≤ d → d < 14 → rd h (sc + 2) d = rd h 198 (b + d + 20) ∧ 0 ≤ rd h 198 (b + d + 20) ∧ rd h 198 (b + d + 20) ≤ 9) ∧ ∀ p, rd h 188 2 ≤ p → p < 32 → ¬ bitZ (rd h sc 3) p
section SC3
variable {h g k : LH} {sc b p d q : Int} {L : List Int}
theorem bt_1 {x v : Int} (hb : bt x p v) : v ≠ 1 ↔ ¬ bitZ x p := by
  unfold bt at hb
  constructor
  · intro a c
    rcases hb with z | z
    · exact z.2 c
    · exact a z.1
  · intro a c
    rcases hb with z | z
    · omega
    · exact a z.2
/-- the class keeps its scene apart from what the reference writes, and the other way about -/
theorem SR_fr (hs : SR h sc b) (f1 : ∀ a i, (a = sc ∨ a = sc + 1 ∨ a = sc + 2) → rd g a i = rd h a i) (f2 : ∀ i, b ≤ i → i < b + 34 → rd g 198 i = rd h 198 i) (f3 : rd g 188 2 = rd h 188 2) (hp : 0 ≤ rd h 188 2 ∧ rd h 188 2 ≤ 6) : SR g sc b := by
  obtain ⟨s1, s2, s3, s4, s5⟩ := hs
  refine ⟨?_, ?_, fun p p0 p1 => ?_, fun d d0 d1 => ?_, fun p p0 p1 => ?_⟩
  · rw [f1 _ _ (Or.inl rfl), f2 b (by omega) (by omega)]; exact s1
  · rw [f1 _ _ (Or.inl rfl), f2 (b + 1) (by omega) (by omega)]; exact s2
  · rw [f3] at p1
    rw [f1 _ _ (Or.inr (Or.inl rfl)), f1 sc _ (Or.inl rfl), f1 sc _ (Or.inl rfl), f2 _ (by omega) (by omega), f2 _ (by omega) (by omega), f2 _ (by omega) (by omega)]
    exact s3 p p0 p1
  · rw [f1 _ _ (Or.inr (Or.inr rfl)), f2 _ (by omega) (by omega)]
    exact s4 d d0 d1
  · rw [f3] at p0
    rw [f1 sc _ (Or.inl rfl)]
    exact s5 p p0 p1
theorem go_same (hs : SR h sc b) (hI : INV h) (hd : 0 ≤ d ∧ d < rd h 188 1) (hp : 0 ≤ p ∧ p < rd h 188 2) (hd' : rd h 188 1 ≤ 14) (fd : ∀ j : Nat, j < 8 → rd h (q + 7 + d) ((j : Int) + 1) = rd h 188 (8 * d + 4 + (j : Int))) (fp : rd h (q + 21 + p) 1 = rd h 188 (4 * p + 116)) (hs3 : 0 ≤ rd h 188 (4 * p + 116) ∧ rd h 188 (4 * p + 116) ≤ 3) (hro : 0 ≤ rd h 198 (b + p + 2) ∧ rd h 198 (b + p + 2) ≤ 9) (hhr : 0 ≤ rd h 198 b ∧ rd h 198 b ≤ 24) (h2 : 0 ≤ rd h (q + 7 + d) 2 ∧ rd h (q + 7 + d) 2 ≤ 9) (h3 : 0 ≤ rd h (q + 7 + d) 3 ∧ rd h (q + 7 + d) 3 ≤ 9) (h6 : -1 ≤ rd h (q + 7 + d) 6) (p1 : rd h 182 28 = -1) (p2 : rd h 182 29 = -1) (hl : LRQ h L) : tryF h q sc L p d = goF h b p d := by
  obtain ⟨s1, s2, s3, s4, s5⟩ := hs
  obtain ⟨a1, -, a3⟩ := s3 p hp.1 hp.2
  have f7 : rd h (q + 7 + d) 7 = rd h 188 (8 * d + 10) := (fd 6 (by decide)).trans (by rw [show 8 * d + 4 + ((6 : Nat) : Int) = 8 * d + 10 by omega])
  unfold tryF goF NW
  rw [s1, s2, (s4 d hd.1 (by omega)).1, a1, fp, f7]
  have b3 := bt_1 a3
  by_cases c : rd h 198 (b + p + 14) ≠ 1 ∧ rd h 198 (b + d + 20) < rd h 188 (8 * d + 10)
  · rw [if_pos c]
    by_cases c2 : rd h 198 b < 24
    · rw [if_pos c2, if_pos ⟨c2, b3.mp c.1, c.2⟩]
      exact (LF_in hI (by omega) hs3 hro (by omega) fd h2 h3 h6 p1 p2 hl).symm
    · rw [if_neg c2, if_neg (fun z => c2 z.1)]
  · rw [if_neg c, if_neg (fun z => c ⟨b3.mpr z.2.1, z.2.2⟩)]
end SC3
end
section
/-! the scene, part s4: alike after both have gone -/
section SC4
variable {h g : LH} {sc b p d r c : Int}
/-- in scene sc one has gone: r the room, c where his errand is -/
def wntC (sc p d r c : Int) (h g : LH) : Prop := rd g sc 0 = rd h sc 0 ∧ rd g sc 1 = rd h sc 1 ∧ rd g sc 2 = zor (rd h sc 2) (zshl 1 p) ∧ rd g sc 3 = zor (rd h sc 3) (if r = c then zshl 1 p else 0) ∧ (∀ i, 0 ≤ i → i < 6 → rd g (sc + 1) i = if i = p then r else rd h (sc + 1) i) ∧ ∀ i, 0 ≤ i → i < 14 → rd g (sc + 2) i = if i = d then w32 (rd h (sc + 2) d + 1) else rd h (sc + 2) i
def wntR (b p d r : Int) (h g : LH) : Prop := rd g 198 (b + p + 2) = r ∧ rd g 198 (b + p + 14) = 1 ∧ rd g 198 (b + d + 20) = rd h 198 (b + d + 20) + 1 ∧ rd g 198 (b + p + 8) = (if r = rd h 188 (4 * p + 118) then 1 else rd h 198 (b + p + 8)) ∧ ∀ i, b ≤ i → i < b + 34 → ¬ (i = b + p + 2 ∨ i = b + p + 14 ∨ i = b + d + 20 ∨ i = b + p + 8) → rd g 198 i = rd h 198 i
theorem SR_went (hs : SR h sc b) (hp : 0 ≤ p ∧ p < rd h 188 2) (hpp : rd h 188 2 ≤ 6) (hd : 0 ≤ d ∧ d < 14) (hct : rd h 198 (b + d + 20) < 9) (ec : c = rd h 188 (4 * p + 118)) (k188 : rd g 188 2 = rd h 188 2) (hc : wntC sc p d r c h g) (hr : wntR b p d r h g) : SR g sc b := by
  obtain ⟨s1, s2, s3, s4, s5⟩ := hs
  obtain ⟨c0, c1, c2, c3, cw, ct⟩ := hc
  obtain ⟨g1, g2, g3, g4, k198⟩ := hr
  rw [← ec] at g4
  have bd : ∀ x, 0 ≤ x → x < 32 → (bitZ (rd g sc 3) x ↔ bitZ (rd h sc 3) x ∨ r = c ∧ x = p) := fun x x0 x1 => by
    rw [c3, bit_or x0 x1]
    by_cases z : r = c
    · rw [if_pos z, bit_shl hp.1 (by omega) x0 x1]
      exact ⟨fun y => y.elim Or.inl (fun y => Or.inr ⟨z, y⟩), fun y => y.elim Or.inl (fun y => Or.inr y.2)⟩
    · rw [if_neg z]
      exact ⟨fun y => y.elim Or.inl (fun y => absurd y bit_zero), fun y => y.elim Or.inl (fun y => absurd y.1 z)⟩
  have bg : ∀ x, 0 ≤ x → x < 32 → (bitZ (rd g sc 2) x ↔ bitZ (rd h sc 2) x ∨ x = p) := fun x x0 x1 => by
    rw [c2, bit_or x0 x1, bit_shl hp.1 (by omega) x0 x1]
  refine ⟨?_, ?_, fun x x0 x1 => ?_, fun x x0 x1 => ?_, fun x x0 x1 => ?_⟩
  · rw [c0, k198 b (by omega) (by omega) (by omega)]; exact s1
  · rw [c1, k198 (b + 1) (by omega) (by omega) (by omega)]; exact s2
  · rw [k188] at x1
    obtain ⟨a1, a2, a3⟩ := s3 x x0 x1
    by_cases z : x = p
    · subst z
      refine ⟨by rw [cw x x0 (by omega), if_pos rfl, g1], ?_, Or.inr ⟨g2, (bg x x0 (by omega)).mpr (Or.inr rfl)⟩⟩
      rw [g4]
      unfold bt
      rw [bd x x0 (by omega)]
      by_cases y : r = c
      · rw [if_pos y]
        exact Or.inr ⟨rfl, Or.inr ⟨y, rfl⟩⟩
      · rw [if_neg y]
        unfold bt at a2
        exact a2.elim (fun w => Or.inl ⟨w.1, fun v => v.elim w.2 (fun v => y v.1)⟩) (fun w => Or.inr ⟨w.1, Or.inl w.2⟩)
    · rw [cw x x0 (by omega), if_neg z, k198 (b + x + 2) (by omega) (by omega) (by omega), k198 (b + x + 8) (by omega) (by omega) (by omega), k198 (b + x + 14) (by omega) (by omega) (by omega)]
      refine ⟨a1, ?_, ?_⟩
      · unfold bt at a2 ⊢
        rw [bd x x0 (by omega)]
        exact a2.elim (fun w => Or.inl ⟨w.1, fun v => v.elim w.2 (fun v => z v.2)⟩) (fun w => Or.inr ⟨w.1, Or.inl w.2⟩)
      · unfold bt at a3 ⊢
        rw [bg x x0 (by omega)]
        exact a3.elim (fun w => Or.inl ⟨w.1, fun v => v.elim w.2 (fun v => z v)⟩) (fun w => Or.inr ⟨w.1, Or.inl w.2⟩)
  · rw [ct x x0 x1]
    have e := s4 d hd.1 hd.2
    by_cases z : x = d
    · rw [if_pos z, z, g3, e.1]
      exact ⟨w32_id (by unfold i32; omega), by omega, by omega⟩
    · rw [if_neg z, k198 (b + x + 20) (by omega) (by omega) (by omega)]
      exact s4 x x0 x1
  · rw [k188] at x0
    rw [bd x (by omega) x1]
    exact fun v => v.elim (s5 x x0 x1) (fun v => by omega)
end SC4
end
section
/-! the scene, part s8: what is kept for undo -/
theorem zfm16 : ∀ n : Nat, n < 32 → zfm (n : Int) 16 = (n : Int) % 16 := by decide +kernel
theorem zfm16' {a : Int} (h0 : 0 ≤ a) (h1 : a < 32) : zfm a 16 = a % 16 := by
  have := zfm16 a.toNat (by omega)
  rw [Int.toNat_of_nonneg h0] at this
  exact this
theorem scn_past {k : Int} (h0 : 0 ≤ k) (h1 : k < 16) : scn (134 + 3 * k) := by
  unfold scn
  exact Or.inr (Or.inr (Or.inr (Or.inr (Or.inr (Or.inr ⟨by omega, by omega, by omega⟩)))))
theorem scn_60 : scn 60 := Or.inl rfl
theorem scn_68 : scn 68 := Or.inr (Or.inl rfl)
theorem scn_m {m : Int} (h0 : 0 ≤ m) (h1 : m < 4) : scn (103 + 8 * m) := by
  unfold scn
  rcases (show m = 0 ∨ m = 1 ∨ m = 2 ∨ m = 3 by omega) with rfl | rfl | rfl | rfl
  · exact Or.inr (Or.inr (Or.inl rfl))
  · exact Or.inr (Or.inr (Or.inr (Or.inl rfl)))
  · exact Or.inr (Or.inr (Or.inr (Or.inr (Or.inl rfl))))
  · exact Or.inr (Or.inr (Or.inr (Or.inr (Or.inr (Or.inl rfl)))))
/-- past lies where it was made -/
def PK (h : LH) : Prop := ∀ i, 0 ≤ i → i < 16 → rd h 76 i = 134 + 3 * i
/-- what is kept for undo is alike -/
def UN (h : LH) : Prop := (0 ≤ rd h 1 8 ∧ rd h 1 8 < 16) ∧ (0 ≤ rd h 1 9 ∧ rd h 1 9 ≤ 16) ∧ rd h 182 25 = rd h 1 9 ∧ ∀ k, 0 ≤ k → k < rd h 1 9 → SR h (134 + 3 * ((rd h 1 8 + k) % 16)) (70 * k + 350)
/-- marks are alike -/
def MKS (h : LH) : Prop := ∀ m, 0 ≤ m → m < 4 → rd h 199 m ≠ 0 → SR h (103 + 8 * m) (70 * m + 70)
/-- the class has kept scene s of h -/
def kpn (h g : LH) : Prop := (rd h 1 9 < 16 → rd g 1 9 = rd h 1 9 + 1 ∧ rd g 1 8 = rd h 1 8) ∧ (rd h 1 9 = 16 → rd g 1 9 = 16 ∧ rd g 1 8 = (rd h 1 8 + 1) % 16)
section SC8
variable {xs : Nat → Int} {xl e : Nat} {h g g' : LH} {Q : Option LV → LH → Prop} {c c' b b' sd : Int}
theorem SR_mv (hs : SR h c b) (hc : scq h g c c') (hb : blq h g b b') (f3 : rd g 188 2 = rd h 188 2) (hp : 0 ≤ rd h 188 2 ∧ rd h 188 2 ≤ 6) : SR g c' b' := by
  obtain ⟨s1, s2, s3, s4, s5⟩ := hs
  obtain ⟨q0, q1, q2⟩ := hc
  have e0 : rd g 198 b' = rd h 198 b := by
    have := hb 0 (by decide) (by decide)
    rw [Int.add_zero, Int.add_zero] at this
    exact this
  refine ⟨?_, ?_, fun p p0 p1 => ?_, fun d d0 d1 => ?_, fun p p0 p1 => ?_⟩
  · rw [q0 0 (by decide) (by decide), e0]; exact s1
  · rw [q0 1 (by decide) (by decide), hb 1 (by decide) (by decide)]; exact s2
  · rw [f3] at p1
    have z := s3 p p0 p1
    rw [q1 p p0 (by omega), q0 3 (by decide) (by decide), q0 2 (by decide) (by decide), show b' + p + 2 = b' + (p + 2) by omega, show b' + p + 8 = b' + (p + 8) by omega, show b' + p + 14 = b' + (p + 14) by omega, hb (p + 2) (by omega) (by omega), hb (p + 8) (by omega) (by omega), hb (p + 14) (by omega) (by omega), show b + (p + 2) = b + p + 2 by omega, show b + (p + 8) = b + p + 8 by omega, show b + (p + 14) = b + p + 14 by omega]
    exact z
  · rw [q2 d d0 d1, show b' + d + 20 = b' + (d + 20) by omega, hb (d + 20) (by omega) (by omega), show b + (d + 20) = b + d + 20 by omega]
    exact s4 d d0 d1
  · rw [f3] at p0
    rw [q0 3 (by decide) (by decide)]
    exact s5 p p0 p1
theorem scq_same (f : ∀ a i, scp c a i → rd g a i = rd h a i) : scq h g c c :=
  ⟨fun i i0 i1 => f _ _ (Or.inl ⟨rfl, i0, i1⟩), fun i i0 i1 => f _ _ (Or.inr (Or.inl ⟨rfl, i0, i1⟩)), fun i i0 i1 => f _ _ (Or.inr (Or.inr ⟨rfl, i0, i1⟩))⟩
theorem UN_keep (hu : UN h) (h0 : SR h 60 0) (hp : 0 ≤ rd h 188 2 ∧ rd h 188 2 ≤ 6) (f3 : rd g 188 2 = rd h 188 2) (kn : kpn h g) (ks : scq h g 60 (134 + 3 * ((rd h 1 8 + rd h 1 9) % 16))) (ko : ∀ j, 0 ≤ j → j < 16 → j ≠ (rd h 1 8 + rd h 1 9) % 16 → scq h g (134 + 3 * j) (134 + 3 * j)) (kx : kpx h g) : UN g := by
  obtain ⟨o1, n1, e1, hs⟩ := hu
  unfold kpn at kn
  unfold kpx at kx
  rw [e1] at kx
  generalize rd h 1 8 = o at *
  generalize rd h 1 9 = n at *
  by_cases c : n < 16
  · obtain ⟨a1, a2⟩ := kn.1 c
    obtain ⟨b1, b2, b3⟩ := kx.1 c
    refine ⟨by omega, by omega, by omega, fun k k0 k1 => ?_⟩
    rw [a1] at k1
    rw [a2]
    by_cases z : k = n
    · subst z
      exact SR_mv h0 ks b3 f3 hp
    · exact SR_mv (hs k k0 (by omega)) (ko _ (by omega) (by omega) (by omega)) (b2 k k0 (by omega)) f3 hp
  · have n16 : n = 16 := by omega
    subst n16
    obtain ⟨a1, a2⟩ := kn.2 rfl
    obtain ⟨b1, b2, b3⟩ := kx.2 rfl
    refine ⟨by omega, by omega, by omega, fun k k0 k1 => ?_⟩
    rw [a1] at k1
    rw [a2]
    by_cases z : k = 15
    · subst z
      rw [show ((o + 1) % 16 + 15) % 16 = (o + 16) % 16 by omega]
      exact SR_mv h0 ks b3 f3 hp
    · have y := hs (k + 1) (by omega) (by omega)
      rw [show ((o + 1) % 16 + k) % 16 = (o + (k + 1)) % 16 by omega]
      have w := b2 k k0 (by omega)
      rw [show 70 * k + 420 = 70 * (k + 1) + 350 by omega] at w
      exact SR_mv y (ko _ (by omega) (by omega) (by omega)) w f3 hp
theorem RF_18 {i v : Int} (hF : RF g) (hi : i = 8 ∨ i = 9) : RF (wr g 1 i v) := by
  rcases hi with rfl | rfl
  · exact RF_wn (by decide +kernel) hF
  · exact RF_wn (by decide +kernel) hF
/-- keepForUndo: the scene sd is kept -/
theorem F_keep (he : 1 ≤ e) (hsd : scn sd) (hs : ∀ k, 0 ≤ k → k < 16 → 134 + 3 * k ≠ sd) (hF : RF h) (hk : PK h) (o1 : 0 ≤ rd h 1 8 ∧ rd h 1 8 < 16) (n1 : 0 ≤ rd h 1 9 ∧ rd h 1 9 ≤ 16) (k : ∀ g, kpn h g → scq h g sd (134 + 3 * ((rd h 1 8 + rd h 1 9) % 16)) → (∀ a i, ¬ scp (134 + 3 * ((rd h 1 8 + rd h 1 9) % 16)) a i → ¬ (a = 1 ∧ (i = 8 ∨ i = 9)) → rd g a i = rd h a i) → RF g → Q none g) : Rn xs xl e mm_OneSided_keepForUndo 0 [some (.inr (.inr 1)), some (.inr (.inr sd))] [] h Q := by
  have ez := zfm16' (a := rd h 1 8 + rd h 1 9) (by omega) (by omega)
  generalize er : (rd h 1 8 + rd h 1 9) % 16 = r at *
  have hr : 0 ≤ r ∧ r < 16 := by omega
  have sr := scn_past hr.1 hr.2
  refine B_OneSided_keepForUndo_0 (sc := 134 + 3 * r) sr (by omega) hsd hF ⟨by omega, by omega, ?_, 0, by omega, F_scopy sr (by omega) hsd (hs r hr.1 hr.2) hF (fun g gq gf gF => ?_)⟩
  · rw [ez]
    exact hk r hr.1 hr.2
  have e8 : rd g 1 8 = rd h 1 8 := gf 1 8 (by unfold scp; omega)
  have e9 : rd g 1 9 = rd h 1 9 := gf 1 9 (by unfold scp; omega)
  have past : ∀ (i v : Int), i = 8 ∨ i = 9 → scq h (wr g 1 i v) sd (134 + 3 * r) := fun i v _ => ⟨fun j j0 j1 => by rw [rdw_ne (by omega)]; exact gq.1 j j0 j1, fun j j0 j1 => by rw [rdw_ne (by omega)]; exact gq.2.1 j j0 j1, fun j j0 j1 => by rw [rdw_ne (by omega)]; exact gq.2.2 j j0 j1⟩
  have fr : ∀ (i v : Int), i = 8 ∨ i = 9 → ∀ a j, ¬ scp (134 + 3 * r) a j → ¬ (a = 1 ∧ (j = 8 ∨ j = 9)) → rd (wr g 1 i v) a j = rd h a j := fun i v hi a j m1 m2 => by
    rw [rd_wr, if_neg (by omega)]
    exact gf a j m1
  refine B_OneSided_keepForUndo_23 hsd gF ⟨fun c => ⟨by omega, k _ ⟨fun z => absurd z (by omega), fun z => ⟨?_, ?_⟩⟩ (past 8 _ (Or.inl rfl)) (fr 8 _ (Or.inl rfl)) (RF_18 gF (Or.inl rfl))⟩, fun c => ⟨by omega, k _ ⟨fun z => ⟨?_, ?_⟩, fun z => absurd z (by omega)⟩ (past 9 _ (Or.inr rfl)) (fr 9 _ (Or.inr rfl)) (RF_18 gF (Or.inr rfl))⟩⟩
  · rw [rdw_nei (by decide), e9]; exact z
  · rw [rdw_eq, e8]; exact zfm16' (by omega) (by omega)
  · rw [rdw_eq, e9]
  · rw [rdw_nei (by decide), e8]
end SC8
end
section
/-! the scene, part sk: the reference's judged leaves all scenes but its own alone -/
section SCk
variable {xs : Nat → Int} {xl e : Nat} {h : LH} {Q : Option LV → LH → Prop}
theorem D_judgedS {v1 : Int} (he : 6 ≤ e) (hI : INV h) (k : ∀ r g, INV g → (∀ a i, a ≠ 196 → a ≠ 197 → (a = 198 → i < 1470) → ¬ (a = 182 ∧ i = 0) → rd g a i = rd h a i) → Q (some (.inl r)) g) : Rn xs xl e mm_judged 0 [some (.inr (.inr 182)), some (.inl v1), none, none, none, none] [] h Q := by
  have i0 : INV (wr h 182 0 0) := wF_thrown hI (by omega) (by omega)
  have f0 : ∀ a i, ¬ (a = 182 ∧ i = 0) → rd (wr h 182 0 0) a i = rd h a i := fun a i n => by
    rw [rd_wr, if_neg (by omega)]
  have wrong : Q (some (.inl (-2))) (wr h 182 0 0) := k _ _ i0 (fun a i _ _ _ n => f0 a i n)
  have np := rq_people hI.1
  have l41 : ∀ (n : Nat) (g : LH) (v2 v3 : Int) (o4 o5 : Option LV), 24 - v3 < n → 0 ≤ v3 → v3 ≤ 24 → (v1 = -1 ∨ (0 ≤ v1 ∧ v1 ≤ 5)) → INV g → (∀ a i, a ≠ 196 → a ≠ 197 → (a = 198 → i < 1470) → ¬ (a = 182 ∧ i = 0) → rd g a i = rd h a i) → Rn xs xl e mm_judged 41 [some (.inr (.inr 182)), some (.inl v1), some (.inl v2), some (.inl v3), o4, o5] [] g Q := by
    intro n
    induction n with
    | zero =>
      intro g v2 v3 o4 o5 hn
      omega
    | succ n ih =>
      intro g v2 v3 o4 o5 hn a0 a1 hv gI gf
      have n0 := rX_lines gI.1 (i := 0) (by omega) (ix := (0, 0, 0, 0)) (lo := 0) (hi := 24) (st := 1) (by decide +kernel) (pt 0)
      have t130 : ∀ (u : LH) (v4 v5 : Int), v3 ≤ 23 → INV u → (∀ a i, a ≠ 196 → a ≠ 197 → (a = 198 → i < 1470) → ¬ (a = 182 ∧ i = 0) → rd u a i = rd h a i) → Rn xs xl e mm_judged 130 [some (.inr (.inr 182)), some (.inl v1), some (.inl v2), some (.inl v3), some (.inl v4), some (.inl v5)] [] u Q := fun u v4 v5 l uI uf => B_judged_130 (RF_of uI.1) ⟨a0, l⟩ ⟨fun _ => ih u _ _ _ _ (by omega) (by omega) (by omega) hv uI uf, fun _ => ⟨fun _ => ih u _ _ _ _ (by omega) (by omega) (by omega) hv uI uf, fun _ => ih u _ _ _ _ (by omega) (by omega) (by omega) hv uI uf⟩⟩
      have t118 : ∀ (u : LH) (v4 v5 : Int), v3 ≤ 23 → INV u → (∀ a i, a ≠ 196 → a ≠ 197 → (a = 198 → i < 1470) → ¬ (a = 182 ∧ i = 0) → rd u a i = rd h a i) → Rn xs xl e mm_judged 118 [some (.inr (.inr 182)), some (.inl v1), some (.inl v2), some (.inl v3), some (.inl v4), some (.inl v5)] [] u Q := fun u v4 v5 l uI uf => B_judged_118 (RF_of uI.1) ⟨fun _ => t130 u v4 v5 l uI uf, fun _ => ⟨0, by omega, D_passes uI (by omega) (by omega) (fun w wI wf _ => t130 w v4 v5 l wI (fun a i n1 n2 n3 n4 => (wf a i (fun q => by have q2 := n3 q.1; omega)).trans (uf a i n1 n2 n3 n4)))⟩⟩
      refine B_judged_41 (RF_of gI.1) ⟨a0, a1⟩ ⟨fun _ => ?_, fun c => ⟨fun c2 => ⟨5, by omega, ?_⟩, fun c2 => ⟨fun _ => t118 g _ _ (by omega) gI gf, fun _ => t118 g _ _ (by omega) gI gf⟩⟩⟩
      · exact B_judged_151 (RF_of gI.1) ⟨fun _ => ⟨by omega, by omega, k _ _ gI gf⟩, fun _ => k _ _ gI gf⟩
      · have p1 := rX_lines gI.1 (i := 2 * v3 + 1) (by omega) (ix := (0, 1, 47, 2)) (lo := -1) (hi := 5) (st := 1) (by decide +kernel) (invs (s := 2) (k := v3) (by omega) (by omega) (by omega))
        have p2 := rX_lines gI.1 (i := 2 * v3 + 2) (by omega) (ix := (0, 2, 48, 2)) (lo := -1) (hi := 13) (st := 1) (by decide +kernel) (invs (s := 2) (k := v3) (by omega) (by omega) (by omega))
        have p3 := (INV4 gI).1.2.2.2.2.2.2.1 v3 a0 (by omega) (by rw [show 1 + 2 * v3 = 2 * v3 + 1 by omega]; exact c2)
        rw [show 1 + 2 * v3 + 1 = 2 * v3 + 2 by omega] at p3
        refine D_goes (by omega) gI (by omega) (by omega) (by omega) (by omega) (fun r u uI r0 r1 _ uf => ?_)
        have fu : ∀ a i, a ≠ 196 → a ≠ 197 → (a = 198 → i < 1470) → ¬ (a = 182 ∧ i = 0) → rd u a i = rd h a i := fun a i n1 n2 n3 n4 => (uf.1 a i n1 n2 (fun q => by have q2 := n3 q.1; omega)).trans (gf a i n1 n2 n3 n4)
        exact B_judged_108 (RF_of uI.1) ⟨fun _ => t118 u _ _ (by omega) uI fu, fun _ => t118 u _ _ (by omega) uI fu⟩
  have go : (v1 = -1 ∨ (0 ≤ v1 ∧ v1 ≤ 5)) → (∃ c, c < e ∧ Rn xs xl c mm_startsDay 0 [some (.inr (.inr 182)), some (.inl 1470), none] [] (wr h 182 0 0) (fun r h' => Rn xs xl e mm_judged 28 [some (.inr (.inr 182)), some (.inl v1), none, none, none, none] (r.toList ++ []) h' Q)) := by
    intro hv
    refine ⟨1, by omega, D_startsDay (by omega) i0.1 (by omega) (by omega) (by omega) (fun u ur _ uf => ?_)⟩
    have uI : INV u := INV_far i0 ur (fun a i n _ _ => uf a i (by omega))
    have r1 := ws ur (i := 1471) (v := 0) 1 1 (-2147483648) 2147483647 (by omega) (by omega) (by omega) (by decide +kernel) (by omega) (by omega) (by unfold i32; omega)
    refine B_judged_28 (RF_of ur) (l41 25 _ _ 0 _ _ (by omega) (by omega) (by omega) hv (INV_ws uI r1 (by omega)) (fun a i n1 n2 n3 n4 => ?_))
    rw [rd_wr, if_neg (fun q => by have q2 := n3 q.1.symm; omega), uf a i (fun q => by have q2 := n3 q.1; omega)]
    exact f0 a i n4
  exact B_judged_0 (RF_of hI.1) (by omega) ⟨fun c => go (by omega), fun _ => ⟨fun _ => wrong, fun c1 => ⟨fun _ => wrong, fun c2 => go (by omega)⟩⟩⟩
end SCk
end
