/-! the scene, part s5: a scene of the class is copied, an hour passes, a day begins -/
/-- places of a scene -/
def scp (c a i : Int) : Prop := (a = c ∧ 0 ≤ i ∧ i < 4) ∨ (a = c + 1 ∧ 0 ≤ i ∧ i < 6) ∨ (a = c + 2 ∧ 0 ≤ i ∧ i < 14)
/-- scene c of g is what scene d of h was -/
def scq (h g : LH) (d c : Int) : Prop := (∀ i, 0 ≤ i → i < 4 → rd g c i = rd h d i) ∧ (∀ i, 0 ≤ i → i < 6 → rd g (c + 1) i = rd h (d + 1) i) ∧ ∀ i, 0 ≤ i → i < 14 → rd g (c + 2) i = rd h (d + 2) i
/-- nothing but scene c has changed -/
def scf (c : Int) (h g : LH) : Prop := ∀ a i, ¬ scp c a i → rd g a i = rd h a i
theorem scn_sep {c d : Int} (h1 : scn c) (h2 : scn d) (hn : c ≠ d) : c + 2 < d ∨ d + 2 < c := by
  unfold scn at h1 h2
  omega
theorem hv_c0 {c : Int} (hc : scn c) : ∀ i : Nat, i < 4 → (hav c (i : Int)).1 ≠ 2 := by
  refine scn_all (P := fun c => ∀ i : Nat, i < 4 → (hav c (i : Int)).1 ≠ 2) hc ?_ ?_ ?_ ?_ ?_ ?_ ?_ <;> decide +kernel
theorem hv_c1 {c : Int} (hc : scn c) : ∀ i : Nat, i < 6 → (hav (c + 1) (i : Int)).1 ≠ 2 := by
  refine scn_all (P := fun c => ∀ i : Nat, i < 6 → (hav (c + 1) (i : Int)).1 ≠ 2) hc ?_ ?_ ?_ ?_ ?_ ?_ ?_ <;> decide +kernel
theorem hv_c2 {c : Int} (hc : scn c) : ∀ i : Nat, i < 14 → (hav (c + 2) (i : Int)).1 ≠ 2 := by
  refine scn_all (P := fun c => ∀ i : Nat, i < 14 → (hav (c + 2) (i : Int)).1 ≠ 2) hc ?_ ?_ ?_ ?_ ?_ ?_ ?_ <;> decide +kernel
theorem RF_sc {h g : LH} {c : Int} (hc : scn c) (hF : RF h) (hf : scf c h g) : RF g := by
  intro a j x hv e
  rw [hf a j ?_]
  · exact hF a j x hv e
  · rintro (⟨rfl, -, z⟩ | ⟨rfl, -, z⟩ | ⟨rfl, -, z⟩)
    · exact hv_c0 hc j (by omega) (by rw [e])
    · exact hv_c1 hc j (by omega) (by rw [e])
    · exact hv_c2 hc j (by omega) (by rw [e])
theorem scf_trans {h g k : LH} {c : Int} (h1 : scf c h g) (h2 : scf c g k) : scf c h k := fun a i n => (h2 a i n).trans (h1 a i n)
section SC5
variable {xs : Nat → Int} {xl e : Nat} {h g : LH} {Q : Option LV → LH → Prop} {sc sd q v1 v : Int}
theorem F_scopy (hsc : scn sc) (hc0 : 60 ≤ sc) (hsd : scn sd) (hne : sc ≠ sd) (hF : RF h) (k : ∀ g, scq h g sd sc → scf sc h g → RF g → Q none g) : Rn xs xl e mm_Scene_copy 0 [some (.inr (.inr sc)), some (.inr (.inr sd))] [] h Q := by
  have sep := scn_sep hsc hsd hne
  refine B_scopy_0 hsc hc0 hsd hne hF ?_
  have w0 : ∀ a i, a ≠ sc → rd (wr (wr (wr (wr h sc 0 (rd h sd 0)) sc 1 (rd h sd 1)) sc 2 (rd h sd 2)) sc 3 (rd h sd 3)) a i = rd h a i := fun a i n => by
    rw [rdw_ne (by omega), rdw_ne (by omega), rdw_ne (by omega), rdw_ne (by omega)]
  have w1 : ∀ i, 0 ≤ i → i < 4 → rd (wr (wr (wr (wr h sc 0 (rd h sd 0)) sc 1 (rd h sd 1)) sc 2 (rd h sd 2)) sc 3 (rd h sd 3)) sc i = rd h sd i := fun i i0 i1 => by
    rcases (show i = 0 ∨ i = 1 ∨ i = 2 ∨ i = 3 by omega) with rfl | rfl | rfl | rfl
    · rw [rdw_nei (by decide), rdw_nei (by decide), rdw_nei (by decide), rdw_eq]
    · rw [rdw_nei (by decide), rdw_nei (by decide), rdw_eq]
    · rw [rdw_nei (by decide), rdw_eq]
    · rw [rdw_eq]
  have w2 : ∀ i, ¬ (0 ≤ i ∧ i < 4) → rd (wr (wr (wr (wr h sc 0 (rd h sd 0)) sc 1 (rd h sd 1)) sc 2 (rd h sd 2)) sc 3 (rd h sd 3)) sc i = rd h sc i := fun i n => by
    rw [rdw_nei (by omega), rdw_nei (by omega), rdw_nei (by omega), rdw_nei (by omega)]
  generalize wr (wr (wr (wr h sc 0 (rd h sd 0)) sc 1 (rd h sd 1)) sc 2 (rd h sd 2)) sc 3 (rd h sd 3) = W at *
  have n1 : ∀ b j, rd (cpyL W (sd + 1) 0 (sc + 1) 0 6 ++ W) b j = if b = sc + 1 ∧ 0 ≤ j ∧ j < 6 then rd W (sd + 1) j else rd W b j := fun b j => rd_cp0 6
  generalize cpyL W (sd + 1) 0 (sc + 1) 0 6 ++ W = H at *
  have f1 : scf sc h H := fun a i n => by
    rw [n1, if_neg (fun z => n (Or.inr (Or.inl z)))]
    by_cases c : a = sc
    · subst c
      exact w2 i (fun z => n (Or.inl ⟨rfl, z⟩))
    · exact w0 a i c
  have F1 := RF_sc hsc hF f1
  refine B_scopy_47 hsc hc0 hsd hne F1 ?_
  have n2 : ∀ b j, rd (cpyL H (sd + 2) 0 (sc + 2) 0 14 ++ H) b j = if b = sc + 2 ∧ 0 ≤ j ∧ j < 14 then rd H (sd + 2) j else rd H b j := fun b j => rd_cp0 14
  generalize cpyL H (sd + 2) 0 (sc + 2) 0 14 ++ H = G at *
  have f2 : scf sc h G := fun a i n => by
    rw [n2, if_neg (fun z => n (Or.inr (Or.inr z)))]
    exact f1 a i n
  have F2 := RF_sc hsc hF f2
  refine B_scopy_62 hsc hc0 hsd F2 (k G ⟨fun i i0 i1 => ?_, fun i i0 i1 => ?_, fun i i0 i1 => ?_⟩ f2 F2)
  · rw [n2, if_neg (by omega), n1, if_neg (by omega)]
    exact w1 i i0 i1
  · rw [n2, if_neg (by omega), n1, if_pos ⟨rfl, i0, i1⟩]
    exact w0 _ i (by omega)
  · rw [n2, if_pos ⟨rfl, i0, i1⟩, n1, if_neg (by omega)]
    exact w0 _ i (by omega)
theorem F_fillT (hsc : scn sc) (hc0 : 60 ≤ sc) (hF : RF h) (k : ∀ g, (∀ i, 0 ≤ i → i < 14 → rd g (sc + 2) i = v) → (∀ a i, ¬ (a = sc + 2 ∧ 0 ≤ i ∧ i < 14) → rd g a i = rd h a i) → Q none g) : Rn xs xl e mm_java_util_Arrays_fill 0 [some (.inr (.inr (sc + 2))), some (.inl v), none, none] [] h Q := by
  have l5 : ∀ (n : Nat) (g : LH) (m : Int), 14 - m ≤ n → 0 ≤ m → m ≤ 14 → (∀ i, 0 ≤ i → i < m → rd g (sc + 2) i = v) → (∀ a i, ¬ (a = sc + 2 ∧ 0 ≤ i ∧ i < 14) → rd g a i = rd h a i) → Rn xs xl e mm_java_util_Arrays_fill 5 [some (.inr (.inr (sc + 2))), some (.inl v), some (.inl m), some (.inl 14)] [] g Q := by
    intro n
    induction n with
    | zero =>
      intro g m hn m0 m1 gv gf
      have gF : RF g := RF_sc hsc hF (fun a i z => gf a i (fun y => z (Or.inr (Or.inr y))))
      exact B_fillT_5 hsc hc0 gF ⟨m0, m1⟩ ⟨fun _ => k g (fun i i0 i1 => gv i i0 (by omega)) gf, fun c => by omega⟩
    | succ n ih =>
      intro g m hn m0 m1 gv gf
      have gF : RF g := RF_sc hsc hF (fun a i z => gf a i (fun y => z (Or.inr (Or.inr y))))
      refine B_fillT_5 hsc hc0 gF ⟨m0, m1⟩ ⟨fun _ => k g (fun i i0 i1 => gv i i0 (by omega)) gf, fun c => ⟨by omega, ih _ (m + 1) (by omega) (by omega) (by omega) (fun i i0 i1 => ?_) (fun a i n => ?_)⟩⟩
      · by_cases z : m = i
        · rw [← z, rdw_eq]
        · rw [rdw_nei z]
          exact gv i i0 (by omega)
      · by_cases z : sc + 2 = a
        · subst z
          rw [rdw_nei (fun y => n ⟨rfl, by omega⟩)]
          exact gf _ i n
        · rw [rdw_ne z]
          exact gf a i n
  exact B_fillT_0 hsc hc0 hF (l5 14 h 0 (by omega) (by omega) (by omega) (fun i i0 i1 => by omega) (fun _ _ _ => rfl))
/-- hours have passed in a scene -/
def spd (c v : Int) (h g : LH) : Prop := rd g c 0 = (if rd h c 0 + v ≤ 24 then rd h c 0 + v else 24) ∧ rd g c 1 = rd h c 1 ∧ rd g c 2 = 0 ∧ rd g c 3 = rd h c 3 ∧ (∀ i, rd g (c + 1) i = rd h (c + 1) i) ∧ (∀ i, 0 ≤ i → i < 14 → rd g (c + 2) i = 0)
theorem F_spass (he : 1 ≤ e) (hsc : scn sc) (hc0 : 60 ≤ sc) (hF : RF h) (hv : 0 ≤ v1 ∧ v1 ≤ 24) (hh : 0 ≤ rd h sc 0 ∧ rd h sc 0 ≤ 24) (k : ∀ g, spd sc v1 h g → scf sc h g → RF g → Q none g) : Rn xs xl e mm_Scene_pass 0 [some (.inr (.inr sc)), some (.inl v1)] [] h Q := by
  refine B_Scene_pass_0 hsc hc0 hF ⟨by omega, fun m hm => ⟨0, by omega, ?_⟩⟩
  have F1 : RF (wr (wr h sc 0 m) sc 2 0) := RF_sc hsc hF (fun a i n => by
    by_cases c : a = sc
    · subst c
      rw [rdw_nei (fun z => n (Or.inl ⟨rfl, by omega⟩)), rdw_nei (fun z => n (Or.inl ⟨rfl, by omega⟩))]
    · rw [rdw_ne (fun z => c z.symm), rdw_ne (fun z => c z.symm)])
  refine F_fillT hsc hc0 F1 (fun g gv gf => ?_)
  have f1 : scf sc h g := fun a i n => by
    rw [gf a i (fun z => n (Or.inr (Or.inr z)))]
    by_cases c : a = sc
    · subst c
      rw [rdw_nei (fun z => n (Or.inl ⟨rfl, by omega⟩)), rdw_nei (fun z => n (Or.inl ⟨rfl, by omega⟩))]
    · rw [rdw_ne (fun z => c z.symm), rdw_ne (fun z => c z.symm)]
  have F2 := RF_sc hsc hF f1
  refine B_Scene_pass_28 hsc hc0 F2 (k g ⟨?_, ?_, ?_, ?_, fun i => ?_, gv⟩ f1 F2)
  · rw [gf _ _ (by omega), rdw_nei (by decide), rdw_eq]
    split <;> omega
  · rw [gf _ _ (by omega), rdw_nei (by decide), rdw_nei (by decide)]
  · rw [gf _ _ (by omega), rdw_eq]
  · rw [gf _ _ (by omega), rdw_nei (by decide), rdw_nei (by decide)]
  · rw [gf _ _ (by omega), rdw_ne (by omega), rdw_ne (by omega)]
/-- a day has begun in a scene: n people, whose cells are at q + 21 -/
def sbg (c q n : Int) (g : LH) : Prop := rd g c 0 = 0 ∧ rd g c 1 = 0 ∧ rd g c 2 = 0 ∧ (∀ p, 0 ≤ p → p < 32 → (bitZ (rd g c 3) p ↔ p < n ∧ rd g (q + 21 + p) 3 = rd g (q + 21 + p) 2)) ∧ (∀ p, 0 ≤ p → p < n → rd g (c + 1) p = rd g (q + 21 + p) 2) ∧ ∀ i, 0 ≤ i → i < 14 → rd g (c + 2) i = 0
theorem F_sbegin (he : 1 ≤ e) (hsc : scn sc) (hc0 : 60 ≤ sc) (hq : q = 5 ∨ q = 32) (hF : RF h) (hP : PT h) (hn : 0 ≤ rd h q 4 ∧ rd h q 4 ≤ 6) (k : ∀ g, sbg sc q (rd h q 4) g → scf sc h g → RF g → Q none g) : Rn xs xl e mm_Scene_begin 0 [some (.inr (.inr sc)), some (.inr (.inr q)), none, none] [] h Q := by
  have l30 : ∀ (n : Nat) (g : LH) (m : Int) (o : Option LV), rd h q 4 - m ≤ n → 0 ≤ m → m ≤ rd h q 4 → rd g sc 0 = 0 → rd g sc 1 = 0 → rd g sc 2 = 0 → (∀ p, 0 ≤ p → p < 32 → (bitZ (rd g sc 3) p ↔ p < m ∧ rd h (q + 21 + p) 3 = rd h (q + 21 + p) 2)) → (∀ p, 0 ≤ p → p < m → rd g (sc + 1) p = rd h (q + 21 + p) 2) → (∀ i, 0 ≤ i → i < 14 → rd g (sc + 2) i = 0) → scf sc h g → Rn xs xl e mm_Scene_begin 30 [some (.inr (.inr sc)), some (.inr (.inr q)), some (.inl m), o] [] g Q := by
    intro n
    have low : ∀ (g : LH), scf sc h g → ∀ a i, a < 60 → rd g a i = rd h a i := fun g gf a i n => gf a i (by unfold scp; omega)
    have stop : ∀ (g : LH) (m : Int), m = rd h q 4 → rd g sc 0 = 0 → rd g sc 1 = 0 → rd g sc 2 = 0 → (∀ p, 0 ≤ p → p < 32 → (bitZ (rd g sc 3) p ↔ p < m ∧ rd h (q + 21 + p) 3 = rd h (q + 21 + p) 2)) → (∀ p, 0 ≤ p → p < m → rd g (sc + 1) p = rd h (q + 21 + p) 2) → (∀ i, 0 ≤ i → i < 14 → rd g (sc + 2) i = 0) → scf sc h g → Q none g := by
      intro g m hm g0 g1 g2 g3 g4 g5 gf
      subst hm
      refine k g ⟨g0, g1, g2, fun p p0 p1 => ?_, fun p p0 p1 => ?_, g5⟩ gf (RF_sc hsc hF gf)
      · rw [g3 p p0 p1]
        constructor
        · rintro ⟨a, b⟩
          exact ⟨a, by rw [low g gf _ _ (by omega), low g gf _ _ (by omega)]; exact b⟩
        · rintro ⟨a, b⟩
          rw [low g gf _ _ (by omega), low g gf _ _ (by omega)] at b
          exact ⟨a, b⟩
      · rw [low g gf (q + 21 + p) 2 (by omega)]
        exact g4 p p0 p1
    induction n with
    | zero =>
      intro g m o hn' m0 m1 g0 g1 g2 g3 g4 g5 gf
      have gF := RF_sc hsc hF gf
      have gP : PT g := PT_fr hP (fun a i ha => low g gf a i (by omega))
      refine B_Scene_begin_30 hsc hc0 hq gF gP ⟨m0, by omega⟩ ⟨fun _ => stop g m (by omega) g0 g1 g2 g3 g4 g5 gf, fun c => ?_⟩
      rw [low g gf _ _ (by omega)] at c
      omega
    | succ n ih =>
      intro g m o hn' m0 m1 g0 g1 g2 g3 g4 g5 gf
      have gF := RF_sc hsc hF gf
      have gP : PT g := PT_fr hP (fun a i ha => low g gf a i (by omega))
      have l4 := low g gf q 4 (by omega)
      refine B_Scene_begin_30 hsc hc0 hq gF gP ⟨m0, by omega⟩ ⟨fun c => stop g m (by omega) g0 g1 g2 g3 g4 g5 gf, fun c => ⟨by omega, ?_⟩⟩
      rw [l4] at c
      have e2 := low g gf (q + 21 + m) 2 (by omega)
      have e3 := low g gf (q + 21 + m) 3 (by omega)
      have step : ∀ z : Int, (∀ p, 0 ≤ p → p < 32 → (bitZ z p ↔ p = m ∧ rd h (q + 21 + p) 3 = rd h (q + 21 + p) 2)) → Rn xs xl e mm_Scene_begin 30 [some (.inr (.inr sc)), some (.inr (.inr q)), some (.inl (m + 1)), some (.inr (.inr (q + 21 + m)))] [] (wr (wr g (sc + 1) m (rd g (q + 21 + m) 2)) sc 3 (zor (rd g sc 3) z)) Q := by
        intro z hz
        refine ih _ (m + 1) _ (by omega) (by omega) (by omega) ?_ ?_ ?_ (fun p p0 p1 => ?_) (fun p p0 p1 => ?_) (fun i i0 i1 => ?_) (fun a i n => ?_)
        · rw [rdw_nei (by decide), rdw_ne (by omega)]; exact g0
        · rw [rdw_nei (by decide), rdw_ne (by omega)]; exact g1
        · rw [rdw_nei (by decide), rdw_ne (by omega)]; exact g2
        · rw [rdw_eq, bit_or p0 p1, g3 p p0 p1, hz p p0 p1]
          constructor
          · rintro (⟨a, b⟩ | ⟨a, b⟩)
            · exact ⟨by omega, b⟩
            · exact ⟨by omega, b⟩
          · rintro ⟨a, b⟩
            by_cases y : p = m
            · exact Or.inr ⟨y, b⟩
            · exact Or.inl ⟨by omega, b⟩
        · rw [rdw_ne (by omega)]
          by_cases y : m = p
          · rw [← y, rdw_eq]; exact e2
          · rw [rdw_nei y]; exact g4 p p0 (by omega)
        · rw [rdw_ne (by omega), rdw_ne (by omega)]; exact g5 i i0 i1
        · by_cases c1 : a = sc
          · subst c1
            rw [rdw_nei (fun z => n (Or.inl ⟨rfl, by omega⟩)), rdw_ne (by omega)]
            exact gf _ i n
          · rw [rdw_ne (fun z => c1 z.symm)]
            by_cases c2 : a = sc + 1
            · subst c2
              rw [rdw_nei (fun z => n (Or.inr (Or.inl ⟨rfl, by omega⟩)))]
              exact gf _ i n
            · rw [rdw_ne (fun z => c2 z.symm)]
              exact gf a i n
      refine ⟨by omega, fun c2 => ?_, fun c2 => ?_⟩
      · refine step 0 (fun p p0 p1 => ⟨fun y => absurd y bit_zero, fun y => ?_⟩)
        have y1 := y.1
        have y2 := y.2
        subst y1
        rw [e2, e3] at c2
        exact absurd y2 c2
      · refine step (zshl 1 m) (fun p p0 p1 => ?_)
        rw [bit_shl m0 (by omega) p0 p1]
        constructor
        · intro y
          subst y
          rw [e2, e3] at c2
          exact ⟨rfl, c2⟩
        · exact fun y => y.1
  refine B_Scene_begin_0 hsc hc0 hq hF ⟨0, by omega, ?_⟩
  have w0 : ∀ a i, a ≠ sc → rd (wr (wr (wr (wr h sc 0 0) sc 1 0) sc 2 0) sc 3 0) a i = rd h a i := fun a i n => by
    rw [rdw_ne (fun z => n z.symm), rdw_ne (fun z => n z.symm), rdw_ne (fun z => n z.symm), rdw_ne (fun z => n z.symm)]
  have w1 : ∀ i, 0 ≤ i → i < 4 → rd (wr (wr (wr (wr h sc 0 0) sc 1 0) sc 2 0) sc 3 0) sc i = 0 := fun i i0 i1 => by
    rcases (show i = 0 ∨ i = 1 ∨ i = 2 ∨ i = 3 by omega) with rfl | rfl | rfl | rfl
    · rw [rdw_nei (by decide), rdw_nei (by decide), rdw_nei (by decide), rdw_eq]
    · rw [rdw_nei (by decide), rdw_nei (by decide), rdw_eq]
    · rw [rdw_nei (by decide), rdw_eq]
    · rw [rdw_eq]
  have w2 : ∀ i, ¬ (0 ≤ i ∧ i < 4) → rd (wr (wr (wr (wr h sc 0 0) sc 1 0) sc 2 0) sc 3 0) sc i = rd h sc i := fun i n => by
    rw [rdw_nei (by omega), rdw_nei (by omega), rdw_nei (by omega), rdw_nei (by omega)]
  generalize wr (wr (wr (wr h sc 0 0) sc 1 0) sc 2 0) sc 3 0 = W at *
  have f1 : scf sc h W := fun a i n => by
    by_cases c : a = sc
    · subst c
      exact w2 i (fun z => n (Or.inl ⟨rfl, z⟩))
    · exact w0 a i c
  have F1 := RF_sc hsc hF f1
  refine F_fillT hsc hc0 F1 (fun g gv gf => ?_)
  have f2 : scf sc h g := fun a i n => (gf a i (fun z => n (Or.inr (Or.inr z)))).trans (f1 a i n)
  have F2 := RF_sc hsc hF f2
  refine B_Scene_begin_28 hsc hc0 hq F2 (l30 (rd h q 4).toNat g 0 none (by omega) (by omega) (by omega) ?_ ?_ ?_ (fun p p0 p1 => ?_) (fun p p0 p1 => by omega) gv f2)
  · rw [gf _ _ (by omega)]; exact w1 0 (by decide) (by decide)
  · rw [gf _ _ (by omega)]; exact w1 1 (by decide) (by decide)
  · rw [gf _ _ (by omega)]; exact w1 2 (by decide) (by decide)
  · rw [gf _ _ (by omega), w1 3 (by decide) (by decide)]
    exact ⟨fun y => absurd y bit_zero, fun y => by omega⟩
end SC5
