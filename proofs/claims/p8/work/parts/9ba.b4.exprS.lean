/-! p3, part b4: the reference reads the law's text: sums, tests, all, parts -/
section CG
variable {T : Int → Int} {n : Int} {V : Int → Int} {m : Nat} {r : Nat} {xs : Nat → Int} {xl : Nat}
theorem exO2 {k : Nat} : exO (tO T n) (tV T n 37) (tW T n 37 V) 2 k = if tO T n k = 3 ∧ tV T n 37 k = 43 then 10009 else if tO T n k = 3 ∧ tV T n 37 k = 45 then 10010 else -1 := by
  unfold exO
  rw [if_neg (by decide), if_neg (by decide), if_pos rfl]
theorem exO1 {k : Nat} : exO (tO T n) (tV T n 37) (tW T n 37 V) 1 k = if tO T n k = 3 ∧ tV T n 37 k = 60 then 10007 else if tO T n k = 3 ∧ tV T n 37 k = 61 then 10008 else -1 := by
  unfold exO
  rw [if_neg (by decide), if_pos rfl]
theorem exO0 {k : Nat} : exO (tO T n) (tV T n 37) (tW T n 37 V) 0 k = if tW T n 37 V k = 23 then 10005 else if tW T n 37 V k = 24 then 10006 else -1 := by
  unfold exO
  rw [if_pos rfl]
theorem on_mono {j : Nat} {y : (Int × Nat) × List Int} (yz : y.1.1 = 0) {c : Nat} (hc : 1000 ≤ y.1.2 + (c + 1)) : 1000 ≤ (exX (tO T n) (tV T n 37) (tW T n 37 V) (exP (tO T n) (tV T n 37) (tW T n 37 V) (tP T n) r) j (tkA y.1, y.2)).1.2 + c := by
  have mo := exX_mono (o := tO T n) (v := tV T n 37) (w := tW T n 37 V) (exP_mono (o := tO T n) (v := tV T n 37) (w := tW T n 37 V) (p := tP T n) r) j (tkA y.1, y.2)
  have e : (tkA y.1).2 = y.1.2 + 1 := by rw [tkA_0 yz]
  have mo' : (tkA y.1).2 ≤ (exX (tO T n) (tV T n 37) (tW T n 37 V) (exP (tO T n) (tV T n 37) (tW T n 37 V) (tP T n) r) j (tkA y.1, y.2)).1.2 := mo
  omega
theorem G_sums (hP : PartR T n V m r) {e : Nat} {g : Int} {h : LH} {x : (Int × Nat) × List Int} {Q : Option LV → LH → Prop} {d : Int} (hd : d = 5 - (r : Int)) (he : 5 + 6 * r ≤ e) (hg : 0 ≤ g) (hx : REK T n V m g h x) (hz : x.1.1 = 0) (k : ∀ h', REK T n V m g h' (exX (tO T n) (tV T n 37) (tW T n 37 V) (exP (tO T n) (tV T n 37) (tW T n 37 V) (tP T n) r) 2 x) → frLK h h' → Q none h') :
    Rn xs xl e mm_sums 0 [some (.inr (.inr 182)), some (.inl d), none] [] h Q := by
  have loop : ∀ (c : Nat) (h1 : LH) (y : (Int × Nat) × List Int) (o2 : Option LV), nL o2 → REK T n V m g h1 y → frLK h h1 → (y.1.1 = 0 → 1000 ≤ y.1.2 + c) → (∀ h', REK T n V m g h' (exL (tO T n) (tV T n 37) (tW T n 37 V) (exX (tO T n) (tV T n 37) (tW T n 37 V) (exP (tO T n) (tV T n 37) (tW T n 37 V) (tP T n) r) 1) 2 c y) → frLK h h' → Q none h') → Rn xs xl e mm_sums 5 [some (.inr (.inr 182)), some (.inl d), o2] [] h1 Q := by
    intro c
    induction c with
    | zero =>
      intro h1 y o2 no2 hy f1 hc kk
      have dead : y.1.1 = 0 → tO T n y.1.2 ≠ 0 → False := fun yz ho => by
        have lt := tO_lt (T := T) (n := n) (k := y.1.2) hy.1.1.2.2.2.2.2.2.1 hy.1.1.2.2.2.2.2.1 ho
        have := hc yz
        omega
      exact B_sums_5 no2 hy.1.1.1 ⟨0, by omega, G_isSign hy.1 (fun yz o3 _ => (dead yz (by omega)).elim) (fun _ => B_sums_11_0 no2 hy.1.1.1 ⟨0, by omega, G_isSign hy.1 (fun yz o3 _ => (dead yz (by omega)).elim) (fun _ => B_sums_20_0 no2 hy.1.1.1 (kk h1 hy f1))⟩)⟩
    | succ c ic =>
      intro h1 y o2 no2 hy f1 hc kk
      have a7 := hy.1.2.2.2.1
      have body : ∀ w0 code : Int, (w0 = 1 ∧ code = 10009) ∨ (w0 = 0 ∧ code = 10010) → y.1.1 = 0 → tO T n y.1.2 = 3 → exO (tO T n) (tV T n 37) (tW T n 37 V) 2 y.1.2 = code → Rn xs xl e mm_sums 29 [some (.inr (.inr 182)), some (.inl d), o2] [.inl w0] h1 Q := by
        intro w0 code hw yz o3 eo
        rw [exL_go yz (by rw [eo]; omega), eo] at kk
        refine B_sums_29 no2 hy.1.1.1 ⟨by omega, 4 + 6 * r, by omega, G_products hP hd (Nat.le_refl _) (by omega) (REK_adv hy yz (by omega)) (by rw [tkA_0 yz]) (fun h3 c3 f3 => ?_)⟩
        have fin : ∀ op : Int, op = cdO code → Rn xs xl 0 mm_emit 0 [some (.inr (.inr 182)), some (.inl op), some (.inl 0)] [] h3 (fun r h' => Rn xs xl e mm_sums 59 [some (.inr (.inr 182)), some (.inl d), some (.inl w0)] (r.toList ++ []) h' Q) := by
          intro op eop
          refine G_emit (by omega) c3 (c := code) eop (by rcases hw with ⟨_, rfl⟩ | ⟨_, rfl⟩ <;> rfl) (fun h4 c4 f4 => ?_)
          rw [show g + 1 - 1 = g by omega] at c4
          exact B_sums_59 c4.1.1.1 (ic h4 _ _ nL_i c4 (((f1.trans fr7.L).trans f3).trans f4) (fun _ => on_mono yz (hc yz)) kk)
        refine B_sums_45 c3.1.1.1 ⟨fun z => ⟨0, by omega, fin 5 ?_⟩, fun z => ⟨0, by omega, fin 4 ?_⟩⟩
        · rcases hw with ⟨z1, rfl⟩ | ⟨z1, rfl⟩
          · omega
          · rfl
        · rcases hw with ⟨z1, rfl⟩ | ⟨z1, rfl⟩
          · rfl
          · omega
      refine B_sums_5 no2 hy.1.1.1 ⟨0, by omega, G_isSign hy.1 (fun yz o3 ev => ?_) (fun n1 => ?_)⟩
      · exact B_sums_11_1 no2 hy.1.1.1 ⟨0, by omega, G_isSign hy.1 (fun _ _ _ => body 1 10009 (Or.inl ⟨rfl, rfl⟩) yz o3 (by rw [exO2, if_pos ⟨o3, ev⟩])) (fun no => absurd ⟨o3, ev⟩ (no yz))⟩
      · refine B_sums_11_0 no2 hy.1.1.1 ⟨0, by omega, G_isSign hy.1 (fun yz o3 ev => ?_) (fun n2 => ?_)⟩
        · exact B_sums_20_1 no2 hy.1.1.1 ⟨0, by omega, G_isSign hy.1 (fun _ o3' ev' => absurd ⟨o3', ev'⟩ (n1 yz)) (fun _ => body 0 10010 (Or.inr ⟨rfl, rfl⟩) yz o3 (by rw [exO2, if_neg (n1 yz), if_pos ⟨o3, ev⟩]))⟩
        · rw [exL_stop (fun z => by rw [exO2, if_neg (n1 z.1), if_neg (n2 z.1)] at z; exact z.2 rfl)] at kk
          exact B_sums_20_0 no2 hy.1.1.1 (kk h1 hy f1)
  exact B_sums_0 hx.1.1.1 ⟨4 + 6 * r, by omega, G_products hP hd (Nat.le_refl _) hg hx hz (fun h1 c1 f1 => loop 1000 h1 _ none nL_n c1 f1 (fun _ => by omega) k)⟩
theorem G_test (hP : PartR T n V m r) {e : Nat} {g : Int} {h : LH} {x : (Int × Nat) × List Int} {Q : Option LV → LH → Prop} {d : Int} (hd : d = 5 - (r : Int)) (he : 6 + 6 * r ≤ e) (hg : 0 ≤ g) (hx : REK T n V m g h x) (hz : x.1.1 = 0) (k : ∀ h', REK T n V m g h' (exX (tO T n) (tV T n 37) (tW T n 37 V) (exP (tO T n) (tV T n 37) (tW T n 37 V) (tP T n) r) 3 x) → frLK h h' → Q none h') :
    Rn xs xl e mm_test 0 [some (.inr (.inr 182)), some (.inl d), none] [] h Q := by
  refine B_test_0 hx.1.1.1 ⟨5 + 6 * r, by omega, G_sums hP hd (Nat.le_refl _) hg hx hz (fun h1 hy f1 => ?_)⟩
  have kk : ∀ h', REK T n V m g h' (exL (tO T n) (tV T n 37) (tW T n 37 V) (exX (tO T n) (tV T n 37) (tW T n 37 V) (exP (tO T n) (tV T n 37) (tW T n 37 V) (tP T n) r) 2) 1 1 (exX (tO T n) (tV T n 37) (tW T n 37 V) (exP (tO T n) (tV T n 37) (tW T n 37 V) (tP T n) r) 2 x)) → frLK h h' → Q none h' := k
  clear k
  generalize exX (tO T n) (tV T n 37) (tW T n 37 V) (exP (tO T n) (tV T n 37) (tW T n 37 V) (tP T n) r) 2 x = y at hy kk
  have body : ∀ (h2 : LH) (w0 code : Int), (w0 = 1 ∧ code = 10007) ∨ (w0 = 0 ∧ code = 10008) → y.1.1 = 0 → exO (tO T n) (tV T n 37) (tW T n 37 V) 1 y.1.2 = code → REK T n V m (g + 1) h2 (tkA y.1, y.2) → frLK h h2 → Rn xs xl (5 + 6 * r) mm_sums 0 [some (.inr (.inr 182)), some (.inl d), none] [] h2 (fun r h' => Rn xs xl e mm_test 35 [some (.inr (.inr 182)), some (.inl d), some (.inl w0)] (r.toList ++ []) h' Q) := by
    intro h2 w0 code hw yz eo y2 f2
    rw [exL_go yz (by rw [eo]; omega), eo] at kk
    refine G_sums hP hd (Nat.le_refl _) (by omega) y2 (by rw [tkA_0 yz]) (fun h3 c3 f3 => ?_)
    have fin : ∀ op : Int, op = cdO code → Rn xs xl 0 mm_emit 0 [some (.inr (.inr 182)), some (.inl op), some (.inl 0)] [] h3 (fun r h' => Rn xs xl e mm_test 51 [some (.inr (.inr 182)), some (.inl d), some (.inl w0)] (r.toList ++ []) h' Q) := by
      intro op eop
      refine G_emit (by omega) c3 (c := code) eop (by rcases hw with ⟨_, rfl⟩ | ⟨_, rfl⟩ <;> rfl) (fun h4 c4 f4 => ?_)
      rw [show g + 1 - 1 = g by omega] at c4
      exact B_test_51 c4.1.1.1 (kk h4 c4 ((f2.trans f3).trans f4))
    refine B_test_35 c3.1.1.1 ⟨fun z => ⟨0, by omega, fin 8 ?_⟩, fun z => ⟨0, by omega, fin 7 ?_⟩⟩
    · rcases hw with ⟨z1, rfl⟩ | ⟨z1, rfl⟩
      · omega
      · rfl
    · rcases hw with ⟨z1, rfl⟩ | ⟨z1, rfl⟩
      · rfl
      · omega
  refine B_test_5 hy.1.1.1 ⟨0, by omega, G_isSign hy.1 (fun yz o3 ev => ?_) (fun n1 => ?_)⟩
  · refine B_test_11 hy.1.1.1 ⟨1, by omega, G_hasSign (by omega) hy.1 (fun h2 _ _ _ s2 f2 => ?_) (fun h2 no _ _ => absurd ⟨o3, ev⟩ (no yz))⟩
    exact B_test_18_1 s2.1.1 ⟨5 + 6 * r, by omega, body h2 1 10007 (Or.inl ⟨rfl, rfl⟩) yz (by rw [exO1, if_pos ⟨o3, ev⟩]) (REK_advT hy yz (by omega) s2 f2) (f1.trans f2.L)⟩
  · refine B_test_11 hy.1.1.1 ⟨1, by omega, G_hasSign (by omega) hy.1 (fun h2 yz o3 ev _ _ => absurd ⟨o3, ev⟩ (n1 yz)) (fun h2 _ s2 f2 => ?_)⟩
    have y2 := REK_same hy s2 f2
    refine B_test_18_0 s2.1.1 ⟨1, by omega, G_hasSign (by omega) s2 (fun h3 yz o3 ev s3 f3 => ?_) (fun h3 n2 s3 f3 => ?_)⟩
    · exact B_test_27_1 s3.1.1 ⟨5 + 6 * r, by omega, body h3 0 10008 (Or.inr ⟨rfl, rfl⟩) yz (by rw [exO1, if_neg (n1 yz), if_pos ⟨o3, ev⟩]) (REK_advT y2 yz (by omega) s3 f3) ((f1.trans f2.L).trans f3.L)⟩
    · rw [exL_stop (fun z => by rw [exO1, if_neg (n1 z.1), if_neg (n2 z.1)] at z; exact z.2 rfl)] at kk
      exact B_test_27_0 s3.1.1 (kk h3 (REK_same y2 s3 f3) ((f1.trans f2.L).trans f3.L))
theorem G_all (hP : PartR T n V m r) {e : Nat} {g : Int} {h : LH} {x : (Int × Nat) × List Int} {Q : Option LV → LH → Prop} {d : Int} (hd : d = 5 - (r : Int)) (he : 7 + 6 * r ≤ e) (hg : 0 ≤ g) (hx : REK T n V m g h x) (hz : x.1.1 = 0) (k : ∀ h', REK T n V m g h' (exX (tO T n) (tV T n 37) (tW T n 37 V) (exP (tO T n) (tV T n 37) (tW T n 37 V) (tP T n) r) 4 x) → frLK h h' → Q none h') :
    Rn xs xl e mm_all 0 [some (.inr (.inr 182)), some (.inl d), none] [] h Q := by
  have loop : ∀ (c : Nat) (h1 : LH) (y : (Int × Nat) × List Int) (o2 : Option LV), nL o2 → REK T n V m g h1 y → frLK h h1 → (y.1.1 = 0 → 1000 ≤ y.1.2 + c) → (∀ h', REK T n V m g h' (exL (tO T n) (tV T n 37) (tW T n 37 V) (exX (tO T n) (tV T n 37) (tW T n 37 V) (exP (tO T n) (tV T n 37) (tW T n 37 V) (tP T n) r) 3) 0 c y) → frLK h h' → Q none h') → Rn xs xl e mm_all 5 [some (.inr (.inr 182)), some (.inl d), o2] [] h1 Q := by
    intro c
    induction c with
    | zero =>
      intro h1 y o2 no2 hy f1 hc kk
      have dead : ∀ z : Int, 0 ≤ z → y.1.1 = 0 → tW T n 37 V y.1.2 = z → False := fun z z0 yz ez => by
        have o1 := tW_o (T := T) (n := n) (b := 37) (W := V) (k := y.1.2) (by omega)
        have lt := tO_lt (T := T) (n := n) (k := y.1.2) hy.1.1.2.2.2.2.2.2.1 hy.1.1.2.2.2.2.2.1 (by omega)
        have := hc yz
        omega
      exact B_all_5 no2 hy.1.1.1 ⟨0, by omega, G_isWord hy.1 (by omega) (fun yz ew => (dead 23 (by decide) yz ew).elim) (fun _ => B_all_11_0 no2 hy.1.1.1 ⟨0, by omega, G_isWord hy.1 (by omega) (fun yz ew => (dead 24 (by decide) yz ew).elim) (fun _ => B_all_20_0 no2 hy.1.1.1 (kk h1 hy f1))⟩)⟩
    | succ c ic =>
      intro h1 y o2 no2 hy f1 hc kk
      have a7 := hy.1.2.2.2.1
      have body : ∀ w0 code : Int, (w0 = 1 ∧ code = 10005) ∨ (w0 = 0 ∧ code = 10006) → y.1.1 = 0 → tO T n y.1.2 = 1 → exO (tO T n) (tV T n 37) (tW T n 37 V) 0 y.1.2 = code → Rn xs xl e mm_all 29 [some (.inr (.inr 182)), some (.inl d), o2] [.inl w0] h1 Q := by
        intro w0 code hw yz o3 eo
        rw [exL_go yz (by rw [eo]; omega), eo] at kk
        refine B_all_29 no2 hy.1.1.1 ⟨by omega, 6 + 6 * r, by omega, G_test hP hd (Nat.le_refl _) (by omega) (REK_adv hy yz (by omega)) (by rw [tkA_0 yz]) (fun h3 c3 f3 => ?_)⟩
        have fin : ∀ op : Int, op = cdO code → Rn xs xl 0 mm_emit 0 [some (.inr (.inr 182)), some (.inl op), some (.inl 0)] [] h3 (fun r h' => Rn xs xl e mm_all 61 [some (.inr (.inr 182)), some (.inl d), some (.inl w0)] (r.toList ++ []) h' Q) := by
          intro op eop
          refine G_emit (by omega) c3 (c := code) eop (by rcases hw with ⟨_, rfl⟩ | ⟨_, rfl⟩ <;> rfl) (fun h4 c4 f4 => ?_)
          rw [show g + 1 - 1 = g by omega] at c4
          exact B_all_61 c4.1.1.1 (ic h4 _ _ nL_i c4 (((f1.trans fr7.L).trans f3).trans f4) (fun _ => on_mono yz (hc yz)) kk)
        refine B_all_45 c3.1.1.1 ⟨fun z => ⟨0, by omega, fin 10 ?_⟩, fun z => ⟨0, by omega, fin 9 ?_⟩⟩
        · rcases hw with ⟨z1, rfl⟩ | ⟨z1, rfl⟩
          · omega
          · rfl
        · rcases hw with ⟨z1, rfl⟩ | ⟨z1, rfl⟩
          · rfl
          · omega
      refine B_all_5 no2 hy.1.1.1 ⟨0, by omega, G_isWord hy.1 (by omega) (fun yz ew => ?_) (fun n1 => ?_)⟩
      · have o1 := tW_o (T := T) (n := n) (b := 37) (W := V) (k := y.1.2) (by omega)
        exact B_all_11_1 no2 hy.1.1.1 ⟨0, by omega, G_isWord hy.1 (by omega) (fun _ _ => body 1 10005 (Or.inl ⟨rfl, rfl⟩) yz o1 (by rw [exO0, if_pos ew])) (fun no => absurd ew (no yz))⟩
      · refine B_all_11_0 no2 hy.1.1.1 ⟨0, by omega, G_isWord hy.1 (by omega) (fun yz ew => ?_) (fun n2 => ?_)⟩
        · have o1 := tW_o (T := T) (n := n) (b := 37) (W := V) (k := y.1.2) (by omega)
          exact B_all_20_1 no2 hy.1.1.1 ⟨0, by omega, G_isWord hy.1 (by omega) (fun _ ew' => absurd ew' (n1 yz)) (fun _ => body 0 10006 (Or.inr ⟨rfl, rfl⟩) yz o1 (by rw [exO0, if_neg (n1 yz), if_pos ew]))⟩
        · rw [exL_stop (fun z => by rw [exO0, if_neg (n1 z.1), if_neg (n2 z.1)] at z; exact z.2 rfl)] at kk
          exact B_all_20_0 no2 hy.1.1.1 (kk h1 hy f1)
  exact B_all_0 hx.1.1.1 ⟨6 + 6 * r, by omega, G_test hP hd (Nat.le_refl _) hg hx hz (fun h1 c1 f1 => loop 1000 h1 _ none nL_n c1 f1 (fun _ => by omega) k)⟩
end CG
