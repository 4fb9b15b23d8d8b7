section
/-! rests, part k8: the reference's rests -/
section KH
variable {xs : Nat → Int} {xl e : Nat} {h g u : LH} {Q : Option LV → LH → Prop} {K : KEY} {S : Int → Int} {r v1 v2 v3 v4 v5 x y p : Int}
/-- the reference's heap while pairs of prices are tried -/
def RU (g u : LH) (one other : Int) : Prop := INV u ∧ (∀ a i, a ≠ 196 → a ≠ 197 → a ≠ 210 → a ≠ 211 → ¬ (a = 182 ∧ (i = 0 ∨ i = 28 ∨ i = 29 ∨ i = 30 ∨ i = 31)) → rd u a i = rd g a i) ∧ rd u 182 28 = one ∧ rd u 182 29 = other
theorem RU_K (hu : RU g u v1 v2) (h1 : rd u 182 30 = x) (h2 : rd u 182 31 = y) : key u = prK (key g) v1 v2 x y := by
  obtain ⟨-, f, e1, e2⟩ := hu
  have e : ∀ a, 188 ≤ a → a ≤ 190 → rd u a = rd g a := fun a a0 a1 => funext (fun i => f a i (by omega) (by omega) (by omega) (by omega) (by omega))
  show (rd u 188, rd u 189, rd u 190, rd u 182 28, rd u 182 29, rd u 182 30, rd u 182 31) = (rd g 188, rd g 189, rd g 190, v1, v2, x, y)
  rw [e 188 (by decide) (by decide), e 189 (by decide) (by decide), e 190 (by decide) (by decide), e1, e2, h1, h2]
theorem RU_211 {i v : Int} (hu : RU g u v1 v2) (hi : 0 ≤ i ∧ i < 200) (hv : i32 v) : RU g (wr u 211 i v) v1 v2 := by
  obtain ⟨a, f, e1, e2⟩ := hu
  exact ⟨wA_rents a hi hv.1 hv.2, fun b j n1 n2 n3 n4 n5 => (rdw_ne (fun z => n4 z.symm)).trans (f b j n1 n2 n3 n4 n5), (rdw_ne (by decide)).trans e1, (rdw_ne (by decide)).trans e2⟩
theorem RU_pr (hu : RU g u v1 v2) (hx : 0 ≤ x ∧ x ≤ 9) (hy : 0 ≤ y ∧ y ≤ 9) : RU g (wr (wr u 182 30 x) 182 31 y) v1 v2 := by
  obtain ⟨a, f, e1, e2⟩ := hu
  refine ⟨wF_priceOther (wF_priceOne a hx.1 hx.2) hy.1 hy.2, fun b j n1 n2 n3 n4 n5 => ?_, ?_, ?_⟩
  · rw [rd_wr, if_neg (by omega), rd_wr, if_neg (by omega)]
    exact f b j n1 n2 n3 n4 n5
  · rw [rdw_nei (by decide), rdw_nei (by decide)]
    exact e1
  · rw [rdw_nei (by decide), rdw_nei (by decide)]
    exact e2
theorem G_restsS (he : 9 ≤ e) (hI : INV h) (hE : EQL h) (gI : INV g) (hj : resJ v1 v2 v3 h g r) (k : ∀ g', INV g' → EQL g' → Q (some (.inl r)) g') : Rn xs xl e mm_rests 0 [some (.inr (.inr 182)), some (.inl v1), some (.inl v2), some (.inl v3), none, none, none, none] [] g Q := by
  obtain ⟨sm, hc⟩ := hj
  have EG : EQL g := EQL_fr hI hE (sm 2 0 (by decide) (by decide) (by omega)) (sm 182 2 (by decide) (by decide) (by omega)) (fun a i ha => by
    obtain ⟨y1, -⟩ := inK_p ha
    by_cases c : a = 9 ∨ a = 36
    · exfalso
      obtain ⟨b, b0, b1, b2, b3⟩ := ha
      unfold kB at b0
      simp only [List.mem_cons, List.not_mem_nil, or_false] at b0
      rcases b0 with rfl | rfl | rfl | rfl | rfl | rfl | rfl | rfl | rfl | rfl | rfl | rfl | rfl | rfl | rfl | rfl | rfl | rfl | rfl | rfl | rfl | rfl <;> simp only at b1 b2 <;> omega
    · exact sm a i (by omega) (by omega) (by omega))
  have ek : key g = key h := key_frs (fun a i _ _ => sm a i (by omega) (by omega) (by omega)) (fun i _ _ => sm 182 i (by decide) (by decide) (by omega))
  have e8 : rd g 198 = rd h 198 := funext (fun i => sm 198 i (by decide) (by decide) (by omega))
  have eC : resC g v1 v2 v3 ↔ resC h v1 v2 v3 := by
    unfold resC
    rw [sm 188 1 (by decide) (by decide) (by omega), sm 188 (8 * v1 + 4) (by decide) (by decide) (by omega), sm 188 (8 * v2 + 4) (by decide) (by decide) (by omega)]
  rw [← eC, ← ek, ← e8] at hc
  have n1 := rq_doors gI.1
  have n2 := rq_people gI.1
  have hK := KR_of gI
  have k5 := EG.2.2.2.2.2.2.2.2.2.2.2.1
  have vt := VT_of gI k5
  obtain ⟨i1, e1⟩ := thr gI EG
  have no : ¬ resC g v1 v2 v3 → Q (some (.inl (-1))) (wr g 182 0 0) := fun z => by
    rcases hc with ⟨_, rfl⟩ | ⟨c, _⟩
    · exact k _ i1 e1
    · exact absurd c z
  refine B_rests_0 (RF_of gI.1) (by omega) ⟨fun c => no (fun z => by have := z.1; omega), fun a1 => ⟨fun c => no (fun z => by have := z.1; omega), fun a2 => ⟨fun c => no (fun z => by have := z.2.1; omega), fun a3 => ⟨fun c => no (fun z => by have := z.2.1; omega), fun a4 => ⟨fun c => no (fun z => z.2.2.1 c), fun a5 => ⟨by omega, by omega, by omega, by omega, fun c => no (fun z => c z.2.2.2.1), fun a6 => ⟨by omega, by omega, by omega, by omega, fun c => no (fun z => c z.2.2.2.2.1), fun a7 => ⟨fun a8 => ?_, fun c => no (fun z => by have := z.2.2.2.2.2; omega)⟩⟩⟩⟩⟩⟩⟩⟩
  have yc : resC g v1 v2 v3 := ⟨⟨a1, a2⟩, ⟨a3, a4⟩, a5, a6, a7, a8⟩
  have er : rsA (rnO (key g) (rd g 198) v1 v2) (rnT (key g) (rd g 198) v1 v2) v3 r := by
    rcases hc with ⟨z, _⟩ | ⟨_, z⟩
    · exact absurd yc z
    · exact z
  -- which pairs rest
  have rest : ∀ (u : LH), INV u → EQL u → (∀ i, 0 ≤ i → i ≤ 99 → rd u 211 (2 * i) = rnO (key g) (rd g 198) v1 v2 i ∧ rd u 211 (2 * i + 1) = rnT (key g) (rd g 198) v1 v2 i) → ∀ (o6 o7 : Option LV), Rn xs xl e mm_rests 221 [some (.inr (.inr 182)), some (.inl v1), some (.inl v2), some (.inl v3), some (.inl 0), some (.inl 0), o6, o7] [] u Q := by
    intro u uI uE uv
    have uF := RF_of uI.1
    have fin : ∀ r', rsA (fun i => rd u 211 (2 * i)) (fun i => rd u 211 (2 * i + 1)) v3 r' → Q (some (.inl r')) u := fun r' hr => by
      have e := rsA_one (rsA_congr (fun i i0 i1 => (uv i i0 i1).1) (fun i i0 i1 => (uv i i0 i1).2) hr) er
      rw [e]
      exact k u uI uE
    have loop : ∀ (n : Nat) (v4 v5 : Int) (o6 o7 : Option LV), 100 - v5 ≤ n → 0 ≤ v5 → v5 ≤ 100 → v4 = cnP (isRst (fun i => rd u 211 (2 * i)) (fun i => rd u 211 (2 * i + 1))) v5.toNat → (0 ≤ v3 → v4 ≤ v3) → Rn xs xl e mm_rests 221 [some (.inr (.inr 182)), some (.inl v1), some (.inl v2), some (.inl v3), some (.inl v4), some (.inl v5), o6, o7] [] u Q := by
      intro n
      have stop : ∀ v4 v5 : Int, 100 ≤ v5 → v5 ≤ 100 → v4 = cnP (isRst (fun i => rd u 211 (2 * i)) (fun i => rd u 211 (2 * i + 1))) v5.toNat → (0 ≤ v3 → v4 ≤ v3) → (0 ≤ v3 → Q (some (.inl (-1))) u) ∧ (v3 < 0 → Q (some (.inl v4)) u) := fun v4 v5 b0 b1 e4 l4 => by
        rw [show v5.toNat = 100 by omega] at e4
        exact ⟨fun z => fin (-1) (Or.inr ⟨z, Or.inr ⟨by have := l4 z; omega, rfl⟩⟩), fun z => fin v4 (Or.inl ⟨by omega, e4⟩)⟩
      induction n with
      | zero =>
        intro v4 v5 o6 o7 hn b0 b1 e4 l4
        exact B_rests_221 uF (by omega) ⟨fun c => stop v4 v5 c b1 e4 l4, fun c => by omega⟩
      | succ n ih =>
        intro v4 v5 o6 o7 hn b0 b1 e4 l4
        refine B_rests_221 uF (by omega) ⟨fun c => stop v4 v5 c b1 e4 l4, fun c => ?_⟩
        have ci := cnP_in (isRst (fun i => rd u 211 (2 * i)) (fun i => rd u 211 (2 * i + 1))) v5.toNat
        have cs := cnP_s (P := isRst (fun i => rd u 211 (2 * i)) (fun i => rd u 211 (2 * i + 1))) b0
        -- behind the test
        have t323 : ∀ v6 v7 : Int, (v6 = 0 ∨ v6 = 1) → (v6 = 1 ↔ isRst (fun i => rd u 211 (2 * i)) (fun i => rd u 211 (2 * i + 1)) v5) → Rn xs xl e mm_rests 323 [some (.inr (.inr 182)), some (.inl v1), some (.inl v2), some (.inl v3), some (.inl v4), some (.inl v5), some (.inl v6), some (.inl v7)] [] u Q := by
          intro v6 v7 h6 ht
          refine B_rests_323 uF (by omega) ⟨fun z => ⟨by omega, ih v4 (v5 + 1) _ _ (by omega) (by omega) (by omega) ?_ l4⟩, fun z => ⟨fun z2 => ⟨by omega, ih (v4 + 1) (v5 + 1) _ _ (by omega) (by omega) (by omega) ?_ (fun z3 => by have := l4 z3; omega)⟩, fun z2 => fin v5 (Or.inr ⟨by omega, Or.inl ⟨v5.toNat, by omega, ?_, by omega, (Int.toNat_of_nonneg b0).symm⟩⟩)⟩⟩
          · rw [cs, if_neg (fun t => by have := ht.mpr t; omega), Int.add_zero]
            exact e4
          · rw [cs, if_pos (ht.mp (by omega)), e4]
          · rw [Int.toNat_of_nonneg b0]
            exact ht.mp (by omega)
        have inner : ∀ (m : Nat) (v6 v7 : Int), 10 - v7 ≤ m → 0 ≤ v7 → v7 ≤ 10 → (v6 = 0 ∨ v6 = 1) → (v6 = 1 ↔ ∀ y, 0 ≤ y → y < v7 → rd u 211 (2 * (10 * y + v5 % 10)) ≤ rd u 211 (2 * v5) ∧ rd u 211 (2 * (10 * (v5 / 10) + y) + 1) ≤ rd u 211 (2 * v5 + 1)) → Rn xs xl e mm_rests 234 [some (.inr (.inr 182)), some (.inl v1), some (.inl v2), some (.inl v3), some (.inl v4), some (.inl v5), some (.inl v6), some (.inl v7)] [] u Q := by
          intro m
          have last : ∀ v6 v7 : Int, 10 ≤ v7 → v7 ≤ 10 → (v6 = 0 ∨ v6 = 1) → (v6 = 1 ↔ ∀ y, 0 ≤ y → y < v7 → rd u 211 (2 * (10 * y + v5 % 10)) ≤ rd u 211 (2 * v5) ∧ rd u 211 (2 * (10 * (v5 / 10) + y) + 1) ≤ rd u 211 (2 * v5 + 1)) → Rn xs xl e mm_rests 323 [some (.inr (.inr 182)), some (.inl v1), some (.inl v2), some (.inl v3), some (.inl v4), some (.inl v5), some (.inl v6), some (.inl v7)] [] u Q := fun v6 v7 b2 b3 h6 h7 => t323 v6 v7 h6 ⟨fun z y y0 y1 => h7.mp z y y0 (by omega), fun z => h7.mpr (fun y y0 y1 => z y y0 (by omega))⟩
          induction m with
          | zero =>
            intro v6 v7 hm b2 b3 h6 h7
            exact B_rests_234 uF (by omega) (by omega) ⟨fun c => last v6 v7 c b3 h6 h7, fun c => by omega⟩
          | succ m im =>
            intro v6 v7 hm b2 b3 h6 h7
            have x1 : 2 * (10 * v7 + v5 % 10) = 20 * v7 + 2 * (v5 % 10) := by omega
            have x2 : 2 * (10 * (v5 / 10) + v7) + 1 = 20 * (v5 / 10) + 2 * v7 + 1 := by omega
            refine B_rests_234 uF (by omega) (by omega) ⟨fun c => last v6 v7 c b3 h6 h7, fun c => ⟨fun z => im 0 (v7 + 1) (by omega) (by omega) (by omega) (Or.inl rfl) ⟨fun t => absurd t (by decide), fun t => ?_⟩, fun z => ⟨by omega, by omega, by omega, fun z2 => im 0 (v7 + 1) (by omega) (by omega) (by omega) (Or.inl rfl) ⟨fun t => absurd t (by decide), fun t => ?_⟩, fun z2 => ⟨by omega, by omega, by omega, by omega, by omega, fun z3 => im 0 (v7 + 1) (by omega) (by omega) (by omega) (Or.inl rfl) ⟨fun t => absurd t (by decide), fun t => ?_⟩, fun z3 => im 1 (v7 + 1) (by omega) (by omega) (by omega) (Or.inr rfl) ⟨fun _ y y0 y1 => ?_, fun _ => rfl⟩⟩⟩⟩⟩
            · have := h7.mpr (fun y y0 y1 => t y y0 (by omega))
              omega
            · have := (t v7 b2 (by omega)).1
              rw [x1] at this
              omega
            · have := (t v7 b2 (by omega)).2
              rw [x2] at this
              omega
            · by_cases s : y = v7
              · rw [s, x1, x2]
                exact ⟨z2, z3⟩
              · exact h7.mp (by omega) y y0 (by omega)
        exact inner 10 1 0 (by omega) (by omega) (by omega) (Or.inr rfl) ⟨fun _ y y0 y1 => by omega, fun _ => rfl⟩
    exact fun o6 o7 => loop 100 0 0 o6 o7 (by omega) (by omega) (by omega) rfl (fun z => z)
  -- all pairs of prices
  have pairs : ∀ (n : Nat) (u : LH) (v4 : Int) (o5 o6 o7 : Option LV), 100 - v4 ≤ n → 0 ≤ v4 → v4 ≤ 100 → RU g u v1 v2 → (∀ i, 0 ≤ i → i < v4 → rd u 211 (2 * i) = rnO (key g) (rd g 198) v1 v2 i ∧ rd u 211 (2 * i + 1) = rnT (key g) (rd g 198) v1 v2 i) → Rn xs xl e mm_rests 66 [some (.inr (.inr 182)), some (.inl v1), some (.inl v2), some (.inl v3), some (.inl v4), o5, o6, o7] [] u Q := by
    intro n
    have stop : ∀ (u : LH) (v4 : Int) (o6 o7 : Option LV), 100 ≤ v4 → RU g u v1 v2 → (∀ i, 0 ≤ i → i < v4 → rd u 211 (2 * i) = rnO (key g) (rd g 198) v1 v2 i ∧ rd u 211 (2 * i + 1) = rnT (key g) (rd g 198) v1 v2 i) → Rn xs xl e mm_rests 221 [some (.inr (.inr 182)), some (.inl v1), some (.inl v2), some (.inl v3), some (.inl 0), some (.inl 0), o6, o7] [] (wr (wr u 182 28 (-1)) 182 29 (-1)) Q := by
      intro u v4 o6 o7 b0 uu uv
      have wI : INV (wr (wr u 182 28 (-1)) 182 29 (-1)) := wF_setOther (wF_setOne uu.1 (by decide) (by decide)) (by decide) (by decide)
      obtain ⟨-, -, -, -, -, -, -, ⟨-, -, p28, p29, -⟩⟩ := id EG
      refine rest _ wI (EQL_fr gI EG ?_ ?_ (fun a i ha => ?_)) (fun i i0 i1 => ?_) o6 o7
      · rw [rdw_ne (by decide), rdw_ne (by decide)]
        exact uu.2.1 2 0 (by decide) (by decide) (by decide) (by decide) (by omega)
      · rw [rdw_nei (by decide), rdw_nei (by decide)]
        exact uu.2.1 182 2 (by decide) (by decide) (by decide) (by decide) (by omega)
      · obtain ⟨y1, y2, -⟩ := inK_p ha
        by_cases c : a = 182 ∧ i = 29
        · rw [c.1, c.2, rdw_eq]
          exact p29.symm
        · by_cases c2 : a = 182 ∧ i = 28
          · rw [c2.1, c2.2, rdw_nei (by decide), rdw_eq]
            exact p28.symm
          · rw [rd_wr, if_neg (by omega), rd_wr, if_neg (by omega)]
            exact uu.2.1 a i (by omega) (by omega) (by omega) (by omega) (by omega)
      · rw [rdw_ne (by decide), rdw_ne (by decide), rdw_ne (by decide), rdw_ne (by decide)]
        exact uv i i0 (by omega)
    induction n with
    | zero =>
      intro u v4 o5 o6 o7 hn b0 b1 uu uv
      exact B_rests_66 (RF_of uu.1.1) (by omega) ⟨fun c => stop u v4 o6 o7 c uu uv, fun c => by omega⟩
    | succ n ih =>
      intro u v4 o5 o6 o7 hn b0 b1 uu uv
      refine B_rests_66 (RF_of uu.1.1) (by omega) ⟨fun c => stop u v4 o6 o7 c uu uv, fun c => ⟨by omega, by omega, ?_⟩⟩
      have people : ∀ (m : Nat) (w : LH) (v5 : Int) (o6 o7 : Option LV), rd g 188 2 - v5 ≤ m → 0 ≤ v5 → v5 ≤ rd g 188 2 → RU g w v1 v2 → rd w 182 30 = v4 / 10 → rd w 182 31 = v4 % 10 → (∀ i, 0 ≤ i → i < v4 → rd w 211 (2 * i) = rnO (key g) (rd g 198) v1 v2 i ∧ rd w 211 (2 * i + 1) = rnT (key g) (rd g 198) v1 v2 i) → rd w 211 (2 * v4) = rnV (prK (key g) v1 v2 (v4 / 10) (v4 % 10)) (rd g 198) v1 (v4 / 10) v5.toNat → rd w 211 (2 * v4 + 1) = rnV (prK (key g) v1 v2 (v4 / 10) (v4 % 10)) (rd g 198) v2 (v4 % 10) v5.toNat → Rn xs xl e mm_rests 116 [some (.inr (.inr 182)), some (.inl v1), some (.inl v2), some (.inl v3), some (.inl v4), some (.inl v5), o6, o7] [] w Q := by
        intro m
        have close : ∀ (w : LH) (v5 : Int) (o6 o7 : Option LV), rd g 188 2 ≤ v5 → v5 ≤ rd g 188 2 → RU g w v1 v2 → (∀ i, 0 ≤ i → i < v4 → rd w 211 (2 * i) = rnO (key g) (rd g 198) v1 v2 i ∧ rd w 211 (2 * i + 1) = rnT (key g) (rd g 198) v1 v2 i) → rd w 211 (2 * v4) = rnV (prK (key g) v1 v2 (v4 / 10) (v4 % 10)) (rd g 198) v1 (v4 / 10) v5.toNat → rd w 211 (2 * v4 + 1) = rnV (prK (key g) v1 v2 (v4 / 10) (v4 % 10)) (rd g 198) v2 (v4 % 10) v5.toNat → Rn xs xl e mm_rests 66 [some (.inr (.inr 182)), some (.inl v1), some (.inl v2), some (.inl v3), some (.inl (v4 + 1)), some (.inl v5), o6, o7] [] w Q := by
          intro w v5 o6 o7 c0 c1 ww wv w0 w1
          have ev : v5 = (key g).1 2 := by
            show v5 = rd g 188 2
            omega
          rw [ev] at w0 w1
          refine ih w (v4 + 1) _ o6 o7 (by omega) (by omega) (by omega) ww (fun i i0 i1 => ?_)
          by_cases s : i = v4
          · rw [s]
            exact ⟨w0, w1⟩
          · exact wv i i0 (by omega)
        induction m with
        | zero =>
          intro w v5 o6 o7 hm c0 c1 ww p30 p31 wv w0 w1
          have e2 : rd w 188 2 = rd g 188 2 := ww.2.1 188 2 (by decide) (by decide) (by decide) (by decide) (by omega)
          exact B_rests_116 (RF_of ww.1.1) (by omega) (by omega) (by omega) ⟨fun z => close w v5 o6 o7 (by omega) c1 ww wv w0 w1, fun z => by omega⟩
        | succ m im =>
          intro w v5 o6 o7 hm c0 c1 ww p30 p31 wv w0 w1
          have e2 : rd w 188 2 = rd g 188 2 := ww.2.1 188 2 (by decide) (by decide) (by decide) (by decide) (by omega)
          have eS : rd w 198 = rd g 198 := funext (fun i => ww.2.1 198 i (by decide) (by decide) (by decide) (by decide) (by omega))
          have eK := RU_K ww p30 p31
          refine B_rests_116 (RF_of ww.1.1) (by omega) (by omega) (by omega) ⟨fun z => close w v5 o6 o7 (by omega) c1 ww wv w0 w1, fun z => ⟨5, by omega, ?_⟩⟩
          have p1 : v5 < rd g 188 2 := by omega
          have st5 := (vt.2.1 v5 c0 p1).1
          have kr := hK.1
          refine G_goesByX (K := prK (key g) v1 v2 (v4 / 10) (v4 % 10)) (S := rd g 198) (Nat.le_refl 5) ⟨ww.1, eK, eS⟩ (by omega) (fun r' t tw tf tg => ?_)
          have ep : ∀ d, PRK (prK (key g) v1 v2 (v4 / 10) (v4 % 10)) d = if d = v1 then v4 / 10 else if d = v2 then v4 % 10 else (key g).1 (8 * d + 11) := fun d => rfl
          have hP : ∀ d, 0 ≤ d → d < (prK (key g) v1 v2 (v4 / 10) (v4 % 10)).1 1 → 0 ≤ PRK (prK (key g) v1 v2 (v4 / 10) (v4 % 10)) d ∧ PRK (prK (key g) v1 v2 (v4 / 10) (v4 % 10)) d ≤ 9 := fun d x0 x1 => by
            have := (hK.2.2.2.1 d x0 x1).2.2.2.2
            rw [ep]
            split
            · omega
            · split <;> omega
          have hs5 := hK.2.2.2.2 v5 c0 p1
          have s24 := vt.1
          have tg' := gbW_two hP (fun r d r0 r1 d0 d1 => by
            have d1' : d < rd g 188 1 := d1
            exact (NW_ok (prK (key g) v1 v2 (v4 / 10) (v4 % 10)) (rd g 198 (0 + 1)) (s := (prK (key g) v1 v2 (v4 / 10) (v4 % 10)).1 (4 * v5 + 116)) (d := d) (room := r) (hr := rd g 198 0) (by omega) hs5.1 ⟨r0, r1⟩ (by omega)).1.2) st5.1 (by omega) tg
          rw [show (0 : Int) + 1 = 1 by decide] at tg'
          have es := stV_of tg'
          have fr : ∀ i, rd t 211 i = rd w 211 i := fun i => tf 211 i (by decide) (by decide) (by decide)
          have t30 : rd t 182 30 = v4 / 10 := (tf 182 30 (by decide) (by decide) (by decide)).trans p30
          have t31 : rd t 182 31 = v4 % 10 := (tf 182 31 (by decide) (by decide) (by decide)).trans p31
          have tt : RU g t v1 v2 := ⟨tw.1, fun a i m1 m2 m3 m4 m5 => (tf a i m1 m2 m3).trans (ww.2.1 a i m1 m2 m3 m4 m5), (tf 182 28 (by decide) (by decide) (by decide)).trans ww.2.2.1, (tf 182 29 (by decide) (by decide) (by decide)).trans ww.2.2.2⟩
          have q1 : rnV (prK (key g) v1 v2 (v4 / 10) (v4 % 10)) (rd g 198) v1 (v4 / 10) (v5 + 1).toNat = rnV (prK (key g) v1 v2 (v4 / 10) (v4 % 10)) (rd g 198) v1 (v4 / 10) v5.toNat + zand (zshr r' v1) 1 * (v4 / 10) := by
            rw [show (v5 + 1).toNat = v5.toNat + 1 by omega]
            show _ + zand (zshr (stV (prK (key g) v1 v2 (v4 / 10) (v4 % 10)) (rd g 198) (v5.toNat : Int)) v1) 1 * (v4 / 10) = _
            rw [Int.toNat_of_nonneg c0, es]
          have q2 : rnV (prK (key g) v1 v2 (v4 / 10) (v4 % 10)) (rd g 198) v2 (v4 % 10) (v5 + 1).toNat = rnV (prK (key g) v1 v2 (v4 / 10) (v4 % 10)) (rd g 198) v2 (v4 % 10) v5.toNat + zand (zshr r' v2) 1 * (v4 % 10) := by
            rw [show (v5 + 1).toNat = v5.toNat + 1 by omega]
            show _ + zand (zshr (stV (prK (key g) v1 v2 (v4 / 10) (v4 % 10)) (rd g 198) (v5.toNat : Int)) v2) 1 * (v4 % 10) = _
            rw [Int.toNat_of_nonneg c0, es]
          have j1 := rnV_in (K := prK (key g) v1 v2 (v4 / 10) (v4 % 10)) (S := rd g 198) (a := v1) (b := v4 / 10) (by omega) v5.toNat
          have j2 := rnV_in (K := prK (key g) v1 v2 (v4 / 10) (v4 % 10)) (S := rd g 198) (a := v2) (b := v4 % 10) (by omega) v5.toNat
          have h0 : rd t 211 (2 * v4) = rnV (prK (key g) v1 v2 (v4 / 10) (v4 % 10)) (rd g 198) v1 (v4 / 10) v5.toNat := (fr _).trans w0
          have h1 : rd t 211 (2 * v4 + 1) = rnV (prK (key g) v1 v2 (v4 / 10) (v4 % 10)) (rd g 198) v2 (v4 % 10) v5.toNat := (fr _).trans w1
          have nx : ∀ x y : Int, i32 x → i32 y → x = rnV (prK (key g) v1 v2 (v4 / 10) (v4 % 10)) (rd g 198) v1 (v4 / 10) (v5 + 1).toNat → y = rnV (prK (key g) v1 v2 (v4 / 10) (v4 % 10)) (rd g 198) v2 (v4 % 10) (v5 + 1).toNat → Rn xs xl e mm_rests 116 [some (.inr (.inr 182)), some (.inl v1), some (.inl v2), some (.inl v3), some (.inl v4), some (.inl (v5 + 1)), some (.inl r'), o7] [] (wr (wr t 211 (2 * v4) x) 211 (2 * v4 + 1) y) Q := fun x y ix iy hx hy => by
            refine im _ (v5 + 1) _ _ (by omega) (by omega) (by omega) (RU_211 (RU_211 tt (by omega) ix) (by omega) iy) ?_ ?_ (fun i i0 i1 => ?_) ?_ ?_
            · rw [rdw_ne (by decide), rdw_ne (by decide)]
              exact t30
            · rw [rdw_ne (by decide), rdw_ne (by decide)]
              exact t31
            · rw [rdw_nei (by omega), rdw_nei (by omega), rdw_nei (by omega), rdw_nei (by omega), fr, fr]
              exact wv i i0 i1
            · rw [rdw_nei (by omega), rdw_eq]
              exact hx
            · rw [rdw_eq]
              exact hy
          have b1 := bitZ_01 r' v1
          have b2 := bitZ_01 r' v2
          have z1 : zand (zshr r' v1) 1 ≠ 1 → rd t 211 (2 * v4) = rnV (prK (key g) v1 v2 (v4 / 10) (v4 % 10)) (rd g 198) v1 (v4 / 10) (v5 + 1).toNat := fun z => by
            rw [q1, show zand (zshr r' v1) 1 = 0 by omega, Int.zero_mul, Int.add_zero]
            exact h0
          have o1 : zand (zshr r' v1) 1 = 1 → rd t 211 (2 * v4) + v4 / 10 = rnV (prK (key g) v1 v2 (v4 / 10) (v4 % 10)) (rd g 198) v1 (v4 / 10) (v5 + 1).toNat := fun z => by
            rw [q1, z, Int.one_mul, h0]
          have z2 : zand (zshr r' v2) 1 ≠ 1 → rd t 211 (2 * v4 + 1) = rnV (prK (key g) v1 v2 (v4 / 10) (v4 % 10)) (rd g 198) v2 (v4 % 10) (v5 + 1).toNat := fun z => by
            rw [q2, show zand (zshr r' v2) 1 = 0 by omega, Int.zero_mul, Int.add_zero]
            exact h1
          have o2 : zand (zshr r' v2) 1 = 1 → rd t 211 (2 * v4 + 1) + v4 % 10 = rnV (prK (key g) v1 v2 (v4 / 10) (v4 % 10)) (rd g 198) v2 (v4 % 10) (v5 + 1).toNat := fun z => by
            rw [q2, z, Int.one_mul, h1]
          have u1 : i32 (rd t 211 (2 * v4)) := by unfold i32; omega
          have u2 : i32 (rd t 211 (2 * v4 + 1)) := by unfold i32; omega
          have u3 : i32 (rd t 211 (2 * v4) + v4 / 10) := by unfold i32; omega
          have u4 : i32 (rd t 211 (2 * v4 + 1) + v4 % 10) := by unfold i32; omega
          have row := B_rests_131 (xs := xs) (xl := xl) (e := e) (h := t) (Q := Q) (v1 := v1) (v2 := v2) (v3 := v3) (v4 := v4) (v5 := v5) (w0 := r') (o6 := o6) (o7 := o7) (RF_of tw.1.1) (by omega) (by omega) (by omega)
          rw [t30, t31] at row
          refine row ⟨fun y1 => ⟨by unfold i32 at u1; omega, fun y2 => ⟨by unfold i32 at u2; omega, nx _ _ u1 u2 (z1 y1) (z2 y2)⟩, fun y2 => ⟨by unfold i32 at u4; omega, nx _ _ u1 u4 (z1 y1) (o2 y2)⟩⟩, fun y1 => ⟨by unfold i32 at u3; omega, fun y2 => ⟨by unfold i32 at u2; omega, nx _ _ u3 u2 (o1 y1) (z2 y2)⟩, fun y2 => ⟨by unfold i32 at u4; omega, nx _ _ u3 u4 (o1 y1) (o2 y2)⟩⟩⟩
      have wu := RU_211 (i := 2 * v4 + 1) (v := 0) (RU_211 (i := 2 * v4) (v := 0) (RU_pr (x := v4 / 10) (y := v4 % 10) uu (by omega) (by omega)) (by omega) (by unfold i32; omega)) (by omega) (by unfold i32; omega)
      refine people (rd g 188 2).toNat _ 0 o6 o7 (by omega) (by omega) (by omega) wu ?_ ?_ (fun i i0 i1 => ?_) ?_ ?_
      · rw [rdw_ne (by decide), rdw_ne (by decide), rdw_nei (by decide), rdw_eq]
      · rw [rdw_ne (by decide), rdw_ne (by decide), rdw_eq]
      · rw [rdw_nei (by omega), rdw_nei (by omega), rdw_ne (by decide), rdw_ne (by decide), rdw_nei (by omega), rdw_nei (by omega), rdw_ne (by decide), rdw_ne (by decide)]
        exact uv i i0 i1
      · rw [rdw_nei (by omega), rdw_eq]
        rfl
      · rw [rdw_eq]
        rfl
  have w0 : RU g (wr (wr (wr g 182 0 0) 182 28 v1) 182 29 v2) v1 v2 := by
    refine ⟨wF_setOther (wF_setOne i1 (by omega) (by omega)) (by omega) (by omega), fun a i m1 m2 m3 m4 m5 => ?_, ?_, rdw_eq⟩
    · rw [rd_wr, if_neg (by omega), rd_wr, if_neg (by omega), rd_wr, if_neg (by omega)]
    · rw [rdw_nei (by decide), rdw_eq]
  exact pairs 100 _ 0 none none none (by omega) (by omega) (by omega) w0 (fun i i0 i1 => by omega)
end KH
end
section
/-! the law's calls, one by one, and its loop, by program (wip/sc/gen_law_s.py) -/
section LA
variable {xs : Nat → Int} {xl e : Nat} {h g : LH} {Q : Option LV → LH → Prop}
theorem inK_muY {a i : Int} (ha : inK a i) : ¬ muY a i := by
  obtain ⟨y1, y2, y3, y4, y5⟩ := inK_p ha
  unfold muY
  omega
theorem inK_182 {a i : Int} (ha : inK a i) : ¬ (a = 182 ∧ (i = 0 ∨ i = 2)) := by
  obtain ⟨y1, y2, -⟩ := inK_p ha
  omega
theorem inK_2 {a i : Int} (ha : inK a i) : a ≠ 2 := by
  obtain ⟨y1, -⟩ := inK_p ha
  omega
theorem LW_0 {v3 : Int} (hxs : ∀ j, i32 (xs j)) (h0 : 0 ≤ v3) (h1 : v3 + 7 ≤ (xl : Int)) (hx : xl ≤ 3584) (hI : INV h) (hE : EQL h) (k : ∀ g, INV g → EQL g → Rn xs xl 64 mm_OneSidedLaw_law 1231 [some (.inr (.inr (-2))), some (.inr (.inr 1)), some (.inr (.inr 182)), some (.inl v3)] [] g Q) : Rn xs xl 64 mm_OneSidedLaw_law 164 [some (.inr (.inr (-2))), some (.inr (.inr 1)), some (.inr (.inr 182)), some (.inl v3)] [] h Q := by
  refine B_law_164 (RF_of hI.1) (by omega) ⟨by omega, by omega, by omega, by omega, by omega, by omega, 63, by decide, E_feedX (by decide) hI (fun g gI ge gx gf => ?_)⟩
  refine B_law_229 (RF_of gI.1) (by omega) ⟨by omega, by omega, by omega, by omega, by omega, by omega, 63, by decide, D_feedX (r64 _ _) (r64 _ _) (r64 _ _) (by decide) gI (fun g2 i2 e2 x2 f2 => ?_)⟩
  have e0 : rd g 182 2 = rd h 182 2 := gf 182 2 (by decide) (by decide)
  have x0 : rd g 183 = rd h 183 := funext (fun i => gf 183 i (by omega) (by decide))
  have e3 : rd g2 2 0 = rd g 2 0 := f2 2 0 (by decide) (by decide)
  have x3 : rd g2 3 = rd g 3 := funext (fun i => f2 3 i (by omega) (by decide))
  have hE' : rd h 2 0 = rd h 182 2 := hE.1
  rw [e0, ← hE'] at e2 x2
  rw [x0] at x2
  refine B_law_295 (RF_of i2.1) (by omega) (k g2 i2 ⟨?_, fun i i0 i1 => ?_, EQS_fr hI hE.2.2 (fun a i ha n3 n183 _ => (f2 a i (inK_182 ha) n183).trans (gf a i (fun z => inK_2 ha z.1) n3))⟩)
  · rw [e3, ge, e2]
  · rw [e3, ge] at i1
    rw [x3, gx, x2]
    exact fedX3_ag hE.2.1 i i0 i1
theorem LW_1 {v3 : Int} (hxs : ∀ j, i32 (xs j)) (h0 : 0 ≤ v3) (h1 : v3 + 7 ≤ (xl : Int)) (hx : xl ≤ 3584) (hI : INV h) (hE : EQL h) (k : ∀ g, INV g → EQL g → Rn xs xl 64 mm_OneSidedLaw_law 1231 [some (.inr (.inr (-2))), some (.inr (.inr 1)), some (.inr (.inr 182)), some (.inl v3)] [] g Q) : Rn xs xl 64 mm_OneSidedLaw_law 299 [some (.inr (.inr (-2))), some (.inr (.inr 1)), some (.inr (.inr 182)), some (.inl v3)] [] h Q := by
  exact B_law_299 (RF_of hI.1) (by omega) ⟨63, by decide, E_quarterJS (by decide) hI hE (fun g gI gj => B_law_303 (RF_of gI.1) (by omega) ⟨63, by decide, G_quarterJS (by decide) hI hE gI gj (fun g2 i2 E2 => B_law_308 (RF_of i2.1) (by omega) (k g2 i2 E2))⟩)⟩
theorem LW_2 {v3 : Int} (hxs : ∀ j, i32 (xs j)) (h0 : 0 ≤ v3) (h1 : v3 + 7 ≤ (xl : Int)) (hx : xl ≤ 3584) (hI : INV h) (hE : EQL h) (k : ∀ g, INV g → EQL g → Rn xs xl 64 mm_OneSidedLaw_law 1231 [some (.inr (.inr (-2))), some (.inr (.inr 1)), some (.inr (.inr 182)), some (.inl v3)] [] g Q) : Rn xs xl 64 mm_OneSidedLaw_law 312 [some (.inr (.inr (-2))), some (.inr (.inr 1)), some (.inr (.inr 182)), some (.inl v3)] [] h Q := by
  have day_F : ∀ {g g2 : LH}, INV g → rd g 2 0 = 0 → EQS g → rd g2 182 2 = 0 → (∀ a i, ¬ muY a i → rd g2 a i = rd g a i) → EQL g2 := fun gI gz gP e2 f2 => EQL_0 ((f2 2 0 (by unfold muY; omega)).trans gz) e2 (EQS_fr gI gP (fun a i ha _ _ _ => f2 a i (inK_muY ha)))
  have S : ∀ (r : Int) (g : LH), INV g → rd g 2 0 = 0 → EQS g → Rn xs xl 64 mm_OneSidedLaw_law 316 [some (.inr (.inr (-2))), some (.inr (.inr 1)), some (.inr (.inr 182)), some (.inl v3)] [.inl r] g Q := by
    intro r g gI gz gP
    exact B_law_316 (RF_of gI.1) (by omega) ⟨63, by decide, D_day (by decide) gI (fun r2 g2 i2 e2 f2 => B_law_321 (RF_of i2.1) (by omega) (k g2 i2 (day_F gI gz gP e2 f2)))⟩
  exact B_law_312 (RF_of hI.1) (by omega) ⟨63, by decide, root_0 TD_day (as := [.inr (.inr 1)]) rfl (Nat.le_of_ble_eq_true rfl) hI (gAr_c (g_ref 1) gAr_n) rfl (Nat.le_of_ble_eq_true rfl) rfl rfl rfl (fun r g gI gz gf => S r g gI gz (EQS_fr hI hE.2.2 (fun a i ha _ _ _ => gf a i (dsj_ok (by decide +kernel) ha))))⟩
theorem LW_3 {v3 : Int} (hxs : ∀ j, i32 (xs j)) (h0 : 0 ≤ v3) (h1 : v3 + 7 ≤ (xl : Int)) (hx : xl ≤ 3584) (hI : INV h) (hE : EQL h) (k : ∀ g, INV g → EQL g → Rn xs xl 64 mm_OneSidedLaw_law 1231 [some (.inr (.inr (-2))), some (.inr (.inr 1)), some (.inr (.inr 182)), some (.inl v3)] [] g Q) : Rn xs xl 64 mm_OneSidedLaw_law 325 [some (.inr (.inr (-2))), some (.inr (.inr 1)), some (.inr (.inr 182)), some (.inl v3)] [] h Q := by
  have S : ∀ (r : Int) (g : LH), INV g → EQL g → Rn xs xl 64 mm_OneSidedLaw_law 339 [some (.inr (.inr (-2))), some (.inr (.inr 1)), some (.inr (.inr 182)), some (.inl v3)] [.inl r] g Q := by
    intro r g gI EG
    exact B_law_339 (RF_of gI.1) (by omega) ⟨by omega, by omega, 63, by decide, root_i TR_door (as := [.inr (.inr 182), .inl (xs (v3 + 1).toNat), .inl (xs (v3 + 2).toNat)]) rfl (Nat.le_of_ble_eq_true rfl) gI (gAr_c (g_ref 182) (gAr_c (g_i (hxs _)) (gAr_c (g_i (hxs _)) gAr_n))) rfl (Nat.le_of_ble_eq_true rfl) rfl rfl rfl (by decide +kernel) (by decide +kernel) (by decide +kernel) EG (fun r2 g2 i2 E2 => B_law_354 (RF_of i2.1) (by omega) (k g2 i2 E2))⟩
  exact B_law_325 (RF_of hI.1) (by omega) ⟨by omega, by omega, 63, by decide, root_i TC_door (as := [.inr (.inr 1), .inl (xs (v3 + 1).toNat), .inl (xs (v3 + 2).toNat)]) rfl (Nat.le_of_ble_eq_true rfl) hI (gAr_c (g_ref 1) (gAr_c (g_i (hxs _)) (gAr_c (g_i (hxs _)) gAr_n))) rfl (Nat.le_of_ble_eq_true rfl) rfl rfl rfl (by decide +kernel) (by decide +kernel) (by decide +kernel) hE (fun r g gI EG => S r g gI EG)⟩
theorem LW_4 {v3 : Int} (hxs : ∀ j, i32 (xs j)) (h0 : 0 ≤ v3) (h1 : v3 + 7 ≤ (xl : Int)) (hx : xl ≤ 3584) (hI : INV h) (hE : EQL h) (k : ∀ g, INV g → EQL g → Rn xs xl 64 mm_OneSidedLaw_law 1231 [some (.inr (.inr (-2))), some (.inr (.inr 1)), some (.inr (.inr 182)), some (.inl v3)] [] g Q) : Rn xs xl 64 mm_OneSidedLaw_law 358 [some (.inr (.inr (-2))), some (.inr (.inr 1)), some (.inr (.inr 182)), some (.inl v3)] [] h Q := by
  have S : ∀ (r : Int) (g : LH), INV g → EQL g → Rn xs xl 64 mm_OneSidedLaw_law 372 [some (.inr (.inr (-2))), some (.inr (.inr 1)), some (.inr (.inr 182)), some (.inl v3)] [.inl r] g Q := by
    intro r g gI EG
    exact B_law_372 (RF_of gI.1) (by omega) ⟨by omega, by omega, 63, by decide, root_i TR_person (as := [.inr (.inr 182), .inl (xs (v3 + 1).toNat), .inl (xs (v3 + 2).toNat)]) rfl (Nat.le_of_ble_eq_true rfl) gI (gAr_c (g_ref 182) (gAr_c (g_i (hxs _)) (gAr_c (g_i (hxs _)) gAr_n))) rfl (Nat.le_of_ble_eq_true rfl) rfl rfl rfl (by decide +kernel) (by decide +kernel) (by decide +kernel) EG (fun r2 g2 i2 E2 => B_law_387 (RF_of i2.1) (by omega) (k g2 i2 E2))⟩
  exact B_law_358 (RF_of hI.1) (by omega) ⟨by omega, by omega, 63, by decide, root_i TC_person (as := [.inr (.inr 1), .inl (xs (v3 + 1).toNat), .inl (xs (v3 + 2).toNat)]) rfl (Nat.le_of_ble_eq_true rfl) hI (gAr_c (g_ref 1) (gAr_c (g_i (hxs _)) (gAr_c (g_i (hxs _)) gAr_n))) rfl (Nat.le_of_ble_eq_true rfl) rfl rfl rfl (by decide +kernel) (by decide +kernel) (by decide +kernel) hE (fun r g gI EG => S r g gI EG)⟩
theorem LW_5 {v3 : Int} (hxs : ∀ j, i32 (xs j)) (h0 : 0 ≤ v3) (h1 : v3 + 7 ≤ (xl : Int)) (hx : xl ≤ 3584) (hI : INV h) (hE : EQL h) (k : ∀ g, INV g → EQL g → Rn xs xl 64 mm_OneSidedLaw_law 1231 [some (.inr (.inr (-2))), some (.inr (.inr 1)), some (.inr (.inr 182)), some (.inl v3)] [] g Q) : Rn xs xl 64 mm_OneSidedLaw_law 391 [some (.inr (.inr (-2))), some (.inr (.inr 1)), some (.inr (.inr 182)), some (.inl v3)] [] h Q := by
  have S : ∀ (r : Int) (g : LH), INV g → EQL g → Rn xs xl 64 mm_OneSidedLaw_law 415 [some (.inr (.inr (-2))), some (.inr (.inr 1)), some (.inr (.inr 182)), some (.inl v3)] [.inl r] g Q := by
    intro r g gI EG
    exact B_law_415 (RF_of gI.1) (by omega) ⟨by omega, by omega, by omega, by omega, 63, by decide, root_i TR_leads (as := [.inr (.inr 182), .inl (xs (v3 + 1).toNat), .inl (xs (v3 + 2).toNat), .inl (xs (v3 + 3).toNat), .inl (xs (v3 + 4).toNat)]) rfl (Nat.le_of_ble_eq_true rfl) gI (gAr_c (g_ref 182) (gAr_c (g_i (hxs _)) (gAr_c (g_i (hxs _)) (gAr_c (g_i (hxs _)) (gAr_c (g_i (hxs _)) gAr_n))))) rfl (Nat.le_of_ble_eq_true rfl) rfl rfl rfl (by decide +kernel) (by decide +kernel) (by decide +kernel) EG (fun r2 g2 i2 E2 => B_law_440 (RF_of i2.1) (by omega) (k g2 i2 E2))⟩
  exact B_law_391 (RF_of hI.1) (by omega) ⟨by omega, by omega, by omega, by omega, 63, by decide, root_i TC_leads (as := [.inr (.inr 1), .inl (xs (v3 + 1).toNat), .inl (xs (v3 + 2).toNat), .inl (xs (v3 + 3).toNat), .inl (xs (v3 + 4).toNat)]) rfl (Nat.le_of_ble_eq_true rfl) hI (gAr_c (g_ref 1) (gAr_c (g_i (hxs _)) (gAr_c (g_i (hxs _)) (gAr_c (g_i (hxs _)) (gAr_c (g_i (hxs _)) gAr_n))))) rfl (Nat.le_of_ble_eq_true rfl) rfl rfl rfl (by decide +kernel) (by decide +kernel) (by decide +kernel) hE (fun r g gI EG => S r g gI EG)⟩
theorem LW_6 {v3 : Int} (hxs : ∀ j, i32 (xs j)) (h0 : 0 ≤ v3) (h1 : v3 + 7 ≤ (xl : Int)) (hx : xl ≤ 3584) (hI : INV h) (hE : EQL h) (k : ∀ g, INV g → EQL g → Rn xs xl 64 mm_OneSidedLaw_law 1231 [some (.inr (.inr (-2))), some (.inr (.inr 1)), some (.inr (.inr 182)), some (.inl v3)] [] g Q) : Rn xs xl 64 mm_OneSidedLaw_law 444 [some (.inr (.inr (-2))), some (.inr (.inr 1)), some (.inr (.inr 182)), some (.inl v3)] [] h Q := by
  exact B_law_444 (RF_of hI.1) (by omega) ⟨by omega, by omega, 63, by decide, E_goS (by decide) hI hE (hxs _) (hxs _) (fun r g gI gj => B_law_458 (RF_of gI.1) (by omega) ⟨by omega, by omega, 63, by decide, G_goS (by decide) hI hE gI gj (fun g2 i2 E2 => B_law_473 (RF_of i2.1) (by omega) (k g2 i2 E2))⟩)⟩
theorem LW_7 {v3 : Int} (hxs : ∀ j, i32 (xs j)) (h0 : 0 ≤ v3) (h1 : v3 + 7 ≤ (xl : Int)) (hx : xl ≤ 3584) (hI : INV h) (hE : EQL h) (k : ∀ g, INV g → EQL g → Rn xs xl 64 mm_OneSidedLaw_law 1231 [some (.inr (.inr (-2))), some (.inr (.inr 1)), some (.inr (.inr 182)), some (.inl v3)] [] g Q) : Rn xs xl 64 mm_OneSidedLaw_law 477 [some (.inr (.inr (-2))), some (.inr (.inr 1)), some (.inr (.inr 182)), some (.inl v3)] [] h Q := by
  exact B_law_477 (RF_of hI.1) (by omega) ⟨by omega, 63, by decide, E_hoursS (by decide) hI hE (hxs _) (fun r g gI gj => B_law_486 (RF_of gI.1) (by omega) ⟨by omega, 63, by decide, G_hoursS (by decide) hI hE gI gj (fun g2 i2 E2 => B_law_496 (RF_of i2.1) (by omega) (k g2 i2 E2))⟩)⟩
theorem LW_8 {v3 : Int} (hxs : ∀ j, i32 (xs j)) (h0 : 0 ≤ v3) (h1 : v3 + 7 ≤ (xl : Int)) (hx : xl ≤ 3584) (hI : INV h) (hE : EQL h) (k : ∀ g, INV g → EQL g → Rn xs xl 64 mm_OneSidedLaw_law 1231 [some (.inr (.inr (-2))), some (.inr (.inr 1)), some (.inr (.inr 182)), some (.inl v3)] [] g Q) : Rn xs xl 64 mm_OneSidedLaw_law 500 [some (.inr (.inr (-2))), some (.inr (.inr 1)), some (.inr (.inr 182)), some (.inl v3)] [] h Q := by
  exact B_law_500 (RF_of hI.1) (by omega) ⟨by omega, by omega, fun c => ⟨63, by decide, E_shutS (by decide) hI hE (hxs _) g_z0 (by omega) (fun r g gI gj => B_law_522 (RF_of gI.1) (by omega) ⟨by omega, by omega, fun _ => ⟨63, by decide, G_shutS (by decide) hI hE gI (by omega) gj (fun g2 i2 E2 => B_law_545 (RF_of i2.1) (by omega) (k g2 i2 E2))⟩, fun z => absurd c z⟩)⟩, fun c => ⟨63, by decide, E_shutS (by decide) hI hE (hxs _) g_z1 (by omega) (fun r g gI gj => B_law_522 (RF_of gI.1) (by omega) ⟨by omega, by omega, fun z => absurd z c, fun _ => ⟨63, by decide, G_shutS (by decide) hI hE gI (by omega) gj (fun g2 i2 E2 => B_law_545 (RF_of i2.1) (by omega) (k g2 i2 E2))⟩⟩)⟩⟩
theorem LW_9 {v3 : Int} (hxs : ∀ j, i32 (xs j)) (h0 : 0 ≤ v3) (h1 : v3 + 7 ≤ (xl : Int)) (hx : xl ≤ 3584) (hI : INV h) (hE : EQL h) (k : ∀ g, INV g → EQL g → Rn xs xl 64 mm_OneSidedLaw_law 1231 [some (.inr (.inr (-2))), some (.inr (.inr 1)), some (.inr (.inr 182)), some (.inl v3)] [] g Q) : Rn xs xl 64 mm_OneSidedLaw_law 549 [some (.inr (.inr (-2))), some (.inr (.inr 1)), some (.inr (.inr 182)), some (.inl v3)] [] h Q := by
  exact B_law_549 (RF_of hI.1) (by omega) ⟨63, by decide, E_undoS (by decide) hI hE (fun r g gI gj => B_law_553 (RF_of gI.1) (by omega) ⟨63, by decide, G_undoS (by decide) hI hE gI gj (fun g2 i2 E2 => B_law_558 (RF_of i2.1) (by omega) (k g2 i2 E2))⟩)⟩
theorem LW_10 {v3 : Int} (hxs : ∀ j, i32 (xs j)) (h0 : 0 ≤ v3) (h1 : v3 + 7 ≤ (xl : Int)) (hx : xl ≤ 3584) (hI : INV h) (hE : EQL h) (k : ∀ g, INV g → EQL g → Rn xs xl 64 mm_OneSidedLaw_law 1231 [some (.inr (.inr (-2))), some (.inr (.inr 1)), some (.inr (.inr 182)), some (.inl v3)] [] g Q) : Rn xs xl 64 mm_OneSidedLaw_law 562 [some (.inr (.inr (-2))), some (.inr (.inr 1)), some (.inr (.inr 182)), some (.inl v3)] [] h Q := by
  have S : ∀ (r : Int) (g : LH), INV g → EQL g → Rn xs xl 64 mm_OneSidedLaw_law 571 [some (.inr (.inr (-2))), some (.inr (.inr 1)), some (.inr (.inr 182)), some (.inl v3)] [.inl r] g Q := by
    intro r g gI EG
    exact B_law_571 (RF_of gI.1) (by omega) ⟨by omega, 63, by decide, D_judgedS (by decide) gI (fun r2 g2 i2 f2 => B_law_581 (RF_of i2.1) (by omega) (k g2 i2 (EQL_fr gI EG (f2 2 0 (by decide) (by decide) (fun z => absurd z (by decide)) (by decide)) (f2 182 2 (by decide) (by decide) (fun z => absurd z (by decide)) (by decide)) (fun a i ha => by obtain ⟨y1, y2, y3, -⟩ := inK_p ha; exact f2 a i (by omega) (by omega) (fun z => by omega) (by omega)))))⟩
  exact B_law_562 (RF_of hI.1) (by omega) ⟨by omega, 63, by decide, root_i TD_judged (as := [.inr (.inr 1), .inl (xs (v3 + 1).toNat)]) rfl (Nat.le_of_ble_eq_true rfl) hI (gAr_c (g_ref 1) (gAr_c (g_i (hxs _)) gAr_n)) rfl (Nat.le_of_ble_eq_true rfl) rfl rfl rfl (by decide +kernel) (by decide +kernel) (by decide +kernel) hE (fun r g gI EG => S r g gI EG)⟩
theorem LW_11 {v3 : Int} (hxs : ∀ j, i32 (xs j)) (h0 : 0 ≤ v3) (h1 : v3 + 7 ≤ (xl : Int)) (hx : xl ≤ 3584) (hI : INV h) (hE : EQL h) (k : ∀ g, INV g → EQL g → Rn xs xl 64 mm_OneSidedLaw_law 1231 [some (.inr (.inr (-2))), some (.inr (.inr 1)), some (.inr (.inr 182)), some (.inl v3)] [] g Q) : Rn xs xl 64 mm_OneSidedLaw_law 585 [some (.inr (.inr (-2))), some (.inr (.inr 1)), some (.inr (.inr 182)), some (.inl v3)] [] h Q := by
  have S : ∀ (r : Int) (g : LH), INV g → EQL g → Rn xs xl 64 mm_OneSidedLaw_law 599 [some (.inr (.inr (-2))), some (.inr (.inr 1)), some (.inr (.inr 182)), some (.inl v3)] [.inl r] g Q := by
    intro r g gI EG
    exact B_law_599 (RF_of gI.1) (by omega) ⟨by omega, by omega, 63, by decide, root_i TR_soonest (as := [.inr (.inr 182), .inl (xs (v3 + 1).toNat), .inl (xs (v3 + 2).toNat)]) rfl (Nat.le_of_ble_eq_true rfl) gI (gAr_c (g_ref 182) (gAr_c (g_i (hxs _)) (gAr_c (g_i (hxs _)) gAr_n))) rfl (Nat.le_of_ble_eq_true rfl) rfl rfl rfl (by decide +kernel) (by decide +kernel) (by decide +kernel) EG (fun r2 g2 i2 E2 => B_law_614 (RF_of i2.1) (by omega) (k g2 i2 E2))⟩
  exact B_law_585 (RF_of hI.1) (by omega) ⟨by omega, by omega, 63, by decide, root_i TC_soonest (as := [.inr (.inr 1), .inl (xs (v3 + 1).toNat), .inl (xs (v3 + 2).toNat)]) rfl (Nat.le_of_ble_eq_true rfl) hI (gAr_c (g_ref 1) (gAr_c (g_i (hxs _)) (gAr_c (g_i (hxs _)) gAr_n))) rfl (Nat.le_of_ble_eq_true rfl) rfl rfl rfl (by decide +kernel) (by decide +kernel) (by decide +kernel) hE (fun r g gI EG => S r g gI EG)⟩
theorem LW_12 {v3 : Int} (hxs : ∀ j, i32 (xs j)) (h0 : 0 ≤ v3) (h1 : v3 + 7 ≤ (xl : Int)) (hx : xl ≤ 3584) (hI : INV h) (hE : EQL h) (k : ∀ g, INV g → EQL g → Rn xs xl 64 mm_OneSidedLaw_law 1231 [some (.inr (.inr (-2))), some (.inr (.inr 1)), some (.inr (.inr 182)), some (.inl v3)] [] g Q) : Rn xs xl 64 mm_OneSidedLaw_law 618 [some (.inr (.inr (-2))), some (.inr (.inr 1)), some (.inr (.inr 182)), some (.inl v3)] [] h Q := by
  have S : ∀ (r : Int) (g : LH), INV g → EQL g → Rn xs xl 64 mm_OneSidedLaw_law 632 [some (.inr (.inr (-2))), some (.inr (.inr 1)), some (.inr (.inr 182)), some (.inl v3)] [.inl r] g Q := by
    intro r g gI EG
    exact B_law_632 (RF_of gI.1) (by omega) ⟨by omega, by omega, 63, by decide, D_errand (by decide) gI (fun r2 g2 i2 f2 => B_law_647 (RF_of i2.1) (by omega) (k g2 i2 (EQL_fr gI EG ((f2 2 0 (by decide) (by decide) (by decide) (by decide) (by decide)).trans (rdw_ne (by decide))) ((f2 182 2 (by decide) (by decide) (by decide) (by decide) (by decide)).trans (rdw_nei (by decide))) (fun a i ha => by obtain ⟨y1, y2, y3, -⟩ := inK_p ha; exact (f2 a i (by omega) (by omega) (by omega) (by omega) (by omega)).trans (by rw [rd_wr, if_neg (by omega)])))))⟩
  exact B_law_618 (RF_of hI.1) (by omega) ⟨by omega, by omega, 63, by decide, root_i TC_errand (as := [.inr (.inr 1), .inl (xs (v3 + 1).toNat), .inl (xs (v3 + 2).toNat)]) rfl (Nat.le_of_ble_eq_true rfl) hI (gAr_c (g_ref 1) (gAr_c (g_i (hxs _)) (gAr_c (g_i (hxs _)) gAr_n))) rfl (Nat.le_of_ble_eq_true rfl) rfl rfl rfl (by decide +kernel) (by decide +kernel) (by decide +kernel) hE (fun r g gI EG => S r g gI EG)⟩
theorem LW_13 {v3 : Int} (hxs : ∀ j, i32 (xs j)) (h0 : 0 ≤ v3) (h1 : v3 + 7 ≤ (xl : Int)) (hx : xl ≤ 3584) (hI : INV h) (hE : EQL h) (k : ∀ g, INV g → EQL g → Rn xs xl 64 mm_OneSidedLaw_law 1231 [some (.inr (.inr (-2))), some (.inr (.inr 1)), some (.inr (.inr 182)), some (.inl v3)] [] g Q) : Rn xs xl 64 mm_OneSidedLaw_law 651 [some (.inr (.inr (-2))), some (.inr (.inr 1)), some (.inr (.inr 182)), some (.inl v3)] [] h Q := by
  have S : ∀ (r : Int) (g : LH), INV g → EQL g → Rn xs xl 64 mm_OneSidedLaw_law 660 [some (.inr (.inr (-2))), some (.inr (.inr 1)), some (.inr (.inr 182)), some (.inl v3)] [.inl r] g Q := by
    intro r g gI EG
    exact B_law_660 (RF_of gI.1) (by omega) ⟨by omega, 63, by decide, root_i TR_reach (as := [.inr (.inr 182), .inl (xs (v3 + 1).toNat)]) rfl (Nat.le_of_ble_eq_true rfl) gI (gAr_c (g_ref 182) (gAr_c (g_i (hxs _)) gAr_n)) rfl (Nat.le_of_ble_eq_true rfl) rfl rfl rfl (by decide +kernel) (by decide +kernel) (by decide +kernel) EG (fun r2 g2 i2 E2 => B_law_670 (RF_of i2.1) (by omega) (k g2 i2 E2))⟩
  exact B_law_651 (RF_of hI.1) (by omega) ⟨by omega, 63, by decide, root_i TC_reach (as := [.inr (.inr 1), .inl (xs (v3 + 1).toNat)]) rfl (Nat.le_of_ble_eq_true rfl) hI (gAr_c (g_ref 1) (gAr_c (g_i (hxs _)) gAr_n)) rfl (Nat.le_of_ble_eq_true rfl) rfl rfl rfl (by decide +kernel) (by decide +kernel) (by decide +kernel) hE (fun r g gI EG => S r g gI EG)⟩
theorem LW_14 {v3 : Int} (hxs : ∀ j, i32 (xs j)) (h0 : 0 ≤ v3) (h1 : v3 + 7 ≤ (xl : Int)) (hx : xl ≤ 3584) (hI : INV h) (hE : EQL h) (k : ∀ g, INV g → EQL g → Rn xs xl 64 mm_OneSidedLaw_law 1231 [some (.inr (.inr (-2))), some (.inr (.inr 1)), some (.inr (.inr 182)), some (.inl v3)] [] g Q) : Rn xs xl 64 mm_OneSidedLaw_law 674 [some (.inr (.inr (-2))), some (.inr (.inr 1)), some (.inr (.inr 182)), some (.inl v3)] [] h Q := by
  have S : ∀ (r : Int) (g : LH), INV g → EQL g → Rn xs xl 64 mm_OneSidedLaw_law 678 [some (.inr (.inr (-2))), some (.inr (.inr 1)), some (.inr (.inr 182)), some (.inl v3)] [.inl r] g Q := by
    intro r g gI EG
    exact B_law_678 (RF_of gI.1) (by omega) ⟨63, by decide, root_i TR_stuck (as := [.inr (.inr 182)]) rfl (Nat.le_of_ble_eq_true rfl) gI (gAr_c (g_ref 182) gAr_n) rfl (Nat.le_of_ble_eq_true rfl) rfl rfl rfl (by decide +kernel) (by decide +kernel) (by decide +kernel) EG (fun r2 g2 i2 E2 => B_law_683 (RF_of i2.1) (by omega) (k g2 i2 E2))⟩
  exact B_law_674 (RF_of hI.1) (by omega) ⟨63, by decide, root_i TC_stuck (as := [.inr (.inr 1)]) rfl (Nat.le_of_ble_eq_true rfl) hI (gAr_c (g_ref 1) gAr_n) rfl (Nat.le_of_ble_eq_true rfl) rfl rfl rfl (by decide +kernel) (by decide +kernel) (by decide +kernel) hE (fun r g gI EG => S r g gI EG)⟩
theorem LW_15 {v3 : Int} (hxs : ∀ j, i32 (xs j)) (h0 : 0 ≤ v3) (h1 : v3 + 7 ≤ (xl : Int)) (hx : xl ≤ 3584) (hI : INV h) (hE : EQL h) (k : ∀ g, INV g → EQL g → Rn xs xl 64 mm_OneSidedLaw_law 1231 [some (.inr (.inr (-2))), some (.inr (.inr 1)), some (.inr (.inr 182)), some (.inl v3)] [] g Q) : Rn xs xl 64 mm_OneSidedLaw_law 687 [some (.inr (.inr (-2))), some (.inr (.inr 1)), some (.inr (.inr 182)), some (.inl v3)] [] h Q := by
  have S : ∀ (r : Int) (g : LH), INV g → EQL g → Rn xs xl 64 mm_OneSidedLaw_law 706 [some (.inr (.inr (-2))), some (.inr (.inr 1)), some (.inr (.inr 182)), some (.inl v3)] [.inl r] g Q := by
    intro r g gI EG
    exact B_law_706 (RF_of gI.1) (by omega) ⟨by omega, by omega, by omega, 63, by decide, root_i TR_ring (as := [.inr (.inr 182), .inl (xs (v3 + 1).toNat), .inl (xs (v3 + 2).toNat), .inl (xs (v3 + 3).toNat)]) rfl (Nat.le_of_ble_eq_true rfl) gI (gAr_c (g_ref 182) (gAr_c (g_i (hxs _)) (gAr_c (g_i (hxs _)) (gAr_c (g_i (hxs _)) gAr_n)))) rfl (Nat.le_of_ble_eq_true rfl) rfl rfl rfl (by decide +kernel) (by decide +kernel) (by decide +kernel) EG (fun r2 g2 i2 E2 => B_law_726 (RF_of i2.1) (by omega) (k g2 i2 E2))⟩
  exact B_law_687 (RF_of hI.1) (by omega) ⟨by omega, by omega, by omega, 63, by decide, root_i TC_ring (as := [.inr (.inr 1), .inl (xs (v3 + 1).toNat), .inl (xs (v3 + 2).toNat), .inl (xs (v3 + 3).toNat)]) rfl (Nat.le_of_ble_eq_true rfl) hI (gAr_c (g_ref 1) (gAr_c (g_i (hxs _)) (gAr_c (g_i (hxs _)) (gAr_c (g_i (hxs _)) gAr_n)))) rfl (Nat.le_of_ble_eq_true rfl) rfl rfl rfl (by decide +kernel) (by decide +kernel) (by decide +kernel) hE (fun r g gI EG => S r g gI EG)⟩
theorem LW_16 {v3 : Int} (hxs : ∀ j, i32 (xs j)) (h0 : 0 ≤ v3) (h1 : v3 + 7 ≤ (xl : Int)) (hx : xl ≤ 3584) (hI : INV h) (hE : EQL h) (k : ∀ g, INV g → EQL g → Rn xs xl 64 mm_OneSidedLaw_law 1231 [some (.inr (.inr (-2))), some (.inr (.inr 1)), some (.inr (.inr 182)), some (.inl v3)] [] g Q) : Rn xs xl 64 mm_OneSidedLaw_law 730 [some (.inr (.inr (-2))), some (.inr (.inr 1)), some (.inr (.inr 182)), some (.inl v3)] [] h Q := by
  have S : ∀ (r : Int) (g : LH), INV g → EQL g → Rn xs xl 64 mm_OneSidedLaw_law 749 [some (.inr (.inr (-2))), some (.inr (.inr 1)), some (.inr (.inr 182)), some (.inl v3)] [.inl r] g Q := by
    intro r g gI EG
    exact B_law_749 (RF_of gI.1) (by omega) ⟨by omega, by omega, by omega, 63, by decide, root_i TR_homeless (as := [.inr (.inr 182), .inl (xs (v3 + 1).toNat), .inl (xs (v3 + 2).toNat), .inl (xs (v3 + 3).toNat)]) rfl (Nat.le_of_ble_eq_true rfl) gI (gAr_c (g_ref 182) (gAr_c (g_i (hxs _)) (gAr_c (g_i (hxs _)) (gAr_c (g_i (hxs _)) gAr_n)))) rfl (Nat.le_of_ble_eq_true rfl) rfl rfl rfl (by decide +kernel) (by decide +kernel) (by decide +kernel) EG (fun r2 g2 i2 E2 => B_law_769 (RF_of i2.1) (by omega) (k g2 i2 E2))⟩
  exact B_law_730 (RF_of hI.1) (by omega) ⟨by omega, by omega, by omega, 63, by decide, root_i TC_homeless (as := [.inr (.inr 1), .inl (xs (v3 + 1).toNat), .inl (xs (v3 + 2).toNat), .inl (xs (v3 + 3).toNat)]) rfl (Nat.le_of_ble_eq_true rfl) hI (gAr_c (g_ref 1) (gAr_c (g_i (hxs _)) (gAr_c (g_i (hxs _)) (gAr_c (g_i (hxs _)) gAr_n)))) rfl (Nat.le_of_ble_eq_true rfl) rfl rfl rfl (by decide +kernel) (by decide +kernel) (by decide +kernel) hE (fun r g gI EG => S r g gI EG)⟩
theorem LW_17 {v3 : Int} (hxs : ∀ j, i32 (xs j)) (h0 : 0 ≤ v3) (h1 : v3 + 7 ≤ (xl : Int)) (hx : xl ≤ 3584) (hI : INV h) (hE : EQL h) (k : ∀ g, INV g → EQL g → Rn xs xl 64 mm_OneSidedLaw_law 1231 [some (.inr (.inr (-2))), some (.inr (.inr 1)), some (.inr (.inr 182)), some (.inl v3)] [] g Q) : Rn xs xl 64 mm_OneSidedLaw_law 773 [some (.inr (.inr (-2))), some (.inr (.inr 1)), some (.inr (.inr 182)), some (.inl v3)] [] h Q := by
  have S : ∀ (r : Int) (g : LH), INV g → EQL g → Rn xs xl 64 mm_OneSidedLaw_law 787 [some (.inr (.inr (-2))), some (.inr (.inr 1)), some (.inr (.inr 182)), some (.inl v3)] [.inl r] g Q := by
    intro r g gI EG
    exact B_law_787 (RF_of gI.1) (by omega) ⟨by omega, by omega, 63, by decide, root_i TR_add (as := [.inr (.inr 182), .inl (xs (v3 + 1).toNat), .inl (xs (v3 + 2).toNat)]) rfl (Nat.le_of_ble_eq_true rfl) gI (gAr_c (g_ref 182) (gAr_c (g_i (hxs _)) (gAr_c (g_i (hxs _)) gAr_n))) rfl (Nat.le_of_ble_eq_true rfl) rfl rfl rfl (by decide +kernel) (by decide +kernel) (by decide +kernel) EG (fun r2 g2 i2 E2 => B_law_802 (RF_of i2.1) (by omega) (k g2 i2 E2))⟩
  exact B_law_773 (RF_of hI.1) (by omega) ⟨by omega, by omega, 63, by decide, root_i TC_add (as := [.inr (.inr 1), .inl (xs (v3 + 1).toNat), .inl (xs (v3 + 2).toNat)]) rfl (Nat.le_of_ble_eq_true rfl) hI (gAr_c (g_ref 1) (gAr_c (g_i (hxs _)) (gAr_c (g_i (hxs _)) gAr_n))) rfl (Nat.le_of_ble_eq_true rfl) rfl rfl rfl (by decide +kernel) (by decide +kernel) (by decide +kernel) hE (fun r g gI EG => S r g gI EG)⟩
theorem LW_18 {v3 : Int} (hxs : ∀ j, i32 (xs j)) (h0 : 0 ≤ v3) (h1 : v3 + 7 ≤ (xl : Int)) (hx : xl ≤ 3584) (hI : INV h) (hE : EQL h) (k : ∀ g, INV g → EQL g → Rn xs xl 64 mm_OneSidedLaw_law 1231 [some (.inr (.inr (-2))), some (.inr (.inr 1)), some (.inr (.inr 182)), some (.inl v3)] [] g Q) : Rn xs xl 64 mm_OneSidedLaw_law 806 [some (.inr (.inr (-2))), some (.inr (.inr 1)), some (.inr (.inr 182)), some (.inl v3)] [] h Q := by
  have S : ∀ (r : Int) (g : LH), INV g → EQL g → Rn xs xl 64 mm_OneSidedLaw_law 820 [some (.inr (.inr (-2))), some (.inr (.inr 1)), some (.inr (.inr 182)), some (.inl v3)] [.inl r] g Q := by
    intro r g gI EG
    exact B_law_820 (RF_of gI.1) (by omega) ⟨by omega, by omega, 63, by decide, root_i TR_turn (as := [.inr (.inr 182), .inl (xs (v3 + 1).toNat), .inl (xs (v3 + 2).toNat)]) rfl (Nat.le_of_ble_eq_true rfl) gI (gAr_c (g_ref 182) (gAr_c (g_i (hxs _)) (gAr_c (g_i (hxs _)) gAr_n))) rfl (Nat.le_of_ble_eq_true rfl) rfl rfl rfl (by decide +kernel) (by decide +kernel) (by decide +kernel) EG (fun r2 g2 i2 E2 => B_law_835 (RF_of i2.1) (by omega) (k g2 i2 E2))⟩
  exact B_law_806 (RF_of hI.1) (by omega) ⟨by omega, by omega, 63, by decide, root_i TC_turn (as := [.inr (.inr 1), .inl (xs (v3 + 1).toNat), .inl (xs (v3 + 2).toNat)]) rfl (Nat.le_of_ble_eq_true rfl) hI (gAr_c (g_ref 1) (gAr_c (g_i (hxs _)) (gAr_c (g_i (hxs _)) gAr_n))) rfl (Nat.le_of_ble_eq_true rfl) rfl rfl rfl (by decide +kernel) (by decide +kernel) (by decide +kernel) hE (fun r g gI EG => S r g gI EG)⟩
theorem LW_19 {v3 : Int} (hxs : ∀ j, i32 (xs j)) (h0 : 0 ≤ v3) (h1 : v3 + 7 ≤ (xl : Int)) (hx : xl ≤ 3584) (hI : INV h) (hE : EQL h) (k : ∀ g, INV g → EQL g → Rn xs xl 64 mm_OneSidedLaw_law 1231 [some (.inr (.inr (-2))), some (.inr (.inr 1)), some (.inr (.inr 182)), some (.inl v3)] [] g Q) : Rn xs xl 64 mm_OneSidedLaw_law 839 [some (.inr (.inr (-2))), some (.inr (.inr 1)), some (.inr (.inr 182)), some (.inl v3)] [] h Q := by
  have S : ∀ (r : Int) (g : LH), INV g → EQL g → Rn xs xl 64 mm_OneSidedLaw_law 863 [some (.inr (.inr (-2))), some (.inr (.inr 1)), some (.inr (.inr 182)), some (.inl v3)] [.inl r] g Q := by
    intro r g gI EG
    exact B_law_863 (RF_of gI.1) (by omega) ⟨by omega, by omega, by omega, by omega, 63, by decide, root_i TR_cut (as := [.inr (.inr 182), .inl (xs (v3 + 1).toNat), .inl (xs (v3 + 2).toNat), .inl (xs (v3 + 3).toNat), .inl (xs (v3 + 4).toNat)]) rfl (Nat.le_of_ble_eq_true rfl) gI (gAr_c (g_ref 182) (gAr_c (g_i (hxs _)) (gAr_c (g_i (hxs _)) (gAr_c (g_i (hxs _)) (gAr_c (g_i (hxs _)) gAr_n))))) rfl (Nat.le_of_ble_eq_true rfl) rfl rfl rfl (by decide +kernel) (by decide +kernel) (by decide +kernel) EG (fun r2 g2 i2 E2 => B_law_888 (RF_of i2.1) (by omega) (k g2 i2 E2))⟩
  exact B_law_839 (RF_of hI.1) (by omega) ⟨by omega, by omega, by omega, by omega, 63, by decide, root_i TC_cut (as := [.inr (.inr 1), .inl (xs (v3 + 1).toNat), .inl (xs (v3 + 2).toNat), .inl (xs (v3 + 3).toNat), .inl (xs (v3 + 4).toNat)]) rfl (Nat.le_of_ble_eq_true rfl) hI (gAr_c (g_ref 1) (gAr_c (g_i (hxs _)) (gAr_c (g_i (hxs _)) (gAr_c (g_i (hxs _)) (gAr_c (g_i (hxs _)) gAr_n))))) rfl (Nat.le_of_ble_eq_true rfl) rfl rfl rfl (by decide +kernel) (by decide +kernel) (by decide +kernel) hE (fun r g gI EG => S r g gI EG)⟩
theorem LW_20 {v3 : Int} (hxs : ∀ j, i32 (xs j)) (h0 : 0 ≤ v3) (h1 : v3 + 7 ≤ (xl : Int)) (hx : xl ≤ 3584) (hI : INV h) (hE : EQL h) (k : ∀ g, INV g → EQL g → Rn xs xl 64 mm_OneSidedLaw_law 1231 [some (.inr (.inr (-2))), some (.inr (.inr 1)), some (.inr (.inr 182)), some (.inl v3)] [] g Q) : Rn xs xl 64 mm_OneSidedLaw_law 892 [some (.inr (.inr (-2))), some (.inr (.inr 1)), some (.inr (.inr 182)), some (.inl v3)] [] h Q := by
  have S : ∀ (r : Int) (g : LH), INV g → EQL g → Rn xs xl 64 mm_OneSidedLaw_law 911 [some (.inr (.inr (-2))), some (.inr (.inr 1)), some (.inr (.inr 182)), some (.inl v3)] [.inl r] g Q := by
    intro r g gI EG
    exact B_law_911 (RF_of gI.1) (by omega) ⟨by omega, by omega, by omega, 63, by decide, D_crowd (by decide) gI (fun r2 g2 i2 f2 => B_law_931 (RF_of i2.1) (by omega) (k g2 i2 (EQL_fr gI EG (f2 2 0 (by decide) (by decide) (by decide) (by decide) (by decide) (by decide) (by decide) (by decide)) (f2 182 2 (by decide) (by decide) (by decide) (by decide) (by decide) (by decide) (by decide) (by decide)) (fun a i ha => by obtain ⟨y1, y2, y3, -⟩ := inK_p ha; exact f2 a i (by omega) (by omega) (by omega) (by omega) (by omega) (by omega) (by omega) (by omega)))))⟩
  exact B_law_892 (RF_of hI.1) (by omega) ⟨by omega, by omega, by omega, 63, by decide, E_crowd (by decide) hI (fun r g gI gf => S r g gI (EQL_fr hI hE (gf 2 0 (by decide) (by decide) (by decide) (by decide) (by decide) (by decide)) (gf 182 2 (by decide) (by decide) (by decide) (by decide) (by decide) (by decide)) (fun a i ha => by obtain ⟨y1, -⟩ := inK_p ha; exact gf a i (by omega) (by omega) (by omega) (by omega) (by omega) (by omega))))⟩
theorem LW_21 {v3 : Int} (hxs : ∀ j, i32 (xs j)) (h0 : 0 ≤ v3) (h1 : v3 + 7 ≤ (xl : Int)) (hx : xl ≤ 3584) (hI : INV h) (hE : EQL h) (k : ∀ g, INV g → EQL g → Rn xs xl 64 mm_OneSidedLaw_law 1231 [some (.inr (.inr (-2))), some (.inr (.inr 1)), some (.inr (.inr 182)), some (.inl v3)] [] g Q) : Rn xs xl 64 mm_OneSidedLaw_law 935 [some (.inr (.inr (-2))), some (.inr (.inr 1)), some (.inr (.inr 182)), some (.inl v3)] [] h Q := by
  have S : ∀ (r : Int) (g : LH), INV g → EQL g → Rn xs xl 64 mm_OneSidedLaw_law 962 [some (.inr (.inr (-2))), some (.inr (.inr 1)), some (.inr (.inr 182)), some (.inl v3)] [.inl r] g Q := by
    intro r g gI EG
    exact B_law_962 (RF_of gI.1) (by omega) ⟨by omega, by omega, by omega, fun _ => ⟨63, by decide, root_b TR_told (as := [.inr (.inr 182), .inl (xs (v3 + 1).toNat), .inl (xs (v3 + 2).toNat), .inl 0]) rfl (Nat.le_of_ble_eq_true rfl) gI (gAr_c (g_ref 182) (gAr_c (g_i (hxs _)) (gAr_c (g_i (hxs _)) (gAr_c g_z0 gAr_n)))) rfl (Nat.le_of_ble_eq_true rfl) rfl rfl rfl rfl (by decide +kernel) (by decide +kernel) (by decide +kernel) EG (fun r2 g2 i2 E2 => B_law_990 (RF_of i2.1) (by omega) (k g2 i2 E2))⟩, fun _ => ⟨63, by decide, root_b TR_told (as := [.inr (.inr 182), .inl (xs (v3 + 1).toNat), .inl (xs (v3 + 2).toNat), .inl 1]) rfl (Nat.le_of_ble_eq_true rfl) gI (gAr_c (g_ref 182) (gAr_c (g_i (hxs _)) (gAr_c (g_i (hxs _)) (gAr_c g_z1 gAr_n)))) rfl (Nat.le_of_ble_eq_true rfl) rfl rfl rfl rfl (by decide +kernel) (by decide +kernel) (by decide +kernel) EG (fun r2 g2 i2 E2 => B_law_990 (RF_of i2.1) (by omega) (k g2 i2 E2))⟩⟩
  exact B_law_935 (RF_of hI.1) (by omega) ⟨by omega, by omega, by omega, fun _ => ⟨63, by decide, root_b TC_told (as := [.inr (.inr 1), .inl (xs (v3 + 1).toNat), .inl (xs (v3 + 2).toNat), .inl 0]) rfl (Nat.le_of_ble_eq_true rfl) hI (gAr_c (g_ref 1) (gAr_c (g_i (hxs _)) (gAr_c (g_i (hxs _)) (gAr_c g_z0 gAr_n)))) rfl (Nat.le_of_ble_eq_true rfl) rfl rfl rfl rfl (by decide +kernel) (by decide +kernel) (by decide +kernel) hE (fun r g gI EG => S r g gI EG)⟩, fun _ => ⟨63, by decide, root_b TC_told (as := [.inr (.inr 1), .inl (xs (v3 + 1).toNat), .inl (xs (v3 + 2).toNat), .inl 1]) rfl (Nat.le_of_ble_eq_true rfl) hI (gAr_c (g_ref 1) (gAr_c (g_i (hxs _)) (gAr_c (g_i (hxs _)) (gAr_c g_z1 gAr_n)))) rfl (Nat.le_of_ble_eq_true rfl) rfl rfl rfl rfl (by decide +kernel) (by decide +kernel) (by decide +kernel) hE (fun r g gI EG => S r g gI EG)⟩⟩
theorem LW_22 {v3 : Int} (hxs : ∀ j, i32 (xs j)) (h0 : 0 ≤ v3) (h1 : v3 + 7 ≤ (xl : Int)) (hx : xl ≤ 3584) (hI : INV h) (hE : EQL h) (k : ∀ g, INV g → EQL g → Rn xs xl 64 mm_OneSidedLaw_law 1231 [some (.inr (.inr (-2))), some (.inr (.inr 1)), some (.inr (.inr 182)), some (.inl v3)] [] g Q) : Rn xs xl 64 mm_OneSidedLaw_law 994 [some (.inr (.inr (-2))), some (.inr (.inr 1)), some (.inr (.inr 182)), some (.inl v3)] [] h Q := by
  have S : ∀ (r : Int) (g : LH), INV g → EQL g → Rn xs xl 64 mm_OneSidedLaw_law 1003 [some (.inr (.inr (-2))), some (.inr (.inr 1)), some (.inr (.inr 182)), some (.inl v3)] [.inl r] g Q := by
    intro r g gI EG
    exact B_law_1003 (RF_of gI.1) (by omega) ⟨by omega, 63, by decide, root_i TR_found (as := [.inr (.inr 182), .inl (xs (v3 + 1).toNat)]) rfl (Nat.le_of_ble_eq_true rfl) gI (gAr_c (g_ref 182) (gAr_c (g_i (hxs _)) gAr_n)) rfl (Nat.le_of_ble_eq_true rfl) rfl rfl rfl (by decide +kernel) (by decide +kernel) (by decide +kernel) EG (fun r2 g2 i2 E2 => B_law_1013 (RF_of i2.1) (by omega) (k g2 i2 E2))⟩
  exact B_law_994 (RF_of hI.1) (by omega) ⟨by omega, 63, by decide, root_i TC_found (as := [.inr (.inr 1), .inl (xs (v3 + 1).toNat)]) rfl (Nat.le_of_ble_eq_true rfl) hI (gAr_c (g_ref 1) (gAr_c (g_i (hxs _)) gAr_n)) rfl (Nat.le_of_ble_eq_true rfl) rfl rfl rfl (by decide +kernel) (by decide +kernel) (by decide +kernel) hE (fun r g gI EG => S r g gI EG)⟩
theorem LW_23 {v3 : Int} (hxs : ∀ j, i32 (xs j)) (h0 : 0 ≤ v3) (h1 : v3 + 7 ≤ (xl : Int)) (hx : xl ≤ 3584) (hI : INV h) (hE : EQL h) (k : ∀ g, INV g → EQL g → Rn xs xl 64 mm_OneSidedLaw_law 1231 [some (.inr (.inr (-2))), some (.inr (.inr 1)), some (.inr (.inr 182)), some (.inl v3)] [] g Q) : Rn xs xl 64 mm_OneSidedLaw_law 1017 [some (.inr (.inr (-2))), some (.inr (.inr 1)), some (.inr (.inr 182)), some (.inl v3)] [] h Q := by
  exact B_law_1017 (RF_of hI.1) (by omega) ⟨by omega, by omega, by omega, 63, by decide, E_restsS (by decide) hI hE (hxs _) (hxs _) (hxs _) (fun r g gI gj => B_law_1036 (RF_of gI.1) (by omega) ⟨by omega, by omega, by omega, 63, by decide, G_restsS (by decide) hI hE gI gj (fun g2 i2 E2 => B_law_1055 (RF_of i2.1) (by omega) ⟨fun _ => k g2 i2 E2, fun z => absurd rfl z⟩)⟩)⟩
theorem LW_24 {v3 : Int} (hxs : ∀ j, i32 (xs j)) (h0 : 0 ≤ v3) (h1 : v3 + 7 ≤ (xl : Int)) (hx : xl ≤ 3584) (hI : INV h) (hE : EQL h) (k : ∀ g, INV g → EQL g → Rn xs xl 64 mm_OneSidedLaw_law 1231 [some (.inr (.inr (-2))), some (.inr (.inr 1)), some (.inr (.inr 182)), some (.inl v3)] [] g Q) : Rn xs xl 64 mm_OneSidedLaw_law 1060 [some (.inr (.inr (-2))), some (.inr (.inr 1)), some (.inr (.inr 182)), some (.inl v3)] [] h Q := by
  have S : ∀ (r : Int) (g : LH), INV g → EQL g → Rn xs xl 64 mm_OneSidedLaw_law 1074 [some (.inr (.inr (-2))), some (.inr (.inr 1)), some (.inr (.inr 182)), some (.inl v3)] [.inl r] g Q := by
    intro r g gI EG
    exact B_law_1074 (RF_of gI.1) (by omega) ⟨by omega, by omega, 63, by decide, root_i TR_chase (as := [.inr (.inr 182), .inl (xs (v3 + 1).toNat), .inl (xs (v3 + 2).toNat)]) rfl (Nat.le_of_ble_eq_true rfl) gI (gAr_c (g_ref 182) (gAr_c (g_i (hxs _)) (gAr_c (g_i (hxs _)) gAr_n))) rfl (Nat.le_of_ble_eq_true rfl) rfl rfl rfl (by decide +kernel) (by decide +kernel) (by decide +kernel) EG (fun r2 g2 i2 E2 => B_law_1089 (RF_of i2.1) (by omega) (k g2 i2 E2))⟩
  exact B_law_1060 (RF_of hI.1) (by omega) ⟨by omega, by omega, 63, by decide, root_i TC_chase (as := [.inr (.inr 1), .inl (xs (v3 + 1).toNat), .inl (xs (v3 + 2).toNat)]) rfl (Nat.le_of_ble_eq_true rfl) hI (gAr_c (g_ref 1) (gAr_c (g_i (hxs _)) (gAr_c (g_i (hxs _)) gAr_n))) rfl (Nat.le_of_ble_eq_true rfl) rfl rfl rfl (by decide +kernel) (by decide +kernel) (by decide +kernel) hE (fun r g gI EG => S r g gI EG)⟩
theorem LW_25 {v3 : Int} (hxs : ∀ j, i32 (xs j)) (h0 : 0 ≤ v3) (h1 : v3 + 7 ≤ (xl : Int)) (hx : xl ≤ 3584) (hI : INV h) (hE : EQL h) (k : ∀ g, INV g → EQL g → Rn xs xl 64 mm_OneSidedLaw_law 1231 [some (.inr (.inr (-2))), some (.inr (.inr 1)), some (.inr (.inr 182)), some (.inl v3)] [] g Q) : Rn xs xl 64 mm_OneSidedLaw_law 1093 [some (.inr (.inr (-2))), some (.inr (.inr 1)), some (.inr (.inr 182)), some (.inl v3)] [] h Q := by
  have S : ∀ (r : Int) (g : LH), INV g → EQL g → Rn xs xl 64 mm_OneSidedLaw_law 1102 [some (.inr (.inr (-2))), some (.inr (.inr 1)), some (.inr (.inr 182)), some (.inl v3)] [.inl r] g Q := by
    intro r g gI EG
    exact B_law_1102 (RF_of gI.1) (by omega) ⟨by omega, 63, by decide, D_run (by decide) gI (fun r2 g2 i2 f2 => B_law_1112 (RF_of i2.1) (by omega) (k g2 i2 (EQL_fr gI EG ((f2 2 0 (by decide) (by decide) (by decide) (by decide) (by decide) (by decide)).trans (rdw_ne (by decide))) ((f2 182 2 (by decide) (by decide) (by decide) (by decide) (by decide) (by decide)).trans (rdw_nei (by decide))) (fun a i ha => by obtain ⟨y1, y2, y3, -⟩ := inK_p ha; exact (f2 a i (by omega) (by omega) (by omega) (by omega) (fun z => by omega) (by omega)).trans (by rw [rd_wr, if_neg (by omega)])))))⟩
  exact B_law_1093 (RF_of hI.1) (by omega) ⟨by omega, 63, by decide, root_i TC_run (as := [.inr (.inr 1), .inl (xs (v3 + 1).toNat)]) rfl (Nat.le_of_ble_eq_true rfl) hI (gAr_c (g_ref 1) (gAr_c (g_i (hxs _)) gAr_n)) rfl (Nat.le_of_ble_eq_true rfl) rfl rfl rfl (by decide +kernel) (by decide +kernel) (by decide +kernel) hE (fun r g gI EG => S r g gI EG)⟩
theorem LW_26 {v3 : Int} (hxs : ∀ j, i32 (xs j)) (h0 : 0 ≤ v3) (h1 : v3 + 7 ≤ (xl : Int)) (hx : xl ≤ 3584) (hI : INV h) (hE : EQL h) (k : ∀ g, INV g → EQL g → Rn xs xl 64 mm_OneSidedLaw_law 1231 [some (.inr (.inr (-2))), some (.inr (.inr 1)), some (.inr (.inr 182)), some (.inl v3)] [] g Q) : Rn xs xl 64 mm_OneSidedLaw_law 1116 [some (.inr (.inr (-2))), some (.inr (.inr 1)), some (.inr (.inr 182)), some (.inl v3)] [] h Q := by
  have S : ∀ (r : Int) (g : LH), INV g → EQL g → Rn xs xl 64 mm_OneSidedLaw_law 1135 [some (.inr (.inr (-2))), some (.inr (.inr 1)), some (.inr (.inr 182)), some (.inl v3)] [.inl r] g Q := by
    intro r g gI EG
    exact B_law_1135 (RF_of gI.1) (by omega) ⟨by omega, by omega, by omega, 63, by decide, root_i TR_years (as := [.inr (.inr 182), .inl (xs (v3 + 1).toNat), .inl (xs (v3 + 2).toNat), .inl (xs (v3 + 3).toNat)]) rfl (Nat.le_of_ble_eq_true rfl) gI (gAr_c (g_ref 182) (gAr_c (g_i (hxs _)) (gAr_c (g_i (hxs _)) (gAr_c (g_i (hxs _)) gAr_n)))) rfl (Nat.le_of_ble_eq_true rfl) rfl rfl rfl (by decide +kernel) (by decide +kernel) (by decide +kernel) EG (fun r2 g2 i2 E2 => B_law_1155 (RF_of i2.1) (by omega) (k g2 i2 E2))⟩
  exact B_law_1116 (RF_of hI.1) (by omega) ⟨by omega, by omega, by omega, 63, by decide, root_i TC_years (as := [.inr (.inr 1), .inl (xs (v3 + 1).toNat), .inl (xs (v3 + 2).toNat), .inl (xs (v3 + 3).toNat)]) rfl (Nat.le_of_ble_eq_true rfl) hI (gAr_c (g_ref 1) (gAr_c (g_i (hxs _)) (gAr_c (g_i (hxs _)) (gAr_c (g_i (hxs _)) gAr_n)))) rfl (Nat.le_of_ble_eq_true rfl) rfl rfl rfl (by decide +kernel) (by decide +kernel) (by decide +kernel) hE (fun r g gI EG => S r g gI EG)⟩
theorem LW_27 {v3 : Int} (hxs : ∀ j, i32 (xs j)) (h0 : 0 ≤ v3) (h1 : v3 + 7 ≤ (xl : Int)) (hx : xl ≤ 3584) (hI : INV h) (hE : EQL h) (k : ∀ g, INV g → EQL g → Rn xs xl 64 mm_OneSidedLaw_law 1231 [some (.inr (.inr (-2))), some (.inr (.inr 1)), some (.inr (.inr 182)), some (.inl v3)] [] g Q) : Rn xs xl 64 mm_OneSidedLaw_law 1159 [some (.inr (.inr (-2))), some (.inr (.inr 1)), some (.inr (.inr 182)), some (.inl v3)] [] h Q := by
  exact B_law_1159 (RF_of hI.1) (by omega) ⟨by omega, by omega, fun c => ⟨63, by decide, E_markS (by decide) hI hE (hxs _) g_z0 (fun r g gI gj => B_law_1181 (RF_of gI.1) (by omega) ⟨by omega, by omega, fun _ => ⟨63, by decide, G_markS (by decide) hI hE gI gj (fun g2 i2 E2 => B_law_1204 (RF_of i2.1) (by omega) (k g2 i2 E2))⟩, fun z => absurd c z⟩)⟩, fun c => ⟨63, by decide, E_markS (by decide) hI hE (hxs _) g_z1 (fun r g gI gj => B_law_1181 (RF_of gI.1) (by omega) ⟨by omega, by omega, fun z => absurd z c, fun _ => ⟨63, by decide, G_markS (by decide) hI hE gI gj (fun g2 i2 E2 => B_law_1204 (RF_of i2.1) (by omega) (k g2 i2 E2))⟩⟩)⟩⟩
theorem LW_28 {v3 : Int} (hxs : ∀ j, i32 (xs j)) (h0 : 0 ≤ v3) (h1 : v3 + 7 ≤ (xl : Int)) (hx : xl ≤ 3584) (hI : INV h) (hE : EQL h) (k : ∀ g, INV g → EQL g → Rn xs xl 64 mm_OneSidedLaw_law 1231 [some (.inr (.inr (-2))), some (.inr (.inr 1)), some (.inr (.inr 182)), some (.inl v3)] [] g Q) : Rn xs xl 64 mm_OneSidedLaw_law 1208 [some (.inr (.inr (-2))), some (.inr (.inr 1)), some (.inr (.inr 182)), some (.inl v3)] [] h Q := by
  have S : ∀ (r : Int) (g : LH), INV g → EQL g → Rn xs xl 64 mm_OneSidedLaw_law 1217 [some (.inr (.inr (-2))), some (.inr (.inr 1)), some (.inr (.inr 182)), some (.inl v3)] [.inl r] g Q := by
    intro r g gI EG
    exact B_law_1217 (RF_of gI.1) (by omega) ⟨by omega, 63, by decide, root_i TR_count (as := [.inr (.inr 182), .inl (xs (v3 + 1).toNat)]) rfl (Nat.le_of_ble_eq_true rfl) gI (gAr_c (g_ref 182) (gAr_c (g_i (hxs _)) gAr_n)) rfl (Nat.le_of_ble_eq_true rfl) rfl rfl rfl (by decide +kernel) (by decide +kernel) (by decide +kernel) EG (fun r2 g2 i2 E2 => B_law_1227 (RF_of i2.1) (by omega) (k g2 i2 E2))⟩
  exact B_law_1208 (RF_of hI.1) (by omega) ⟨by omega, 63, by decide, root_i TC_count (as := [.inr (.inr 1), .inl (xs (v3 + 1).toNat)]) rfl (Nat.le_of_ble_eq_true rfl) hI (gAr_c (g_ref 1) (gAr_c (g_i (hxs _)) gAr_n)) rfl (Nat.le_of_ble_eq_true rfl) rfl rfl rfl (by decide +kernel) (by decide +kernel) (by decide +kernel) hE (fun r g gI EG => S r g gI EG)⟩
theorem law_loop (hxs : ∀ j, i32 (xs j)) (hx : xl ≤ 3584) (kq : ∀ g, INV g → Q (some (.inl 1)) g) : ∀ (m : Nat) (v3 : Int) (h : LH), 0 ≤ v3 → v3 ≤ (xl : Int) → ((xl : Int) - v3).toNat ≤ m → INV h → EQL h → Rn xs xl 64 mm_OneSidedLaw_law 18 [some (.inr (.inr (-2))), some (.inr (.inr 1)), some (.inr (.inr 182)), some (.inl v3)] [] h Q := by
  intro m
  induction m with
  | zero =>
    intro v3 h h0 h1 hm hI hE
    exact B_law_18 (RF_of hI.1) (by omega) ⟨by omega, fun _ => kq h hI, fun z => absurd z (by omega)⟩
  | succ m ih =>
    intro v3 h h0 h1 hm hI hE
    refine B_law_18 (RF_of hI.1) (by omega) ⟨by omega, fun _ => kq h hI, fun z => ?_⟩
    have z7 : v3 + 7 ≤ (xl : Int) := by omega
    have K : ∀ g, INV g → EQL g → Rn xs xl 64 mm_OneSidedLaw_law 1231 [some (.inr (.inr (-2))), some (.inr (.inr 1)), some (.inr (.inr 182)), some (.inl v3)] [] g Q := fun g gI gE => B_law_1231 (RF_of gI.1) (by omega) (ih (v3 + 7) g (by omega) (by omega) (by omega) gI gE)
    exact ⟨by omega, fun _ => LW_0 hxs h0 z7 hx hI hE K, fun _ => LW_1 hxs h0 z7 hx hI hE K, fun _ => LW_2 hxs h0 z7 hx hI hE K, fun _ => LW_3 hxs h0 z7 hx hI hE K, fun _ => LW_4 hxs h0 z7 hx hI hE K, fun _ => LW_5 hxs h0 z7 hx hI hE K, fun _ => LW_6 hxs h0 z7 hx hI hE K, fun _ => LW_7 hxs h0 z7 hx hI hE K, fun _ => LW_8 hxs h0 z7 hx hI hE K, fun _ => LW_9 hxs h0 z7 hx hI hE K, fun _ => LW_10 hxs h0 z7 hx hI hE K, fun _ => LW_11 hxs h0 z7 hx hI hE K, fun _ => LW_12 hxs h0 z7 hx hI hE K, fun _ => LW_13 hxs h0 z7 hx hI hE K, fun _ => LW_14 hxs h0 z7 hx hI hE K, fun _ => LW_15 hxs h0 z7 hx hI hE K, fun _ => LW_16 hxs h0 z7 hx hI hE K, fun _ => LW_17 hxs h0 z7 hx hI hE K, fun _ => LW_18 hxs h0 z7 hx hI hE K, fun _ => LW_19 hxs h0 z7 hx hI hE K, fun _ => LW_20 hxs h0 z7 hx hI hE K, fun _ => LW_21 hxs h0 z7 hx hI hE K, fun _ => LW_22 hxs h0 z7 hx hI hE K, fun _ => LW_23 hxs h0 z7 hx hI hE K, fun _ => LW_24 hxs h0 z7 hx hI hE K, fun _ => LW_25 hxs h0 z7 hx hI hE K, fun _ => LW_26 hxs h0 z7 hx hI hE K, fun _ => LW_27 hxs h0 z7 hx hI hE K, fun _ => LW_28 hxs h0 z7 hx hI hE K, fun _ => K h hI hE⟩
end LA
end
section
/-! LM, part 9d: the first heap; the law's run from its entry -/
def gVb (a : AV) (v : LV) : Bool := match v with
  | .inl x => a.1 == 0 && decide (-2147483648 ≤ x) && decide (x ≤ 2147483647) && decide (a.2.1 ≤ x) && decide (x ≤ a.2.2.1) && decide ((x - a.2.1) % ((a.2.2.2 : Nat) : Int) = 0)
  | .inr (.inl x) => a.1 == 1 && decide (-9223372036854775808 ≤ x) && decide (x ≤ 9223372036854775807) && decide (a.2.1 ≤ x) && decide (x ≤ a.2.2.1) && decide ((x - a.2.1) % ((a.2.2.2 : Nat) : Int) = 0)
  | .inr (.inr x) => a.1 == 2 && decide (a.2.1 ≤ x) && decide (x ≤ a.2.2.1) && decide ((x - a.2.1) % ((a.2.2.2 : Nat) : Int) = 0)
theorem gVb_ok {a : AV} {v : LV} (h : gVb a v = true) : gV a v := by
  rcases v with x | x | x
  · simp only [gVb, Bool.and_eq_true, decide_eq_true_eq, beq_iff_eq] at h
    obtain ⟨⟨⟨⟨⟨h1, h2⟩, h3⟩, h4⟩, h5⟩, h6⟩ := h
    exact ⟨h1, ⟨h2, h3⟩, h4, h5, Int.dvd_of_emod_eq_zero h6⟩
  · simp only [gVb, Bool.and_eq_true, decide_eq_true_eq, beq_iff_eq] at h
    obtain ⟨⟨⟨⟨⟨h1, h2⟩, h3⟩, h4⟩, h5⟩, h6⟩ := h
    exact ⟨h1, ⟨h2, h3⟩, h4, h5, Int.dvd_of_emod_eq_zero h6⟩
  · simp only [gVb, Bool.and_eq_true, decide_eq_true_eq, beq_iff_eq] at h
    obtain ⟨⟨⟨h1, h4⟩, h5⟩, h6⟩ := h
    exact ⟨h1, h4, h5, Int.dvd_of_emod_eq_zero h6⟩
theorem rd_mem : ∀ (h : LH) (a i : Int), (a, i, rd h a i) ∈ h ∨ (rd h a i = 0 ∧ ∀ v, (a, i, v) ∉ h)
  | [], a, i => Or.inr ⟨rfl, fun v q => by cases q⟩
  | (b, j, v) :: t, a, i => by
    by_cases c : b = a ∧ j = i
    · obtain ⟨rfl, rfl⟩ := c
      left
      show (b, j, if b = b ∧ j = j then v else rd t b j) ∈ _
      rw [if_pos ⟨rfl, rfl⟩]
      exact List.mem_cons_self
    · have e : rd ((b, j, v) :: t) a i = rd t a i := if_neg c
      rw [e]
      rcases rd_mem t a i with q | ⟨q1, q2⟩
      · exact Or.inl (List.mem_cons_of_mem _ q)
      · refine Or.inr ⟨q1, fun w hw => ?_⟩
        rcases List.mem_cons.mp hw with z | z
        · cases z
          exact c ⟨rfl, rfl⟩
        · exact q2 w z
theorem rd_none {h : LH} {a i : Int} (hn : ∀ e ∈ h, ¬ (e.1 = a ∧ e.2.1 = i)) : rd h a i = 0 := by
  rcases rd_mem h a i with q | q
  · exact absurd ⟨rfl, rfl⟩ (hn _ q)
  · exact q.1
def chkZ (h : LH) (a : Nat) : Bool :=
  if (lay a).1 = 1 ∨ (lay a).1 = 2 ∨ (lay a).1 = 3 ∨ (lay a).1 = 4 then (match RGL[a]? with
    | some L => decide (0 < L.length) && L.all (fun av => gVb av (mkv (if (lay a).1 = 2 then 1 else 0) 0))
    | none => false)
  else (List.range (lay a).2.2).all (fun i => gVb (hav a i) (mkv (lkd a i) 0) || h.any (fun e => e.1 == (a : Int) && e.2.1 == (i : Int)))
def chkR (h : LH) : Bool := h.all (fun e => gVb (hav e.1 e.2.1) (mkv (lkd e.1 e.2.1) e.2.2)) && (List.range (NC + 1)).all (chkZ h)
theorem chkR_ok {h : LH} (hc : chkR h = true) : RNG h := by
  unfold chkR at hc
  rw [Bool.and_eq_true, List.all_eq_true, List.all_eq_true] at hc
  obtain ⟨c1, c2⟩ := hc
  intro a i hv
  obtain ⟨v1, v2, v3, v4⟩ := hv
  unfold hval
  rcases rd_mem h a i with q | ⟨q1, q2⟩
  · exact gVb_ok (c1 _ q)
  · rw [q1]
    have z := c2 a.toNat (List.mem_range.mpr (by omega))
    have ea : ((a.toNat : Nat) : Int) = a := Int.toNat_of_nonneg (by omega)
    unfold chkZ at z
    by_cases k : (lay a.toNat).1 = 1 ∨ (lay a.toNat).1 = 2 ∨ (lay a.toNat).1 = 3 ∨ (lay a.toNat).1 = 4
    · rw [if_pos k] at z
      split at z
      · next L hL =>
        rw [Bool.and_eq_true, decide_eq_true_eq, List.all_eq_true] at z
        have e1 : hav a i = L.getD (i.toNat % L.length) top0 := by
          unfold hav
          rw [hL]
        have lt : i.toNat % L.length < L.length := Nat.mod_lt _ z.1
        have e2 : L.getD (i.toNat % L.length) top0 ∈ L := by
          rw [List.getD_eq_getElem?_getD, List.getElem?_eq_getElem lt]
          exact List.getElem_mem lt
        have e3 : lkd a i = if (lay a.toNat).1 = 2 then 1 else 0 := by
          rcases k with k | k | k | k
          · rw [lkd_1 k, k]; rfl
          · rw [lkd_2 k, k]; rfl
          · rw [lkd_3 k, k]; rfl
          · rw [lkd_4 k, k]; rfl
        rw [e1, e3]
        exact gVb_ok (z.2 _ e2)
      · cases z
    · rw [if_neg k, List.all_eq_true] at z
      have y := z i.toNat (List.mem_range.mpr (by omega))
      rw [ea, Int.toNat_of_nonneg v3, Bool.or_eq_true] at y
      rcases y with y | y
      · exact gVb_ok y
      · rw [List.any_eq_true] at y
        obtain ⟨e, e1, e2⟩ := y
        rw [Bool.and_eq_true, beq_iff_eq, beq_iff_eq] at e2
        obtain ⟨x, y2, w⟩ := e
        obtain ⟨rfl, rfl⟩ := e2
        exact absurd e1 (q2 w)
theorem rng0 : chkR hc_556 = true := by decide +kernel
theorem noE0 : (hc_556.all (fun e => !(e.1 == 64) && !(e.1 == 72) && !(e.1 == 107) && !(e.1 == 115) && !(e.1 == 123) && !(e.1 == 131) && !(e.1 == 184) && !(e.1 == 200) && (!(e.1 == 195) || e.2.1 == 0))) = true := by decide +kernel
theorem val0 : rd hc_556 188 3 = -1 ∧ rd hc_556 188 1 = 0 ∧ rd hc_556 188 2 = 0 ∧ rd hc_556 2 0 = rd hc_556 182 2 := ⟨by decide +kernel, by decide +kernel, by decide +kernel, by decide +kernel⟩
theorem inv0 : INV hc_556 := by
  have n := List.all_eq_true.mp noE0
  obtain ⟨v1, v2, v3, -⟩ := val0
  have c : ∀ a, (a = 64 ∨ a = 72 ∨ a = 107 ∨ a = 115 ∨ a = 123 ∨ a = 131 ∨ a = 184 ∨ a = 200) → ∀ i, rd hc_556 a i = 0 := by
    intro a ha i
    refine rd_none (fun e he q => ?_)
    have x := n e he
    simp only [Bool.and_eq_true, Bool.not_eq_true', beq_eq_false_iff_ne] at x
    omega
  have d : ∀ i, i ≠ 0 → rd hc_556 195 i = 0 := by
    intro i hi
    refine rd_none (fun e he q => ?_)
    have x := n e he
    simp only [Bool.and_eq_true, Bool.not_eq_true', beq_eq_false_iff_ne, Bool.or_eq_true, beq_iff_eq] at x
    omega
  refine ⟨chkR_ok rng0, ⟨?_, ?_, ?_, ?_, ?_, ?_, ?_, ?_⟩, ?_, ?_, ?_, ?_⟩
  · intro i _; rw [c 64 (by omega)]; omega
  · intro i _; rw [c 72 (by omega)]; omega
  · intro i _; rw [c 107 (by omega)]; omega
  · intro i _; rw [c 115 (by omega)]; omega
  · intro i _; rw [c 123 (by omega)]; omega
  · intro i _; rw [c 131 (by omega)]; omega
  · intro k k0 k1 _; rw [d _ (by omega)]; omega
  · intro m m0 m1 k k0 k1 _; rw [c 200 (by omega)]; omega
  · intro q; rw [v1] at q; omega
  · exact c 184 (by omega) 1000
  · refine ⟨fun d d0 d1 d2 => ?_, fun p p0 p1 p2 => ?_⟩
    · rw [v2] at d2; omega
    · rw [v3] at p2; omega
  · refine ⟨fun p p0 p1 p2 => ?_, fun m m0 m1 _ p p0 p1 p2 => ?_, fun j j0 j1 _ p p0 p1 p2 => ?_⟩ <;> (rw [v3] at p2; omega)
theorem mkr_chk : (∀ m : Nat, m < 4 → rd hc_556 75 (m : Int) = 102 + 8 * (m : Int) ∧ rd hc_556 199 (m : Int) = 0) ∧ rd hc_556 1 6 = 0 := ⟨by decide +kernel, by decide +kernel⟩
theorem mkr0 : MKR hc_556 := by
  obtain ⟨c1, c2⟩ := mkr_chk
  refine ⟨fun m h0 h1 => ?_, by rw [c2]; decide, fun m h0 h1 => ?_⟩
  · have y := (c1 m.toNat (by omega)).1
    rw [show ((m.toNat : Nat) : Int) = m by omega] at y
    exact y
  · have y := (c1 m.toNat (by omega)).2
    rw [show ((m.toNat : Nat) : Int) = m by omega] at y
    have z := mbit_0 m.toNat (by omega)
    rw [show ((m.toNat : Nat) : Int) = m by omega] at z
    rw [y, c2, z]
theorem scr_chk : rd hc_556 1 1 = 5 ∧ rd hc_556 5 0 = rd hc_556 188 0 ∧ rd hc_556 5 2 = 0 ∧ rd hc_556 5 4 = 0 ∧ rd hc_556 5 6 = 0 ∧ rd hc_556 182 28 = -1 ∧ rd hc_556 182 29 = -1 ∧ rd hc_556 60 0 = rd hc_556 198 0 ∧ rd hc_556 60 1 = rd hc_556 198 1 ∧ rd hc_556 60 3 = 0 ∧ rd hc_556 1 8 = 0 ∧ rd hc_556 1 9 = 0 ∧ rd hc_556 182 25 = 0 := ⟨by decide +kernel, by decide +kernel, by decide +kernel, by decide +kernel, by decide +kernel, by decide +kernel, by decide +kernel, by decide +kernel, by decide +kernel, by decide +kernel, by decide +kernel, by decide +kernel, by decide +kernel⟩
theorem scr_chk2 : (∀ d : Nat, d < 14 → rd hc_556 62 (d : Int) = 0 ∧ rd hc_556 198 ((d : Int) + 20) = 0) ∧ (∀ i : Nat, i < 16 → rd hc_556 76 (i : Int) = 134 + 3 * (i : Int)) := ⟨by decide +kernel, by decide +kernel⟩
theorem noE1 : (hc_556.all (fun e => !(e.1 == 10) && !(e.1 == 11))) = true := by decide +kernel
theorem scr0 : SCR hc_556 := by
  obtain ⟨s1, s2, s3, s4, s5, s6, s7, s8, s9, sa, sb, sc, sd⟩ := scr_chk
  obtain ⟨-, v2, v3, -⟩ := val0
  have n := List.all_eq_true.mp noE1
  have z : ∀ a, (a = 10 ∨ a = 11) → ∀ i, rd hc_556 a i = 0 := by
    intro a ha i
    refine rd_none (fun e he q => ?_)
    have x := n e he
    simp only [Bool.and_eq_true, Bool.not_eq_true', beq_eq_false_iff_ne] at x
    omega
  have st : ∀ s hr, stl hc_556 5 [] hc_556 s hr := fun s hr => by
    refine ⟨fun j j0 j1 => ?_, fun j j0 j1 => ?_⟩
    · show bitZ (rd hc_556 10 (24 * s + hr)) j ↔ (j < rd hc_556 5 2 ∧ _)
      rw [z 10 (Or.inl rfl), s3]
      exact ⟨fun y => absurd y bit_zero, fun y => by omega⟩
    · show bitZ (rd hc_556 11 (24 * s + hr)) j ↔ (j < rd hc_556 5 2 ∧ _)
      rw [z 11 (Or.inr rfl), s3]
      exact ⟨fun y => absurd y bit_zero, fun y => by omega⟩
  refine ⟨?_, ⟨[], ?_, ?_⟩, s6, s7, ⟨s8, s9, fun p p0 p1 => by omega, fun d d0 d1 => ?_, fun p p0 p1 => by rw [sa]; exact bit_zero⟩, ?_, fun m h0 h1 hm => ?_, fun i i0 i1 => ?_⟩
  · unfold QFR
    rw [s1]
    exact ⟨s2, s3.trans v2.symm, s4.trans v3.symm, fun i j hi _ => by omega, fun i j hi _ => by omega, fun _ => by rw [val0.1]; decide, fun y => by omega, by omega⟩
  · rw [s1]
    exact ⟨s5, fun i hi => absurd hi (Nat.not_lt_zero i), Nat.zero_le _, trivial, fun y => absurd y (by decide), fun c hc => absurd hc List.not_mem_nil⟩
  · rw [s1]
    exact fun s hr _ _ _ _ => st s hr
  · have y := scr_chk2.1 d.toNat (by omega)
    rw [Int.toNat_of_nonneg d0] at y
    rw [show (0 : Int) + d + 20 = d + 20 by omega, y.2]
    exact ⟨y.1, by decide, by decide⟩
  · unfold UN
    rw [sb, sc]
    exact ⟨by decide, by decide, sd, fun k k0 k1 => by omega⟩
  · have y := (mkr_chk.1 m.toNat (by omega)).2
    rw [show ((m.toNat : Nat) : Int) = m by omega] at y
    exact absurd y hm
  · have y := scr_chk2.2 i.toNat (by omega)
    rw [Int.toNat_of_nonneg i0] at y
    exact y
theorem eql0 : EQL hc_556 := ⟨val0.2.2.2, fun i i0 i1 => by rw [show rd hc_556 2 0 = 0 by decide +kernel] at i1; omega, pt0, rfl, rfl, by decide +kernel, mkr0, scr0⟩
theorem gl_0 : lmGoZ 9 2 64 mm_OneSidedLaw_law 0 [some (.inr (.inr (-2))), none, none, none] [] 0 [] = some (4, [some (.inr (.inr (-2))), none, none, none], [.inr (.inr 1), .inr (.inr 1)], 1, []) := goOk_ok (by decide +kernel)
theorem gl_7 : lmGoZ 9 3 64 mm_OneSidedLaw_law 7 [some (.inr (.inr (-2))), none, none, none] [.inr (.inr 1)] 181 hc_302 = some (12, [some (.inr (.inr (-2))), some (.inr (.inr 1)), none, none], [.inr (.inr 182), .inr (.inr 182)], 182, hc_302) := goOk_ok (by decide +kernel)
theorem gl_15 : lmGoZ 9 3 64 mm_OneSidedLaw_law 15 [some (.inr (.inr (-2))), some (.inr (.inr 1)), none, none] [.inr (.inr 182)] 212 hc_556 = some (18, [some (.inr (.inr (-2))), some (.inr (.inr 1)), some (.inr (.inr 182)), some (.inl 0)], [], 212, hc_556) := goOk_ok (by decide +kernel)
theorem dl_4 : decode mm_OneSidedLaw_law.2.1 4 = .ok (.invokespecial 9, 3) := by decide +kernel
theorem dl_12 : decode mm_OneSidedLaw_law.2.1 12 = .ok (.invokespecial 12, 3) := by decide +kernel
theorem kl_4 : lmK mm_OneSidedLaw_law.2.2.2.2.1 1 (.invokespecial 9) [.inr (.inr 1), .inr (.inr 1)] = some (0, [.inr (.inr 1)], [.inr (.inr 1)]) := callOk_ok (by decide +kernel)
theorem kl_12 : lmK mm_OneSidedLaw_law.2.2.2.2.1 182 (.invokespecial 12) [.inr (.inr 182), .inr (.inr 182)] = some (157, [.inr (.inr 182)], [.inr (.inr 182)]) := callOk_ok (by decide +kernel)
theorem run_law {xs : Nat → Int} {xl : Nat} (hxs : ∀ j, i32 (xs j)) (hx : xl ≤ 3584) : ∃ (f : Nat) (h' : LH), lmRun xs xl f 64 mm_OneSidedLaw_law 0 [some (.inr (.inr (-2))), none, none, none] [] 0 [] = some (some (.inl 1), 212, h') := by
  obtain ⟨f, r, h', q1, q2⟩ := law_loop (Q := fun r _ => r = some (.inl 1)) hxs hx (fun _ _ => rfl) xl 0 hc_556 (by omega) (by omega) (by omega) inv0 eql0
  subst q2
  have g : ∃ f, lmRun xs xl f 64 mm_OneSidedLaw_law 0 [some (.inr (.inr (-2))), none, none, none] [] 0 [] = some (some (.inl 1), 212, h') := by
    refine lmGoZ_ok _ _ _ _ _ _ _ _ _ _ _ _ _ _ gl_0 ?_
    refine run_call (d := 63) (r := none) (n' := 181) (h' := hc_302) (M' := mm_OneSided_init) dl_4 rfl rfl kl_4 rfl (by obtain ⟨f, hf⟩ := run_ini (xs := xs) (xl := xl); exact ⟨f, lmRun_le f f 8 63 _ _ _ _ _ _ _ (Nat.le_refl _) (by decide) hf⟩) ?_
    refine lmGoZ_ok _ _ _ _ _ _ _ _ _ _ _ _ _ _ gl_7 ?_
    refine run_call (d := 63) (r := none) (n' := 212) (h' := hc_556) (M' := mm_init) dl_12 rfl rfl kl_12 rfl (by obtain ⟨f, hf⟩ := run_mod (xs := xs) (xl := xl); exact ⟨f, lmRun_le f f 8 63 _ _ _ _ _ _ _ (Nat.le_refl _) (by decide) hf⟩) ?_
    refine lmGoZ_ok _ _ _ _ _ _ _ _ _ _ _ _ _ _ gl_15 ?_
    exact ⟨f, q1⟩
  obtain ⟨f2, hf2⟩ := g
  exact ⟨f2, h', hf2⟩
end
