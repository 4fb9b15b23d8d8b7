/-! chase, part x2: the class's chase -/
/-- what the class has caught -/
def CHs (h : LH) (n : Int) (T : (Int → Int → Prop) × (Int → Int → Prop)) : Prop := ∀ a, 0 ≤ a → a < n → (i32 (rd h 81 a) ∧ ∀ b, 0 ≤ b → b < 32 → (bitZ (rd h 81 a) b ↔ b < n ∧ T.1 a b)) ∧ i32 (rd h 82 a) ∧ ∀ b, 0 ≤ b → b < 32 → (bitZ (rd h 82 a) b ↔ b < n ∧ T.2 a b)
def smA (E : Int → Int → Prop) (n : Int) (m : Nat) (a : Int) : Prop := ∀ b, 0 ≤ b → b < n → ((chT E n (m + 1)).1 a b ↔ (chT E n m).1 a b) ∧ ((chT E n (m + 1)).2 a b ↔ (chT E n m).2 a b)
def flg (E : Int → Int → Prop) (n : Int) (m : Nat) (v c : Int) : Prop := (v = 0 ∧ ∀ a, 0 ≤ a → a < c → smA E n m a) ∨ (v = 1 ∧ ∃ a, 0 ≤ a ∧ a < c ∧ ¬ smA E n m a)
def chE (K : KEY) (hr sh a b : Int) : Prop := hr < 24 ∧ 0 ≤ b ∧ eL K 0 hr sh 0 a b
theorem bit_m1 {b : Int} (b0 : 0 ≤ b) (b1 : b < 32) : bitZ (-1) b := by
  have := bit_not (a := 0) b0 b1
  rw [show zxor 0 (-1) = -1 by decide] at this
  exact this.mpr bit_zero
section XB
variable {xs : Nat → Int} {xl e : Nat} {h g u : LH} {Q : Option LV → LH → Prop} {E : Int → Int → Prop} {K : KEY} {L : List Int} {q n a b c r v x y v1 v2 v3 v4 v5 A B R : Int} {m : Nat} {T T' : Int → Prop}
theorem ent_one (hK : KR K) (v0 : 0 ≤ v ∧ v ≤ 9) : (∃ d, 0 ≤ d ∧ d < K.1 1 ∧ entD K A B (zshl 1 v) b d) ↔ EE K A B v b := by
  have k0 := hK.1
  rw [ent_EE]
  constructor
  · rintro ⟨a, ra, ee⟩
    have i := EE_in hK ee
    rw [bit_shl v0.1 (by omega) i.1.1 (by omega)] at ra
    rw [ra] at ee
    exact ee
  · intro ee
    exact ⟨v, (bit_shl v0.1 (by omega) v0.1 (by omega)).mpr rfl, ee⟩
theorem sm_int (hn : n ≤ 10) (xi : i32 x) (yi : i32 y) (bx : ∀ b, 0 ≤ b → b < 32 → (bitZ x b ↔ b < n ∧ T' b)) (bY : ∀ b, 0 ≤ b → b < 32 → (bitZ y b ↔ b < n ∧ T b)) : x = y ↔ ∀ b, 0 ≤ b → b < n → (T' b ↔ T b) := by
  constructor
  · intro z b b0 b1
    have p := bx b b0 (by omega)
    rw [z, bY b b0 (by omega)] at p
    exact ⟨fun t => (p.mpr ⟨b1, t⟩).2, fun t => (p.mp ⟨b1, t⟩).2⟩
  · intro z
    refine bit_ext xi yi (fun b b0 b1 => ?_)
    rw [bx b b0 b1, bY b b0 b1]
    exact ⟨fun t => ⟨t.1, (z b b0 t.1).mp t.2⟩, fun t => ⟨t.1, (z b b0 t.1).mpr t.2⟩⟩
theorem flg_same (hf : flg E n m v c) (s : smA E n m c) : flg E n m (zor v 0) (c + 1) := by
  rcases hf with ⟨rfl, z⟩ | ⟨rfl, a, a0, a1, z⟩
  · refine Or.inl ⟨by decide, fun a a0 a1 => ?_⟩
    by_cases t : a = c
    · rw [t]
      exact s
    · exact z a a0 (by omega)
  · exact Or.inr ⟨by decide, a, a0, by omega, z⟩
theorem flg_diff (c0 : 0 ≤ c) (hf : flg E n m v c) (s : ¬ smA E n m c) : flg E n m (zor v 1) (c + 1) := by
  refine Or.inr ⟨?_, c, c0, by omega, s⟩
  rcases hf with ⟨rfl, z⟩ | ⟨rfl, z⟩ <;> decide
theorem F_growCaught (he : 2 ≤ e) (hc : CXq h K q L) (hK : KR K) (hE : ∀ a b, EE K v2 v3 a b ↔ E a b) (cs : CHs h (K.1 0) (chT E (K.1 0) m)) (k : ∀ r g, ((r = 0 ∧ stb E (K.1 0) m) ∨ (r = 1 ∧ ¬ stb E (K.1 0) m)) → CHs g (K.1 0) (chT E (K.1 0) (m + 1)) → RF g → (∀ a i, a ≠ 81 → a ≠ 82 → a ≠ 83 → rd g a i = rd h a i) → Q (some (.inl r)) g) : Rn xs xl e mm_Web_growCaught 0 [some (.inr (.inr 80)), some (.inr (.inr q)), some (.inl v2), some (.inl v3), none, none, none, none] [] h Q := by
  obtain ⟨hF, -, hq, -⟩ := id hc
  have k0 := hK.1
  have eIn : ∀ a b, E a b → (0 ≤ a ∧ a < K.1 0) ∧ 0 ≤ b ∧ b < K.1 0 := fun a b z => EE_in hK ((hE a b).mpr z)
  have cx : ∀ g, RF g → (∀ a i, a ≠ 81 → a ≠ 82 → a ≠ 83 → rd g a i = rd h a i) → CXq g K q L := fun g gF gf => CXq_fr hc hK gF (fun a i ha => gf a i (by omega) (by omega) (by omega))
  have nr : ∀ c : Int, (RGL[c.toNat]?).all (fun L => L.all (fun q => decide (q.1 ≠ 2))) = true → ∀ g i v, RF g → RF (wr g c i v) := fun c hc g i v gF => RF_wn (hav_nr hc i) gF
  have w83 := nr 83 (by decide +kernel)
  have w82 := nr 82 (by decide +kernel)
  have w81 := nr 81 (by decide +kernel)
  -- the second turn
  have second : ∀ (fuel : Nat) (g : LH) (v4 v5 : Int) (o6 o7 : Option LV), K.1 0 - v5 ≤ fuel → 0 ≤ v5 → v5 ≤ K.1 0 → RF g → (∀ a i, a ≠ 81 → a ≠ 82 → a ≠ 83 → rd g a i = rd h a i) → (∀ a, 0 ≤ a → a < K.1 0 → i32 (rd g 83 a) ∧ ∀ b, 0 ≤ b → b < 32 → (bitZ (rd g 83 a) b ↔ b < K.1 0 ∧ (chT E (K.1 0) (m + 1)).1 a b)) → (∀ a, 0 ≤ a → a < v5 → (i32 (rd g 81 a) ∧ ∀ b, 0 ≤ b → b < 32 → (bitZ (rd g 81 a) b ↔ b < K.1 0 ∧ (chT E (K.1 0) (m + 1)).1 a b)) ∧ i32 (rd g 82 a) ∧ ∀ b, 0 ≤ b → b < 32 → (bitZ (rd g 82 a) b ↔ b < K.1 0 ∧ (chT E (K.1 0) (m + 1)).2 a b)) → (∀ a, v5 ≤ a → rd g 81 a = rd h 81 a ∧ rd g 82 a = rd h 82 a) → flg E (K.1 0) m v4 v5 → Rn xs xl e mm_Web_growCaught 102 [some (.inr (.inr 80)), some (.inr (.inr q)), some (.inl v2), some (.inl v3), some (.inl v4), some (.inl v5), o6, o7] [] g Q := by
    intro fuel
    have stop : ∀ (g : LH) (v4 v5 : Int), K.1 0 ≤ v5 → v5 ≤ K.1 0 → RF g → (∀ a i, a ≠ 81 → a ≠ 82 → a ≠ 83 → rd g a i = rd h a i) → (∀ a, 0 ≤ a → a < v5 → (i32 (rd g 81 a) ∧ ∀ b, 0 ≤ b → b < 32 → (bitZ (rd g 81 a) b ↔ b < K.1 0 ∧ (chT E (K.1 0) (m + 1)).1 a b)) ∧ i32 (rd g 82 a) ∧ ∀ b, 0 ≤ b → b < 32 → (bitZ (rd g 82 a) b ↔ b < K.1 0 ∧ (chT E (K.1 0) (m + 1)).2 a b)) → flg E (K.1 0) m v4 v5 → (v4 = 0 ∨ v4 = 1) ∧ Q (some (.inl v4)) g := fun g v4 v5 a c gF gf new hf => by
      have ev : v5 = K.1 0 := by omega
      rw [ev] at new hf
      refine ⟨hf.elim (fun z => Or.inl z.1) (fun z => Or.inr z.1), k v4 g ?_ (fun a a0 a1 => new a a0 a1) gF gf⟩
      rcases hf with ⟨z1, z2⟩ | ⟨z1, a, a0, a1, z2⟩
      · exact Or.inl ⟨z1, fun a b a0 a1 b0 b1 => z2 a a0 a1 b b0 b1⟩
      · exact Or.inr ⟨z1, fun s => z2 (fun b b0 b1 => s a b a0 a1 b0 b1)⟩
    induction fuel with
    | zero =>
      intro g v4 v5 o6 o7 hn a0 a1 gF gf n3 new old hf
      have gc := cx g gF gf
      have gx : rd g q 0 = K.1 0 := gc.2.2.2.2.1.1
      exact B_Web_growCaught_102 hq gF (by omega) ⟨fun c => stop g v4 v5 (by omega) a1 gF gf new hf, fun c => by omega⟩
    | succ fuel ih =>
      intro g v4 v5 o6 o7 hn a0 a1 gF gf n3 new old hf
      have gc := cx g gF gf
      have gx : rd g q 0 = K.1 0 := gc.2.2.2.2.1.1
      refine B_Web_growCaught_102 hq gF (by omega) ⟨fun c => stop g v4 v5 (by omega) a1 gF gf new hf, fun c => ⟨by omega, by omega, 1, by omega, ?_⟩⟩
      have p1 : v5 < K.1 0 := by omega
      obtain ⟨o1, o2⟩ := old v5 (Int.le_refl _)
      obtain ⟨⟨i1, b1⟩, i2, b2⟩ := cs v5 a0 p1
      obtain ⟨i3, b3⟩ := n3 v5 a0 p1
      refine F_entered gc hK (fun w wi wb => ?_)
      -- the rooms near to those of the thief's
      have near : ∀ b, 0 ≤ b → b < 32 → (bitZ (zor (rd g 81 v5) w) b ↔ b < K.1 0 ∧ (chT E (K.1 0) (m + 1)).2 v5 b) := fun b b0 b1' => by
        rw [bit_or b0 b1', wb b b0 b1', ent_EE, o1, b1 b b0 b1']
        constructor
        · rintro (⟨z1, z2⟩ | ⟨a, z1, z2⟩)
          · exact ⟨z1, b, b0, z1, Or.inl rfl, z2⟩
          · have ee := (hE b a).mp (EE_flip.mp z2)
            have i := eIn b a ee
            rw [b1 a i.2.1 (by omega)] at z1
            exact ⟨i.1.2, a, i.2.1, i.2.2, Or.inr ee, z1.2⟩
        · rintro ⟨z1, r, r0, r1, z2, z3⟩
          rcases z2 with rfl | z2
          · exact Or.inl ⟨z1, z3⟩
          · exact Or.inr ⟨r, (b1 r r0 (by omega)).mpr ⟨r1, z3⟩, EE_flip.mpr ((hE b r).mpr z2)⟩
      have ni : i32 (zor (rd g 81 v5) w) := zor_i _ _
      have g2 : zor (rd g 81 v5) w = rd g 82 v5 ↔ ∀ b, 0 ≤ b → b < K.1 0 → ((chT E (K.1 0) (m + 1)).2 v5 b ↔ (chT E (K.1 0) m).2 v5 b) := by
        rw [o2]
        exact sm_int (by omega) ni i2 near b2
      have g3 : rd g 83 v5 = rd g 81 v5 ↔ ∀ b, 0 ≤ b → b < K.1 0 → ((chT E (K.1 0) (m + 1)).1 v5 b ↔ (chT E (K.1 0) m).1 v5 b) := by
        rw [o1]
        exact sm_int (by omega) i3 i1 b3 b1
      refine B_Web_growCaught_131 hq gF (by omega) ?_
      generalize zor (rd g 81 v5) w = nw at *
      have s173 : ∀ (f : Int) (o7 : Option LV), flg E (K.1 0) m f (v5 + 1) → Rn xs xl e mm_Web_growCaught 173 [some (.inr (.inr 80)), some (.inr (.inr q)), some (.inl v2), some (.inl v3), some (.inl f), some (.inl v5), some (.inl nw), o7] [] g Q := fun f o7 ff => by
        refine B_Web_growCaught_173 hq gF (by omega) (ih _ f (v5 + 1) _ _ (by omega) (by omega) (by omega) (w81 _ _ _ (w82 _ _ _ gF)) (fun a i n1 n2 n3 => ?_) (fun a c0 c1 => ?_) (fun a c0 c1 => ?_) (fun a c0 => ?_) ff)
        · rw [rdw_ne (fun z => n1 z.symm), rdw_ne (fun z => n2 z.symm)]
          exact gf a i n1 n2 n3
        · rw [rdw_ne (by decide), rdw_ne (by decide)]
          exact n3 a c0 c1
        · by_cases z : a = v5
          · rw [z]
            refine ⟨?_, ?_⟩
            · rw [rdw_eq]
              exact n3 v5 a0 p1
            · rw [rdw_ne (by decide), rdw_eq]
              exact ⟨ni, near⟩
          · rw [rdw_nei (by omega), rdw_ne (by decide), rdw_ne (by decide), rdw_nei (by omega)]
            exact new a c0 (by omega)
        · rw [rdw_nei (by omega), rdw_ne (by decide), rdw_ne (by decide), rdw_nei (by omega)]
          exact old a (by omega)
      exact ⟨fun z => s173 _ _ (flg_diff a0 hf (fun s => z (g2.mpr (fun b b0 b1 => (s b b0 b1).2)))), fun z => ⟨fun y => s173 _ _ (flg_same hf (fun b b0 b1 => ⟨g3.mp y b b0 b1, g2.mp z b b0 b1⟩)), fun y => s173 _ _ (flg_diff a0 hf (fun s => y (g3.mpr (fun b b0 b1 => (s b b0 b1).1))))⟩⟩
  -- the first turn
  have first : ∀ (fuel : Nat) (g : LH) (v4 : Int) (o5 o6 o7 : Option LV), K.1 0 - v4 ≤ fuel → 0 ≤ v4 → v4 ≤ K.1 0 → RF g → (∀ a i, a ≠ 83 → rd g a i = rd h a i) → (∀ a, 0 ≤ a → a < v4 → i32 (rd g 83 a) ∧ ∀ b, 0 ≤ b → b < 32 → (bitZ (rd g 83 a) b ↔ b < K.1 0 ∧ (chT E (K.1 0) (m + 1)).1 a b)) → Rn xs xl e mm_Web_growCaught 3 [some (.inr (.inr 80)), some (.inr (.inr q)), some (.inl v2), some (.inl v3), some (.inl v4), o5, o6, o7] [] g Q := by
    intro fuel
    have stop : ∀ (g : LH) (v4 : Int) (o6 o7 : Option LV), K.1 0 ≤ v4 → v4 ≤ K.1 0 → RF g → (∀ a i, a ≠ 83 → rd g a i = rd h a i) → (∀ a, 0 ≤ a → a < v4 → i32 (rd g 83 a) ∧ ∀ b, 0 ≤ b → b < 32 → (bitZ (rd g 83 a) b ↔ b < K.1 0 ∧ (chT E (K.1 0) (m + 1)).1 a b)) → Rn xs xl e mm_Web_growCaught 102 [some (.inr (.inr 80)), some (.inr (.inr q)), some (.inl v2), some (.inl v3), some (.inl 0), some (.inl 0), o6, o7] [] g Q := fun g v4 o6 o7 a c gF gf n3 =>
      second (K.1 0).toNat g 0 0 o6 o7 (by omega) (by omega) (by omega) gF (fun a i _ _ x => gf a i x) (fun a a0 a1 => n3 a a0 (by omega)) (fun a a0 a1 => by omega) (fun a _ => ⟨gf 81 a (by decide), gf 82 a (by decide)⟩) (Or.inl ⟨rfl, fun a a0 a1 => by omega⟩)
    induction fuel with
    | zero =>
      intro g v4 o5 o6 o7 hn a0 a1 gF gf n3
      have gc := cx g gF (fun a i _ _ x => gf a i x)
      have gx : rd g q 0 = K.1 0 := gc.2.2.2.2.1.1
      exact B_Web_growCaught_3 hq gF (by omega) ⟨fun c => stop g v4 o6 o7 (by omega) a1 gF gf n3, fun c => by omega⟩
    | succ fuel ih =>
      intro g v4 o5 o6 o7 hn a0 a1 gF gf n3
      have gc := cx g gF (fun a i _ _ x => gf a i x)
      have gx : rd g q 0 = K.1 0 := gc.2.2.2.2.1.1
      refine B_Web_growCaught_3 hq gF (by omega) ⟨fun c => stop g v4 o6 o7 (by omega) a1 gF gf n3, fun c => ⟨1, by omega, ?_⟩⟩
      have p1 : v4 < K.1 0 := by omega
      refine F_entered gc hK (fun w wi wb => B_Web_growCaught_26 hq gF (by omega) ?_)
      have choice : ∀ r, 0 ≤ r → r < 32 → (bitZ (zor (zshl 1 v4) w) r ↔ r = v4 ∨ E v4 r) := fun r r0 r1 => by
        rw [bit_or r0 r1, bit_shl a0 (by omega) r0 r1, wb r r0 r1, ent_one hK ⟨a0, by omega⟩, hE]
      generalize zor (zshl 1 v4) w = ch at *
      have g82 : ∀ r, rd g 82 r = rd h 82 r := fun r => gf 82 r (by decide)
      have inner : ∀ (fu : Nat) (v6 v7 : Int), K.1 0 - v7 ≤ fu → 0 ≤ v7 → v7 ≤ K.1 0 → (∀ b, 0 ≤ b → b < 32 → (bitZ v6 b ↔ ∀ r, 0 ≤ r → r < v7 → (r = v4 ∨ E v4 r) → bitZ (rd h 82 r) b)) → Rn xs xl e mm_Web_growCaught 35 [some (.inr (.inr 80)), some (.inr (.inr q)), some (.inl v2), some (.inl v3), some (.inl v4), some (.inl ch), some (.inl v6), some (.inl v7)] [] g Q := by
        intro fu
        have out : ∀ (v6 v7 : Int), K.1 0 ≤ v7 → v7 ≤ K.1 0 → (∀ b, 0 ≤ b → b < 32 → (bitZ v6 b ↔ ∀ r, 0 ≤ r → r < v7 → (r = v4 ∨ E v4 r) → bitZ (rd h 82 r) b)) → Rn xs xl e mm_Web_growCaught 76 [some (.inr (.inr 80)), some (.inr (.inr q)), some (.inl v2), some (.inl v3), some (.inl v4), some (.inl ch), some (.inl v6), some (.inl v7)] [] g Q := fun v6 v7 c0 c1 hv => by
          refine B_Web_growCaught_76 hq gF (by omega) (ih _ (v4 + 1) _ _ _ (by omega) (by omega) (by omega) (w83 _ _ _ gF) (fun a i x => by rw [rdw_ne (fun z => x z.symm)]; exact gf a i x) (fun a d0 d1 => ?_))
          by_cases z : a = v4
          · rw [z, rdw_eq]
            refine ⟨zor_i _ _, fun b b0 b1 => ?_⟩
            rw [bit_or b0 b1, bit_shl a0 (by omega) b0 b1, hv b b0 b1]
            constructor
            · rintro (y | y)
              · have yv := y v4 a0 (by omega) (Or.inl rfl)
                have cb := ((cs v4 a0 p1).2.2 b b0 b1).mp yv
                exact ⟨cb.1, Or.inr (fun r r0 r1 hr => (((cs r r0 r1).2.2 b b0 b1).mp (y r r0 (by omega) hr)).2)⟩
              · rw [y]
                exact ⟨p1, Or.inl rfl⟩
            · rintro ⟨y1, y | y⟩
              · exact Or.inr y.symm
              · exact Or.inl (fun r r0 r1 hr => ((cs r r0 (by omega)).2.2 b b0 b1).mpr ⟨y1, y r r0 (by omega) hr⟩)
          · rw [rdw_nei (by omega)]
            exact n3 a d0 (by omega)
        induction fu with
        | zero =>
          intro v6 v7 hn' c0 c1 hv
          exact B_Web_growCaught_35 hq gF (by omega) (by omega) ⟨fun _ => out v6 v7 (by omega) c1 hv, fun x => by omega⟩
        | succ fu jh =>
          intro v6 v7 hn' c0 c1 hv
          refine B_Web_growCaught_35 hq gF (by omega) (by omega) ⟨fun x => out v6 v7 (by omega) c1 hv, fun x => ⟨fun z => jh _ (v7 + 1) (by omega) (by omega) (by omega) (fun b b0 b1 => ?_), fun z => ⟨by omega, jh _ (v7 + 1) (by omega) (by omega) (by omega) (fun b b0 b1 => ?_)⟩⟩⟩
          · have nz : ¬ (v7 = v4 ∨ E v4 v7) := fun y => (bitZ_n.mpr z) ((choice v7 c0 (by omega)).mpr y)
            rw [bit_and b0 b1, hv b b0 b1]
            constructor
            · rintro ⟨y, -⟩ r r0 r1 hr
              by_cases t : r = v7
              · rw [t] at hr
                exact absurd hr nz
              · exact y r r0 (by omega) hr
            · intro y
              exact ⟨fun r r0 r1 hr => y r r0 (by omega) hr, bit_m1 b0 b1⟩
          · have yz : v7 = v4 ∨ E v4 v7 := (choice v7 c0 (by omega)).mp (Classical.byContradiction (fun y => z (bitZ_n.mp y)))
            rw [bit_and b0 b1, hv b b0 b1, g82]
            constructor
            · rintro ⟨y, y2⟩ r r0 r1 hr
              by_cases t : r = v7
              · rw [t]
                exact y2
              · exact y r r0 (by omega) hr
            · intro y
              exact ⟨fun r r0 r1 hr => y r r0 (by omega) hr, y v7 c0 (by omega) yz⟩
      exact inner (K.1 0).toNat (-1) 0 (by omega) (by omega) (by omega) (fun b b0 b1 => ⟨fun _ r r0 r1 _ => by omega, fun _ => bit_m1 b0 b1⟩)
  exact B_Web_growCaught_0 hq hF (first (K.1 0).toNat h 0 none none none (by omega) (by omega) (by omega) hF (fun _ _ _ => rfl) (fun a a0 a1 => by omega))
theorem F_movesToCatch (he : 3 ≤ e) (hc : CXq h K q L) (hK : KR K) (hE : ∀ a b, EE K v2 v3 a b ↔ E a b) (h4 : 0 ≤ v4 ∧ v4 < K.1 0) (h5 : 0 ≤ v5 ∧ v5 < K.1 0) (k : ∀ r g, chR E (K.1 0) v4 v5 r → RF g → (∀ a i, a ≠ 81 → a ≠ 82 → a ≠ 83 → rd g a i = rd h a i) → Q (some (.inl r)) g) : Rn xs xl e mm_Web_movesToCatch 0 [some (.inr (.inr 80)), some (.inr (.inr q)), some (.inl v2), some (.inl v3), some (.inl v4), some (.inl v5), none] [] h Q := by
  obtain ⟨hF, -, hq, -⟩ := id hc
  have k0 := hK.1
  have cx : ∀ g, RF g → (∀ a i, a ≠ 81 → a ≠ 82 → a ≠ 83 → rd g a i = rd h a i) → CXq g K q L := fun g gF gf => CXq_fr hc hK gF (fun a i ha => gf a i (by omega) (by omega) (by omega))
  have nr : ∀ c : Int, (RGL[c.toNat]?).all (fun L => L.all (fun q => decide (q.1 ≠ 2))) = true → ∀ g i v, RF g → RF (wr g c i v) := fun c hc g i v gF => RF_wn (hav_nr hc i) gF
  have w82 := nr 82 (by decide +kernel)
  have w81 := nr 81 (by decide +kernel)
  obtain ⟨s, s1, st⟩ := stb_199 (E := E) (n := K.1 0) (by omega) (by omega)
  have main : ∀ (fuel : Nat) (g : LH) (v6 : Int), 203 - v6 ≤ fuel → 0 ≤ v6 → v6 ≤ 203 → RF g → (∀ a i, a ≠ 81 → a ≠ 82 → a ≠ 83 → rd g a i = rd h a i) → CHs g (K.1 0) (chT E (K.1 0) v6.toNat) → (∀ j : Nat, j < v6.toNat → ¬ (chT E (K.1 0) j).1 v4 v5 ∧ ¬ stb E (K.1 0) j) → Rn xs xl e mm_Web_movesToCatch 41 [some (.inr (.inr 80)), some (.inr (.inr q)), some (.inl v2), some (.inl v3), some (.inl v4), some (.inl v5), some (.inl v6)] [] g Q := by
    intro fuel
    induction fuel with
    | zero =>
      intro g v6 hn a0 a1 gF gf cs no
      exact absurd st (no s (by omega)).2
    | succ fuel ih =>
      intro g v6 hn a0 a1 gF gf cs no
      have late : ¬ 202 < v6 := fun c => (no s (by omega)).2 st
      have gc := cx g gF gf
      have bt := (cs v4 h4.1 h4.2).1.2 v5 h5.1 (by omega)
      refine B_Web_movesToCatch_41 hq gF (by omega) (by omega) (by omega) ⟨fun c => absurd c late, fun c => ⟨fun z => ⟨2, by omega, F_growCaught (Nat.le_refl 2) gc hK hE cs (fun r u hr uc uF uf => ?_)⟩, fun z => k v6 g (Or.inr ⟨a0, ?_, fun j hj => (no j hj).1⟩) gF gf⟩⟩
      · have nt : ¬ (chT E (K.1 0) v6.toNat).1 v4 v5 := fun t => (bitZ_n.mpr z) (bt.mpr ⟨h5.2, t⟩)
        have fu : ∀ a i, a ≠ 81 → a ≠ 82 → a ≠ 83 → rd u a i = rd h a i := fun a i n1 n2 n3 => (uf a i n1 n2 n3).trans (gf a i n1 n2 n3)
        refine B_Web_movesToCatch_74 hq uF (by omega) ⟨fun y => ?_, fun y => ?_⟩
        · rcases hr with ⟨r0, -⟩ | ⟨-, ns⟩
          · exact absurd r0 y
          · have en : (v6 + 1).toNat = v6.toNat + 1 := by omega
            refine ih u (v6 + 1) (by omega) (by omega) (by omega) uF fu (by rw [en]; exact uc) (fun j hj => ?_)
            by_cases t : j = v6.toNat
            · rw [t]
              exact ⟨nt, ns⟩
            · exact no j (by omega)
        · rcases hr with ⟨-, ys⟩ | ⟨r1, -⟩
          · refine k (-1) u (Or.inl ⟨rfl, fun j t => ?_⟩) uF fu
            by_cases x : j < v6.toNat
            · exact (no j x).1 t
            · have sa := stb_all ys h4.1 h4.2 h5.1 h5.2 (j - v6.toNat)
              rw [show v6.toNat + (j - v6.toNat) = j by omega] at sa
              exact nt (sa.mp t)
          · omega
      · exact (bt.mp (Classical.byContradiction (fun y => z (bitZ_n.mp y)))).2
  have init : ∀ (fuel : Nat) (g : LH) (v6 : Int), 10 - v6 ≤ fuel → 0 ≤ v6 → v6 ≤ 10 → RF g → (∀ a i, a ≠ 81 → a ≠ 82 → a ≠ 83 → rd g a i = rd h a i) → (∀ a, 0 ≤ a → a < v6 → rd g 81 a = zshl 1 a ∧ rd g 82 a = zshl 1 a) → Rn xs xl e mm_Web_movesToCatch 3 [some (.inr (.inr 80)), some (.inr (.inr q)), some (.inl v2), some (.inl v3), some (.inl v4), some (.inl v5), some (.inl v6)] [] g Q := by
    intro fuel
    have stop : ∀ (g : LH) (v6 : Int), 10 ≤ v6 → RF g → (∀ a i, a ≠ 81 → a ≠ 82 → a ≠ 83 → rd g a i = rd h a i) → (∀ a, 0 ≤ a → a < v6 → rd g 81 a = zshl 1 a ∧ rd g 82 a = zshl 1 a) → Rn xs xl e mm_Web_movesToCatch 41 [some (.inr (.inr 80)), some (.inr (.inr q)), some (.inl v2), some (.inl v3), some (.inl v4), some (.inl v5), some (.inl 0)] [] g Q := fun g v6 c gF gf hv =>
      main 203 g 0 (by omega) (by omega) (by omega) gF gf (fun a a0 a1 => by
        obtain ⟨e1, e2⟩ := hv a a0 (by omega)
        have b0' : ∀ b, 0 ≤ b → b < 32 → (bitZ (zshl 1 a) b ↔ b < K.1 0 ∧ a = b) := fun b b0 b1 => by
          rw [bit_shl a0 (by omega) b0 b1]
          exact ⟨fun z => ⟨by omega, z.symm⟩, fun z => z.2.symm⟩
        rw [e1, e2]
        exact ⟨⟨zshl_i _ _, b0'⟩, zshl_i _ _, b0'⟩) (fun j hj => by omega)
    induction fuel with
    | zero =>
      intro g v6 hn a0 a1 gF gf hv
      exact B_Web_movesToCatch_3 hq gF (by omega) ⟨fun c => stop g v6 c gF gf hv, fun c => by omega⟩
    | succ fuel ih =>
      intro g v6 hn a0 a1 gF gf hv
      refine B_Web_movesToCatch_3 hq gF (by omega) ⟨fun c => stop g v6 c gF gf hv, fun c => ⟨by omega, by omega, ih _ (v6 + 1) (by omega) (by omega) (by omega) (w82 _ _ _ (w81 _ _ _ gF)) (fun a i n1 n2 n3 => ?_) (fun a c0 c1 => ?_)⟩⟩
      · rw [rdw_ne (fun z => n2 z.symm), rdw_ne (fun z => n1 z.symm)]
        exact gf a i n1 n2 n3
      · by_cases z : a = v6
        · rw [z]
          refine ⟨?_, rdw_eq⟩
          rw [rdw_ne (by decide), rdw_eq]
        · rw [rdw_ne (by decide), rdw_nei (by omega), rdw_nei (by omega), rdw_ne (by decide)]
          exact hv a c0 (by omega)
  exact B_Web_movesToCatch_0 hq hF (init 10 h 0 (by omega) (by omega) (by omega) hF (fun _ _ _ _ _ => rfl) (fun a a0 a1 => by omega))
def chaC (h : LH) (a b : Int) : Prop := (0 ≤ a ∧ a < rd h 188 0) ∧ 0 ≤ b ∧ b < rd h 188 0
def chaJ (v1 v2 : Int) (h g : LH) (r : Int) : Prop := (∀ a i, a ≠ 81 → a ≠ 82 → a ≠ 83 → rd g a i = rd h a i) ∧ ((¬ chaC h v1 v2 ∧ r = -1) ∨ (chaC h v1 v2 ∧ chR (chE (key h) (rd h 198 0) (rd h 198 1)) (rd h 188 0) v1 v2 r))
theorem EE_chE (hc : CXq h K q L) (hK : KR K) (hh : 0 ≤ x ∧ x < 24) : EE K (zand (rd h (q + 5) x) (zxor y (-1))) (zand (rd h (q + 6) x) (zxor y (-1))) a b ↔ chE K x y a b := by
  have := EE_eL (sh := y) (a := a) (b := b) (s := 0) (hr := x) hc hK (by decide) (by omega)
  rw [show 24 * 0 + x = x by omega] at this
  exact this.trans ⟨fun z => ⟨hh.2, z⟩, fun z => z.2⟩
theorem EE_none (hh : 24 ≤ x) : EE K 0 0 a b ↔ chE K x y a b := by
  constructor
  · rintro ⟨d, _, _, z | z⟩
    · exact absurd z.1 bit_zero
    · exact absurd z.1 bit_zero
  · rintro ⟨z, _⟩
    omega
theorem E_chaseS (he : 8 ≤ e) (hI : INV h) (hE : EQL h) (h1 : i32 v1) (h2 : i32 v2) (k : ∀ r g, INV g → chaJ v1 v2 h g r → Q (some (.inl r)) g) : Rn xs xl e mm_OneSided_chase 0 [some (.inr (.inr 1)), some (.inl v1), some (.inl v2), none] [] h Q := by
  obtain ⟨L, hc⟩ := CXq_of hI hE
  have hK := KR_of hI
  have hq : rd h 1 1 = 5 ∨ rd h 1 1 = 32 := rQf hI.1
  obtain ⟨-, -, -, -, ⟨c0, -, -⟩, -⟩ := id hc
  have c0' : rd h (rd h 1 1) 0 = rd h 188 0 := c0
  have n0 := rq_rooms hI.1
  have k5 := hE.2.2.2.2.2.2.2.2.2.2.2.1
  have e0 : rd h 60 0 = rd h 198 0 := k5.1
  have e1 : rd h 60 1 = rd h 198 1 := k5.2.1
  have h24 := rG_60_0 hI.1
  have A : Rn xs xl e mm_OneSided_chase 0 [some (.inr (.inr 1)), some (.inl v1), some (.inl v2), none] [] h (fun r g => ∃ x, r = some (.inl x) ∧ chaJ v1 v2 h g x) := by
    have no : ¬ chaC h v1 v2 → ∃ x, (some (.inl (-1)) : Option LV) = some (.inl x) ∧ chaJ v1 v2 h h x := fun z => ⟨-1, rfl, fun _ _ _ _ _ => rfl, Or.inl ⟨z, rfl⟩⟩
    refine B_OneSided_chase_0 hq rfl (RF_of hI.1) (by omega) ⟨fun c => no (fun z => by have := z.1; omega), fun a1 => ⟨fun c => no (fun z => by have := z.1; omega), fun a2 => ⟨fun c => no (fun z => by have := z.2; omega), fun a3 => ⟨fun c => no (fun z => by have := z.2; omega), fun a4 => ⟨fun a5 => ⟨3, by omega, ?_⟩, fun a5 => ⟨by omega, by omega, by omega, by omega, 3, by omega, ?_⟩⟩⟩⟩⟩⟩
    · refine F_movesToCatch (E := chE (key h) (rd h 198 0) (rd h 198 1)) (Nat.le_refl 3) hc hK (fun a b => EE_none (by omega)) ⟨a1, by show v1 < rd h 188 0; omega⟩ ⟨a3, by show v2 < rd h 188 0; omega⟩ (fun r g hr gF gf => B_OneSided_chase_54 gF ⟨r, rfl, gf, Or.inr ⟨⟨⟨a1, by omega⟩, a3, by omega⟩, hr⟩⟩)
    · rw [e1]
      refine F_movesToCatch (E := chE (key h) (rd h 198 0) (rd h 198 1)) (Nat.le_refl 3) hc hK (fun a b => ?_) ⟨a1, by show v1 < rd h 188 0; omega⟩ ⟨a3, by show v2 < rd h 188 0; omega⟩ (fun r g hr gF gf => B_OneSided_chase_54 gF ⟨r, rfl, gf, Or.inr ⟨⟨⟨a1, by omega⟩, a3, by omega⟩, hr⟩⟩)
      rw [e0]
      exact EE_chE hc hK (by omega)
  have B : Rn xs xl e mm_OneSided_chase 0 [some (.inr (.inr 1)), some (.inl v1), some (.inl v2), none] [] h (fun r g => INV g) := use_sm TC_chase (as := [.inr (.inr 1), .inl v1, .inl v2]) rfl (Nat.le_trans (Nat.le_of_ble_eq_true rfl) he) hI (gAr_c (g_ref 1) (gAr_c (g_i h1) (gAr_c (g_i h2) gAr_n))) rfl (Nat.le_of_ble_eq_true rfl) rfl (fun r g gI gf gq => gI)
  refine (A.and B).mono (fun r g z => ?_)
  obtain ⟨⟨x, rfl, a⟩, b⟩ := z
  exact k x g b a
end XB
