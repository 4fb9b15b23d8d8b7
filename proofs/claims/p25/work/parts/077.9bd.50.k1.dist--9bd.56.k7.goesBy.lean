section
/-! rests, part k1: the cheapest way, told once for both scales -/
/-- what a door weighs by a scale -/
def wtS (P : Int → Int) (c : Int) : Int → Int := fun d => c * P d + 1
/-- the least weight by a scale -/
def DmS (N : Int → Int → Int) (P : Int → Int) (er rms drs c r m : Int) : Prop := Dm N (wtS P c) er rms drs r m
/-- a door on the way -/
def okW (N : Int → Int → Int) (P : Int → Int) (er rms drs c room d : Int) : Prop := 0 ≤ N room d ∧ ∃ m, DmS N P er rms drs c (N room d) m ∧ DmS N P er rms drs c room (m + wtS P c d)
/-- the first of them -/
def fdW (N : Int → Int → Int) (P : Int → Int) (er rms drs c room d : Int) : Prop := (0 ≤ d ∧ d < drs) ∧ okW N P er rms drs c room d ∧ ∀ d', 0 ≤ d' → d' < d → ¬ okW N P er rms drs c room d'
def gwW (N : Int → Int → Int) (P : Int → Int) (er rms drs c : Int) : Nat → Int → Int → Int → Prop
  | 0, _, set, r => r = set
  | n + 1, room, set, r => ∃ d, fdW N P er rms drs c room d ∧ gwW N P er rms drs c n (N room d) (zor set (zshl 1 d)) r
/-- by which doors one goes -/
def gbW (N : Int → Int → Int) (P : Int → Int) (er rms drs c start r : Int) : Prop := ((∀ m, ¬ DmS N P er rms drs c start m) ∧ r = 0) ∨ ∃ (a : Int) (n : Nat), DmS N P er rms drs c start (c * a + n) ∧ n ≤ 9 ∧ gwW N P er rms drs c n start 0 r
/-- ways with what they cost and how many doors they have -/
def WP (N : Int → Int → Int) (P : Int → Int) (er rms drs r a n : Int) : Prop := ∀ R : Int → Int → Int → Prop, R er 0 0 → (∀ r d a n, 0 ≤ r → r < rms → 0 ≤ d → d < drs → 0 ≤ N r d → R (N r d) a n → R r (a + P d) (n + 1)) → R r a n
section KA
variable {N : Int → Int → Int} {P : Int → Int} {er rms drs c r a n m m' d d' room start set r' : Int}
theorem WP.nil : WP N P er rms drs er 0 0 := fun _ a _ => a
theorem WP.cons (h0 : 0 ≤ r) (h1 : r < rms) (h2 : 0 ≤ d) (h3 : d < drs) (h4 : 0 ≤ N r d) (h : WP N P er rms drs (N r d) a n) : WP N P er rms drs r (a + P d) (n + 1) := fun R x y => y r d a n h0 h1 h2 h3 h4 (h R x y)
theorem WP.walk (h : WP N P er rms drs r a n) : Walk N (wtS P c) er rms drs r (c * a + n) :=
  h (fun r a n => Walk N (wtS P c) er rms drs r (c * a + n)) (by
    have e : c * 0 + 0 = 0 := by rw [Int.mul_zero, Int.add_zero]
    show Walk N (wtS P c) er rms drs er (c * 0 + 0)
    rw [e]
    exact Walk.nil) (fun r d a n h0 h1 h2 h3 h4 q => by
    have t := Walk.cons h0 h1 h2 h3 h4 q
    have e : c * a + n + wtS P c d = c * (a + P d) + (n + 1) := by
      unfold wtS
      rw [Int.mul_add]
      omega
    rw [e] at t
    exact t)
theorem wtS_1 (c0 : 0 ≤ c) (hP : ∀ d, 0 ≤ d → d < drs → 0 ≤ P d ∧ P d ≤ 9) : ∀ d, 0 ≤ d → d < drs → 1 ≤ wtS P c d := fun d d0 d1 => by
  have := Int.mul_nonneg c0 (hP d d0 d1).1
  unfold wtS
  omega
theorem DmS_dec (c0 : 0 ≤ c) (hP : ∀ d, 0 ≤ d → d < drs → 0 ≤ P d ∧ P d ≤ 9) (hN : ∀ r d, 0 ≤ r → r ≤ 9 → 0 ≤ d → d < drs → N r d ≤ 9) : ∀ (k : Nat) (r m : Int), rk N (wtS P c) er rms drs r ≤ k → 0 ≤ r → r ≤ 9 → DmS N P er rms drs c r m → ∃ a n, WP N P er rms drs r a n ∧ m = c * a + n ∧ 0 ≤ a ∧ a ≤ 9 * n ∧ 0 ≤ n ∧ n ≤ k := by
  have hw := wtS_1 c0 hP
  have goal : ∀ (k : Nat) (r m : Int), DmS N P er rms drs c r m → r = er → ∃ a n, WP N P er rms drs r a n ∧ m = c * a + n ∧ 0 ≤ a ∧ a ≤ 9 * n ∧ 0 ≤ n ∧ n ≤ (k : Int) := fun k r m h e => by
    refine ⟨0, 0, by rw [e]; exact WP.nil, ?_, by omega, by omega, by omega, by omega⟩
    have a := (h.1.nn hw).1
    have b := h.2 0 (by rw [e]; exact Walk.nil)
    rw [Int.mul_zero]
    omega
  intro k
  induction k with
  | zero =>
    intro r m hk r0 r1 h
    by_cases e : r = er
    · exact goal 0 r m h e
    · obtain ⟨d, m', h0, h1, h2, h3, h4, h5, h6⟩ := Dm_next hw h e
      have w := hw d h2 h3
      have lt := rk_lt ⟨h4, hN r d r0 r1 h2 h3⟩ (⟨m', m, h5, h, by omega⟩ : lessD N (wtS P c) er rms drs (N r d) r)
      omega
  | succ k ih =>
    intro r m hk r0 r1 h
    by_cases e : r = er
    · exact goal (k + 1) r m h e
    · obtain ⟨d, m', h0, h1, h2, h3, h4, h5, h6⟩ := Dm_next hw h e
      have w := hw d h2 h3
      have p := hP d h2 h3
      have n9 := hN r d r0 r1 h2 h3
      have lt := rk_lt ⟨h4, n9⟩ (⟨m', m, h5, h, by omega⟩ : lessD N (wtS P c) er rms drs (N r d) r)
      obtain ⟨a, n, w1, w2, w3, w4, w5, w6⟩ := ih (N r d) m' (by omega) h4 n9 h5
      refine ⟨a + P d, n + 1, WP.cons h0 h1 h2 h3 h4 w1, ?_, by omega, by omega, by omega, by omega⟩
      rw [h6, w2]
      unfold wtS
      rw [Int.mul_add]
      omega
theorem DmS_9 (c0 : 0 ≤ c) (hP : ∀ d, 0 ≤ d → d < drs → 0 ≤ P d ∧ P d ≤ 9) (hN : ∀ r d, 0 ≤ r → r ≤ 9 → 0 ≤ d → d < drs → N r d ≤ 9) (r0 : 0 ≤ r) (r1 : r ≤ 9) (h : DmS N P er rms drs c r m) : ∃ a n, WP N P er rms drs r a n ∧ m = c * a + n ∧ 0 ≤ a ∧ a ≤ 9 * n ∧ 0 ≤ n ∧ n ≤ 9 :=
  DmS_dec c0 hP hN 9 r m (rk_le ⟨r0, r1⟩) r0 r1 h
theorem Dm_two (hP : ∀ d, 0 ≤ d → d < drs → 0 ≤ P d ∧ P d ≤ 9) (hN : ∀ r d, 0 ≤ r → r ≤ 9 → 0 ≤ d → d < drs → N r d ≤ 9) (r0 : 0 ≤ r) (r1 : r ≤ 9) (h1 : DmS N P er rms drs 64 r m) (h2 : DmS N P er rms drs 100 r m') : ∃ a n, m = 64 * a + n ∧ m' = 100 * a + n ∧ 0 ≤ a ∧ 0 ≤ n ∧ n ≤ 9 := by
  obtain ⟨a, n, w1, e1, a0, -, n0, n9⟩ := DmS_9 (by decide) hP hN r0 r1 h1
  obtain ⟨a', n', w2, e2, a0', -, n0', n9'⟩ := DmS_9 (by decide) hP hN r0 r1 h2
  have l1 := h1.2 _ (WP.walk (c := 64) w2)
  have l2 := h2.2 _ (WP.walk (c := 100) w1)
  exact ⟨a, n, e1, by omega, a0, n0, n9⟩
theorem DmS_ex (c0 : 0 ≤ c) (hP : ∀ d, 0 ≤ d → d < drs → 0 ≤ P d ∧ P d ≤ 9) (h : WP N P er rms drs r a n) : ∃ m, DmS N P er rms drs c r m :=
  Dm_ex (wtS_1 c0 hP) (c * a + n).toNat (c * a + n) (Int.self_le_toNat _) (WP.walk h)
theorem D_64 (hP : ∀ d, 0 ≤ d → d < drs → 0 ≤ P d ∧ P d ≤ 9) (hN : ∀ r d, 0 ≤ r → r ≤ 9 → 0 ≤ d → d < drs → N r d ≤ 9) (r0 : 0 ≤ r) (r1 : r ≤ 9) : (∃ m, DmS N P er rms drs 64 r m) ↔ ∃ m, DmS N P er rms drs 100 r m := by
  constructor
  · rintro ⟨m, h⟩
    obtain ⟨a, n, w, -⟩ := DmS_9 (by decide) hP hN r0 r1 h
    exact DmS_ex (by decide) hP w
  · rintro ⟨m, h⟩
    obtain ⟨a, n, w, -⟩ := DmS_9 (by decide) hP hN r0 r1 h
    exact DmS_ex (by decide) hP w
theorem okW_two (hP : ∀ d, 0 ≤ d → d < drs → 0 ≤ P d ∧ P d ≤ 9) (hN : ∀ r d, 0 ≤ r → r ≤ 9 → 0 ≤ d → d < drs → N r d ≤ 9) (r0 : 0 ≤ room) (r1 : room ≤ 9) (d0 : 0 ≤ d) (d1 : d < drs) : okW N P er rms drs 64 room d ↔ okW N P er rms drs 100 room d := by
  have n9 := hN room d r0 r1 d0 d1
  have p := hP d d0 d1
  constructor
  · rintro ⟨n0, m, h1, h2⟩
    obtain ⟨x, hx⟩ := (D_64 hP hN n0 n9).mp ⟨m, h1⟩
    obtain ⟨y, hy⟩ := (D_64 hP hN r0 r1).mp ⟨_, h2⟩
    obtain ⟨a1, n1, e1, f1, -, g1, g2⟩ := Dm_two hP hN n0 n9 h1 hx
    obtain ⟨a2, n2, e2, f2, -, g3, g4⟩ := Dm_two hP hN r0 r1 h2 hy
    unfold wtS at e2
    refine ⟨n0, x, hx, ?_⟩
    have ey : y = x + wtS P 100 d := by
      unfold wtS
      omega
    rw [← ey]
    exact hy
  · rintro ⟨n0, m, h1, h2⟩
    obtain ⟨x, hx⟩ := (D_64 hP hN n0 n9).mpr ⟨m, h1⟩
    obtain ⟨y, hy⟩ := (D_64 hP hN r0 r1).mpr ⟨_, h2⟩
    obtain ⟨a1, n1, e1, f1, -, g1, g2⟩ := Dm_two hP hN n0 n9 hx h1
    obtain ⟨a2, n2, e2, f2, -, g3, g4⟩ := Dm_two hP hN r0 r1 hy h2
    unfold wtS at f2
    refine ⟨n0, x, hx, ?_⟩
    have ey : y = x + wtS P 64 d := by
      unfold wtS
      omega
    rw [← ey]
    exact hy
theorem fdW_two (hP : ∀ d, 0 ≤ d → d < drs → 0 ≤ P d ∧ P d ≤ 9) (hN : ∀ r d, 0 ≤ r → r ≤ 9 → 0 ≤ d → d < drs → N r d ≤ 9) (r0 : 0 ≤ room) (r1 : room ≤ 9) (h : fdW N P er rms drs 100 room d) : fdW N P er rms drs 64 room d := by
  obtain ⟨⟨a, b⟩, c, e⟩ := h
  exact ⟨⟨a, b⟩, (okW_two hP hN r0 r1 a b).mpr c, fun d' x0 x1 y => e d' x0 x1 ((okW_two hP hN r0 r1 x0 (by omega)).mp y)⟩
theorem fdW_one (h : fdW N P er rms drs c room d) (g : fdW N P er rms drs c room d') : d = d' := by
  have a : ¬ d < d' := fun x => g.2.2 d h.1.1 x h.2.1
  have b : ¬ d' < d := fun x => h.2.2 d' g.1.1 x g.2.1
  omega
theorem gwW_one : ∀ (n : Nat) (room set r r' : Int), gwW N P er rms drs c n room set r → gwW N P er rms drs c n room set r' → r = r'
  | 0, _, _, r, r', h, g => by
    have h : r = _ := h
    have g : r' = _ := g
    rw [h, g]
  | n + 1, room, set, r, r', h, g => by
    obtain ⟨d, h1, h2⟩ := h
    obtain ⟨d', g1, g2⟩ := g
    have e := fdW_one h1 g1
    rw [← e] at g2
    exact gwW_one n _ _ r r' h2 g2
theorem gwW_two (hP : ∀ d, 0 ≤ d → d < drs → 0 ≤ P d ∧ P d ≤ 9) (hN : ∀ r d, 0 ≤ r → r ≤ 9 → 0 ≤ d → d < drs → N r d ≤ 9) : ∀ (n : Nat) (room set r : Int), 0 ≤ room → room ≤ 9 → gwW N P er rms drs 100 n room set r → gwW N P er rms drs 64 n room set r
  | 0, _, _, _, _, _, h => h
  | n + 1, room, set, r, r0, r1, h => by
    obtain ⟨d, h1, h2⟩ := h
    exact ⟨d, fdW_two hP hN r0 r1 h1, gwW_two hP hN n _ _ r h1.2.1.1 (hN room d r0 r1 h1.1.1 h1.1.2) h2⟩
/-- both scales give the same doors -/
theorem gbW_two (hP : ∀ d, 0 ≤ d → d < drs → 0 ≤ P d ∧ P d ≤ 9) (hN : ∀ r d, 0 ≤ r → r ≤ 9 → 0 ≤ d → d < drs → N r d ≤ 9) (r0 : 0 ≤ start) (r1 : start ≤ 9) (g : gbW N P er rms drs 100 start r) : gbW N P er rms drs 64 start r := by
  rcases g with ⟨g1, g2⟩ | ⟨a, n, g1, g2, g3⟩
  · exact Or.inl ⟨fun m hm => by
      obtain ⟨m', hm'⟩ := (D_64 hP hN r0 r1).mp ⟨m, hm⟩
      exact g1 m' hm', g2⟩
  · obtain ⟨m, hm⟩ := (D_64 hP hN r0 r1).mpr ⟨_, g1⟩
    obtain ⟨x, y, e1, e2, -, y0, y9⟩ := Dm_two hP hN r0 r1 hm g1
    have em : m = 64 * a + (n : Int) := by omega
    rw [em] at hm
    exact Or.inr ⟨a, n, hm, g2, gwW_two hP hN n start 0 r r0 r1 g3⟩
theorem gbW_one (h : gbW N P er rms drs 64 start r) (g : gbW N P er rms drs 64 start r') : r = r' := by
  rcases h with ⟨h1, h2⟩ | ⟨a, n, h1, h2, h3⟩
  · rcases g with ⟨g1, g2⟩ | ⟨a', n', g1, g2, g3⟩
    · rw [h2, g2]
    · exact absurd g1 (h1 _)
  · rcases g with ⟨g1, g2⟩ | ⟨a', n', g1, g2, g3⟩
    · exact absurd h1 (g1 _)
    · have e := Dm_u h1 g1
      have en : n = n' := by omega
      rw [← en] at g3
      exact gwW_one n start 0 r r' h3 g3
/-- where the way goes on -/
theorem okW_step (c1 : 10 < c) (hP : ∀ d, 0 ≤ d → d < drs → 0 ≤ P d ∧ P d ≤ 9) (hr : room ≠ er) (h : DmS N P er rms drs c room m) : ∃ d, (0 ≤ d ∧ d < drs) ∧ okW N P er rms drs c room d := by
  obtain ⟨d, m', h0, h1, h2, h3, h4, h5, h6⟩ := Dm_next (wtS_1 (by omega) hP) h hr
  refine ⟨d, ⟨h2, h3⟩, h4, m', h5, ?_⟩
  rw [← h6]
  exact h
end KA
end
section
/-! rests, part k2: into which room the reference's door leads, with prices put in -/
noncomputable def inP (f : Int → Int) (L : List Int) (s room hr sh pc d : Int) : Int :=
  @ite Int (f 2 = room ∧ wAh f L s hr pc 0 ∧ ¬ bitZ sh d) (Classical.propDecidable _) (f 3) (@ite Int (f 3 = room ∧ wBk f L s hr pc 0 ∧ ¬ bitZ sh d) (Classical.propDecidable _) (f 2) (-1))
/-- two prices put in -/
def prK (K : KEY) (one other a b : Int) : KEY := (K.1, K.2.1, K.2.2.1, one, other, a, b)
section KBa
variable {xs : Nat → Int} {xl e : Nat} {h : LH} {Q : Option LV → LH → Prop} {d s room hr sh pc : Int} {L : List Int} {f : Int → Int}
theorem inP_1 (n : ¬ lbk f hr 0) (r : room = f 2) : (lets f L s hr pc (f 3) → ¬ bitZ sh d → inP f L s room hr sh pc d = f 3) ∧ (¬ (lets f L s hr pc (f 3) ∧ ¬ bitZ sh d) → inP f L s room hr sh pc d = -1) := by
  unfold inP wAh wBk
  refine ⟨fun a b => by rw [if_pos ⟨r.symm, ⟨Or.inr n, a⟩, b⟩], fun a => ?_⟩
  rw [if_neg (fun z => a ⟨z.2.1.2, z.2.2⟩), if_neg (fun z => a ⟨?_, z.2.2⟩)]
  have e : f 3 = f 2 := z.1.trans r
  rw [e]
  exact z.2.1.2
theorem inP_2 (n : ¬ lbk f hr 0) (r : room ≠ f 2) (t : s = 3 ∧ room = f 3) : (lets f L s hr pc (f 2) → ¬ bitZ sh d → inP f L s room hr sh pc d = f 2) ∧ (¬ (lets f L s hr pc (f 2) ∧ ¬ bitZ sh d) → inP f L s room hr sh pc d = -1) := by
  unfold inP wAh wBk
  refine ⟨fun a b => by rw [if_neg (fun z => r z.1.symm), if_pos ⟨t.2.symm, ⟨Or.inl t.1, a⟩, b⟩], fun a => ?_⟩
  rw [if_neg (fun z => r z.1.symm), if_neg (fun z => a ⟨z.2.1.2, z.2.2⟩)]
theorem inP_3 (n : ¬ lbk f hr 0) (r : room ≠ f 2) (t : ¬ (s = 3 ∧ room = f 3)) : inP f L s room hr sh pc d = -1 := by
  unfold inP wAh wBk
  rw [if_neg (fun z => r z.1.symm), if_neg (fun z => ?_)]
  rcases z.2.1.1 with y | y
  · exact t ⟨y, z.1.symm⟩
  · exact n y
theorem inP_4 (n : lbk f hr 0) (r : room = f 3) : (lets f L s hr pc (f 2) → ¬ bitZ sh d → inP f L s room hr sh pc d = f 2) ∧ (¬ (lets f L s hr pc (f 2) ∧ ¬ bitZ sh d) → inP f L s room hr sh pc d = -1) := by
  unfold inP wAh wBk
  refine ⟨fun a b => ?_, fun a => ?_⟩
  · by_cases z : f 2 = room ∧ ((s = 3 ∨ ¬ lbk f hr 0) ∧ lets f L s hr pc (f 3)) ∧ ¬ bitZ sh d
    · rw [if_pos z, z.1, r]
    · rw [if_neg z, if_pos ⟨r.symm, ⟨Or.inr n, a⟩, b⟩]
  · rw [if_neg (fun z => a ⟨?_, z.2.2⟩), if_neg (fun z => a ⟨z.2.1.2, z.2.2⟩)]
    have e : f 2 = f 3 := z.1.trans r
    rw [e]
    exact z.2.1.2
theorem inP_5 (n : lbk f hr 0) (r : room ≠ f 3) (t : s = 3 ∧ room = f 2) : (lets f L s hr pc (f 3) → ¬ bitZ sh d → inP f L s room hr sh pc d = f 3) ∧ (¬ (lets f L s hr pc (f 3) ∧ ¬ bitZ sh d) → inP f L s room hr sh pc d = -1) := by
  unfold inP wAh wBk
  refine ⟨fun a b => by rw [if_pos ⟨t.2.symm, ⟨Or.inl t.1, a⟩, b⟩], fun a => ?_⟩
  rw [if_neg (fun z => a ⟨z.2.1.2, z.2.2⟩), if_neg (fun z => r z.1.symm)]
theorem inP_6 (n : lbk f hr 0) (r : room ≠ f 3) (t : ¬ (s = 3 ∧ room = f 2)) : inP f L s room hr sh pc d = -1 := by
  unfold inP wAh wBk
  rw [if_neg (fun z => ?_), if_neg (fun z => r z.1.symm)]
  rcases z.2.1.1 with y | y
  · exact t ⟨y, z.1.symm⟩
  · exact y n
theorem G_leadsToP (he : 3 ≤ e) (hd : 0 ≤ d ∧ d ≤ 13) (hF : RF h) (hf : ∀ j : Nat, j < 7 → f ((j : Int) + 1) = rd h 188 (8 * d + 4 + (j : Int))) (h2 : 0 ≤ f 2 ∧ f 2 ≤ 9) (h3 : 0 ≤ f 3 ∧ f 3 ≤ 9) (h6 : -1 ≤ f 6) (c1 : d ≠ rd h 182 28 → d ≠ rd h 182 29 → pc = rd h 188 (8 * d + 11)) (c2 : d ≠ rd h 182 28 → d = rd h 182 29 → pc = rd h 182 31) (c3 : d = rd h 182 28 → pc = rd h 182 30)
    (l0 : L.length = 0 → rd h 188 3 < 0) (l1 : 0 < L.length → rd h 188 3 = 0 ∧ rd h 189 (L.length : Int) = 0 ∧ ∀ i : Nat, i < L.length → rd h 189 i = cdO (L.getD i 0) ∧ rd h 190 i = cdA (L.getD i 0)) (l3 : L.length ≤ 1000) (hO : hOk 32 L 0) (hE : 0 < L.length → hEnd L 0 = 1) (hr' : ∀ c ∈ L, cdR c)
    (k : ∀ h', Q (some (.inl (inP f L s room hr sh pc d))) h') : Rn xs xl e mm_leadsTo 0 [some (.inr (.inr 182)), some (.inl d), some (.inl s), some (.inl room), some (.inl hr), some (.inl sh), some (.inl 0), none, none, none, none, none] [] h Q := by
  have F1 : f 1 = rd h 188 (8 * d + 4) := (hf 0 (by decide)).trans (by rw [show 8 * d + 4 + ((0 : Nat) : Int) = 8 * d + 4 by omega])
  have F2 : f 2 = rd h 188 (8 * d + 5) := (hf 1 (by decide)).trans (by rw [show 8 * d + 4 + ((1 : Nat) : Int) = 8 * d + 5 by omega])
  have F3 : f 3 = rd h 188 (8 * d + 6) := (hf 2 (by decide)).trans (by rw [show 8 * d + 4 + ((2 : Nat) : Int) = 8 * d + 6 by omega])
  have F4 : f 4 = rd h 188 (8 * d + 7) := (hf 3 (by decide)).trans (by rw [show 8 * d + 4 + ((3 : Nat) : Int) = 8 * d + 7 by omega])
  have F5 : f 5 = rd h 188 (8 * d + 8) := (hf 4 (by decide)).trans (by rw [show 8 * d + 4 + ((4 : Nat) : Int) = 8 * d + 8 by omega])
  have F6 : f 6 = rd h 188 (8 * d + 9) := (hf 5 (by decide)).trans (by rw [show 8 * d + 4 + ((5 : Nat) : Int) = 8 * d + 9 by omega])
  clear hf
  have tail : ∀ (w v8 v9 it : Int), it ≤ 9 → (0 ≤ it → lets f L s hr pc it → ¬ bitZ sh d → inP f L s room hr sh pc d = it) → (¬ (0 ≤ it ∧ lets f L s hr pc it ∧ ¬ bitZ sh d) → inP f L s room hr sh pc d = -1) → Rn xs xl e mm_leadsTo 119 [some (.inr (.inr 182)), some (.inl d), some (.inl s), some (.inl room), some (.inl hr), some (.inl sh), some (.inl 0), some (.inl w), some (.inl v8), some (.inl v9), none, none] [.inl it] h Q := by
    intro w v8 v9 it i9 Hy Hn
    by_cases c : 0 ≤ it ∧ rd h 188 (8 * d + 7) ≤ hr ∧ hr < rd h 188 (8 * d + 8) ∧ rd h 188 (8 * d + 4) ≠ 3 ∧ zand (zshr sh d) 1 ≠ 1 ∧ (rd h 188 (8 * d + 9) < 0 ∨ rd h 188 (8 * d + 9) = s ∨ s = 3)
    · have law : ∀ v, v = lawW (fcs hr s pc it) L → (v = 0 → inP f L s room hr sh pc d = -1) ∧ (v ≠ 0 → inP f L s room hr sh pc d = it) := fun v hv => ⟨fun z => Hn (fun y => y.2.1.2.2.2.2 (hv.symm.trans z)), fun z => Hy c.1 ⟨by omega, by omega, by omega, by omega, fun y => z (hv.trans y)⟩ c.2.2.2.2.1⟩
      have next : Rn xs xl e mm_leadsTo 196 [some (.inr (.inr 182)), some (.inl d), some (.inl s), some (.inl room), some (.inl hr), some (.inl sh), some (.inl 0), some (.inl w), some (.inl v8), some (.inl v9), some (.inl it), none] [.inl 1] h Q := by
        have sd0 : 2 ≤ e := by omega
        have sd1 : -2147483648 ≤ 8 * d ∧ 8 * d ≤ 2147483647 := by omega
        have sd2 : -2147483648 ≤ 8 * d + 4 ∧ 8 * d + 4 ≤ 2147483647 := by omega
        have sd3 : -2147483648 ≤ 8 * d + 11 ∧ 8 * d + 11 ≤ 2147483647 := by omega
        have sd4 : 0 ≤ 8 * d + 11 ∧ 8 * d + 11 < 300 := by omega
        have n1 : rd h 188 3 < 0 → ∀ h', Q (some (.inl it)) h' := fun q h' => by
          have z : L.length = 0 := by
            rcases Nat.eq_zero_or_pos L.length with z | z
            · exact z
            · have := (l1 z).1; omega
          have := (law (lawW (fcs hr s pc it) L) rfl).2 (by unfold lawW; rw [if_pos z]; decide)
          rw [← this]
          exact k _
        have n2 : 0 ≤ rd h 188 3 → ∃ c, c < e ∧ Rn xs xl c mm_worthAt 0 [some (.inr (.inr 182)), some (.inl (rd h 188 3)), none, none, none] [] (wr (wr (wr (wr h 196 0 hr) 196 1 s) 196 2 pc) 196 3 it) (fun r h' => Rn xs xl e mm_leadsTo 258 [some (.inr (.inr 182)), some (.inl d), some (.inl s), some (.inl room), some (.inl hr), some (.inl sh), some (.inl 0), some (.inl w), some (.inl v8), some (.inl v9), some (.inl it), some (.inl 1)] (r.toList ++ []) h' Q) := fun q => by
          have z : 0 < L.length := by
            rcases Nat.eq_zero_or_pos L.length with z | z
            · have := l0 z; omega
            · exact z
          obtain ⟨z3, za, zb⟩ := l1 z
          rw [z3]
          have fr : ∀ a i, a ≠ 196 → rd (wr (wr (wr (wr h 196 0 hr) 196 1 s) 196 2 pc) 196 3 it) a i = rd h a i := fun a i n => by rw [rdw_ne (fun q => n q.symm), rdw_ne (fun q => n q.symm), rdw_ne (fun q => n q.symm), rdw_ne (fun q => n q.symm)]
          have h196 : ∀ i, (hav 196 i).1 ≠ 2 := fun i => hav_nr (by decide +kernel) i
          refine ⟨1, by omega, G_worthAt (L := L) (f := fcs hr s pc it) (by omega) (RF_wn (h196 _) (RF_wn (h196 _) (RF_wn (h196 _) (RF_wn (h196 _) hF)))) ((fr _ _ (by decide)).trans za) (fun i hi => ?_) (fun j j0 j1 => ?_) l3 z hO (hE z) hr' (fun h' hF' ff => B_leadsTo_258 hF' ⟨fun y => ?_, fun y => ?_⟩)⟩
          · rw [fr _ _ (by decide), fr _ _ (by decide)]
            exact zb i hi
          · rcases (show j = 0 ∨ j = 1 ∨ j = 2 ∨ j = 3 by omega) with rfl | rfl | rfl | rfl
            · rw [rdw_nei (by decide), rdw_nei (by decide), rdw_nei (by decide), rdw_eq]
              rfl
            · rw [rdw_nei (by decide), rdw_nei (by decide), rdw_eq]
              rfl
            · rw [rdw_nei (by decide), rdw_eq]
              rfl
            · rw [rdw_eq]
              rfl
          · rw [← (law _ rfl).1 y]
            exact k _
          · have := (law _ rfl).2 y
            rw [← this]
            exact k _
        exact B_leadsTo_196_1 hF sd0 ⟨fun y1 => ⟨fun y2 => ⟨sd1, sd2, sd3, sd4, fun q => n1 q _, fun q => by rw [← c1 y1 y2]; exact n2 q⟩, fun y2 => ⟨fun q => n1 q _, fun q => by rw [← c2 y1 y2]; exact n2 q⟩⟩, fun y1 => ⟨fun q => n1 q _, fun q => by rw [← c3 y1]; exact n2 q⟩⟩
      clear law Hy Hn k l0 l1 c1 c2 c3
      refine B_leadsTo_119 hF (by omega) ?_
      (repeat' (first | apply And.intro | intro _)) <;> (first | exact next | omega | (exfalso; omega))
    · have K := Hn (fun y => c ⟨y.1, by have := y.2.1.2.1; omega, by have := y.2.1.2.2.1; omega, by have := y.2.1.1; omega, y.2.2, by have := y.2.1.2.2.2.1; omega⟩)
      have next : Rn xs xl e mm_leadsTo 196 [some (.inr (.inr 182)), some (.inl d), some (.inl s), some (.inl room), some (.inl hr), some (.inl sh), some (.inl 0), some (.inl w), some (.inl v8), some (.inl v9), some (.inl it), none] [.inl 0] h Q := B_leadsTo_196_0 hF (by rw [← K]; exact k _)
      clear Hy Hn k l0 l1 c1 c2 c3
      refine B_leadsTo_119 hF (by omega) ?_
      (repeat' (first | apply And.intro | intro _)) <;> (first | exact next | omega | (exfalso; omega))
  clear k l0 l1 c1 c2 c3
  have b0 := bit0 d
  have t55 : ∀ w : Int, (w = 0 ∨ w = 1) → (w = 1 ↔ lbk f hr 0) → Rn xs xl e mm_leadsTo 55 [some (.inr (.inr 182)), some (.inl d), some (.inl s), some (.inl room), some (.inl hr), some (.inl sh), some (.inl 0), none, none, none, none, none] [.inl w] h Q := by
    intro w w01 hw
    rcases w01 with rfl | rfl
    · have n : ¬ lbk f hr 0 := fun z => absurd (hw.mpr z) (by decide)
      by_cases c1 : room = f 2
      · have T := tail 0 (f 2) (f 3) (f 3) h3.2 (fun _ a b => (inP_1 n c1).1 a b) (fun a => (inP_1 n c1).2 (fun z => a ⟨h3.1, z⟩))
        clear tail
        rw [F2, F3] at T
        refine B_leadsTo_55 hF (by omega) ?_
        (repeat' (first | apply And.intro | intro _)) <;> (first | exact T | omega | (exfalso; omega))
      · by_cases c2 : s = 3 ∧ room = f 3
        · have T := tail 0 (f 2) (f 3) (f 2) h2.2 (fun _ a b => (inP_2 n c1 c2).1 a b) (fun a => (inP_2 n c1 c2).2 (fun z => a ⟨h2.1, z⟩))
          clear tail
          rw [F2, F3] at T
          refine B_leadsTo_55 hF (by omega) ?_
          (repeat' (first | apply And.intro | intro _)) <;> (first | exact T | omega | (exfalso; omega))
        · have T := tail 0 (f 2) (f 3) (-1) (by decide) (fun a => absurd a (by decide)) (fun _ => inP_3 n c1 c2)
          clear tail
          rw [F2, F3] at T
          refine B_leadsTo_55 hF (by omega) ?_
          (repeat' (first | apply And.intro | intro _)) <;> (first | exact T | omega | (exfalso; omega))
    · have n : lbk f hr 0 := hw.mp rfl
      by_cases c1 : room = f 3
      · have T := tail 1 (f 3) (f 2) (f 2) h2.2 (fun _ a b => (inP_4 n c1).1 a b) (fun a => (inP_4 n c1).2 (fun z => a ⟨h2.1, z⟩))
        clear tail
        rw [F2, F3] at T
        refine B_leadsTo_55 hF (by omega) ?_
        (repeat' (first | apply And.intro | intro _)) <;> (first | exact T | omega | (exfalso; omega))
      · by_cases c2 : s = 3 ∧ room = f 2
        · have T := tail 1 (f 3) (f 2) (f 3) h3.2 (fun _ a b => (inP_5 n c1 c2).1 a b) (fun a => (inP_5 n c1 c2).2 (fun z => a ⟨h3.1, z⟩))
          clear tail
          rw [F2, F3] at T
          refine B_leadsTo_55 hF (by omega) ?_
          (repeat' (first | apply And.intro | intro _)) <;> (first | exact T | omega | (exfalso; omega))
        · have T := tail 1 (f 3) (f 2) (-1) (by decide) (fun a => absurd a (by decide)) (fun _ => inP_6 n c1 c2)
          clear tail
          rw [F2, F3] at T
          refine B_leadsTo_55 hF (by omega) ?_
          (repeat' (first | apply And.intro | intro _)) <;> (first | exact T | omega | (exfalso; omega))
  clear tail
  rw [lbk_0, F1] at t55
  by_cases c : rd h 188 (8 * d + 4) = 1 ∧ 12 ≤ hr
  · have T := t55 1 (Or.inr rfl) ⟨fun _ => c, fun _ => rfl⟩
    clear t55
    refine B_leadsTo_0 hF (by omega) ?_
    (repeat' (first | apply And.intro | intro _)) <;> (first | exact T | omega | (exfalso; omega))
  · have T := t55 0 (Or.inl rfl) ⟨fun z => absurd z (by decide), fun z => absurd z c⟩
    clear t55
    refine B_leadsTo_0 hF (by omega) ?_
    (repeat' (first | apply And.intro | intro _)) <;> (first | exact T | omega | (exfalso; omega))
theorem LF_inP (hI : INV h) (hd : 0 ≤ d ∧ d ≤ 13) (hs : 0 ≤ s ∧ s ≤ 3) (hro : 0 ≤ room ∧ room ≤ 9) (hhr : 0 ≤ hr ∧ hr ≤ 25) (hf : ∀ j : Nat, j < 7 → f ((j : Int) + 1) = rd h 188 (8 * d + 4 + (j : Int))) (h2 : 0 ≤ f 2 ∧ f 2 ≤ 9) (h3 : 0 ≤ f 3 ∧ f 3 ≤ 9) (h6 : -1 ≤ f 6) (hl : LRQ h L) : LF (key h) d s room hr sh 0 = inP f L s room hr sh (PRK (key h) d) d := by
  obtain ⟨l0, l1, l3, hO, hE, hr'⟩ := hl
  have ep : PRK (key h) d = if d = rd h 182 28 then rd h 182 30 else if d = rd h 182 29 then rd h 182 31 else rd h 188 (8 * d + 11) := rfl
  have a := (LF_ok (key h) sh 0 hd hs hro hhr).2.2.2 (fun _ => 0) 0 3 h (fun r _ => r = some (.inl (LF (key h) d s room hr sh 0))) (by decide) hI rfl (fun _ _ _ => rfl)
  have b := G_leadsToP (xs := fun _ => 0) (xl := 0) (e := 3) (s := s) (room := room) (hr := hr) (sh := sh) (pc := PRK (key h) d) (Q := fun r _ => r = some (.inl (inP f L s room hr sh (PRK (key h) d) d))) (by decide) hd (RF_of hI.1) hf h2 h3 h6 (fun y1 y2 => by rw [ep, if_neg y1, if_neg y2]) (fun y1 y2 => by rw [ep, if_neg y1, if_pos y2]) (fun y1 => by rw [ep, if_pos y1]) l0 l1 l3 hO hE hr' (fun _ => rfl)
  obtain ⟨_, r, _, _, e1, e2⟩ := a.and b
  rw [e1] at e2
  injection e2 with e3
  injection e3 with e4
/-- where every door leads, whichever prices are put in -/
def PLF (h : LH) (K : KEY) (q : Int) (L : List Int) : Prop := ∀ one other a b d s room hr sh, (0 ≤ one ∧ one ≤ 13) → (0 ≤ other ∧ other ≤ 13) → (0 ≤ a ∧ a ≤ 9) → (0 ≤ b ∧ b ≤ 9) → 0 ≤ d → d < K.1 1 → (0 ≤ s ∧ s ≤ 3) → (0 ≤ room ∧ room ≤ 9) → (0 ≤ hr ∧ hr ≤ 25) → LF (prK K one other a b) d s room hr sh 0 = inP (rd h (q + 7 + d)) L s room hr sh (PRK (prK K one other a b) d) d
theorem key_pr {one other a b : Int} : key (wr (wr (wr (wr h 182 28 one) 182 29 other) 182 30 a) 182 31 b) = prK (key h) one other a b := by
  have e : ∀ x : Int, x ≠ 182 → rd (wr (wr (wr (wr h 182 28 one) 182 29 other) 182 30 a) 182 31 b) x = rd h x := fun x hx => funext (fun i => by rw [rdw_ne (fun z => hx z.symm), rdw_ne (fun z => hx z.symm), rdw_ne (fun z => hx z.symm), rdw_ne (fun z => hx z.symm)])
  show (rd (wr (wr (wr (wr h 182 28 one) 182 29 other) 182 30 a) 182 31 b) 188, rd (wr (wr (wr (wr h 182 28 one) 182 29 other) 182 30 a) 182 31 b) 189, rd (wr (wr (wr (wr h 182 28 one) 182 29 other) 182 30 a) 182 31 b) 190, rd (wr (wr (wr (wr h 182 28 one) 182 29 other) 182 30 a) 182 31 b) 182 28, rd (wr (wr (wr (wr h 182 28 one) 182 29 other) 182 30 a) 182 31 b) 182 29, rd (wr (wr (wr (wr h 182 28 one) 182 29 other) 182 30 a) 182 31 b) 182 30, rd (wr (wr (wr (wr h 182 28 one) 182 29 other) 182 30 a) 182 31 b) 182 31) = (rd h 188, rd h 189, rd h 190, one, other, a, b)
  have e28 : rd (wr (wr (wr (wr h 182 28 one) 182 29 other) 182 30 a) 182 31 b) 182 28 = one := by rw [rdw_nei (by decide), rdw_nei (by decide), rdw_nei (by decide), rdw_eq]
  have e29 : rd (wr (wr (wr (wr h 182 28 one) 182 29 other) 182 30 a) 182 31 b) 182 29 = other := by rw [rdw_nei (by decide), rdw_nei (by decide), rdw_eq]
  have e30 : rd (wr (wr (wr (wr h 182 28 one) 182 29 other) 182 30 a) 182 31 b) 182 30 = a := by rw [rdw_nei (by decide), rdw_eq]
  have e31 : rd (wr (wr (wr (wr h 182 28 one) 182 29 other) 182 30 a) 182 31 b) 182 31 = b := rdw_eq
  rw [e 188 (by decide), e 189 (by decide), e 190 (by decide), e28, e29, e30, e31]
theorem INV_pr {one other a b : Int} (hI : INV h) (h1 : 0 ≤ one ∧ one ≤ 13) (h2 : 0 ≤ other ∧ other ≤ 13) (h3 : 0 ≤ a ∧ a ≤ 9) (h4 : 0 ≤ b ∧ b ≤ 9) : INV (wr (wr (wr (wr h 182 28 one) 182 29 other) 182 30 a) 182 31 b) :=
  wF_priceOther (wF_priceOne (wF_setOther (wF_setOne hI (by omega) h1.2) (by omega) h2.2) h3.1 h3.2) h4.1 h4.2
theorem CXq_ofP (hI : INV h) (hE : EQL h) : ∃ L, CXq h (key h) (rd h 1 1) L ∧ LWQ h (rd h 1 1) L ∧ PLF h (key h) (rd h 1 1) L := by
  obtain ⟨-, -, hP, -, -, -, -, ⟨k1, ⟨L, l1, l2⟩, p28, p29, -⟩⟩ := id hE
  have hq : rd h 1 1 = 5 ∨ rd h 1 1 = 32 := rQf hI.1
  have lr := LRQ_of hI k1 l1
  have nd := rq_doors hI.1
  refine ⟨L, ⟨RF_of hI.1, hP, hq, rfl, ⟨k1.1, k1.2.1, k1.2.2.1⟩, fun d d0 d1 j hj => fdD k1 rfl d0 d1 j hj, fun p p0 p1 j hj => fdP k1 rfl p0 p1 j hj, l2, fun d s a hr sh d0 d1 s0 s1 a0 a1 h0 h1 => ?_⟩, l1, fun one other a b d s room hr sh b1 b2 b3 b4 d0 d1 hs hro hhr => ?_⟩
  · have d1' : d < rd h 188 1 := d1
    have fd := fdD (v1 := d) k1 rfl d0 d1'
    have f2 : rd h (rd h 1 1 + 7 + d) 2 = rd h 188 (8 * d + 4 + 1) := fd 1 (by decide)
    have f3 : rd h (rd h 1 1 + 7 + d) 3 = rd h 188 (8 * d + 4 + 2) := fd 2 (by decide)
    have f6 : rd h (rd h 1 1 + 7 + d) 6 = rd h 188 (8 * d + 4 + 5) := fd 5 (by decide)
    have r2 := rq_d1 hI.1 (i := 8 * d + 4 + 1) (d := d) (by omega) d0 (by omega)
    have r3 := rq_d2 hI.1 (i := 8 * d + 4 + 2) (d := d) (by omega) d0 (by omega)
    have r6 := rq_d5 hI.1 (i := 8 * d + 4 + 5) (d := d) (by omega) d0 (by omega)
    exact LF_in hI ⟨d0, by omega⟩ ⟨s0, s1⟩ ⟨a0, a1⟩ ⟨h0, by omega⟩ fd (by omega) (by omega) (by omega) p28 p29 lr
  · have d1' : d < rd h 188 1 := d1
    have fd := fdD (v1 := d) k1 rfl d0 d1'
    have f2 : rd h (rd h 1 1 + 7 + d) 2 = rd h 188 (8 * d + 4 + 1) := fd 1 (by decide)
    have f3 : rd h (rd h 1 1 + 7 + d) 3 = rd h 188 (8 * d + 4 + 2) := fd 2 (by decide)
    have f6 : rd h (rd h 1 1 + 7 + d) 6 = rd h 188 (8 * d + 4 + 5) := fd 5 (by decide)
    have r2 := rq_d1 hI.1 (i := 8 * d + 4 + 1) (d := d) (by omega) d0 (by omega)
    have r3 := rq_d2 hI.1 (i := 8 * d + 4 + 2) (d := d) (by omega) d0 (by omega)
    have r6 := rq_d5 hI.1 (i := 8 * d + 4 + 5) (d := d) (by omega) d0 (by omega)
    have gI := INV_pr hI b1 b2 b3 b4
    have e : ∀ x i : Int, x ≠ 182 → rd (wr (wr (wr (wr h 182 28 one) 182 29 other) 182 30 a) 182 31 b) x i = rd h x i := fun x i hx => by rw [rdw_ne (fun z => hx z.symm), rdw_ne (fun z => hx z.symm), rdw_ne (fun z => hx z.symm), rdw_ne (fun z => hx z.symm)]
    obtain ⟨l0, l1', l3, hO, hE', hr'⟩ := lr
    have lg : LRQ (wr (wr (wr (wr h 182 28 one) 182 29 other) 182 30 a) 182 31 b) L := ⟨fun z => by rw [e 188 3 (by decide)]; exact l0 z, fun z => by
      obtain ⟨y1, y2, y3⟩ := l1' z
      exact ⟨by rw [e 188 3 (by decide)]; exact y1, by rw [e 189 _ (by decide)]; exact y2, fun i hi => by rw [e 189 _ (by decide), e 190 _ (by decide)]; exact y3 i hi⟩, l3, hO, hE', hr'⟩
    have := LF_inP (sh := sh) (f := rd h (rd h 1 1 + 7 + d)) gI ⟨d0, by omega⟩ hs hro hhr (fun j hj => (fd j (by omega)).trans (e 188 _ (by decide)).symm) (by omega) (by omega) (by omega) lg
    rw [key_pr] at this
    exact this
end KBa
end
section
/-! rests, part k3: the class's cheapest ways -/
/-- where a door lets one, by the bits A ahead and B back -/
noncomputable def nbF (f : Int → Int) (A B r d : Int) : Int := @ite Int (f 2 = r ∧ bitZ A d) (Classical.propDecidable _) (f 3) (@ite Int (f 3 = r ∧ bitZ B d) (Classical.propDecidable _) (f 2) (-1))
/-- the row of costs: each is that of a way -/
def cbI (N : Int → Int → Int) (P : Int → Int) (er rms drs c : Int) (b : Int → Int) : Prop := ∀ r, 0 ≤ r → r ≤ 9 → (0 ≤ b r ∧ b r ≤ 1000000) ∧ (b r = 1000000 ∨ Walk N (wtS P c) er rms drs r (b r))
/-- none is dearer than the cheapest, up to a rank -/
def cbL (N : Int → Int → Int) (P : Int → Int) (er rms drs c : Int) (n : Nat) (b : Int → Int) : Prop := ∀ r m, 0 ≤ r → r ≤ 9 → DmS N P er rms drs c r m → rk N (wtS P c) er rms drs r ≤ n → b r ≤ m
/-- settled -/
def cbS (N : Int → Int → Int) (P : Int → Int) (er rms drs c : Int) (b : Int → Int) : Prop := ∀ r, 0 ≤ r → r ≤ 9 → (b r = 1000000 ∧ ∀ m, ¬ DmS N P er rms drs c r m) ∨ (b r < 1000000 ∧ DmS N P er rms drs c r (b r))
section KC
variable {xs : Nat → Int} {xl e : Nat} {h g u : LH} {Q : Option LV → LH → Prop} {K : KEY} {L : List Int} {N : Int → Int → Int} {P b b' : Int → Int} {q er rms drs c r d v2 v3 v4 v5 A B : Int} {f : Int → Int} {n : Nat}
theorem nbF_a (h1 : f 2 = r) (h2 : bitZ A d) : nbF f A B r d = f 3 := by
  unfold nbF
  rw [if_pos ⟨h1, h2⟩]
theorem nbF_b (h1 : f 3 = r) (h2 : bitZ B d) (hn : ¬ (f 2 = r ∧ bitZ A d)) : nbF f A B r d = f 2 := by
  unfold nbF
  rw [if_neg hn, if_pos ⟨h1, h2⟩]
theorem nbF_n (hn : ¬ (f 2 = r ∧ bitZ A d)) (hm : ¬ (f 3 = r ∧ bitZ B d)) : nbF f A B r d = -1 := by
  unfold nbF
  rw [if_neg hn, if_neg hm]
theorem cb_done (c1 : 0 ≤ c ∧ c ≤ 100) (hP : ∀ d, 0 ≤ d → d < drs → 0 ≤ P d ∧ P d ≤ 9) (hN : ∀ r d, 0 ≤ r → r ≤ 9 → 0 ≤ d → d < drs → N r d ≤ 9) (hi : cbI N P er rms drs c b) (hl : cbL N P er rms drs c 9 b) : cbS N P er rms drs c b := by
  intro r r0 r1
  obtain ⟨⟨b0, b1⟩, b2⟩ := hi r r0 r1
  have up : ∀ m, DmS N P er rms drs c r m → b r ≤ m ∧ m < 1000000 := fun m hm => by
    obtain ⟨a, n, -, e1, a0, a9, n0, n9⟩ := DmS_9 c1.1 hP hN r0 r1 hm
    have l := hl r m r0 r1 hm (rk_le ⟨r0, r1⟩)
    have ca : c * a ≤ 100 * 81 := Int.mul_le_mul c1.2 (by omega) a0 (by decide)
    exact ⟨l, by omega⟩
  by_cases z : b r = 1000000
  · exact Or.inl ⟨z, fun m hm => by
      have := up m hm
      omega⟩
  · have w : Walk N (wtS P c) er rms drs r (b r) := b2.resolve_left z
    refine Or.inr ⟨by omega, w, fun x hx => ?_⟩
    obtain ⟨m, hm⟩ := Dm_ex (wtS_1 c1.1 hP) x.toNat x (Int.self_le_toNat _) hx
    have := up m hm
    have := hm.2 x hx
    omega
/-- once nothing gets less, all is settled -/
theorem cb_still (hw : ∀ d, 0 ≤ d → d < drs → 1 ≤ wtS P c d) (hN : ∀ r d, 0 ≤ r → r ≤ 9 → 0 ≤ d → d < drs → N r d ≤ 9) (rm : rms ≤ 10) (e0 : 0 ≤ er ∧ er ≤ 9) (hz : b er ≤ 0) (hs : ∀ r d, 0 ≤ r → r ≤ 9 → 0 ≤ d → d < drs → 0 ≤ N r d → b r ≤ b (N r d) + wtS P c d) (n : Nat) : cbL N P er rms drs c n b := by
  intro r m r0 r1 hm _
  have := hm.1 (fun r c' => b r ≤ c') hz (fun r d c' h0 h1 h2 h3 h4 q => by
    have := hs r d h0 (by omega) h2 h3 h4
    omega)
  exact this
/-- one round more -/
theorem cb_round (hw : ∀ d, 0 ≤ d → d < drs → 1 ≤ wtS P c d) (hN : ∀ r d, 0 ≤ r → r ≤ 9 → 0 ≤ d → d < drs → N r d ≤ 9) (hl : cbL N P er rms drs c n b) (hd : ∀ r, 0 ≤ r → r ≤ 9 → b' r ≤ b r) (hs : ∀ r d, 0 ≤ r → r ≤ 9 → 0 ≤ d → d < drs → 0 ≤ N r d → b' r ≤ b (N r d) + wtS P c d) : cbL N P er rms drs c (n + 1) b' := by
  intro r m r0 r1 hm hk
  by_cases e : r = er
  · have k0 := rk_goal hw hm e
    have := hl r m r0 r1 hm (by rw [k0]; exact Nat.zero_le _)
    have := hd r r0 r1
    omega
  · obtain ⟨d, m', h0, h1, h2, h3, h4, h5, h6⟩ := Dm_next hw hm e
    have n9 := hN r d r0 r1 h2 h3
    have w := hw d h2 h3
    have lt := rk_lt ⟨h4, n9⟩ (⟨m', m, h5, hm, by omega⟩ : lessD N (wtS P c) er rms drs (N r d) r)
    have := hl (N r d) m' h4 n9 h5 (by omega)
    have := hs r d r0 r1 h2 h3 h4
    omega
theorem w97 {i v : Int} (hF : RF h) : RF (wr h 97 i v) := RF_wn (hav_nr (by decide +kernel) i) hF
theorem F_fill97 (hF : RF h) (k : ∀ g, RF g → (∀ a i, a ≠ 97 → rd g a i = rd h a i) → (∀ i, 0 ≤ i → i < 10 → rd g 97 i = 1000000) → Q none g) : Rn xs xl e mm_java_util_Arrays_fill 0 [some (.inr (.inr 97)), some (.inl 1000000), none, none] [] h Q := by
  have loop : ∀ (m : Nat) (g : LH) (j : Int), 10 - j ≤ m → 0 ≤ j → j ≤ 10 → RF g → (∀ a i, a ≠ 97 → rd g a i = rd h a i) → (∀ i, 0 ≤ i → i < j → rd g 97 i = 1000000) → Rn xs xl e mm_java_util_Arrays_fill 5 [some (.inr (.inr 97)), some (.inl 1000000), some (.inl j), some (.inl 10)] [] g Q := by
    intro m
    induction m with
    | zero =>
      intro g j hm j0 j1 gF gf gv
      exact B_fill97_5 gF ⟨j0, j1⟩ ⟨fun _ => k g gF gf (fun i i0 i1 => gv i i0 (by omega)), fun c => by omega⟩
    | succ m ih =>
      intro g j hm j0 j1 gF gf gv
      refine B_fill97_5 gF ⟨j0, j1⟩ ⟨fun _ => k g gF gf (fun i i0 i1 => gv i i0 (by omega)), fun c => ⟨by omega, ih _ (j + 1) (by omega) (by omega) (by omega) (w97 gF) (fun a i n => (rdw_ne (fun z => n z.symm)).trans (gf a i n)) (fun i i0 i1 => ?_)⟩⟩
      by_cases z : i = j
      · rw [z, rdw_eq]
      · rw [rdw_nei (fun y => z y.symm)]
        exact gv i i0 (by omega)
  exact B_fill97_0 hF (loop 10 h 0 (by omega) (by omega) (by omega) hF (fun _ _ _ => rfl) (fun i i0 i1 => by omega))
/-- while a round goes on: nothing is dearer than before, the doors below d are seen to -/
def rdI (N : Int → Int → Int) (w : Int → Int) (d : Int) (b b' : Int → Int) : Prop := (∀ r, 0 ≤ r → r ≤ 9 → b' r ≤ b r) ∧ ∀ r d', 0 ≤ r → r ≤ 9 → 0 ≤ d' → d' < d → 0 ≤ N r d' → b' r ≤ b (N r d') + w d'
theorem F_fillBest (he : 1 ≤ e) (c1 : c = 64) (hc : CXq h K q L) (hK : KR K) (e0 : 0 ≤ er ∧ er ≤ 9) (hP : ∀ d, 0 ≤ d → d < K.1 1 → 0 ≤ P d ∧ P d ≤ 9) (hN : ∀ r d, 0 ≤ r → r ≤ 9 → 0 ≤ d → d < K.1 1 → N r d = nbF (rd h (q + 7 + d)) v2 v3 r d) (hw : ∀ d, 0 ≤ d → d < K.1 1 → rd h 98 d = wtS P c d) (k : ∀ g, RF g → (∀ a i, a ≠ 97 → rd g a i = rd h a i) → cbS N P er (K.1 0) (K.1 1) c (rd g 97) → Q none g) : Rn xs xl e mm_Rents_fillBest 0 [some (.inr (.inr 96)), some (.inr (.inr q)), some (.inl v2), some (.inl v3), some (.inl er), none, none, none, none, none, none] [] h Q := by
  obtain ⟨hF, hPT, hq, -, ⟨-, c2, -⟩, -⟩ := id hc
  have k1 := hK.2.1
  have k0 := hK.1
  have w1 := wtS_1 (c := c) (by omega) hP
  have ew : ∀ d, wtS P c d = 64 * P d + 1 := fun d => by
    unfold wtS
    rw [c1]
  have N9 : ∀ r d, 0 ≤ r → r ≤ 9 → 0 ≤ d → d < K.1 1 → N r d ≤ 9 := fun r d r0 r1 d0 d1 => by
    rw [hN r d r0 r1 d0 d1]
    obtain ⟨e2, e3, -⟩ := CXq_d hc d0 d1
    obtain ⟨t2, t3, -⟩ := hK.2.2.2.1 d d0 d1
    unfold nbF
    split
    · omega
    · split
      · omega
      · decide
  -- the doors of a round
  have doors : ∀ (n : Nat) (b0 : Int → Int) (i : Int), cbI N P er (K.1 0) (K.1 1) c b0 → b0 er ≤ 0 → 0 ≤ i → i ≤ 9 → ∀ (m : Nat) (g : LH) (v5 v7 : Int) (o8 o9 o10 : Option LV), K.1 1 - v7 ≤ m → 0 ≤ v7 → v7 ≤ K.1 1 → RF g → (∀ a i, a ≠ 97 → rd g a i = rd h a i) → cbI N P er (K.1 0) (K.1 1) c (rd g 97) → rd g 97 er ≤ 0 → rdI N (wtS P c) v7 b0 (rd g 97) → (v5 = 0 → ∀ r, 0 ≤ r → r ≤ 9 → rd g 97 r = b0 r) → (∀ (g : LH) (v5 v7 : Int) (o8 o9 o10 : Option LV), RF g → (∀ a i, a ≠ 97 → rd g a i = rd h a i) → cbI N P er (K.1 0) (K.1 1) c (rd g 97) → rd g 97 er ≤ 0 → rdI N (wtS P c) (K.1 1) b0 (rd g 97) → (v5 = 0 → ∀ r, 0 ≤ r → r ≤ 9 → rd g 97 r = b0 r) → Rn xs xl e mm_Rents_fillBest 23 [some (.inr (.inr 96)), some (.inr (.inr q)), some (.inl v2), some (.inl v3), some (.inl er), some (.inl v5), some (.inl (i + 1)), some (.inl v7), o8, o9, o10] [] g Q) → Rn xs xl e mm_Rents_fillBest 41 [some (.inr (.inr 96)), some (.inr (.inr q)), some (.inl v2), some (.inl v3), some (.inl er), some (.inl v5), some (.inl i), some (.inl v7), o8, o9, o10] [] g Q := by
    intro n b0 i bI bz i0 i1 m
    induction m with
    | zero =>
      intro g v5 v7 o8 o9 o10 hm a0 a1 gF gf gi gz gr gs next
      have gP : PT g := PT_fr hPT (fun a i ha => gf a i (by omega))
      have g2 : rd g q 2 = rd h q 2 := gf q 2 (by omega)
      refine B_Rents_fillBest_41 hq gF gP ⟨i0, i1⟩ (by omega) ⟨fun _ => next g v5 v7 o8 o9 o10 gF gf gi gz ?_ gs, fun z => by omega⟩
      rw [show K.1 1 = v7 by omega]
      exact gr
    | succ m im =>
      intro g v5 v7 o8 o9 o10 hm a0 a1 gF gf gi gz gr gs next
      have gP : PT g := PT_fr hPT (fun a i ha => gf a i (by omega))
      have g2 : rd g q 2 = rd h q 2 := gf q 2 (by omega)
      have stop : rd g q 2 ≤ v7 → Rn xs xl e mm_Rents_fillBest 23 [some (.inr (.inr 96)), some (.inr (.inr q)), some (.inl v2), some (.inl v3), some (.inl er), some (.inl v5), some (.inl (i + 1)), some (.inl v7), o8, o9, o10] [] g Q := fun z => next g v5 v7 o8 o9 o10 gF gf gi gz (by rw [show K.1 1 = v7 by omega]; exact gr) gs
      by_cases z : rd g q 2 ≤ v7
      · refine B_Rents_fillBest_41 hq gF gP ⟨i0, i1⟩ (by omega) ⟨fun _ => stop z, fun y => by omega⟩
      have d1 : v7 < K.1 1 := by omega
      obtain ⟨e2, e3, -⟩ := CXq_d hc a0 d1
      obtain ⟨t2, t3, -⟩ := hK.2.2.2.1 v7 a0 d1
      have f2 : rd g (q + 7 + v7) 2 = K.1 (8 * v7 + 5) := (gf _ _ (by omega)).trans e2
      have f3 : rd g (q + 7 + v7) 3 = K.1 (8 * v7 + 6) := (gf _ _ (by omega)).trans e3
      have fw : rd g 98 v7 = wtS P c v7 := (gf 98 v7 (by decide)).trans (hw v7 a0 d1)
      have p9 := hP v7 a0 d1
      have w := ew v7
      generalize hX : K.1 (8 * v7 + 5) = X at *
      generalize hY : K.1 (8 * v7 + 6) = Y at *
      have nA : bitZ v2 v7 → N X v7 = Y := fun y => by
        rw [hN X v7 t2.1 (by omega) a0 d1, nbF_a e2 y, e3]
      have nB : bitZ v3 v7 → N Y v7 = X := fun y => by
        rw [hN Y v7 t3.1 (by omega) a0 d1]
        by_cases s : rd h (q + 7 + v7) 2 = Y ∧ bitZ v2 v7
        · rw [nbF_a s.1 s.2, e3]
          exact s.1.symm.trans e2
        · rw [nbF_b e3 y s, e2]
      have nO : ∀ r, 0 ≤ r → r ≤ 9 → 0 ≤ N r v7 → (r = X ∧ bitZ v2 v7) ∨ (r = Y ∧ bitZ v3 v7) := fun r r0 r1 y => by
        rw [hN r v7 r0 r1 a0 d1] at y
        by_cases s : rd h (q + 7 + v7) 2 = r ∧ bitZ v2 v7
        · exact Or.inl ⟨by rw [← s.1, e2], s.2⟩
        · by_cases s2 : rd h (q + 7 + v7) 3 = r ∧ bitZ v3 v7
          · exact Or.inr ⟨by rw [← s2.1, e3], s2.2⟩
          · rw [nbF_n s s2] at y
            omega
      have gX := gi X t2.1 (by omega)
      have gY := gi Y t3.1 (by omega)
      have lX := gr.1 X t2.1 (by omega)
      have lY := gr.1 Y t3.1 (by omega)
      have bX := bI X t2.1 (by omega)
      have bY := bI Y t3.1 (by omega)
      -- both sides of this door
      have both : ∀ v9 v10 : Int, ((bitZ v2 v7 ∧ v9 = rd g 97 Y + wtS P c v7) ∨ (¬ bitZ v2 v7 ∧ v9 = 1000000)) → ((bitZ v3 v7 ∧ v10 = rd g 97 X + wtS P c v7) ∨ (¬ bitZ v3 v7 ∧ v10 = 1000000)) → Rn xs xl e mm_Rents_fillBest 127 [some (.inr (.inr 96)), some (.inr (.inr q)), some (.inl v2), some (.inl v3), some (.inl er), some (.inl v5), some (.inl i), some (.inl v7), some (.inr (.inr (q + 7 + v7))), some (.inl v9), some (.inl v10)] [] g Q := by
        intro v9 v10 h9 h10
        have l9 : 0 ≤ v9 := by omega
        have l10 : 0 ≤ v10 := by omega
        -- a heap with both rooms set to the less
        have fin : ∀ (u : LH) (v5' : Int), RF u → (∀ a i, a ≠ 97 → rd u a i = rd g a i) → (∀ r, 0 ≤ r → r ≤ 9 → r ≠ X → r ≠ Y → rd u 97 r = rd g 97 r) → (rd u 97 X ≤ v9 ∧ rd u 97 X ≤ rd g 97 X) → (rd u 97 Y ≤ v10 ∧ rd u 97 Y ≤ rd g 97 Y) → (rd u 97 X = rd g 97 X ∨ (v9 < rd g 97 X ∧ rd u 97 X = v9) ∨ (X = Y ∧ v10 < rd g 97 X ∧ rd u 97 X = v10)) → (rd u 97 Y = rd g 97 Y ∨ (v10 < rd g 97 Y ∧ rd u 97 Y = v10) ∨ (X = Y ∧ v9 < rd g 97 Y ∧ rd u 97 Y = v9)) → (v5' = 0 → v5 = 0 ∧ rd u 97 X = rd g 97 X ∧ rd u 97 Y = rd g 97 Y) → Rn xs xl e mm_Rents_fillBest 41 [some (.inr (.inr 96)), some (.inr (.inr q)), some (.inl v2), some (.inl v3), some (.inl er), some (.inl v5'), some (.inl i), some (.inl (v7 + 1)), some (.inr (.inr (q + 7 + v7))), some (.inl v9), some (.inl v10)] [] u Q := by
          intro u v5' uF uf uo uX uY uX' uY' us
          have wk9 : v9 < rd g 97 X → v9 < 1000000 ∧ Walk N (wtS P c) er (K.1 0) (K.1 1) X v9 := fun y => by
            rcases h9 with ⟨s1, s2⟩ | ⟨s1, s2⟩
            · have wY : Walk N (wtS P c) er (K.1 0) (K.1 1) Y (rd g 97 Y) := gY.2.resolve_left (by omega)
              have nn := nA s1
              have t : Walk N (wtS P c) er (K.1 0) (K.1 1) X (rd g 97 Y + wtS P c v7) := Walk.cons t2.1 (by omega) a0 d1 (by omega) (by rw [nn]; exact wY)
              rw [← s2] at t
              exact ⟨by omega, t⟩
            · omega
          have wk10 : ∀ z, v10 < z → z ≤ 1000000 → v10 < 1000000 ∧ Walk N (wtS P c) er (K.1 0) (K.1 1) Y v10 := fun z y zl => by
            rcases h10 with ⟨s1, s2⟩ | ⟨s1, s2⟩
            · have wX : Walk N (wtS P c) er (K.1 0) (K.1 1) X (rd g 97 X) := gX.2.resolve_left (by omega)
              have nn := nB s1
              have t : Walk N (wtS P c) er (K.1 0) (K.1 1) Y (rd g 97 X + wtS P c v7) := Walk.cons t3.1 (by omega) a0 d1 (by omega) (by rw [nn]; exact wX)
              rw [← s2] at t
              exact ⟨by omega, t⟩
            · omega
          refine im u v5' (v7 + 1) _ _ _ (by omega) (by omega) (by omega) uF (fun a i n => (uf a i n).trans (gf a i n)) (fun r r0 r1 => ?_) ?_ ⟨fun r r0 r1 => ?_, fun r d' r0 r1 d0 d1' y => ?_⟩ (fun y r r0 r1 => ?_) next
          · by_cases cX : r = X
            · subst cX
              rcases uX' with y | ⟨y1, y2⟩ | ⟨y1, y2, y3⟩
              · rw [y]; exact gX
              · rw [y2]
                have := wk9 y1
                exact ⟨by omega, Or.inr this.2⟩
              · rw [y3]
                have := wk10 _ y2 gX.1.2
                rw [← y1] at this
                exact ⟨by omega, Or.inr this.2⟩
            · by_cases cY : r = Y
              · subst cY
                rcases uY' with y | ⟨y1, y2⟩ | ⟨y1, y2, y3⟩
                · rw [y]; exact gY
                · rw [y2]
                  have := wk10 _ y1 gY.1.2
                  exact ⟨by omega, Or.inr this.2⟩
                · exact absurd y1.symm cX
              · rw [uo r r0 r1 cX cY]
                exact gi r r0 r1
          · by_cases cX : er = X
            · rw [cX] at gz ⊢
              omega
            · by_cases cY : er = Y
              · rw [cY] at gz ⊢
                omega
              · rw [uo er e0.1 e0.2 cX cY]
                exact gz
          · have l := gr.1 r r0 r1
            by_cases cX : r = X
            · rw [cX] at l ⊢
              omega
            · by_cases cY : r = Y
              · rw [cY] at l ⊢
                omega
              · rw [uo r r0 r1 cX cY]
                exact l
          · have le : rd u 97 r ≤ rd g 97 r := by
              by_cases cX : r = X
              · rw [cX]
                omega
              · by_cases cY : r = Y
                · rw [cY]
                  omega
                · rw [uo r r0 r1 cX cY]
                  omega
            by_cases cd : d' = v7
            · subst cd
              rcases nO r r0 r1 y with ⟨s1, s2⟩ | ⟨s1, s2⟩
              · rw [s1, nA s2]
                omega
              · rw [s1, nB s2]
                omega
            · have := gr.2 r d' r0 r1 d0 (by omega) y
              omega
          · obtain ⟨y1, y2, y3⟩ := us y
            rw [← gs y1 r r0 r1]
            by_cases cX : r = X
            · rw [cX]; exact y2
            · by_cases cY : r = Y
              · rw [cY]; exact y3
              · exact uo r r0 r1 cX cY
        refine B_Rents_fillBest_127 hq gF (by omega) ?_
        rw [f2, f3]
        refine ⟨by omega, fun s1 => ⟨by omega, fun s2 => ?_, fun s2 => ⟨by omega, ?_⟩⟩, fun s1 => ⟨by omega, by omega, fun s2 => ?_, fun s2 => ⟨by omega, ?_⟩⟩⟩
        · exact fin g v5 gF (fun _ _ _ => rfl) (fun _ _ _ _ _ => rfl) ⟨s1, Int.le_refl _⟩ ⟨s2, Int.le_refl _⟩ (Or.inl rfl) (Or.inl rfl) (fun y => ⟨y, rfl, rfl⟩)
        · by_cases s : X = Y
          · have eX : rd (wr g 97 Y v10) 97 X = v10 := by rw [s, rdw_eq]
            exact fin _ 1 (w97 gF) (fun a i n => rdw_ne (fun y => n y.symm)) (fun r _ _ _ ny => rdw_nei (fun y => ny y.symm)) (by rw [eX]; rw [s] at s1 ⊢; omega) (by rw [rdw_eq]; omega) (Or.inr (Or.inr ⟨s, by rw [s]; exact s2, eX⟩)) (Or.inr (Or.inl ⟨s2, rdw_eq⟩)) (fun y => absurd y (by decide))
          · have eX : rd (wr g 97 Y v10) 97 X = rd g 97 X := rdw_nei (fun y => s y.symm)
            exact fin _ 1 (w97 gF) (fun a i n => rdw_ne (fun y => n y.symm)) (fun r _ _ _ ny => rdw_nei (fun y => ny y.symm)) (by rw [eX]; omega) (by rw [rdw_eq]; omega) (Or.inl eX) (Or.inr (Or.inl ⟨s2, rdw_eq⟩)) (fun y => absurd y (by decide))
        · by_cases s : X = Y
          · have eY : rd (wr g 97 X v9) 97 Y = v9 := by rw [s, rdw_eq]
            rw [eY] at s2
            exact fin _ 1 (w97 gF) (fun a i n => rdw_ne (fun y => n y.symm)) (fun r _ _ nx _ => rdw_nei (fun y => nx y.symm)) (by rw [rdw_eq]; omega) (by rw [eY]; rw [s] at s1; omega) (Or.inr (Or.inl ⟨s1, rdw_eq⟩)) (Or.inr (Or.inr ⟨s, by rw [← s]; exact s1, eY⟩)) (fun y => absurd y (by decide))
          · have eY : rd (wr g 97 X v9) 97 Y = rd g 97 Y := rdw_nei s
            rw [eY] at s2
            exact fin _ 1 (w97 gF) (fun a i n => rdw_ne (fun y => n y.symm)) (fun r _ _ nx _ => rdw_nei (fun y => nx y.symm)) (by rw [rdw_eq]; omega) (by rw [eY]; omega) (Or.inr (Or.inl ⟨s1, rdw_eq⟩)) (Or.inl eY) (fun y => absurd y (by decide))
        · by_cases s : X = Y
          · have eY : rd (wr g 97 X v9) 97 Y = v9 := by rw [s, rdw_eq]
            rw [eY] at s2
            have eX2 : rd (wr (wr g 97 X v9) 97 Y v10) 97 X = v10 := by rw [s, rdw_eq]
            exact fin _ 1 (w97 (w97 gF)) (fun a i n => (rdw_ne (fun y => n y.symm)).trans (rdw_ne (fun y => n y.symm))) (fun r _ _ nx ny => (rdw_nei (fun y => ny y.symm)).trans (rdw_nei (fun y => nx y.symm))) (by rw [eX2]; omega) (by rw [rdw_eq, ← s]; omega) (Or.inr (Or.inr ⟨s, by omega, eX2⟩)) (Or.inr (Or.inl ⟨by rw [← s]; omega, rdw_eq⟩)) (fun y => absurd y (by decide))
          · have eY : rd (wr g 97 X v9) 97 Y = rd g 97 Y := rdw_nei s
            rw [eY] at s2
            have eX2 : rd (wr (wr g 97 X v9) 97 Y v10) 97 X = v9 := (rdw_nei (fun y => s y.symm)).trans rdw_eq
            exact fin _ 1 (w97 (w97 gF)) (fun a i n => (rdw_ne (fun y => n y.symm)).trans (rdw_ne (fun y => n y.symm))) (fun r _ _ nx ny => (rdw_nei (fun y => ny y.symm)).trans (rdw_nei (fun y => nx y.symm))) (by rw [eX2]; omega) (by rw [rdw_eq]; omega) (Or.inr (Or.inl ⟨s1, eX2⟩)) (Or.inr (Or.inl ⟨s2, rdw_eq⟩)) (fun y => absurd y (by decide))
      refine B_Rents_fillBest_41 hq gF gP ⟨i0, i1⟩ (by omega) ⟨stop, fun _ => ?_⟩
      rw [f2, f3, fw]
      have bn : ∀ x : Int, zand (zshr x v7) 1 ≠ 0 → bitZ x v7 := fun x y => Classical.byContradiction (fun t => y (bitZ_n.mp t))
      exact ⟨by omega, fun y2 => ⟨fun y3 => both _ _ (Or.inr ⟨bitZ_n.mpr y2, rfl⟩) (Or.inr ⟨bitZ_n.mpr y3, rfl⟩), fun y3 => ⟨by omega, by omega, by omega, both _ _ (Or.inr ⟨bitZ_n.mpr y2, rfl⟩) (Or.inl ⟨bn _ y3, rfl⟩)⟩⟩, fun y2 => ⟨by omega, by omega, by omega, fun y3 => both _ _ (Or.inl ⟨bn _ y2, rfl⟩) (Or.inr ⟨bitZ_n.mpr y3, rfl⟩), fun y3 => ⟨by omega, by omega, by omega, both _ _ (Or.inl ⟨bn _ y2, rfl⟩) (Or.inl ⟨bn _ y3, rfl⟩)⟩⟩⟩
  -- the rounds
  have rounds : ∀ (m : Nat) (g : LH) (v5 i : Int) (o7 o8 o9 o10 : Option LV), 10 - i ≤ m → 0 ≤ i → i ≤ 10 → RF g → (∀ a i, a ≠ 97 → rd g a i = rd h a i) → cbI N P er (K.1 0) (K.1 1) c (rd g 97) → rd g 97 er ≤ 0 → cbL N P er (K.1 0) (K.1 1) c i.toNat (rd g 97) → (v5 = 0 → cbL N P er (K.1 0) (K.1 1) c 9 (rd g 97)) → Rn xs xl e mm_Rents_fillBest 23 [some (.inr (.inr 96)), some (.inr (.inr q)), some (.inl v2), some (.inl v3), some (.inl er), some (.inl v5), some (.inl i), o7, o8, o9, o10] [] g Q := by
    intro m
    have stop : ∀ (g : LH) (n : Nat), 9 ≤ n → RF g → (∀ a i, a ≠ 97 → rd g a i = rd h a i) → cbI N P er (K.1 0) (K.1 1) c (rd g 97) → cbL N P er (K.1 0) (K.1 1) c n (rd g 97) → Q none g := fun g n hn gF gf gi gl => k g gF gf (cb_done (by omega) hP N9 gi (fun r m r0 r1 hm hk => gl r m r0 r1 hm (Nat.le_trans hk hn)))
    induction m with
    | zero =>
      intro g v5 i o7 o8 o9 o10 hm a0 a1 gF gf gi gz gl gs
      exact B_Rents_fillBest_23 hq gF (by omega) ⟨fun _ => stop g i.toNat (by omega) gF gf gi gl, fun z => by omega⟩
    | succ m im =>
      intro g v5 i o7 o8 o9 o10 hm a0 a1 gF gf gi gz gl gs
      refine B_Rents_fillBest_23 hq gF (by omega) ⟨fun _ => stop g i.toNat (by omega) gF gf gi gl, fun z => ⟨fun y => stop g 9 (Nat.le_refl 9) gF gf gi (gs y), fun y => ?_⟩⟩
      refine doors 0 (rd g 97) i gi gz a0 (by omega) (K.1 1).toNat g 0 0 o8 o9 o10 (by omega) (by omega) (by omega) gF gf gi gz ⟨fun _ _ _ => Int.le_refl _, fun _ _ _ _ _ y => by omega⟩ (fun _ _ _ _ => rfl) (fun g' v5' v7' o8 o9 o10 gF' gf' gi' gz' gr' gs' => ?_)
      refine im g' v5' (i + 1) _ o8 o9 o10 (by omega) (by omega) (by omega) gF' gf' gi' gz' ?_ (fun y => ?_)
      · rw [show (i + 1).toNat = i.toNat + 1 by omega]
        exact cb_round w1 N9 gl gr'.1 gr'.2
      · refine cb_still w1 N9 (by omega) e0 gz' (fun r d r0 r1 d0 d1 yn => ?_) 9
        have := gr'.2 r d r0 r1 d0 d1 yn
        rw [← gs' y (N r d) yn (N9 r d r0 r1 d0 d1)] at this
        exact this
  refine B_Rents_fillBest_0 hq hF ⟨0, by omega, F_fill97 hF (fun g gF gf gv => B_Rents_fillBest_9 hq gF ⟨by omega, ?_⟩)⟩
  have bv : ∀ r, 0 ≤ r → r ≤ 9 → rd (wr g 97 er 0) 97 r = if r = er then 0 else 1000000 := fun r r0 r1 => by
    by_cases z : r = er
    · rw [z, rdw_eq, if_pos rfl]
    · rw [rdw_nei (fun y => z y.symm), if_neg z]
      exact gv r r0 (by omega)
  refine rounds 10 _ 1 0 none none none none (by omega) (by omega) (by omega) (w97 gF) (fun a i n => (rdw_ne (fun y => n y.symm)).trans (gf a i n)) (fun r r0 r1 => ?_) ?_ (fun r m r0 r1 hm hk => ?_) (fun y => absurd y (by decide))
  · rw [bv r r0 r1]
    by_cases z : r = er
    · rw [if_pos z, z]
      exact ⟨by omega, Or.inr Walk.nil⟩
    · rw [if_neg z]
      exact ⟨by omega, Or.inl rfl⟩
  · rw [rdw_eq]
    decide
  · rw [bv r r0 r1]
    by_cases z : r = er
    · rw [if_pos z]
      exact (hm.1.nn w1).1
    · exfalso
      obtain ⟨d, m', h0, h1, h2, h3, h4, h5, h6⟩ := Dm_next w1 hm z
      have w := w1 d h2 h3
      have lt := rk_lt ⟨h4, N9 r d r0 r1 h2 h3⟩ (⟨m', m, h5, hm, by omega⟩ : lessD N (wtS P c) er (K.1 0) (K.1 1) (N r d) r)
      have : rk N (wtS P c) er (K.1 0) (K.1 1) r ≤ 0 := hk
      omega
end KC
end
section
/-! rests, part k4: by which doors one goes, the class -/
section KD
variable {xs : Nat → Int} {xl e : Nat} {h g u : LH} {Q : Option LV → LH → Prop} {K : KEY} {L : List Int} {N : Int → Int → Int} {P b : Int → Int} {q er r d v1 v2 v3 v4 v5 A B start m one other pair s way sh hr : Int} {f : Int → Int}
theorem cbS_D {rms drs c : Int} (hb : cbS N P er rms drs c b) (r0 : 0 ≤ r) (r1 : r ≤ 9) (h : DmS N P er rms drs c r m) : b r = m ∧ m < 1000000 := by
  rcases hb r r0 r1 with ⟨_, y⟩ | ⟨y, z⟩
  · exact absurd h (y m)
  · have := Dm_u z h
    omega
theorem F_cheapest (hc : CXq h K q L) (hK : KR K) (e0 : 0 ≤ er ∧ er ≤ 9) (s0 : 0 ≤ start ∧ start ≤ 9) (hP : ∀ d, 0 ≤ d → d < K.1 1 → 0 ≤ P d ∧ P d ≤ 9) (hN : ∀ r d, 0 ≤ r → r ≤ 9 → 0 ≤ d → d < K.1 1 → N r d = nbF (rd h (q + 7 + d)) v2 v3 r d) (hw : ∀ d, 0 ≤ d → d < K.1 1 → rd h 98 d = wtS P 64 d) (hb : cbS N P er (K.1 0) (K.1 1) 64 (rd h 97)) (k : ∀ r, gbW N P er (K.1 0) (K.1 1) 64 start r → Q (some (.inl r)) h) : Rn xs xl e mm_Rents_cheapest 0 [some (.inr (.inr 96)), some (.inr (.inr q)), some (.inl v2), some (.inl v3), some (.inl start), some (.inl er), none, none, none, none, none, none, none, none] [] h Q := by
  obtain ⟨hF, hPT, hq, -, ⟨-, c2, -⟩, -⟩ := id hc
  have k1 := hK.2.1
  have k0 := hK.1
  have ew : ∀ d, wtS P 64 d = 64 * P d + 1 := fun d => rfl
  have N9 : ∀ r d, 0 ≤ r → r ≤ 9 → 0 ≤ d → d < K.1 1 → N r d ≤ 9 := fun r d r0 r1 d0 d1 => by
    rw [hN r d r0 r1 d0 d1]
    obtain ⟨e2, e3, -⟩ := CXq_d hc d0 d1
    obtain ⟨t2, t3, -⟩ := hK.2.2.2.1 d d0 d1
    unfold nbF
    split
    · omega
    · split
      · omega
      · decide
  have way : ∀ (n : Nat) (room set i a : Int) (o9 o10 o11 o12 o13 : Option LV), DmS N P er (K.1 0) (K.1 1) 64 room (64 * a + n) → 0 ≤ i → i + n ≤ 9 → 0 ≤ room → room ≤ 9 → (∀ r, gwW N P er (K.1 0) (K.1 1) 64 n room set r → Q (some (.inl r)) h) → Rn xs xl e mm_Rents_cheapest 10 [some (.inr (.inr 96)), some (.inr (.inr q)), some (.inl v2), some (.inl v3), some (.inl start), some (.inl er), some (.inl room), some (.inl set), some (.inl i), o9, o10, o11, o12, o13] [] h Q := by
    intro n
    induction n with
    | zero =>
      intro room set i a o9 o10 o11 o12 o13 hm i0 i1 r0 r1 kk
      obtain ⟨a', n', -, e1, a0, a9, n0, n9⟩ := DmS_9 (by decide) hP N9 r0 r1 hm
      have z : 64 * a + ((0 : Nat) : Int) = 0 := by omega
      rw [z] at hm
      have re := (hm.1.nn (wtS_1 (by decide) hP)).2 rfl
      exact B_Rents_cheapest_10 hq hF (by omega) ⟨fun y => by omega, fun _ => ⟨fun _ => kk set rfl, fun y => absurd re y⟩⟩
    | succ n ih =>
      intro room set i a o9 o10 o11 o12 o13 hm i0 i1 r0 r1 kk
      have re : room ≠ er := fun z => by
        have d0 : DmS N P er (K.1 0) (K.1 1) 64 room 0 := ⟨by rw [z]; exact Walk.nil, fun x hx => (hx.nn (wtS_1 (by decide) hP)).1⟩
        have := Dm_u hm d0
        omega
      obtain ⟨eb, lb⟩ := cbS_D hb r0 r1 hm
      have wn := wtS_1 (c := 64) (by decide) hP
      obtain ⟨D, ⟨D0, D1⟩, DO⟩ := okW_step (by decide) hP re hm
      have loop : ∀ (m : Nat) (v9 : Int) (o10 o11 o12 o13 : Option LV), D + 1 - v9 ≤ m → 0 ≤ v9 → v9 ≤ D → (∀ d', 0 ≤ d' → d' < v9 → ¬ okW N P er (K.1 0) (K.1 1) 64 room d') → Rn xs xl e mm_Rents_cheapest 39 [some (.inr (.inr 96)), some (.inr (.inr q)), some (.inl v2), some (.inl v3), some (.inl start), some (.inl er), some (.inl room), some (.inl set), some (.inl i), some (.inl v9), o10, o11, o12, o13] [] h Q := by
        intro m
        induction m with
        | zero => intro v9 o10 o11 o12 o13 hm' a0 a1 no; omega
        | succ m im =>
          intro v9 o10 o11 o12 o13 hm' a0 a1 no
          have d1 : v9 < K.1 1 := by omega
          obtain ⟨e2, e3, -⟩ := CXq_d hc a0 d1
          obtain ⟨t2, t3, -⟩ := hK.2.2.2.1 v9 a0 d1
          have fw := hw v9 a0 d1
          have p9 := hP v9 a0 d1
          have w := ew v9
          have more : ¬ okW N P er (K.1 0) (K.1 1) 64 room v9 → ∀ o10 o11 o12 o13, Rn xs xl e mm_Rents_cheapest 39 [some (.inr (.inr 96)), some (.inr (.inr q)), some (.inl v2), some (.inl v3), some (.inl start), some (.inl er), some (.inl room), some (.inl set), some (.inl i), some (.inl (v9 + 1)), o10, o11, o12, o13] [] h Q := fun y o10 o11 o12 o13 => by
            have ne : v9 ≠ D := fun z => y (by rw [z]; exact DO)
            exact im (v9 + 1) o10 o11 o12 o13 (by omega) (by omega) (by omega) (fun d' x0 x1 => by
              by_cases z : d' = v9
              · rw [z]; exact y
              · exact no d' x0 (by omega))
          -- a door that lets one on, into room x
          have test : ∀ (x v11 v12 : Int), N room v9 = x → 0 ≤ x → x ≤ 9 → (0 ≤ x ∧ x < 10) ∧ (-2147483648 ≤ rd h 97 x + rd h 98 v9 ∧ rd h 97 x + rd h 98 v9 ≤ 2147483647) ∧ (0 ≤ room ∧ room < 10) ∧ (rd h 97 x + rd h 98 v9 ≠ rd h 97 room → Rn xs xl e mm_Rents_cheapest 39 [some (.inr (.inr 96)), some (.inr (.inr q)), some (.inl v2), some (.inl v3), some (.inl start), some (.inl er), some (.inl room), some (.inl set), some (.inl i), some (.inl (v9 + 1)), some (.inr (.inr (q + 7 + v9))), some (.inl v11), some (.inl v12), some (.inl x)] [] h Q) ∧ (rd h 97 x + rd h 98 v9 = rd h 97 room → Rn xs xl e mm_Rents_cheapest 186 [some (.inr (.inr 96)), some (.inr (.inr q)), some (.inl v2), some (.inl v3), some (.inl start), some (.inl er), some (.inl x), some (.inl (zor set (zshl 1 v9))), some (.inl i), some (.inl v9), some (.inr (.inr (q + 7 + v9))), some (.inl v11), some (.inl v12), some (.inl x)] [] h Q) := by
            intro x v11 v12 ex x0 x9
            have bx := hb x x0 x9
            have bx0 : 0 ≤ rd h 97 x ∧ rd h 97 x ≤ 1000000 := by
              rcases bx with ⟨y, _⟩ | ⟨y, z⟩
              · omega
              · have := (z.1.nn wn).1
                omega
            refine ⟨by omega, by omega, by omega, fun y => more (fun ok => ?_) _ _ _ _, fun y => ?_⟩
            · obtain ⟨-, m', o1, o2⟩ := ok
              rw [ex] at o1
              have y1 := cbS_D hb x0 x9 o1
              have y2 := cbS_D hb r0 r1 o2
              omega
            · rcases bx with ⟨z, _⟩ | ⟨z1, z2⟩
              · omega
              · have em : rd h 97 x + wtS P 64 v9 = 64 * a + ((n + 1 : Nat) : Int) := by omega
                have ok : okW N P er (K.1 0) (K.1 1) 64 room v9 := ⟨by omega, rd h 97 x, by rw [ex]; exact z2, by rw [em]; exact hm⟩
                refine B_Rents_cheapest_186 hq hF (by omega) (ih x _ (i + 1) (a - P v9) _ _ _ _ _ ?_ (by omega) (by omega) x0 x9 (fun r hr => kk r ⟨v9, ⟨⟨a0, d1⟩, ok, no⟩, by rw [ex]; exact hr⟩))
                have e5 : 64 * (a - P v9) + (n : Int) = rd h 97 x := by omega
                rw [e5]
                exact z2
          have t109 : ∀ (v11 v12 : Int) (o13 : Option LV), (v11 ≠ 0 ↔ rd h (q + 7 + v9) 2 = room ∧ bitZ v2 v9) → (v12 ≠ 0 ↔ rd h (q + 7 + v9) 3 = room ∧ bitZ v3 v9) → Rn xs xl e mm_Rents_cheapest 109 [some (.inr (.inr 96)), some (.inr (.inr q)), some (.inl v2), some (.inl v3), some (.inl start), some (.inl er), some (.inl room), some (.inl set), some (.inl i), some (.inl v9), some (.inr (.inr (q + 7 + v9))), some (.inl v11), some (.inl v12), o13] [] h Q := by
            intro v11 v12 o13 h11 h12
            refine B_Rents_cheapest_109 hq hF (by omega) ⟨fun y => ?_, fun y => ?_⟩
            · have na : ¬ (rd h (q + 7 + v9) 2 = room ∧ bitZ v2 v9) := fun z => (h11.mpr z) y
              refine B_Rents_cheapest_129 hq hF (by omega) ⟨fun z => absurd y z, fun _ => ⟨fun z => more (fun ok => ?_) _ _ _ _, fun z => ?_⟩⟩
              · have o0 := ok.1
                rw [hN room v9 r0 r1 a0 d1, nbF_n na (fun t => (h12.mpr t) z)] at o0
                omega
              · have hb3 := h12.mp z
                refine test _ v11 v12 ?_ (by omega) (by omega)
                rw [hN room v9 r0 r1 a0 d1]
                exact nbF_b hb3.1 hb3.2 na
            · have ha2 := h11.mp y
              refine B_Rents_cheapest_129 hq hF (by omega) ⟨fun _ => test _ v11 v12 ?_ (by omega) (by omega), fun z => absurd z y⟩
              rw [hN room v9 r0 r1 a0 d1]
              exact nbF_a ha2.1 ha2.2
          have bn : ∀ x : Int, zand (zshr x v9) 1 ≠ 0 → bitZ x v9 := fun x y => Classical.byContradiction (fun t => y (bitZ_n.mp t))
          have n01 : (1 : Int) ≠ 0 := by decide
          have f0 : ∀ {p : Prop}, ¬ p → ((0 : Int) ≠ 0 ↔ p) := fun np => ⟨fun y => absurd rfl y, fun y => absurd y np⟩
          have f1 : ∀ {p : Prop}, p → ((1 : Int) ≠ 0 ↔ p) := fun hp => ⟨fun _ => hp, fun _ => n01⟩
          refine B_Rents_cheapest_39 hq hF hPT (by omega) (by omega) ⟨fun z => by omega, fun _ => ⟨by omega, fun y2 => ⟨fun y3 => ?_, fun y3 => ⟨fun y4 => ?_, fun y4 => ?_⟩⟩, fun y2 => ⟨fun y4 => ⟨fun y3 => ?_, fun y3 => ⟨fun y5 => ?_, fun y5 => ?_⟩⟩, fun y4 => ⟨fun y3 => ?_, fun y3 => ⟨fun y5 => ?_, fun y5 => ?_⟩⟩⟩⟩⟩
          · exact t109 0 0 _ (f0 (fun z => y2 z.1)) (f0 (fun z => y3 z.1))
          · exact t109 0 0 _ (f0 (fun z => y2 z.1)) (f0 (fun z => bitZ_n.mpr y4 z.2))
          · exact t109 0 1 _ (f0 (fun z => y2 z.1)) (f1 ⟨y3, bn _ y4⟩)
          · exact t109 0 0 _ (f0 (fun z => bitZ_n.mpr y4 z.2)) (f0 (fun z => y3 z.1))
          · exact t109 0 0 _ (f0 (fun z => bitZ_n.mpr y4 z.2)) (f0 (fun z => bitZ_n.mpr y5 z.2))
          · exact t109 0 1 _ (f0 (fun z => bitZ_n.mpr y4 z.2)) (f1 ⟨y3, bn _ y5⟩)
          · exact t109 1 0 _ (f1 ⟨y2, bn _ y4⟩) (f0 (fun z => y3 z.1))
          · exact t109 1 0 _ (f1 ⟨y2, bn _ y4⟩) (f0 (fun z => bitZ_n.mpr y5 z.2))
          · exact t109 1 1 _ (f1 ⟨y2, bn _ y4⟩) (f1 ⟨y3, bn _ y5⟩)
      refine B_Rents_cheapest_10 hq hF (by omega) ⟨fun y => by omega, fun _ => ⟨fun y => absurd y re, fun _ => ⟨by omega, fun y => by omega, fun _ => loop (D + 1).toNat 0 _ _ _ _ (by omega) (by omega) D0 (fun d' x0 x1 => by omega)⟩⟩⟩
  refine B_Rents_cheapest_0 hq hF ?_
  rcases hb start s0.1 s0.2 with ⟨y, z⟩ | ⟨y, z⟩
  · have se : start ≠ er := fun t => z 0 ⟨by rw [t]; exact Walk.nil, fun x hx => (hx.nn (wtS_1 (by decide) hP)).1⟩
    exact B_Rents_cheapest_10 hq hF (by omega) ⟨fun t => by omega, fun _ => ⟨fun t => absurd t se, fun _ => ⟨by omega, fun _ => k 0 (Or.inl ⟨z, rfl⟩), fun t => by omega⟩⟩⟩
  · obtain ⟨a, n, -, e1, a0, a9, n0, n9⟩ := DmS_9 (by decide) hP N9 s0.1 s0.2 z
    have en : ((n.toNat : Nat) : Int) = n := Int.toNat_of_nonneg n0
    have z' : DmS N P er (K.1 0) (K.1 1) 64 start (64 * a + ((n.toNat : Nat) : Int)) := by
      rw [en, ← e1]
      exact z
    exact way n.toNat start 0 0 a none none none none none z' (by omega) (by omega) s0.1 s0.2 (fun r hr => k r (Or.inr ⟨a, n.toNat, z', by omega, hr⟩))
/-! the table of what two hinges let by -/
/-- the place of a hinge's table -/
def hwT (h g : LH) (q : Int) (L : List Int) (sh hr which hinge : Int) (n : Int) : Prop := ∀ pr s, 0 ≤ pr → pr ≤ 9 → 0 ≤ s → s ≤ 3 → 4 * pr + s < n → ∃ x, rd g 99 (40 * which + 4 * pr + s) = x ∧ (x = 0 ∨ x = 1 ∨ x = 2 ∨ x = 3) ∧ ((x = 1 ∨ x = 3) ↔ hr < 24 ∧ ¬ bitZ sh hinge ∧ wAh (rd h (q + 7 + hinge)) L s hr pr 0) ∧ ((x = 2 ∨ x = 3) ↔ hr < 24 ∧ ¬ bitZ sh hinge ∧ wBk (rd h (q + 7 + hinge)) L s hr pr 0)
theorem w99 {i v : Int} (hF : RF h) : RF (wr h 99 i v) := RF_wn (hav_nr (by decide +kernel) i) hF
theorem F_tryPrices {which hinge : Int} (he : 4 ≤ e) (hc : CXq h K q L) (hK : KR K) (hl : LWQ h q L) (hw : 0 ≤ which ∧ which ≤ 1) (h0 : 0 ≤ hinge) (h1 : hinge < K.1 1) (k : ∀ g, RF g → (∀ a i, a ≠ q + 4 → a ≠ 99 → rd g a i = rd h a i) → (∀ i, ¬ (40 * which ≤ i ∧ i < 40 * which + 40) → rd g 99 i = rd h 99 i) → hwT h g q L (rd h 60 1) (rd h 60 0) which hinge 40 → Q none g) : Rn xs xl e mm_Rents_tryPrices 0 [some (.inr (.inr 96)), some (.inr (.inr q)), some (.inr (.inr 60)), some (.inl which), some (.inl hinge), none, none, none, none] [] h Q := by
  obtain ⟨hF, hPT, hq, -, ⟨-, c2, -⟩, -⟩ := id hc
  have k1 := hK.2.1
  have open_ : ∀ (v5 : Int), (v5 ≠ 0 ↔ rd h 60 0 < 24 ∧ ¬ bitZ (rd h 60 1) hinge) → Rn xs xl e mm_Rents_tryPrices 31 [some (.inr (.inr 96)), some (.inr (.inr q)), some (.inr (.inr 60)), some (.inl which), some (.inl hinge), some (.inl v5), some (.inl 0), none, none] [] h Q := by
    intro v5 ho
    have step : ∀ (g : LH) (v6 v7 v8 : Int), RF g → (∀ a i, a ≠ q + 4 → a ≠ 99 → rd g a i = rd h a i) → (∀ i, ¬ (40 * which ≤ i ∧ i < 40 * which + 40) → rd g 99 i = rd h 99 i) → hwT h g q L (rd h 60 1) (rd h 60 0) which hinge (4 * v6 + v7) → 0 ≤ v6 → v6 ≤ 9 → 0 ≤ v7 → v7 ≤ 3 → (v8 = 0 ∨ v8 = 1 ∨ v8 = 2 ∨ v8 = 3) → ((v8 = 1 ∨ v8 = 3) ↔ rd h 60 0 < 24 ∧ ¬ bitZ (rd h 60 1) hinge ∧ wAh (rd h (q + 7 + hinge)) L v7 (rd h 60 0) v6 0) → ((v8 = 2 ∨ v8 = 3) ↔ rd h 60 0 < 24 ∧ ¬ bitZ (rd h 60 1) hinge ∧ wBk (rd h (q + 7 + hinge)) L v7 (rd h 60 0) v6 0) → (∀ (g : LH), RF g → (∀ a i, a ≠ q + 4 → a ≠ 99 → rd g a i = rd h a i) → (∀ i, ¬ (40 * which ≤ i ∧ i < 40 * which + 40) → rd g 99 i = rd h 99 i) → hwT h g q L (rd h 60 1) (rd h 60 0) which hinge (4 * v6 + (v7 + 1)) → Rn xs xl e mm_Rents_tryPrices 41 [some (.inr (.inr 96)), some (.inr (.inr q)), some (.inr (.inr 60)), some (.inl which), some (.inl hinge), some (.inl v5), some (.inl v6), some (.inl (v7 + 1)), some (.inl v8)] [] g Q) → Rn xs xl e mm_Rents_tryPrices 73 [some (.inr (.inr 96)), some (.inr (.inr q)), some (.inr (.inr 60)), some (.inl which), some (.inl hinge), some (.inl v5), some (.inl v6), some (.inl v7), some (.inl v8)] [] g Q := by
      intro g v6 v7 v8 gF gf gn gt a0 a1 b0 b1 x0 x1 x2 next
      refine B_Rents_tryPrices_73 hq gF (by omega) (by omega) (by omega) (next _ (w99 gF) (fun a i n1 n2 => (rdw_ne (fun z => n2 z.symm)).trans (gf a i n1 n2)) (fun i hi => (rdw_nei (by omega)).trans (gn i hi)) (fun pr s p0 p1 s0 s1 lt => ?_))
      by_cases z : 4 * pr + s = 4 * v6 + v7
      · have z1 : pr = v6 := by omega
        have z2 : s = v7 := by omega
        rw [z1, z2, rdw_eq]
        exact ⟨v8, rfl, x0, x1, x2⟩
      · rw [rdw_nei (by omega)]
        exact gt pr s p0 p1 s0 s1 (by omega)
    have inner : ∀ (m : Nat) (g : LH) (v6 v7 : Int) (o8 : Option LV), 4 - v7 ≤ m → 0 ≤ v6 → v6 ≤ 9 → 0 ≤ v7 → v7 ≤ 4 → RF g → (∀ a i, a ≠ q + 4 → a ≠ 99 → rd g a i = rd h a i) → (∀ i, ¬ (40 * which ≤ i ∧ i < 40 * which + 40) → rd g 99 i = rd h 99 i) → hwT h g q L (rd h 60 1) (rd h 60 0) which hinge (4 * v6 + v7) → (∀ (g : LH) (o7 o8 : Option LV), RF g → (∀ a i, a ≠ q + 4 → a ≠ 99 → rd g a i = rd h a i) → (∀ i, ¬ (40 * which ≤ i ∧ i < 40 * which + 40) → rd g 99 i = rd h 99 i) → hwT h g q L (rd h 60 1) (rd h 60 0) which hinge (4 * (v6 + 1)) → Rn xs xl e mm_Rents_tryPrices 31 [some (.inr (.inr 96)), some (.inr (.inr q)), some (.inr (.inr 60)), some (.inl which), some (.inl hinge), some (.inl v5), some (.inl (v6 + 1)), o7, o8] [] g Q) → Rn xs xl e mm_Rents_tryPrices 41 [some (.inr (.inr 96)), some (.inr (.inr q)), some (.inr (.inr 60)), some (.inl which), some (.inl hinge), some (.inl v5), some (.inl v6), some (.inl v7), o8] [] g Q := by
      intro m
      induction m with
      | zero =>
        intro g v6 v7 o8 hm a0 a1 b0 b1 gF gf gn gt cont
        refine B_Rents_tryPrices_41 hq gF (by omega) (by omega) ⟨fun _ => cont g _ o8 gF gf gn ?_, fun z => by omega⟩
        rw [show 4 * (v6 + 1) = 4 * v6 + v7 by omega]
        exact gt
      | succ m im =>
        intro g v6 v7 o8 hm a0 a1 b0 b1 gF gf gn gt cont
        refine B_Rents_tryPrices_41 hq gF (by omega) (by omega) ⟨fun _ => cont g _ o8 gF gf gn ?_, fun z => ⟨fun y => ?_, fun y => ⟨3, by omega, ?_⟩⟩⟩
        · rw [show 4 * (v6 + 1) = 4 * v6 + v7 by omega]
          exact gt
        · have no : ¬ (rd h 60 0 < 24 ∧ ¬ bitZ (rd h 60 1) hinge) := fun t => (ho.mpr t) y
          refine step g v6 v7 0 gF gf gn gt a0 a1 b0 (by omega) (Or.inl rfl) ⟨fun t => by omega, fun t => absurd ⟨t.1, t.2.1⟩ no⟩ ⟨fun t => by omega, fun t => absurd ⟨t.1, t.2.1⟩ no⟩ (fun g gF gf gn gt => im g v6 (v7 + 1) _ (by omega) a0 a1 (by omega) (by omega) gF gf gn gt cont)
        · have yes := ho.mp y
          have gP : PT g := PT_fr hPT (fun a i ha => gf a i (by omega) (by omega))
          have gl : LWQ g q L := LWQ_frs hl (fun a i ha => gf a i (by omega) (by omega))
          have e60 : rd g 60 0 = rd h 60 0 := gf 60 0 (by omega) (by decide)
          have ef : rd g (q + 7 + hinge) = rd h (q + 7 + hinge) := funext (fun i => gf _ _ (by omega) (by omega))
          refine F_ways (L := L) (Nat.le_refl 3) hq ⟨h0, by omega⟩ (Or.inl rfl) gF gP gl (fun r u r0 ra rb uF uf => B_Rents_tryPrices_67 hq uF (by omega) (by omega) ?_)
          rw [ef, e60] at ra rb
          refine step u v6 v7 r uF (fun a i n1 n2 => (uf a i n1).trans (gf a i n1 n2)) (fun i hi => (uf 99 i (by omega)).trans (gn i hi)) (fun pr s p0 p1 s0 s1 lt => ?_) a0 a1 b0 (by omega) r0 ⟨fun t => ⟨yes.1, yes.2, ra.mp t⟩, fun t => ra.mpr t.2.2⟩ ⟨fun t => ⟨yes.1, yes.2, rb.mp t⟩, fun t => rb.mpr t.2.2⟩ (fun g gF gf gn gt => im g v6 (v7 + 1) _ (by omega) a0 a1 (by omega) (by omega) gF gf gn gt cont)
          obtain ⟨x, t1, t2⟩ := gt pr s p0 p1 s0 s1 lt
          exact ⟨x, (uf 99 _ (by omega)).trans t1, t2⟩
    have outer : ∀ (m : Nat) (g : LH) (v6 : Int) (o7 o8 : Option LV), 10 - v6 ≤ m → 0 ≤ v6 → v6 ≤ 10 → RF g → (∀ a i, a ≠ q + 4 → a ≠ 99 → rd g a i = rd h a i) → (∀ i, ¬ (40 * which ≤ i ∧ i < 40 * which + 40) → rd g 99 i = rd h 99 i) → hwT h g q L (rd h 60 1) (rd h 60 0) which hinge (4 * v6) → Rn xs xl e mm_Rents_tryPrices 31 [some (.inr (.inr 96)), some (.inr (.inr q)), some (.inr (.inr 60)), some (.inl which), some (.inl hinge), some (.inl v5), some (.inl v6), o7, o8] [] g Q := by
      intro m
      have stop : ∀ (g : LH) (v6 : Int), 10 ≤ v6 → v6 ≤ 10 → RF g → (∀ a i, a ≠ q + 4 → a ≠ 99 → rd g a i = rd h a i) → (∀ i, ¬ (40 * which ≤ i ∧ i < 40 * which + 40) → rd g 99 i = rd h 99 i) → hwT h g q L (rd h 60 1) (rd h 60 0) which hinge (4 * v6) → Q none g := fun g v6 a0 a1 gF gf gn gt => k g gF gf gn (by rw [show 4 * v6 = 40 by omega] at gt; exact gt)
      induction m with
      | zero =>
        intro g v6 o7 o8 hm a0 a1 gF gf gn gt
        exact B_Rents_tryPrices_31 hq gF (by omega) ⟨fun _ => stop g v6 (by omega) a1 gF gf gn gt, fun z => by omega⟩
      | succ m im =>
        intro g v6 o7 o8 hm a0 a1 gF gf gn gt
        refine B_Rents_tryPrices_31 hq gF (by omega) ⟨fun z => stop g v6 z a1 gF gf gn gt, fun z => inner 4 g v6 0 o8 (by omega) a0 (by omega) (by omega) (by omega) gF gf gn ?_ (fun g o7 o8 gF gf gn gt => im g (v6 + 1) o7 o8 (by omega) (by omega) (by omega) gF gf gn gt)⟩
        rw [Int.add_zero]
        exact gt
    exact outer 10 h 0 none none (by omega) (by omega) (by omega) hF (fun _ _ _ _ => rfl) (fun _ _ => rfl) (fun pr s p0 p1 s0 s1 lt => by omega)
  exact B_Rents_tryPrices_0 hq hF ⟨fun c => open_ 0 ⟨fun z => absurd rfl z, fun z => by omega⟩, fun c => ⟨fun z => open_ 0 ⟨fun y => absurd rfl y, fun y => absurd (Classical.byContradiction (fun n => z (bitZ_n.mp n))) y.2⟩, fun z => open_ 1 ⟨fun _ => ⟨c, bitZ_n.mpr z⟩, fun _ => by decide⟩⟩⟩
end KD
end
section
/-! rests, part k5: the class's rents and rests -/
/-- by which doors one goes under a key -/
noncomputable def stV (K : KEY) (S : Int → Int) (p : Int) : Int := Classical.epsilon (fun r => gbW (fun r d => NW K (S 1) (K.1 (4 * p + 116)) d r (S 0)) (PRK K) (K.1 (4 * p + 118)) (K.1 0) (K.1 1) 64 (S (p + 2)) r)
/-- what a hinge brings -/
noncomputable def rnV (K : KEY) (S : Int → Int) (door price : Int) : Nat → Int
  | 0 => 0
  | n + 1 => rnV K S door price n + zand (zshr (stV K S (n : Int)) door) 1 * price
noncomputable def rnO (K : KEY) (S : Int → Int) (one other k : Int) : Int := rnV (prK K one other (k / 10) (k % 10)) S one (k / 10) (K.1 2).toNat
noncomputable def rnT (K : KEY) (S : Int → Int) (one other k : Int) : Int := rnV (prK K one other (k / 10) (k % 10)) S other (k % 10) (K.1 2).toNat
/-- a pair of prices at rest -/
def isRst (F G : Int → Int) (k : Int) : Prop := ∀ y, 0 ≤ y → y ≤ 9 → F (10 * y + k % 10) ≤ F k ∧ G (10 * (k / 10) + y) ≤ G k
def rsA (F G : Int → Int) (w r : Int) : Prop := (w = -1 ∧ r = cnP (isRst F G) 100) ∨ (0 ≤ w ∧ ((∃ k : Nat, k < 100 ∧ isRst F G (k : Int) ∧ cnP (isRst F G) k = w ∧ r = (k : Int)) ∨ (cnP (isRst F G) 100 ≤ w ∧ r = -1)))
section KE
variable {xs : Nat → Int} {xl e : Nat} {h g u : LH} {Q : Option LV → LH → Prop} {K : KEY} {L : List Int} {S F G F' G' : Int → Int} {q er r r' d v1 v2 v3 v4 v5 w m one other pair s way a b p : Int}
theorem stV_of (hg : gbW (fun r d => NW K (S 1) (K.1 (4 * p + 116)) d r (S 0)) (PRK K) (K.1 (4 * p + 118)) (K.1 0) (K.1 1) 64 (S (p + 2)) r) : stV K S p = r :=
  gbW_one (Classical.epsilon_spec (p := fun r => gbW (fun r d => NW K (S 1) (K.1 (4 * p + 116)) d r (S 0)) (PRK K) (K.1 (4 * p + 118)) (K.1 0) (K.1 1) 64 (S (p + 2)) r) ⟨r, hg⟩) hg
theorem rnV_in (hp : 0 ≤ b ∧ b ≤ 9) : ∀ n : Nat, 0 ≤ rnV K S a b n ∧ rnV K S a b n ≤ 9 * n
  | 0 => ⟨Int.le_refl _, Int.le_refl _⟩
  | n + 1 => by
    have ih := rnV_in hp n
    have z := bitZ_01 (stV K S (n : Int)) a
    show 0 ≤ rnV K S a b n + zand (zshr (stV K S (n : Int)) a) 1 * b ∧ rnV K S a b n + zand (zshr (stV K S (n : Int)) a) 1 * b ≤ 9 * ((n + 1 : Nat) : Int)
    rcases z with z | z
    · rw [z, Int.zero_mul]
      omega
    · rw [z, Int.one_mul]
      omega
theorem isRst_congr (hF : ∀ k, 0 ≤ k → k ≤ 99 → F k = F' k) (hG : ∀ k, 0 ≤ k → k ≤ 99 → G k = G' k) {k : Int} (k0 : 0 ≤ k) (k1 : k ≤ 99) : isRst F G k ↔ isRst F' G' k := by
  unfold isRst
  constructor
  · intro z y y0 y1
    have := z y y0 y1
    rw [hF _ (by omega) (by omega), hF k k0 k1, hG _ (by omega) (by omega), hG k k0 k1] at this
    exact this
  · intro z y y0 y1
    have := z y y0 y1
    rw [← hF _ (by omega) (by omega), ← hF k k0 k1, ← hG _ (by omega) (by omega), ← hG k k0 k1] at this
    exact this
theorem rsA_congr (hF : ∀ k, 0 ≤ k → k ≤ 99 → F k = F' k) (hG : ∀ k, 0 ≤ k → k ≤ 99 → G k = G' k) (hr : rsA F G w r) : rsA F' G' w r := by
  have ec : ∀ n : Nat, n ≤ 100 → cnP (isRst F G) n = cnP (isRst F' G') n := fun n hn => cnP_ext n (fun b b0 b1 => isRst_congr hF hG b0 (by omega))
  rcases hr with ⟨a, b⟩ | ⟨a, ⟨k, c1, c2, c3, c4⟩ | ⟨c1, c2⟩⟩
  · exact Or.inl ⟨a, by rw [← ec 100 (Nat.le_refl _)]; exact b⟩
  · exact Or.inr ⟨a, Or.inl ⟨k, c1, (isRst_congr hF hG (by omega) (by omega)).mp c2, by rw [← ec k (by omega)]; exact c3, c4⟩⟩
  · exact Or.inr ⟨a, Or.inr ⟨by rw [← ec 100 (Nat.le_refl _)]; exact c1, c2⟩⟩
theorem cnP_mono {P : Int → Prop} : ∀ (m n : Nat), cnP P n ≤ cnP P (n + m)
  | 0, n => Int.le_refl _
  | m + 1, n => by
    have ih := cnP_mono (P := P) m n
    show cnP P n ≤ cnP P (n + m) + @ite Int (P ((n + m : Nat) : Int)) (Classical.propDecidable _) 1 0
    by_cases c : P ((n + m : Nat) : Int)
    · rw [if_pos c]; omega
    · rw [if_neg c]; omega
theorem cnP_lt {P : Int → Prop} {k n : Nat} (hk : P (k : Int)) (l : k < n) : cnP P k < cnP P n := by
  have a : cnP P (k + 1) = cnP P k + 1 := by
    show cnP P k + @ite Int _ (Classical.propDecidable _) 1 0 = _
    rw [if_pos hk]
  have b := cnP_mono (P := P) (n - (k + 1)) (k + 1)
  rw [show k + 1 + (n - (k + 1)) = n by omega] at b
  omega
theorem rsA_one (h1 : rsA F G w r) (h2 : rsA F G w r') : r = r' := by
  rcases h1 with ⟨a, b⟩ | ⟨a, ⟨k, c1, c2, c3, c4⟩ | ⟨c1, c2⟩⟩
  · rcases h2 with ⟨x, y⟩ | ⟨x, _⟩
    · rw [b, y]
    · omega
  · rcases h2 with ⟨x, y⟩ | ⟨x, ⟨k', d1, d2, d3, d4⟩ | ⟨d1, d2⟩⟩
    · omega
    · have n1 : ¬ k < k' := fun z => by have := cnP_lt c2 z; omega
      have n2 : ¬ k' < k := fun z => by have := cnP_lt d2 z; omega
      omega
    · have := cnP_lt c2 c1
      omega
  · rcases h2 with ⟨x, y⟩ | ⟨x, ⟨k', d1, d2, d3, d4⟩ | ⟨d1, d2⟩⟩
    · omega
    · have := cnP_lt d2 d1
      omega
    · rw [c2, d2]
theorem F_withHinges (hF : RF h) (hp : 0 ≤ pair ∧ pair ≤ 99) (hs : 0 ≤ s ∧ s ≤ 3) (h1 : 0 ≤ rd h 96 0 ∧ rd h 96 0 ≤ 13) (h2 : 0 ≤ rd h 96 1 ∧ rd h 96 1 ≤ 13) (k : ∀ r, (∀ b, 0 ≤ b → b < 32 → (bitZ r b ↔ (b = rd h 96 0 ∧ zand (rd h 99 (4 * (pair / 10) + s)) way ≠ 0) ∨ (b = rd h 96 1 ∧ zand (rd h 99 (4 * (pair % 10) + s + 40)) way ≠ 0) ∨ (b ≠ rd h 96 0 ∧ b ≠ rd h 96 1 ∧ bitZ v1 b))) → Q (some (.inl r)) h) : Rn xs xl e mm_Rents_withHinges 0 [some (.inr (.inr 96)), some (.inl v1), some (.inl pair), some (.inl s), some (.inl way), none, none, none] [] h Q := by
  generalize hX : rd h 96 0 = X at *
  generalize hY : rd h 96 1 = Y at *
  generalize hp1 : zand (rd h 99 (4 * (pair / 10) + s)) way = U at *
  generalize hp2 : zand (rd h 99 (4 * (pair % 10) + s + 40)) way = V at *
  have fin : ∀ (x y : Int), (∀ b, 0 ≤ b → b < 32 → (bitZ x b ↔ b = X ∧ U ≠ 0)) → (∀ b, 0 ≤ b → b < 32 → (bitZ y b ↔ b = Y ∧ V ≠ 0)) → Q (some (.inl (zor (zor (zand v1 (zxor (zor (zshl 1 X) (zshl 1 Y)) (-1))) x) y))) h := fun x y hx hy => k _ (fun b b0 b1 => by
    rw [bit_or b0 b1, bit_or b0 b1, hx b b0 b1, hy b b0 b1, bit_and b0 b1, bit_not b0 b1, bit_or b0 b1, bit_shl h1.1 (by omega) b0 b1, bit_shl h2.1 (by omega) b0 b1]
    constructor
    · rintro ((z | z) | z)
      · exact Or.inr (Or.inr ⟨fun t => z.2 (Or.inl t), fun t => z.2 (Or.inr t), z.1⟩)
      · exact Or.inl z
      · exact Or.inr (Or.inl z)
    · rintro (z | z | z)
      · exact Or.inl (Or.inr z)
      · exact Or.inr z
      · exact Or.inl (Or.inl ⟨z.2.2, fun t => t.elim z.1 z.2.1⟩))
  have z0 : ∀ {x c : Int}, c = 0 → ∀ b, 0 ≤ b → b < 32 → (bitZ 0 b ↔ b = x ∧ c ≠ 0) := fun hc b _ _ => ⟨fun y => absurd y bit_zero, fun y => absurd hc y.2⟩
  have z1 : ∀ {x c : Int}, 0 ≤ x ∧ x ≤ 13 → c ≠ 0 → ∀ b, 0 ≤ b → b < 32 → (bitZ (zshl 1 x) b ↔ b = x ∧ c ≠ 0) := fun hx hc b b0 b1 => by
    rw [bit_shl hx.1 (by omega) b0 b1]
    exact ⟨fun y => ⟨y, hc⟩, fun y => y.1⟩
  have row := B_Rents_withHinges_0 (xs := xs) (xl := xl) (e := e) (h := h) (Q := Q) (v1 := v1) (v2 := pair) (v3 := s) (v4 := way) hF hp hs
  rw [hX, hY, hp1, hp2] at row
  exact row ⟨by omega, by omega, by omega, by omega, by omega, by omega, by omega, fun a => ⟨fun b => fin 0 0 (z0 a) (z0 b), fun b => fin 0 _ (z0 a) (z1 h2 b)⟩, fun a => ⟨fun b => fin _ 0 (z1 h1 a) (z0 b), fun b => fin _ _ (z1 h1 a) (z1 h2 b)⟩⟩
/-- what stands while pairs of prices are tried -/
def RC (h : LH) (K : KEY) (q : Int) (L : List Int) (S : Int → Int) (one other : Int) : Prop := CXq h K q L ∧ PLF h K q L ∧ (rd h 60 0 = S 0 ∧ rd h 60 1 = S 1 ∧ ∀ p, 0 ≤ p → p < K.1 2 → rd h 61 p = S (p + 2)) ∧ (rd h 96 0 = one ∧ rd h 96 1 = other) ∧ hwT h h q L (S 1) (S 0) 0 one 40 ∧ hwT h h q L (S 1) (S 0) 1 other 40
theorem RC_fr (hr : RC h K q L S one other) (hK : KR K) (gF : RF g) (h1 : 0 ≤ one ∧ one ≤ 13) (h2 : 0 ≤ other ∧ other ≤ 13) (f : ∀ a i, a ≠ 97 → a ≠ 98 → a ≠ 100 → a ≠ 101 → rd g a i = rd h a i) : RC g K q L S one other := by
  obtain ⟨a, b, ⟨c1, c2, c3⟩, ⟨d1, d2⟩, t1, t2⟩ := hr
  have k1 := hK.2.1
  have q5 := a.2.2.1
  have ef : ∀ d, 0 ≤ d → d ≤ 13 → rd g (q + 7 + d) = rd h (q + 7 + d) := fun d d0 d1 => funext (fun i => f _ _ (by omega) (by omega) (by omega) (by omega))
  have et : ∀ i, rd g 99 i = rd h 99 i := fun i => f 99 i (by decide) (by decide) (by decide) (by decide)
  refine ⟨CXq_fr a hK gF (fun x i hx => f x i (by omega) (by omega) (by omega) (by omega)), fun one other a b d s room hr sh b1 b2 b3 b4 d0 d1 hs hro hhr => ?_, ⟨(f 60 0 (by decide) (by decide) (by decide) (by decide)).trans c1, (f 60 1 (by decide) (by decide) (by decide) (by decide)).trans c2, fun p p0 p1 => (f 61 p (by decide) (by decide) (by decide) (by decide)).trans (c3 p p0 p1)⟩, ⟨(f 96 0 (by decide) (by decide) (by decide) (by decide)).trans d1, (f 96 1 (by decide) (by decide) (by decide) (by decide)).trans d2⟩, fun pr s p0 p1 s0 s1 l => ?_, fun pr s p0 p1 s0 s1 l => ?_⟩
  · rw [ef d d0 (by omega)]
    exact ‹PLF h K q L› one other a b d s room hr sh b1 b2 b3 b4 d0 d1 hs hro hhr
  · rw [et, ef one h1.1 h1.2]
    exact t1 pr s p0 p1 s0 s1 l
  · rw [et, ef other h2.1 h2.2]
    exact t2 pr s p0 p1 s0 s1 l
theorem F_doorsOf (he : 2 ≤ e) (hr : RC h K q L S one other) (hK : KR K) (b1 : 0 ≤ one ∧ one < K.1 1) (b2 : 0 ≤ other ∧ other < K.1 1) (ne : one ≠ other) (hp : 0 ≤ pair ∧ pair ≤ 99) (hS0 : 0 ≤ S 0 ∧ S 0 ≤ 24) (p0 : 0 ≤ p) (p1 : p < K.1 2) (hS2 : 0 ≤ S (p + 2) ∧ S (p + 2) ≤ 9) (hw : ∀ d, 0 ≤ d → d < K.1 1 → rd h 98 d = wtS (PRK (prK K one other (pair / 10) (pair % 10))) 64 d) (k : ∀ g, RF g → (∀ a i, a ≠ 97 → rd g a i = rd h a i) → Q (some (.inl (stV (prK K one other (pair / 10) (pair % 10)) S p))) g) : Rn xs xl e mm_Rents_doorsOf 0 [some (.inr (.inr 96)), some (.inr (.inr q)), some (.inr (.inr 60)), some (.inl p), some (.inl pair), none, none, none] [] h Q := by
  obtain ⟨hc, hl, ⟨c0, c1, c2⟩, ⟨d0, d1⟩, t0, t1⟩ := id hr
  obtain ⟨hF, hPT, hq, -⟩ := id hc
  have k1 := hK.2.1
  have k2 := hK.2.2.1
  have k0 := hK.1
  obtain ⟨f1, -, f3, -⟩ := CXq_p hc p0 p1
  obtain ⟨s0, -, e0, -⟩ := hK.2.2.2.2 p p0 p1
  have ep : ∀ d, PRK (prK K one other (pair / 10) (pair % 10)) d = if d = one then pair / 10 else if d = other then pair % 10 else K.1 (8 * d + 11) := fun d => rfl
  have hP : ∀ d, 0 ≤ d → d < K.1 1 → 0 ≤ PRK (prK K one other (pair / 10) (pair % 10)) d ∧ PRK (prK K one other (pair / 10) (pair % 10)) d ≤ 9 := fun d x0 x1 => by
    have := (hK.2.2.2.1 d x0 x1).2.2.2.2
    rw [ep]
    split
    · omega
    · split <;> omega
  -- the bits of the doors
  have bitsA : ∀ v A : Int, (∀ d, 0 ≤ d → d < K.1 1 → (bitZ v d ↔ S 0 < 24 ∧ ¬ bitZ (S 1) d ∧ wAh (rd h (q + 7 + d)) L (K.1 (4 * p + 116)) (S 0) (rd h (q + 7 + d) 8) 0)) → (∀ b, 0 ≤ b → b < 32 → (bitZ A b ↔ (b = one ∧ zand (rd h 99 (4 * (pair / 10) + K.1 (4 * p + 116))) 1 ≠ 0) ∨ (b = other ∧ zand (rd h 99 (4 * (pair % 10) + K.1 (4 * p + 116) + 40)) 1 ≠ 0) ∨ (b ≠ one ∧ b ≠ other ∧ bitZ v b))) → ∀ d, 0 ≤ d → d < K.1 1 → (bitZ A d ↔ S 0 < 24 ∧ ¬ bitZ (S 1) d ∧ wAh (rd h (q + 7 + d)) L (K.1 (4 * p + 116)) (S 0) (PRK (prK K one other (pair / 10) (pair % 10)) d) 0) := by
    intro v A hv hA d x0 x1
    obtain ⟨-, -, -, -, f8⟩ := CXq_d hc x0 x1
    rw [hA d x0 (by omega), ep]
    by_cases z1 : d = one
    · obtain ⟨x, y1, y2, y3, -⟩ := t0 (pair / 10) (K.1 (4 * p + 116)) (by omega) (by omega) s0.1 s0.2 (by omega)
      rw [show 40 * 0 + 4 * (pair / 10) + K.1 (4 * p + 116) = 4 * (pair / 10) + K.1 (4 * p + 116) by omega] at y1
      rw [if_pos z1, z1, y1, ← y3]
      have := zw1 y2
      constructor
      · rintro (t | t | t)
        · exact Classical.byContradiction (fun n => t.2 (this.mpr n))
        · exact absurd t.1 ne
        · exact absurd rfl t.1
      · exact fun t => Or.inl ⟨rfl, fun n => this.mp n t⟩
    · rw [if_neg z1]
      by_cases z2 : d = other
      · obtain ⟨x, y1, y2, y3, -⟩ := t1 (pair % 10) (K.1 (4 * p + 116)) (by omega) (by omega) s0.1 s0.2 (by omega)
        rw [show 40 * 1 + 4 * (pair % 10) + K.1 (4 * p + 116) = 4 * (pair % 10) + K.1 (4 * p + 116) + 40 by omega] at y1
        rw [if_pos z2, z2, y1, ← y3]
        have := zw1 y2
        constructor
        · rintro (t | t | t)
          · exact absurd t.1.symm ne
          · exact Classical.byContradiction (fun n => t.2 (this.mpr n))
          · exact absurd rfl t.2.1
        · exact fun t => Or.inr (Or.inl ⟨rfl, fun n => this.mp n t⟩)
      · rw [if_neg z2, ← f8, ← hv d x0 x1]
        exact ⟨fun t => t.elim (fun t => absurd t.1 z1) (fun t => t.elim (fun t => absurd t.1 z2) (fun t => t.2.2)), fun t => Or.inr (Or.inr ⟨z1, z2, t⟩)⟩
  have bitsB : ∀ v A : Int, (∀ d, 0 ≤ d → d < K.1 1 → (bitZ v d ↔ S 0 < 24 ∧ ¬ bitZ (S 1) d ∧ wBk (rd h (q + 7 + d)) L (K.1 (4 * p + 116)) (S 0) (rd h (q + 7 + d) 8) 0)) → (∀ b, 0 ≤ b → b < 32 → (bitZ A b ↔ (b = one ∧ zand (rd h 99 (4 * (pair / 10) + K.1 (4 * p + 116))) 2 ≠ 0) ∨ (b = other ∧ zand (rd h 99 (4 * (pair % 10) + K.1 (4 * p + 116) + 40)) 2 ≠ 0) ∨ (b ≠ one ∧ b ≠ other ∧ bitZ v b))) → ∀ d, 0 ≤ d → d < K.1 1 → (bitZ A d ↔ S 0 < 24 ∧ ¬ bitZ (S 1) d ∧ wBk (rd h (q + 7 + d)) L (K.1 (4 * p + 116)) (S 0) (PRK (prK K one other (pair / 10) (pair % 10)) d) 0) := by
    intro v A hv hA d x0 x1
    obtain ⟨-, -, -, -, f8⟩ := CXq_d hc x0 x1
    rw [hA d x0 (by omega), ep]
    by_cases z1 : d = one
    · obtain ⟨x, y1, y2, -, y3⟩ := t0 (pair / 10) (K.1 (4 * p + 116)) (by omega) (by omega) s0.1 s0.2 (by omega)
      rw [show 40 * 0 + 4 * (pair / 10) + K.1 (4 * p + 116) = 4 * (pair / 10) + K.1 (4 * p + 116) by omega] at y1
      rw [if_pos z1, z1, y1, ← y3]
      have := zw2 y2
      constructor
      · rintro (t | t | t)
        · exact Classical.byContradiction (fun n => t.2 (this.mpr n))
        · exact absurd t.1 ne
        · exact absurd rfl t.1
      · exact fun t => Or.inl ⟨rfl, fun n => this.mp n t⟩
    · rw [if_neg z1]
      by_cases z2 : d = other
      · obtain ⟨x, y1, y2, -, y3⟩ := t1 (pair % 10) (K.1 (4 * p + 116)) (by omega) (by omega) s0.1 s0.2 (by omega)
        rw [show 40 * 1 + 4 * (pair % 10) + K.1 (4 * p + 116) = 4 * (pair % 10) + K.1 (4 * p + 116) + 40 by omega] at y1
        rw [if_pos z2, z2, y1, ← y3]
        have := zw2 y2
        constructor
        · rintro (t | t | t)
          · exact absurd t.1.symm ne
          · exact Classical.byContradiction (fun n => t.2 (this.mpr n))
          · exact absurd rfl t.2.1
        · exact fun t => Or.inr (Or.inl ⟨rfl, fun n => this.mp n t⟩)
      · rw [if_neg z2, ← f8, ← hv d x0 x1]
        exact ⟨fun t => t.elim (fun t => absurd t.1 z1) (fun t => t.elim (fun t => absurd t.1 z2) (fun t => t.2.2)), fun t => Or.inr (Or.inr ⟨z1, z2, t⟩)⟩
  -- behind the bits
  have go : ∀ vA vB A : Int, (∀ d, 0 ≤ d → d < K.1 1 → (bitZ vB d ↔ S 0 < 24 ∧ ¬ bitZ (S 1) d ∧ wBk (rd h (q + 7 + d)) L (K.1 (4 * p + 116)) (S 0) (rd h (q + 7 + d) 8) 0)) → (∀ d, 0 ≤ d → d < K.1 1 → (bitZ A d ↔ S 0 < 24 ∧ ¬ bitZ (S 1) d ∧ wAh (rd h (q + 7 + d)) L (K.1 (4 * p + 116)) (S 0) (PRK (prK K one other (pair / 10) (pair % 10)) d) 0)) → Rn xs xl e mm_Rents_doorsOf 60 [some (.inr (.inr 96)), some (.inr (.inr q)), some (.inr (.inr 60)), some (.inl p), some (.inl pair), some (.inr (.inr (q + 21 + p))), some (.inl vA), some (.inl vB)] [.inl A] h Q := by
    intro vA vB A hB hA
    refine B_Rents_doorsOf_60 hq hF (by omega) ⟨0, by omega, ?_⟩
    rw [f1]
    refine F_withHinges hF hp s0 (by rw [d0]; omega) (by rw [d1]; omega) (fun B hB' => ?_)
    rw [d0, d1] at hB'
    have bB := bitsB vB B hB hB'
    have N1 : ∀ r d, 0 ≤ r → r ≤ 9 → 0 ≤ d → d < K.1 1 → NW (prK K one other (pair / 10) (pair % 10)) (S 1) (K.1 (4 * p + 116)) d r (S 0) = nbF (rd h (q + 7 + d)) A B r d := fun r d r0 r1 x0 x1 => by
      have ba := hA d x0 x1
      have bb := bB d x0 x1
      unfold NW
      by_cases z : S 0 < 24
      · rw [if_pos z, hl one other (pair / 10) (pair % 10) d (K.1 (4 * p + 116)) r (S 0) (S 1) (by omega) (by omega) (by omega) (by omega) x0 x1 s0 ⟨r0, r1⟩ (by omega)]
        unfold inP
        by_cases t : rd h (q + 7 + d) 2 = r ∧ bitZ A d
        · have y := ba.mp t.2
          rw [nbF_a t.1 t.2, if_pos ⟨t.1, y.2.2, y.2.1⟩]
        · rw [if_neg (fun y => t ⟨y.1, ba.mpr ⟨z, y.2.2, y.2.1⟩⟩)]
          by_cases t2 : rd h (q + 7 + d) 3 = r ∧ bitZ B d
          · have y := bb.mp t2.2
            rw [nbF_b t2.1 t2.2 t, if_pos ⟨t2.1, y.2.2, y.2.1⟩]
          · rw [nbF_n t t2, if_neg (fun y => t2 ⟨y.1, bb.mpr ⟨z, y.2.2, y.2.1⟩⟩)]
      · rw [if_neg z, nbF_n (fun y => z (ba.mp y.2).1) (fun y => z (bb.mp y.2).1)]
    refine B_Rents_doorsOf_76 hq hF (by omega) ⟨1, by omega, ?_⟩
    rw [f3]
    refine F_fillBest (N := fun r d => NW (prK K one other (pair / 10) (pair % 10)) (S 1) (K.1 (4 * p + 116)) d r (S 0)) (P := PRK (prK K one other (pair / 10) (pair % 10))) (c := 64) (Nat.le_refl 1) rfl hc hK e0 hP N1 hw (fun g gF gf gb => ?_)
    have gc : CXq g K q L := CXq_fr hc hK gF (fun a i ha => gf a i (by omega))
    have e61 : rd g 61 p = S (p + 2) := (gf 61 p (by decide)).trans (c2 p p0 p1)
    have g3 : rd g (q + 21 + p) 3 = K.1 (4 * p + 118) := (gf _ _ (by omega)).trans f3
    refine B_Rents_doorsOf_92 hq gF (by omega) ⟨0, by omega, ?_⟩
    rw [g3, e61]
    refine F_cheapest (N := fun r d => NW (prK K one other (pair / 10) (pair % 10)) (S 1) (K.1 (4 * p + 116)) d r (S 0)) (P := PRK (prK K one other (pair / 10) (pair % 10))) gc hK e0 hS2 hP (fun r d r0 r1 x0 x1 => ?_) (fun d x0 x1 => (gf 98 d (by decide)).trans (hw d x0 x1)) gb (fun r hr' => B_Rents_doorsOf_112 hq gF (by omega) ?_)
    · rw [show rd g (q + 7 + d) = rd h (q + 7 + d) from funext (fun i => gf _ _ (by omega))]
      exact N1 r d r0 r1 x0 x1
    · have es : stV (prK K one other (pair / 10) (pair % 10)) S p = r := stV_of hr'
      rw [← es]
      exact k g gF gf
  refine B_Rents_doorsOf_0 hq hF hPT (by omega) (by omega) ⟨fun z => ⟨0, by omega, ?_⟩, fun z => ⟨by omega, by omega, by omega, by omega, by omega, by omega, 0, by omega, ?_⟩⟩
  · rw [c0] at z
    rw [f1]
    refine F_withHinges hF hp s0 (by rw [d0]; omega) (by rw [d1]; omega) (fun A hA => ?_)
    rw [d0, d1] at hA
    exact go 0 0 A (fun d _ _ => ⟨fun y => absurd y bit_zero, fun y => by omega⟩) (bitsA 0 A (fun d _ _ => ⟨fun y => absurd y bit_zero, fun y => by omega⟩) hA)
  · rw [c0] at z
    rw [f1, c0, c1]
    have h23 : 0 ≤ S 0 ∧ S 0 ≤ 23 := by omega
    refine F_withHinges hF hp s0 (by rw [d0]; omega) (by rw [d1]; omega) (fun A hA => ?_)
    rw [d0, d1] at hA
    refine go _ _ A (fun d x0 x1 => ?_) (bitsA _ A (fun d x0 x1 => ?_) hA)
    · rw [(CXq_ah (v1 := S 1) hc hK s0 h23 x0 x1).2]
      exact ⟨fun y => ⟨z, y.2, y.1⟩, fun y => ⟨y.2.2, y.2.1⟩⟩
    · rw [(CXq_ah (v1 := S 1) hc hK s0 h23 x0 x1).1]
      exact ⟨fun y => ⟨z, y.2, y.1⟩, fun y => ⟨y.2.2, y.2.1⟩⟩
end KE
end
section
/-! rests, part k6: the class's rests -/
section KF
variable {xs : Nat → Int} {xl e : Nat} {h g u : LH} {Q : Option LV → LH → Prop} {K : KEY} {L : List Int} {S F G F' G' : Int → Int} {q er r r' d v1 v2 v3 v4 v5 w m one other pair s way a b p : Int}
theorem w98 {i v : Int} (hF : RF h) : RF (wr h 98 i v) := RF_wn (hav_nr (by decide +kernel) i) hF
theorem w100 {i v : Int} (hF : RF h) : RF (wr h 100 i v) := RF_wn (hav_nr (by decide +kernel) i) hF
theorem w101 {i v : Int} (hF : RF h) : RF (wr h 101 i v) := RF_wn (hav_nr (by decide +kernel) i) hF
/-- the doors' weights, but for both hinges -/
def wgI (h : LH) (K : KEY) (one other : Int) : Prop := ∀ d, 0 ≤ d → d < K.1 1 → d ≠ one → d ≠ other → rd h 98 d = 64 * K.1 (8 * d + 11) + 1
theorem F_takeRents (he : 3 ≤ e) (hr : RC h K q L S one other) (hK : KR K) (b1 : 0 ≤ one ∧ one < K.1 1) (b2 : 0 ≤ other ∧ other < K.1 1) (ne : one ≠ other) (hp : 0 ≤ pair ∧ pair ≤ 99) (hS0 : 0 ≤ S 0 ∧ S 0 ≤ 24) (hS2 : ∀ p, 0 ≤ p → p < K.1 2 → 0 ≤ S (p + 2) ∧ S (p + 2) ≤ 9) (hw : wgI h K one other) (k : ∀ g, RF g → (∀ a i, a ≠ 97 → a ≠ 98 → a ≠ 100 → a ≠ 101 → rd g a i = rd h a i) → wgI g K one other → (∀ i, i ≠ pair → rd g 100 i = rd h 100 i ∧ rd g 101 i = rd h 101 i) → rd g 100 pair = rnO K S one other pair → rd g 101 pair = rnT K S one other pair → Q none g) : Rn xs xl e mm_Rents_takeRents 0 [some (.inr (.inr 96)), some (.inr (.inr q)), some (.inr (.inr 60)), some (.inl pair), none, none, none, none] [] h Q := by
  obtain ⟨hc, -, -, ⟨d0, d1⟩, -, -⟩ := id hr
  obtain ⟨hF, hPT, hq, -⟩ := id hc
  have k1 := hK.2.1
  have k2 := hK.2.2.1
  have loop : ∀ (n : Nat) (g : LH) (v6 : Int) (o : Option LV), K.1 2 - v6 ≤ n → 0 ≤ v6 → v6 ≤ K.1 2 → RF g → (∀ a i, a ≠ 97 → a ≠ 98 → a ≠ 100 → a ≠ 101 → rd g a i = rd h a i) → (∀ d, 0 ≤ d → d < K.1 1 → rd g 98 d = wtS (PRK (prK K one other (pair / 10) (pair % 10))) 64 d) → (∀ i, i ≠ pair → rd g 100 i = rd h 100 i ∧ rd g 101 i = rd h 101 i) → rd g 100 pair = rnV (prK K one other (pair / 10) (pair % 10)) S one (pair / 10) v6.toNat → rd g 101 pair = rnV (prK K one other (pair / 10) (pair % 10)) S other (pair % 10) v6.toNat → Rn xs xl e mm_Rents_takeRents 61 [some (.inr (.inr 96)), some (.inr (.inr q)), some (.inr (.inr 60)), some (.inl pair), some (.inl (pair / 10)), some (.inl (pair % 10)), some (.inl v6), o] [] g Q := by
    intro n
    have stop : ∀ (g : LH) (v6 : Int), K.1 2 ≤ v6 → v6 ≤ K.1 2 → RF g → (∀ a i, a ≠ 97 → a ≠ 98 → a ≠ 100 → a ≠ 101 → rd g a i = rd h a i) → (∀ d, 0 ≤ d → d < K.1 1 → rd g 98 d = wtS (PRK (prK K one other (pair / 10) (pair % 10))) 64 d) → (∀ i, i ≠ pair → rd g 100 i = rd h 100 i ∧ rd g 101 i = rd h 101 i) → rd g 100 pair = rnV (prK K one other (pair / 10) (pair % 10)) S one (pair / 10) v6.toNat → rd g 101 pair = rnV (prK K one other (pair / 10) (pair % 10)) S other (pair % 10) v6.toNat → Q none g := by
      intro g v6 a0 a1 gF gf gw gn g0 g1
      rw [show v6 = K.1 2 by omega] at g0 g1
      refine k g gF gf (fun d x0 x1 n1 n2 => ?_) gn g0 g1
      rw [gw d x0 x1]
      show 64 * (if d = one then pair / 10 else if d = other then pair % 10 else K.1 (8 * d + 11)) + 1 = _
      rw [if_neg n1, if_neg n2]
    induction n with
    | zero =>
      intro g v6 o hn a0 a1 gF gf gw gn g0 g1
      have gc : CXq g K q L := CXq_fr hc hK gF (fun a i ha => gf a i (by omega) (by omega) (by omega) (by omega))
      have c4 := gc.2.2.2.2.1.2.2
      exact B_Rents_takeRents_61 hq gF hp (by omega) ⟨fun _ => stop g v6 (by omega) a1 gF gf gw gn g0 g1, fun z => by omega⟩
    | succ n ih =>
      intro g v6 o hn a0 a1 gF gf gw gn g0 g1
      have gr : RC g K q L S one other := RC_fr hr hK gF (by omega) (by omega) gf
      have c4 := gr.1.2.2.2.2.1.2.2
      refine B_Rents_takeRents_61 hq gF hp (by omega) ⟨fun z => stop g v6 (by omega) a1 gF gf gw gn g0 g1, fun z => ⟨2, by omega, ?_⟩⟩
      have p1 : v6 < K.1 2 := by omega
      refine F_doorsOf (Nat.le_refl 2) gr hK b1 b2 ne hp hS0 a0 p1 (hS2 v6 a0 p1) gw (fun u uF uf => ?_)
      have u0 : rd u 96 0 = one := (uf 96 0 (by decide)).trans gr.2.2.2.1.1
      have u1 : rd u 96 1 = other := (uf 96 1 (by decide)).trans gr.2.2.2.1.2
      have i1 := rnV_in (K := prK K one other (pair / 10) (pair % 10)) (S := S) (a := one) (b := pair / 10) (by omega) v6.toNat
      have i2 := rnV_in (K := prK K one other (pair / 10) (pair % 10)) (S := S) (a := other) (b := pair % 10) (by omega) v6.toNat
      have e1 : rnV (prK K one other (pair / 10) (pair % 10)) S one (pair / 10) (v6 + 1).toNat = rnV (prK K one other (pair / 10) (pair % 10)) S one (pair / 10) v6.toNat + zand (zshr (stV (prK K one other (pair / 10) (pair % 10)) S v6) one) 1 * (pair / 10) := by
        rw [show (v6 + 1).toNat = v6.toNat + 1 by omega]
        show _ + zand (zshr (stV (prK K one other (pair / 10) (pair % 10)) S (v6.toNat : Int)) one) 1 * (pair / 10) = _
        rw [Int.toNat_of_nonneg a0]
      have e2 : rnV (prK K one other (pair / 10) (pair % 10)) S other (pair % 10) (v6 + 1).toNat = rnV (prK K one other (pair / 10) (pair % 10)) S other (pair % 10) v6.toNat + zand (zshr (stV (prK K one other (pair / 10) (pair % 10)) S v6) other) 1 * (pair % 10) := by
        rw [show (v6 + 1).toNat = v6.toNat + 1 by omega]
        show _ + zand (zshr (stV (prK K one other (pair / 10) (pair % 10)) S (v6.toNat : Int)) other) 1 * (pair % 10) = _
        rw [Int.toNat_of_nonneg a0]
      have j1 := rnV_in (K := prK K one other (pair / 10) (pair % 10)) (S := S) (a := one) (b := pair / 10) (by omega) (v6 + 1).toNat
      have j2 := rnV_in (K := prK K one other (pair / 10) (pair % 10)) (S := S) (a := other) (b := pair % 10) (by omega) (v6 + 1).toNat
      have h0 : rd u 100 pair = rnV (prK K one other (pair / 10) (pair % 10)) S one (pair / 10) v6.toNat := (uf 100 pair (by decide)).trans g0
      have h1 : rd u 101 pair = rnV (prK K one other (pair / 10) (pair % 10)) S other (pair % 10) v6.toNat := (uf 101 pair (by decide)).trans g1
      refine B_Rents_takeRents_79 hq uF hp (by omega) ?_
      rw [u0, u1]
      have nx : ∀ x y : Int, x = rnV (prK K one other (pair / 10) (pair % 10)) S one (pair / 10) (v6 + 1).toNat → y = rnV (prK K one other (pair / 10) (pair % 10)) S other (pair % 10) (v6 + 1).toNat → Rn xs xl e mm_Rents_takeRents 61 [some (.inr (.inr 96)), some (.inr (.inr q)), some (.inr (.inr 60)), some (.inl pair), some (.inl (pair / 10)), some (.inl (pair % 10)), some (.inl (v6 + 1)), some (.inl (stV (prK K one other (pair / 10) (pair % 10)) S v6))] [] (wr (wr u 100 pair x) 101 pair y) Q := fun x y hx hy => by
        refine ih _ (v6 + 1) _ (by omega) (by omega) (by omega) (w101 (w100 uF)) (fun a i n1 n2 n3 n4 => ?_) (fun d x0 x1 => ?_) (fun i hi => ⟨?_, ?_⟩) ?_ ?_
        · rw [rdw_ne (fun z => n4 z.symm), rdw_ne (fun z => n3 z.symm), uf a i n1]
          exact gf a i n1 n2 n3 n4
        · rw [rdw_ne (by decide), rdw_ne (by decide), uf 98 d (by decide)]
          exact gw d x0 x1
        · rw [rdw_ne (by decide), rdw_nei (fun z => hi z.symm), uf 100 i (by decide)]
          exact (gn i hi).1
        · rw [rdw_nei (fun z => hi z.symm), rdw_ne (by decide), uf 101 i (by decide)]
          exact (gn i hi).2
        · rw [rdw_ne (by decide), rdw_eq]
          exact hx
        · rw [rdw_eq]
          exact hy
      have z1 := bitZ_01 (stV (prK K one other (pair / 10) (pair % 10)) S v6) one
      have z2 := bitZ_01 (stV (prK K one other (pair / 10) (pair % 10)) S v6) other
      have m1 : 0 ≤ zand (zshr (stV (prK K one other (pair / 10) (pair % 10)) S v6) one) 1 * (pair / 10) ∧ zand (zshr (stV (prK K one other (pair / 10) (pair % 10)) S v6) one) 1 * (pair / 10) ≤ 9 := by
        rcases z1 with z | z
        · rw [z, Int.zero_mul]; omega
        · rw [z, Int.one_mul]; omega
      have m2 : 0 ≤ zand (zshr (stV (prK K one other (pair / 10) (pair % 10)) S v6) other) 1 * (pair % 10) ∧ zand (zshr (stV (prK K one other (pair / 10) (pair % 10)) S v6) other) 1 * (pair % 10) ≤ 9 := by
        rcases z2 with z | z
        · rw [z, Int.zero_mul]; omega
        · rw [z, Int.one_mul]; omega
      exact ⟨by omega, by omega, by omega, by omega, nx _ _ (by rw [e1, h0]) (by rw [e2, h1])⟩
  refine B_Rents_takeRents_0 hq hF hp ?_
  rw [d0, d1]
  refine ⟨by omega, by omega, by omega, by omega, by omega, by omega, loop (K.1 2).toNat _ 0 none (by omega) (by omega) (by omega) (w101 (w100 (w98 (w98 hF)))) (fun a i n1 n2 n3 n4 => ?_) (fun d x0 x1 => ?_) (fun i hi => ⟨?_, ?_⟩) ?_ ?_⟩
  · rw [rdw_ne (fun z => n4 z.symm), rdw_ne (fun z => n3 z.symm), rdw_ne (fun z => n2 z.symm), rdw_ne (fun z => n2 z.symm)]
  · rw [rdw_ne (by decide), rdw_ne (by decide)]
    show _ = 64 * (if d = one then pair / 10 else if d = other then pair % 10 else K.1 (8 * d + 11)) + 1
    by_cases z1 : d = one
    · rw [if_pos z1, z1, rdw_nei (fun z => ne z.symm), rdw_eq]
    · rw [if_neg z1]
      by_cases z2 : d = other
      · rw [if_pos z2, z2, rdw_eq]
      · rw [if_neg z2, rdw_nei (fun z => z2 z.symm), rdw_nei (fun z => z1 z.symm)]
        exact hw d x0 x1 z1 z2
  · rw [rdw_ne (by decide), rdw_nei (fun z => hi z.symm), rdw_ne (by decide), rdw_ne (by decide)]
  · rw [rdw_nei (fun z => hi z.symm), rdw_ne (by decide), rdw_ne (by decide), rdw_ne (by decide)]
  · rw [rdw_ne (by decide), rdw_eq]
    rfl
  · rw [rdw_eq]
    rfl
/-- places that rests may change in the class -/
def frRe (h g : LH) : Prop := ∀ a i, a ≠ 9 → a ≠ 36 → ¬ (96 ≤ a ∧ a ≤ 101) → rd g a i = rd h a i
theorem F_settleR (he : 5 ≤ e) (hc : CXq h K q L) (hK : KR K) (hl : LWQ h q L) (hp : PLF h K q L) (b1 : 0 ≤ one ∧ one < K.1 1) (b2 : 0 ≤ other ∧ other < K.1 1) (ne : one ≠ other) (s0 : rd h 60 0 = S 0) (s1 : rd h 60 1 = S 1) (s2 : ∀ p, 0 ≤ p → p < K.1 2 → rd h 61 p = S (p + 2)) (hS0 : 0 ≤ S 0 ∧ S 0 ≤ 24) (hS2 : ∀ p, 0 ≤ p → p < K.1 2 → 0 ≤ S (p + 2) ∧ S (p + 2) ≤ 9) (k : ∀ g, RF g → frRe h g → (∀ i, 0 ≤ i → i ≤ 99 → rd g 100 i = rnO K S one other i ∧ rd g 101 i = rnT K S one other i) → Q none g) : Rn xs xl e mm_Rents_settle 0 [some (.inr (.inr 96)), some (.inr (.inr q)), some (.inr (.inr 60)), some (.inl one), some (.inl other), none] [] h Q := by
  obtain ⟨hF, hPT, hq, -, ⟨-, c2, -⟩, -⟩ := id hc
  have k1 := hK.2.1
  have k2 := hK.2.2.1
  have F0 : RF (wr (wr h 96 0 one) 96 1 other) := RF_wn (by decide +kernel) (RF_wn (by decide +kernel) hF)
  have f0 : ∀ a i, a ≠ 96 → rd (wr (wr h 96 0 one) 96 1 other) a i = rd h a i := fun a i n => by rw [rdw_ne (fun z => n z.symm), rdw_ne (fun z => n z.symm)]
  have lfr : ∀ g : LH, (∀ a i, a ≠ 9 → a ≠ 36 → ¬ (96 ≤ a ∧ a ≤ 101) → rd g a i = rd h a i) → RF g → CXq g K q L ∧ LWQ g q L := fun g gf gF => ⟨CXq_fr hc hK gF (fun a i ha => gf a i (by omega) (by omega) (by omega)), LWQ_frs hl (fun a i ha => gf a i (by omega) (by omega) (by omega))⟩
  obtain ⟨C0, L0⟩ := lfr _ (fun a i _ _ n => f0 a i (by omega)) F0
  refine B_Rents_settle_0 hq hF ⟨4, by omega, F_tryPrices (Nat.le_refl 4) C0 hK L0 (by omega) b1.1 b1.2 (fun g gF gf gn gt => ?_)⟩
  have gfE : frRe h g := fun a i n1 n2 n3 => (gf a i (by omega) (by omega)).trans (f0 a i (by omega))
  obtain ⟨C1, L1⟩ := lfr g gfE gF
  have g1 : rd g 96 1 = other := (gf 96 1 (by omega) (by decide)).trans rdw_eq
  have g0 : rd g 96 0 = one := (gf 96 0 (by omega) (by decide)).trans ((rdw_nei (by decide)).trans rdw_eq)
  refine B_Rents_settle_22 hq gF ⟨4, by omega, ?_⟩
  rw [g1]
  refine F_tryPrices (Nat.le_refl 4) C1 hK L1 (by omega) b2.1 b2.2 (fun u uF uf un ut => B_Rents_settle_33 hq uF ?_)
  have ufE : frRe h u := fun a i n1 n2 n3 => (uf a i (by omega) (by omega)).trans (gfE a i n1 n2 n3)
  obtain ⟨C2, L2⟩ := lfr u ufE uF
  have e60 : ∀ i, rd u 60 i = rd h 60 i := fun i => ufE 60 i (by decide) (by decide) (by omega)
  have ef : ∀ d, 0 ≤ d → d ≤ 13 → rd u (q + 7 + d) = rd h (q + 7 + d) := fun d d0 d1 => funext (fun i => ufE _ _ (by omega) (by omega) (by omega))
  have h60 : ∀ i, rd (wr (wr h 96 0 one) 96 1 other) 60 i = rd h 60 i := fun i => f0 60 i (by decide)
  have hf0 : ∀ d, 0 ≤ d → d ≤ 13 → rd (wr (wr h 96 0 one) 96 1 other) (q + 7 + d) = rd h (q + 7 + d) := fun d d0 d1 => funext (fun i => f0 _ _ (by omega))
  have g60 : ∀ i, rd g 60 i = rd h 60 i := fun i => gfE 60 i (by decide) (by decide) (by omega)
  have gf7 : ∀ d, 0 ≤ d → d ≤ 13 → rd g (q + 7 + d) = rd h (q + 7 + d) := fun d d0 d1 => funext (fun i => gfE _ _ (by omega) (by omega) (by omega))
  have rc : RC u K q L S one other := by
    refine ⟨C2, fun one other a b d s room hr sh x1 x2 x3 x4 d0 d1 hs hro hhr => ?_, ⟨(e60 0).trans s0, (e60 1).trans s1, fun p p0 p1 => (ufE 61 p (by decide) (by decide) (by omega)).trans (s2 p p0 p1)⟩, ⟨(uf 96 0 (by omega) (by decide)).trans g0, (uf 96 1 (by omega) (by decide)).trans g1⟩, fun pr s p0 p1 x0 x1 l => ?_, fun pr s p0 p1 x0 x1 l => ?_⟩
    · rw [ef d d0 (by omega)]
      exact hp one other a b d s room hr sh x1 x2 x3 x4 d0 d1 hs hro hhr
    · have := gt pr s p0 p1 x0 x1 l
      rw [h60, h60, s0, s1, hf0 one (by omega) (by omega)] at this
      rw [un _ (by omega), ef one (by omega) (by omega)]
      exact this
    · have := ut pr s p0 p1 x0 x1 l
      rw [g60, g60, s0, s1, gf7 other (by omega) (by omega)] at this
      rw [ef other (by omega) (by omega)]
      exact this
  -- all weights
  have pairs : ∀ (n : Nat) (y : LH) (v5 : Int), 100 - v5 ≤ n → 0 ≤ v5 → v5 ≤ 100 → RF y → (∀ a i, a ≠ 97 → a ≠ 98 → a ≠ 100 → a ≠ 101 → rd y a i = rd u a i) → wgI y K one other → (∀ i, 0 ≤ i → i < v5 → rd y 100 i = rnO K S one other i ∧ rd y 101 i = rnT K S one other i) → Rn xs xl e mm_Rents_settle 76 [some (.inr (.inr 96)), some (.inr (.inr q)), some (.inr (.inr 60)), some (.inl one), some (.inl other), some (.inl v5)] [] y Q := by
    intro n
    have stop : ∀ (y : LH) (v5 : Int), 100 ≤ v5 → RF y → (∀ a i, a ≠ 97 → a ≠ 98 → a ≠ 100 → a ≠ 101 → rd y a i = rd u a i) → (∀ i, 0 ≤ i → i < v5 → rd y 100 i = rnO K S one other i ∧ rd y 101 i = rnT K S one other i) → Q none y := fun y v5 c yF yf yv => k y yF (fun a i n1 n2 n3 => (yf a i (by omega) (by omega) (by omega) (by omega)).trans (ufE a i n1 n2 n3)) (fun i i0 i1 => yv i i0 (by omega))
    induction n with
    | zero =>
      intro y v5 hn a0 a1 yF yf yw yv
      exact B_Rents_settle_76 hq yF (by omega) ⟨fun c => stop y v5 c yF yf yv, fun c => by omega⟩
    | succ n ih =>
      intro y v5 hn a0 a1 yF yf yw yv
      refine B_Rents_settle_76 hq yF (by omega) ⟨fun c => stop y v5 c yF yf yv, fun c => ⟨3, by omega, F_takeRents (Nat.le_refl 3) (RC_fr rc hK yF (by omega) (by omega) yf) hK b1 b2 ne (by omega) hS0 hS2 yw (fun z zF zf zw zn z0 z1 => B_Rents_settle_91 hq zF (by omega) (ih z (v5 + 1) (by omega) (by omega) (by omega) zF (fun a i n1 n2 n3 n4 => (zf a i n1 n2 n3 n4).trans (yf a i n1 n2 n3 n4)) zw (fun i i0 i1 => ?_)))⟩⟩
      by_cases t : i = v5
      · rw [t]
        exact ⟨z0, z1⟩
      · rw [(zn i t).1, (zn i t).2]
        exact yv i i0 (by omega)
  have wts : ∀ (n : Nat) (y : LH) (v5 : Int), K.1 1 - v5 ≤ n → 0 ≤ v5 → v5 ≤ K.1 1 → RF y → (∀ a i, a ≠ 98 → rd y a i = rd u a i) → (∀ d, 0 ≤ d → d < v5 → rd y 98 d = 64 * K.1 (8 * d + 11) + 1) → Rn xs xl e mm_Rents_settle 36 [some (.inr (.inr 96)), some (.inr (.inr q)), some (.inr (.inr 60)), some (.inl one), some (.inl other), some (.inl v5)] [] y Q := by
    intro n
    have cy : ∀ y : LH, RF y → (∀ a i, a ≠ 98 → rd y a i = rd u a i) → CXq y K q L := fun y yF yf => CXq_fr C2 hK yF (fun a i ha => yf a i (by omega))
    have stop : ∀ (y : LH) (v5 : Int), K.1 1 ≤ v5 → v5 ≤ K.1 1 → RF y → (∀ a i, a ≠ 98 → rd y a i = rd u a i) → (∀ d, 0 ≤ d → d < v5 → rd y 98 d = 64 * K.1 (8 * d + 11) + 1) → Rn xs xl e mm_Rents_settle 76 [some (.inr (.inr 96)), some (.inr (.inr q)), some (.inr (.inr 60)), some (.inl one), some (.inl other), some (.inl 0)] [] y Q := fun y v5 c1 c2' yF yf yv => pairs 100 y 0 (by omega) (by omega) (by omega) yF (fun a i _ n2 _ _ => yf a i n2) (fun d d0 d1 _ _ => yv d d0 (by omega)) (fun i i0 i1 => by omega)
    induction n with
    | zero =>
      intro y v5 hn a0 a1 yF yf yv
      have yc := cy y yF yf
      have y2 := yc.2.2.2.2.1.2.1
      exact B_Rents_settle_36 hq yF yc.2.1 (by omega) ⟨fun c => stop y v5 (by omega) a1 yF yf yv, fun c => by omega⟩
    | succ n ih =>
      intro y v5 hn a0 a1 yF yf yv
      have yc := cy y yF yf
      have y2 := yc.2.2.2.2.1.2.1
      refine B_Rents_settle_36 hq yF yc.2.1 (by omega) ⟨fun c => stop y v5 (by omega) a1 yF yf yv, fun c => ?_⟩
      have d1 : v5 < K.1 1 := by omega
      obtain ⟨-, -, -, -, f8⟩ := CXq_d yc a0 d1
      have r8 := (hK.2.2.2.1 v5 a0 d1).2.2.2.2
      rw [f8]
      refine ⟨by omega, by omega, by omega, by omega, ih _ (v5 + 1) (by omega) (by omega) (by omega) (w98 yF) (fun a i n => (rdw_ne (fun z => n z.symm)).trans (yf a i n)) (fun d x0 x1 => ?_)⟩
      by_cases t : d = v5
      · rw [t, rdw_eq]
      · rw [rdw_nei (fun z => t z.symm)]
        exact yv d x0 (by omega)
  exact wts (K.1 1).toNat u 0 (by omega) (by omega) (by omega) uF (fun _ _ _ => rfl) (fun d d0 d1 => by omega)
theorem F_isRest (hF : RF h) (hp : 0 ≤ pair ∧ pair ≤ 99) (k1 : isRst (rd h 100) (rd h 101) pair → Q (some (.inl 1)) h) (k0 : ¬ isRst (rd h 100) (rd h 101) pair → Q (some (.inl 0)) h) : Rn xs xl e mm_Rents_isRest 0 [some (.inr (.inr 96)), some (.inl pair), none] [] h Q := by
  have loop : ∀ (n : Nat) (v2 : Int), 10 - v2 ≤ n → 0 ≤ v2 → v2 ≤ 10 → (∀ y, 0 ≤ y → y < v2 → rd h 100 (10 * y + pair % 10) ≤ rd h 100 pair ∧ rd h 101 (10 * (pair / 10) + y) ≤ rd h 101 pair) → Rn xs xl e mm_Rents_isRest 2 [some (.inr (.inr 96)), some (.inl pair), some (.inl v2)] [] h Q := by
    intro n
    induction n with
    | zero =>
      intro v2 hn a0 a1 ha
      exact B_Rents_isRest_2 hF hp (by omega) ⟨fun _ => k1 (fun y y0 y1 => ha y y0 (by omega)), fun c => by omega⟩
    | succ n ih =>
      intro v2 hn a0 a1 ha
      refine B_Rents_isRest_2 hF hp (by omega) ⟨fun _ => k1 (fun y y0 y1 => ha y y0 (by omega)), fun c => ⟨by omega, by omega, fun z => ⟨by omega, by omega, by omega, fun t => ih (v2 + 1) (by omega) (by omega) (by omega) (fun y y0 y1 => ?_), fun t => k0 (fun f => ?_)⟩, fun z => k0 (fun f => ?_)⟩⟩
      · by_cases s : y = v2
        · rw [s]; exact ⟨z, t⟩
        · exact ha y y0 (by omega)
      · have := (f v2 a0 (by omega)).2
        omega
      · have := (f v2 a0 (by omega)).1
        omega
  exact B_Rents_isRest_0 hF hp (loop 10 0 (by omega) (by omega) (by omega) (fun y y0 y1 => by omega))
theorem cnP_s {P : Int → Prop} (k0 : 0 ≤ a) : cnP P (a + 1).toNat = cnP P a.toNat + @ite Int (P a) (Classical.propDecidable _) 1 0 := by
  rw [show (a + 1).toNat = a.toNat + 1 by omega]
  show cnP P a.toNat + @ite Int (P (a.toNat : Int)) (Classical.propDecidable _) 1 0 = _
  rw [Int.toNat_of_nonneg k0]
theorem F_restCount (he : 1 ≤ e) (hF : RF h) (k : Q (some (.inl (cnP (isRst (rd h 100) (rd h 101)) 100))) h) : Rn xs xl e mm_Rents_restCount 0 [some (.inr (.inr 96)), none, none] [] h Q := by
  have loop : ∀ (n : Nat) (v2 : Int), 100 - v2 ≤ n → 0 ≤ v2 → v2 ≤ 100 → Rn xs xl e mm_Rents_restCount 4 [some (.inr (.inr 96)), some (.inl (cnP (isRst (rd h 100) (rd h 101)) v2.toNat)), some (.inl v2)] [] h Q := by
    intro n
    induction n with
    | zero =>
      intro v2 hn a0 a1
      exact B_Rents_restCount_4 hF (by omega) ⟨fun _ => by rw [show v2.toNat = 100 by omega]; exact k, fun c => by omega⟩
    | succ n ih =>
      intro v2 hn a0 a1
      have ci := cnP_in (isRst (rd h 100) (rd h 101)) v2.toNat
      refine B_Rents_restCount_4 hF (by omega) ⟨fun _ => by rw [show v2.toNat = 100 by omega]; exact k, fun c => ⟨0, by omega, F_isRest hF (by omega) (fun y => ?_) (fun y => ?_)⟩⟩
      · have nx := ih (v2 + 1) (by omega) (by omega) (by omega)
        rw [cnP_s a0, if_pos y] at nx
        exact B_Rents_restCount_16 hF (by omega) ⟨fun z => absurd z (by decide), fun _ => ⟨by omega, nx⟩⟩
      · have nx := ih (v2 + 1) (by omega) (by omega) (by omega)
        rw [cnP_s a0, if_neg y, Int.add_zero] at nx
        exact B_Rents_restCount_16 hF (by omega) ⟨fun _ => ⟨by omega, nx⟩, fun z => absurd rfl z⟩
  exact B_Rents_restCount_0 hF (loop 100 0 (by omega) (by omega) (by omega))
theorem F_restAt (he : 1 ≤ e) (hF : RF h) (w0 : 0 ≤ w) (w1 : w ≤ 2147483647) (k : ∀ r, rsA (rd h 100) (rd h 101) w r → Q (some (.inl r)) h) : Rn xs xl e mm_Rents_restAt 0 [some (.inr (.inr 96)), some (.inl w), none, none] [] h Q := by
  have loop : ∀ (n : Nat) (v3 l : Int), 100 - v3 ≤ n → 0 ≤ v3 → v3 ≤ 100 → 0 ≤ l → l = w - cnP (isRst (rd h 100) (rd h 101)) v3.toNat → Rn xs xl e mm_Rents_restAt 4 [some (.inr (.inr 96)), some (.inl w), some (.inl l), some (.inl v3)] [] h Q := by
    intro n
    have stop : ∀ v3 l : Int, 100 ≤ v3 → v3 ≤ 100 → 0 ≤ l → l = w - cnP (isRst (rd h 100) (rd h 101)) v3.toNat → Q (some (.inl (-1))) h := fun v3 l a b l0 el => k (-1) (Or.inr ⟨w0, Or.inr ⟨by rw [show v3.toNat = 100 by omega] at el; omega, rfl⟩⟩)
    induction n with
    | zero =>
      intro v3 l hn a0 a1 l0 el
      exact B_Rents_restAt_4 hF (by omega) ⟨fun c => stop v3 l c a1 l0 el, fun c => by omega⟩
    | succ n ih =>
      intro v3 l hn a0 a1 l0 el
      have ci := cnP_in (isRst (rd h 100) (rd h 101)) v3.toNat
      refine B_Rents_restAt_4 hF (by omega) ⟨fun c => stop v3 l c a1 l0 el, fun c => ⟨0, by omega, F_isRest hF (by omega) (fun y => ?_) (fun y => ?_)⟩⟩
      · refine B_Rents_restAt_15 hF (by omega) ⟨fun z => absurd z (by decide), fun _ => ⟨fun z => ⟨by omega, ih (v3 + 1) (l - 1) (by omega) (by omega) (by omega) (by omega) ?_⟩, fun z => k v3 (Or.inr ⟨w0, Or.inl ⟨v3.toNat, by omega, ?_, by omega, ?_⟩⟩)⟩⟩
        · rw [cnP_s a0, if_pos y]
          omega
        · rw [Int.toNat_of_nonneg a0]
          exact y
        · rw [Int.toNat_of_nonneg a0]
      · refine B_Rents_restAt_15 hF (by omega) ⟨fun _ => ih (v3 + 1) l (by omega) (by omega) (by omega) l0 ?_, fun z => absurd rfl z⟩
        rw [cnP_s a0, if_neg y, Int.add_zero]
        exact el
  exact B_Rents_restAt_0 hF (loop 100 0 w (by omega) (by omega) (by omega) w0 (by rw [show (0 : Int).toNat = 0 from rfl]; show w = w - 0; omega))
def resC (h : LH) (one other w : Int) : Prop := (0 ≤ one ∧ one < rd h 188 1) ∧ (0 ≤ other ∧ other < rd h 188 1) ∧ one ≠ other ∧ rd h 188 (8 * one + 4) = 2 ∧ rd h 188 (8 * other + 4) = 2 ∧ -1 ≤ w
def resJ (one other w : Int) (h g : LH) (r : Int) : Prop := frRe h g ∧ ((¬ resC h one other w ∧ r = -1) ∨ (resC h one other w ∧ rsA (rnO (key h) (rd h 198) one other) (rnT (key h) (rd h 198) one other) w r))
theorem E_restsS (he : 8 ≤ e) (hI : INV h) (hE : EQL h) (h1 : i32 v1) (h2 : i32 v2) (h3 : i32 v3) (k : ∀ r g, INV g → resJ v1 v2 v3 h g r → Q (some (.inl r)) g) : Rn xs xl e mm_OneSided_rests 0 [some (.inr (.inr 1)), some (.inl v1), some (.inl v2), some (.inl v3)] [] h Q := by
  obtain ⟨L, hc, hl, hp⟩ := CXq_ofP hI hE
  have hK := KR_of hI
  have hq : rd h 1 1 = 5 ∨ rd h 1 1 = 32 := rQf hI.1
  obtain ⟨hF, hPT, -, -, ⟨-, c2, -⟩, -⟩ := id hc
  have c2' : rd h (rd h 1 1) 2 = rd h 188 1 := c2
  have n1 := rq_doors hI.1
  have n2 := rq_people hI.1
  have k1 := hE.2.2.2.2.2.2.2.1
  have k5 := hE.2.2.2.2.2.2.2.2.2.2.2.1
  have vt := VT_of hI k5
  have s60 := SCT_60 k5
  have A : Rn xs xl e mm_OneSided_rests 0 [some (.inr (.inr 1)), some (.inl v1), some (.inl v2), some (.inl v3)] [] h (fun r g => ∃ x, r = some (.inl x) ∧ resJ v1 v2 v3 h g x) := by
    have no : ¬ resC h v1 v2 v3 → ∃ x, (some (.inl (-1)) : Option LV) = some (.inl x) ∧ resJ v1 v2 v3 h h x := fun z => ⟨-1, rfl, fun _ _ _ _ _ => rfl, Or.inl ⟨z, rfl⟩⟩
    have fk : ∀ v : Int, 0 ≤ v → v < rd h 188 1 → rd h (rd h 1 1 + 7 + v) 1 = rd h 188 (8 * v + 4) := fun v z0 z1 => by
      have := fdD (v1 := v) k1 rfl z0 z1 0 (by decide)
      rw [show 8 * v + 4 + ((0 : Nat) : Int) = 8 * v + 4 by omega] at this
      exact this
    refine B_OneSided_rests_0 hq rfl hF hPT (by omega) ⟨fun c => no (fun z => by have := z.1; omega), fun a1 => ⟨fun c => no (fun z => by have := z.1; omega), fun a2 => ⟨by omega, fun c => no (fun z => c (by rw [fk v1 a1 (by omega)]; exact z.2.2.2.1)), fun a3 => ⟨fun c => no (fun z => by have := z.2.1; omega), fun a4 => ⟨fun c => no (fun z => by have := z.2.1; omega), fun a5 => ⟨by omega, fun c => no (fun z => c (by rw [fk v2 a4 (by omega)]; exact z.2.2.2.2.1)), fun a6 => ⟨fun c => no (fun z => z.2.2.1 c), fun a7 => ⟨fun a8 => ⟨5, by omega, ?_⟩, fun c => no (fun z => by have := z.2.2.2.2.2; omega)⟩⟩⟩⟩⟩⟩⟩⟩
    have yc : resC h v1 v2 v3 := ⟨⟨a1, by omega⟩, ⟨a4, by omega⟩, a7, by rw [← fk v1 a1 (by omega)]; exact a3, by rw [← fk v2 a4 (by omega)]; exact a6, a8⟩
    refine F_settleR (S := rd h 198) (Nat.le_refl 5) hc hK hl hp yc.1 yc.2.1 a7 s60.1 s60.2.1 (fun p p0 p1 => (s60.2.2.1 p p0 p1).1) vt.1 (fun p p0 p1 => ?_) (fun g gF gf gv => ?_)
    · have := (vt.2.1 p p0 p1).1
      have k0 := hK.1
      omega
    · have fin : ∀ r, rsA (rd g 100) (rd g 101) v3 r → ∃ x, (some (.inl r) : Option LV) = some (.inl x) ∧ resJ v1 v2 v3 h g x := fun r hr => ⟨r, rfl, gf, Or.inr ⟨yc, rsA_congr (fun i i0 i1 => (gv i i0 i1).1) (fun i i0 i1 => (gv i i0 i1).2) hr⟩⟩
      exact B_OneSided_rests_48 gF ⟨fun c => ⟨1, by omega, F_restAt (Nat.le_refl 1) gF (by omega) h3.2 (fun r hr => B_OneSided_rests_71 gF (fin r hr))⟩, fun c => ⟨1, by omega, F_restCount (Nat.le_refl 1) gF (B_OneSided_rests_60 gF (fin _ (Or.inl ⟨c, rfl⟩)))⟩⟩
  have B : Rn xs xl e mm_OneSided_rests 0 [some (.inr (.inr 1)), some (.inl v1), some (.inl v2), some (.inl v3)] [] h (fun r g => INV g) := use_sm TC_rests (as := [.inr (.inr 1), .inl v1, .inl v2, .inl v3]) rfl (Nat.le_trans (Nat.le_of_ble_eq_true rfl) he) hI (gAr_c (g_ref 1) (gAr_c (g_i h1) (gAr_c (g_i h2) (gAr_c (g_i h3) gAr_n)))) rfl (Nat.le_of_ble_eq_true rfl) rfl (fun r g gI gf gq => gI)
  refine (A.and B).mono (fun r g z => ?_)
  obtain ⟨⟨x, rfl, a⟩, b⟩ := z
  exact k x g b a
end KF
end
section
/-! rests, part k7: the reference's goesBy, with what it answers; its rests -/
section KG
variable {xs : Nat → Int} {xl e : Nat} {h : LH} {Q : Option LV → LH → Prop} {K : KEY} {S : Int → Int} {p : Int}
set_option maxHeartbeats 2000000 in
theorem G_goesByX (he : 5 ≤ e) (w : WC K S h) (hp : 0 ≤ p ∧ p ≤ 5) (k : ∀ r h', WC K S h' → frC h h' → gbW (fun r d => NW K (S (0 + 1)) (K.1 (4 * p + 116)) d r (S 0)) (PRK K) (K.1 (4 * p + 118)) (K.1 0) (K.1 1) 100 (S (p + 2)) r → Q (some (.inl r)) h') : Rn xs xl e mm_goesBy 0 [some (.inr (.inr 182)), some (.inl p), none, none, none, none, none, none] [] h Q := by
  have kb := KB_of w hp
  have kd := kb.1
  have kr := kb.2.1
  have ks := kb.2.2.1
  have ke := kb.2.2.2.2.1
  have s0 : 0 ≤ S 0 ∧ S 0 ≤ 24 := by
    have a := rs_now w.1.1 (i := 0) 0 0 (by omega) (by omega) (by omega) (by omega) (by omega) (by omega)
    rw [w.2.2] at a
    exact a
  have sw : 0 ≤ S (p + 2) ∧ S (p + 2) ≤ 9 := by
    have a := rs_where w.1.1 (i := p + 2) 0 p (by omega) (by omega) (by omega) (by omega) (by omega) (by omega)
    rw [w.2.2] at a
    exact a
  have hpr : ∀ d, 0 ≤ d → d < K.1 1 → 0 ≤ PRK K d ∧ PRK K d ≤ 9 := fun d d0 d1 => PRK_ok w ⟨d0, by omega⟩
  generalize hN : (fun r d => NW K (S (0 + 1)) (K.1 (4 * p + 116)) d r (S 0)) = N
  have eN : ∀ r d, NW K (S (0 + 1)) (K.1 (4 * p + 116)) d r (S 0) = N r d := fun r d => by rw [← hN]
  have eW : ∀ d, (wtS (PRK K) 100) d = 100 * PRK K d + 1 := fun d => rfl
  have nb : ∀ r d, 0 ≤ r → r ≤ 9 → 0 ≤ d → d < K.1 1 → -1 ≤ N r d ∧ N r d ≤ 9 := fun r d r0 r1 d0 d1 => by
    rw [← eN]
    exact (NW_ok K (S (0 + 1)) (s := K.1 (4 * p + 116)) (d := d) (room := r) (hr := S 0) (by omega) ks (by omega) (by omega)).1
  have hw1 : ∀ d, 0 ≤ d → d < K.1 1 → 1 ≤ (wtS (PRK K) 100) d := fun d d0 d1 => by
    have := hpr d d0 d1
    rw [eW]
    omega
  -- what the row of costs says
  let CI : LH → Prop := fun g => ∀ r, 0 ≤ r → r ≤ 9 → (0 ≤ rd g 210 r ∧ rd g 210 r ≤ 1000000) ∧ (rd g 210 r = 1000000 ∨ Walk N (wtS (PRK K) 100) (K.1 (4 * p + 118)) (K.1 0) (K.1 1) r (rd g 210 r))
  let LVL : Nat → LH → Prop := fun n g => ∀ r m, 0 ≤ r → r ≤ 9 → Dm N (wtS (PRK K) 100) (K.1 (4 * p + 118)) (K.1 0) (K.1 1) r m → rk N (wtS (PRK K) 100) (K.1 (4 * p + 118)) (K.1 0) (K.1 1) r ≤ n → rd g 210 r ≤ m
  have N9 : ∀ r d, 0 ≤ r → r ≤ 9 → 0 ≤ d → d < K.1 1 → N r d ≤ 9 := fun r d r0 r1 d0 d1 => (nb r d r0 r1 d0 d1).2
  -- the way itself
  have t187 : ∀ (n : Nat) (g : LH) (set room a : Int) (o5 o6 o7 : Option LV), WC K S g → frC h g → cbS N (PRK K) (K.1 (4 * p + 118)) (K.1 0) (K.1 1) 100 (rd g 210) → DmS N (PRK K) (K.1 (4 * p + 118)) (K.1 0) (K.1 1) 100 room (100 * a + n) → 0 ≤ a → n ≤ 9 → 0 ≤ room → room ≤ 9 → (∀ r, gwW N (PRK K) (K.1 (4 * p + 118)) (K.1 0) (K.1 1) 100 n room set r → ∀ h', WC K S h' → frC h h' → Q (some (.inl r)) h') → Rn xs xl e mm_goesBy 187 [some (.inr (.inr 182)), some (.inl p), some (.inl (K.1 (4 * p + 116))), some (.inl set), some (.inl room), o5, o6, o7] [] g Q := by
    intro n
    induction n with
    | zero =>
      intro g set room a o5 o6 o7 gw gf gs hm aa nn r0 r1 kk
      obtain ⟨a', n', -, e1, a0, a9, n0, n9⟩ := DmS_9 (by decide) hpr N9 r0 r1 hm
      have eb := cbS_D gs r0 r1 hm
      exact B_goesBy_187 (RF_of gw.1.1) hp ks ⟨r0, r1⟩ ⟨fun _ => kk set rfl g gw gf, fun c => by omega⟩
    | succ n ih =>
      intro g set room a o5 o6 o7 gw gf gs hm aa nn r0 r1 kk
      obtain ⟨eb, lb⟩ := cbS_D gs r0 r1 hm
      have m1 := (hm.1.nn hw1).1
      have mz := (hm.1.nn hw1).2
      obtain ⟨a', n', w', e1', a0', a9', n0', n9'⟩ := DmS_9 (by decide) hpr N9 r0 r1 hm
      have re : room ≠ K.1 (4 * p + 118) := fun z => by
        have d0 : DmS N (PRK K) (K.1 (4 * p + 118)) (K.1 0) (K.1 1) 100 room 0 := ⟨by rw [z]; exact Walk.nil, fun x hx => (hx.nn hw1).1⟩
        have := Dm_u hm d0
        omega
      obtain ⟨D, ⟨D0, D1⟩, DO⟩ := okW_step (c := 100) (by decide) hpr re hm
      have okI : ∀ d, 0 ≤ d → d < K.1 1 → (okW N (PRK K) (K.1 (4 * p + 118)) (K.1 0) (K.1 1) 100 room d ↔ 0 ≤ N room d ∧ rd g 210 (N room d) + (wtS (PRK K) 100) d = rd g 210 room) := fun d d0 d1 => by
        constructor
        · rintro ⟨x0, m', x1, x2⟩
          have y1 := cbS_D gs x0 (N9 room d r0 r1 d0 d1) x1
          have y2 := cbS_D gs r0 r1 x2
          exact ⟨x0, by rw [y1.1, y2.1]⟩
        · rintro ⟨x0, x1⟩
          have hwd := hw1 d d0 d1
          rcases gs (N room d) x0 (N9 room d r0 r1 d0 d1) with ⟨y, _⟩ | ⟨y, z⟩
          · omega
          · exact ⟨x0, _, z, by rw [x1, eb]; exact hm⟩
      -- the next room is known
      have fnd : ∀ (u : LH) (d v6 : Int) (o7 : Option LV), WC K S u → frC h u → (∀ i, rd u 210 i = rd g 210 i) → 0 ≤ d → d < K.1 1 → okW N (PRK K) (K.1 (4 * p + 118)) (K.1 0) (K.1 1) 100 room d → (∀ d', 0 ≤ d' → d' < d → ¬ okW N (PRK K) (K.1 (4 * p + 118)) (K.1 0) (K.1 1) 100 room d') → 0 ≤ v6 → v6 ≤ 14 → Rn xs xl e mm_goesBy 216 [some (.inr (.inr 182)), some (.inl p), some (.inl (K.1 (4 * p + 116))), some (.inl (zor set (zshl 1 d))), some (.inl room), some (.inl (N room d)), some (.inl v6), o7] [] u Q := by
        intro u d v6 o7 uw uf ue d0 d1 ok no v0 v1
        have o0 := ok.1
        have n9 := N9 room d r0 r1 d0 d1
        obtain ⟨m', x1, x2⟩ := ok.2
        have y1 := cbS_D gs o0 n9 x1
        have y2 := cbS_D gs r0 r1 x2
        have hpd := hpr d d0 d1
        have hwd := eW d
        have us : cbS N (PRK K) (K.1 (4 * p + 118)) (K.1 0) (K.1 1) 100 (rd u 210) := by rw [show rd u 210 = rd g 210 from funext ue]; exact gs
        have go : ∀ (o5 o6 o7 : Option LV), Rn xs xl e mm_goesBy 187 [some (.inr (.inr 182)), some (.inl p), some (.inl (K.1 (4 * p + 116))), some (.inl (zor set (zshl 1 d))), some (.inl (N room d)), o5, o6, o7] [] u Q := fun o5 o6 o7 => by
          have em : m' = 100 * (a - PRK K d) + (n : Int) := by omega
          obtain ⟨a3, n3, -, e3, a30, -, n30, n39⟩ := DmS_9 (by decide) hpr N9 o0 n9 x1
          refine ih u _ (N room d) (a - PRK K d) o5 o6 o7 uw uf us ?_ (by omega) (by omega) o0 n9 (fun r hr => kk r ⟨d, ⟨⟨d0, d1⟩, ok, no⟩, hr⟩)
          rw [← em]
          exact x1
        exact B_goesBy_216 (RF_of uw.1.1) hp ks ⟨r0, r1⟩ ⟨v0, v1⟩ (by omega) ⟨fun _ => go _ _ _, fun _ => ⟨fun _ => go _ _ _, fun c => by omega⟩⟩
      have l216 : ∀ (m : Nat) (u : LH) (d : Int) (o7 : Option LV), D + 1 - d ≤ m → 0 ≤ d → d ≤ D → WC K S u → frC h u → (∀ i, rd u 210 i = rd g 210 i) → (∀ d', 0 ≤ d' → d' < d → ¬ okW N (PRK K) (K.1 (4 * p + 118)) (K.1 0) (K.1 1) 100 room d') → Rn xs xl e mm_goesBy 216 [some (.inr (.inr 182)), some (.inl p), some (.inl (K.1 (4 * p + 116))), some (.inl set), some (.inl room), some (.inl (-1)), some (.inl d), o7] [] u Q := by
        intro m
        induction m with
        | zero => intro u d o7 hm' a0 a1 uw uf ue no; omega
        | succ m im =>
          intro u d o7 hm' d0' d1' uw uf ue no
          have e1 : rd u 188 1 = K.1 1 := by rw [← uw.2.1]; rfl
          have es : rd u 198 0 = S 0 := by rw [uw.2.2]
          refine B_goesBy_216 (RF_of uw.1.1) hp ks ⟨r0, r1⟩ (by omega) (by omega) ⟨fun c3 => by omega, fun c3 => ⟨fun c4 => absurd c4 (by decide), fun c4 => ⟨4, by omega, ?_⟩⟩⟩
          rw [es]
          refine D_leadsNow (by omega) uw (by omega) (by omega) ks ⟨r0, r1⟩ (by omega) (fun u' uw' uf' => ?_)
          rw [eN]
          have nbd := nb room d r0 r1 d0' (by omega)
          have ue' : ∀ i, rd u' 210 i = rd g 210 i := fun i => (uf' 210 i (by decide) (by decide)).trans (ue i)
          have uff : frC h u' := fun a i n1 n2 n3 => (uf' a i n1 n2).trans (uf a i n1 n2 n3)
          obtain ⟨y1, y2, y3, y4⟩ : rd u' 182 28 = K.2.2.2.1 ∧ rd u' 182 29 = K.2.2.2.2.1 ∧ rd u' 182 30 = K.2.2.2.2.2.1 ∧ rd u' 182 31 = K.2.2.2.2.2.2 := by rw [← uw'.2.1]; exact ⟨rfl, rfl, rfl, rfl⟩
          have y5 : rd u' 188 (8 * d + 11) = K.1 (8 * d + 11) := by rw [← uw'.2.1]; rfl
          have hprd := hpr d d0' (by omega)
          have hwd := eW d
          have oki := okI d d0' (by omega)
          have more : ¬ okW N (PRK K) (K.1 (4 * p + 118)) (K.1 0) (K.1 1) 100 room d → ∀ o7, Rn xs xl e mm_goesBy 216 [some (.inr (.inr 182)), some (.inl p), some (.inl (K.1 (4 * p + 116))), some (.inl set), some (.inl room), some (.inl (-1)), some (.inl (d + 1)), o7] [] u' Q := fun y o7 => by
            have ne : d ≠ D := fun z => y (by rw [z]; exact DO)
            exact im u' (d + 1) o7 (by omega) (by omega) (by omega) uw' uff ue' (fun d' x0 x1 => by
              by_cases z : d' = d
              · rw [z]; exact y
              · exact no d' x0 (by omega))
          -- this door is on the way, or not
          have go : ∀ P : Int, P = PRK K d → 0 ≤ N room d → (-2147483648 ≤ 100 * P ∧ 100 * P ≤ 2147483647) ∧ (-2147483648 ≤ rd u' 210 (N room d) + 100 * P ∧ rd u' 210 (N room d) + 100 * P ≤ 2147483647) ∧ (-2147483648 ≤ rd u' 210 (N room d) + 100 * P + 1 ∧ rd u' 210 (N room d) + 100 * P + 1 ≤ 2147483647) ∧ ((rd u' 210 (N room d) + 100 * P + 1) ≠ rd u' 210 room → Rn xs xl e mm_goesBy 216 [some (.inr (.inr 182)), some (.inl p), some (.inl (K.1 (4 * p + 116))), some (.inl set), some (.inl room), some (.inl (-1)), some (.inl (d + 1)), some (.inl (N room d))] [] u' Q) ∧ ((rd u' 210 (N room d) + 100 * P + 1) = rd u' 210 room → Rn xs xl e mm_goesBy 216 [some (.inr (.inr 182)), some (.inl p), some (.inl (K.1 (4 * p + 116))), some (.inl (zor set (zshl 1 d))), some (.inl room), some (.inl (N room d)), some (.inl (d + 1)), some (.inl (N room d))] [] u' Q) := by
            intro P hP n0
            have e2 := ue' (N room d)
            have e3 := ue' room
            have gt : 0 ≤ rd g 210 (N room d) ∧ rd g 210 (N room d) ≤ 1000000 := by
              rcases gs (N room d) n0 nbd.2 with ⟨y, _⟩ | ⟨y, z⟩
              · omega
              · have := (z.1.nn hw1).1
                omega
            have q1 : (-2147483648 ≤ 100 * P ∧ 100 * P ≤ 2147483647) := by omega
            have q2 : (-2147483648 ≤ rd u' 210 (N room d) + 100 * P ∧ rd u' 210 (N room d) + 100 * P ≤ 2147483647) := by omega
            have q3 : (-2147483648 ≤ rd u' 210 (N room d) + 100 * P + 1 ∧ rd u' 210 (N room d) + 100 * P + 1 ≤ 2147483647) := by omega
            refine ⟨q1, q2, q3, fun ne => more (fun ok => ?_) _, fun eq => ?_⟩
            · have := (oki.mp ok).2
              omega
            · exact fnd u' d (d + 1) _ uw' uff ue' d0' (by omega) (oki.mpr ⟨n0, by omega⟩) no (by omega) (by omega)
          refine B_goesBy_246 (RF_of uw'.1.1) hp ks ⟨r0, r1⟩ (by omega) (by omega) (by omega) ⟨fun c5 => more (fun ok => ?_) _, fun c5 => ⟨by omega, fun c6 => ⟨fun c7 => go _ ?_ c5, fun c7 => go _ ?_ c5⟩, fun c6 => go _ ?_ c5⟩⟩
          · have := ok.1
            omega
          · unfold PRK
            rw [if_neg (by rw [← y1]; exact c6), if_neg (by rw [← y2]; exact c7)]
            exact y5
          · unfold PRK
            rw [if_neg (by rw [← y1]; exact c6), if_pos (by rw [← y2]; exact c7)]
            exact y4
          · unfold PRK
            rw [if_pos (by rw [← y1]; exact c6)]
            exact y3
      exact B_goesBy_187 (RF_of gw.1.1) hp ks ⟨r0, r1⟩ ⟨fun c => by omega, fun c => ⟨fun c2 => by omega, fun c2 => l216 (D + 1).toNat g 0 _ (by omega) (by omega) D0 gw gf (fun _ => rfl) (fun d' x0 x1 => by omega)⟩⟩
  -- the rounds
  have rounds : ∀ (n : Nat) (g : LH) (rd' : Int) (o4 o5 o6 o7 : Option LV), 10 - rd' ≤ n → 0 ≤ rd' → rd' ≤ 10 → WC K S g → frC h g → CI g → LVL rd'.toNat g → Rn xs xl e mm_goesBy 46 [some (.inr (.inr 182)), some (.inl p), some (.inl (K.1 (4 * p + 116))), some (.inl rd'), o4, o5, o6, o7] [] g Q := by
    have stop : ∀ (g : LH) (o5 o6 o7 : Option LV), WC K S g → frC h g → CI g → LVL 9 g → Rn xs xl e mm_goesBy 187 [some (.inr (.inr 182)), some (.inl p), some (.inl (K.1 (4 * p + 116))), some (.inl 0), some (.inl (rd g 198 (p + 2))), o5, o6, o7] [] g Q := by
      intro g o5 o6 o7 gw gf gc gl
      have e2 : rd g 198 (p + 2) = S (p + 2) := by rw [gw.2.2]
      rw [e2]
      have gs : cbS N (PRK K) (K.1 (4 * p + 118)) (K.1 0) (K.1 1) 100 (rd g 210) := cb_done (c := 100) ⟨by decide, by decide⟩ hpr N9 gc gl
      rcases gs (S (p + 2)) sw.1 sw.2 with ⟨y, z⟩ | ⟨y, z⟩
      · exact B_goesBy_187 (RF_of gw.1.1) hp ks sw ⟨fun c => by omega, fun c => ⟨fun c2 => k 0 g gw gf (by rw [hN]; exact Or.inl ⟨z, rfl⟩), fun c2 => by omega⟩⟩
      · obtain ⟨a, n, -, e1, a0, a9, n0, n9⟩ := DmS_9 (by decide) hpr N9 sw.1 sw.2 z
        have en : ((n.toNat : Nat) : Int) = n := Int.toNat_of_nonneg n0
        have z' : DmS N (PRK K) (K.1 (4 * p + 118)) (K.1 0) (K.1 1) 100 (S (p + 2)) (100 * a + ((n.toNat : Nat) : Int)) := by
          rw [en, ← e1]
          exact z
        exact t187 n.toNat g 0 (S (p + 2)) a _ _ _ gw gf gs z' (by omega) (by omega) sw.1 sw.2 (fun r hr h' hw' hf' => k r h' hw' hf' (by rw [hN]; exact Or.inr ⟨a, n.toNat, z', by omega, hr⟩))
    intro n
    induction n with
    | zero =>
      intro g rd' o4 o5 o6 o7 hn x0 x1 gw gf gc gl
      exact B_goesBy_46 (RF_of gw.1.1) hp ks (by omega) ⟨fun _ => stop g _ _ _ gw gf gc (fun r m y0 y1 y2 y3 => gl r m y0 y1 y2 (by omega)), fun c => by omega⟩
    | succ n ih =>
      intro g rd' o4 o5 o6 o7 hn x0 x1 gw gf gc gl
      refine B_goesBy_46 (RF_of gw.1.1) hp ks (by omega) ⟨fun _ => stop g _ _ _ gw gf gc (fun r m y0 y1 y2 y3 => gl r m y0 y1 y2 (by omega)), fun c => ?_⟩
      -- the rooms of a round
      have rows : ∀ (m : Nat) (u : LH) (r : Int) (o5 o6 o7 : Option LV), 10 - r ≤ m → 0 ≤ r → r ≤ 10 → WC K S u → frC h u → CI u → LVL rd'.toNat u → (∀ x y, 0 ≤ x → x < r → x ≤ 9 → Dm N (wtS (PRK K) 100) (K.1 (4 * p + 118)) (K.1 0) (K.1 1) x y → rk N (wtS (PRK K) 100) (K.1 (4 * p + 118)) (K.1 0) (K.1 1) x ≤ rd'.toNat + 1 → rd u 210 x ≤ y) → Rn xs xl e mm_goesBy 55 [some (.inr (.inr 182)), some (.inl p), some (.inl (K.1 (4 * p + 116))), some (.inl rd'), some (.inl r), o5, o6, o7] [] u Q := by
        have next : ∀ (u : LH) (r : Int) (o5 o6 o7 : Option LV), K.1 0 ≤ r → WC K S u → frC h u → CI u → LVL rd'.toNat u → (∀ x y, 0 ≤ x → x < r → x ≤ 9 → Dm N (wtS (PRK K) 100) (K.1 (4 * p + 118)) (K.1 0) (K.1 1) x y → rk N (wtS (PRK K) 100) (K.1 (4 * p + 118)) (K.1 0) (K.1 1) x ≤ rd'.toNat + 1 → rd u 210 x ≤ y) → Rn xs xl e mm_goesBy 46 [some (.inr (.inr 182)), some (.inl p), some (.inl (K.1 (4 * p + 116))), some (.inl (rd' + 1)), some (.inl r), o5, o6, o7] [] u Q := by
          intro u r o5 o6 o7 hr uw uf uc ul ur
          refine ih u (rd' + 1) _ _ _ _ (by omega) (by omega) (by omega) uw uf uc (fun x y x0' x1' hd hk => ?_)
          rw [show (rd' + 1).toNat = rd'.toNat + 1 by omega] at hk
          by_cases hx : x < r
          · exact ur x y x0' hx x1' hd hk
          · -- beyond the rooms there is the goal alone
            rcases hd.1.inv with q | ⟨d, c', h0, h1, _⟩
            · have hz : Dm N (wtS (PRK K) 100) (K.1 (4 * p + 118)) (K.1 0) (K.1 1) x y := hd
              have rk0 : rk N (wtS (PRK K) 100) (K.1 (4 * p + 118)) (K.1 0) (K.1 1) x ≤ rd'.toNat := by
                have := rk_goal hw1 hd q.1
                omega
              exact ul x y x0' x1' hz rk0
            · omega
        intro m
        induction m with
        | zero =>
          intro u r o5 o6 o7 hm r0 r1 uw uf uc ul ur
          have er : rd u 188 0 = K.1 0 := by rw [← uw.2.1]; rfl
          exact B_goesBy_55 (RF_of uw.1.1) hp ks (by omega) ⟨r0, r1⟩ (by omega) ⟨fun c2 => next u r _ _ _ (by omega) uw uf uc ul ur, fun c2 => by omega⟩
        | succ m im =>
          intro u r o5 o6 o7 hm r0 r1 uw uf uc ul ur
          have er : rd u 188 0 = K.1 0 := by rw [← uw.2.1]; rfl
          refine B_goesBy_55 (RF_of uw.1.1) hp ks (by omega) ⟨r0, r1⟩ (by omega) ⟨fun c2 => next u r _ _ _ (by omega) uw uf uc ul ur, fun c2 => ?_⟩
          -- the doors of a room
          have doors : ∀ (l : Nat) (v : LH) (d : Int) (o6 o7 : Option LV), K.1 1 - d ≤ l → 0 ≤ d → d ≤ K.1 1 → WC K S v → frC h v → CI v → LVL rd'.toNat v → (∀ x y, 0 ≤ x → x < r → x ≤ 9 → Dm N (wtS (PRK K) 100) (K.1 (4 * p + 118)) (K.1 0) (K.1 1) x y → rk N (wtS (PRK K) 100) (K.1 (4 * p + 118)) (K.1 0) (K.1 1) x ≤ rd'.toNat + 1 → rd v 210 x ≤ y) → (∀ x, 0 ≤ x → x < d → 0 ≤ N r x → rd v 210 r ≤ rd v 210 (N r x) + (wtS (PRK K) 100) x) → Rn xs xl e mm_goesBy 67 [some (.inr (.inr 182)), some (.inl p), some (.inl (K.1 (4 * p + 116))), some (.inl rd'), some (.inl r), some (.inl d), o6, o7] [] v Q := by
            have close : ∀ (v : LH) (d : Int) (o5 o6 o7 : Option LV), WC K S v → frC h v → CI v → LVL rd'.toNat v → (∀ x y, 0 ≤ x → x < r → x ≤ 9 → Dm N (wtS (PRK K) 100) (K.1 (4 * p + 118)) (K.1 0) (K.1 1) x y → rk N (wtS (PRK K) 100) (K.1 (4 * p + 118)) (K.1 0) (K.1 1) x ≤ rd'.toNat + 1 → rd v 210 x ≤ y) → (∀ x, 0 ≤ x → x < K.1 1 → 0 ≤ N r x → rd v 210 r ≤ rd v 210 (N r x) + (wtS (PRK K) 100) x) → Rn xs xl e mm_goesBy 55 [some (.inr (.inr 182)), some (.inl p), some (.inl (K.1 (4 * p + 116))), some (.inl rd'), some (.inl (r + 1)), o5, o6, o7] [] v Q := by
              intro v d o5 o6 o7 vw vf vc vl vr vd
              refine im v (r + 1) _ _ _ (by omega) (by omega) (by omega) vw vf vc vl (fun x y x0' x1' x2' hd hk => ?_)
              by_cases hx : x = r
              · subst hx
                by_cases hg : x = K.1 (4 * p + 118)
                · have y0 : 0 ≤ y := (hd.1.nn hw1).1
                  have y1 := hd.2 0 (by rw [hg]; exact Walk.nil)
                  have z0 := rk_goal hw1 hd hg
                  exact vl x y x0' x2' hd (by omega)
                · obtain ⟨dd, m', h0, h1, h2, h3, h4, h5, h6⟩ := Dm_next hw1 hd hg
                  have nbd := nb x dd h0 x2' h2 h3
                  have hwd := hw1 dd h2 h3
                  have lt := rk_lt ⟨h4, nbd.2⟩ (⟨m', y, h5, hd, by omega⟩ : lessD N (wtS (PRK K) 100) (K.1 (4 * p + 118)) (K.1 0) (K.1 1) (N x dd) x)
                  have a := vl (N x dd) m' h4 nbd.2 h5 (by omega)
                  have b := vd dd h2 h3 h4
                  omega
              · exact vr x y x0' (by omega) x2' hd hk
            intro l
            induction l with
            | zero =>
              intro v d o6 o7 hl d0 d1 vw vf vc vl vr vd
              have e1 : rd v 188 1 = K.1 1 := by rw [← vw.2.1]; rfl
              exact B_goesBy_67 (RF_of vw.1.1) hp ks (by omega) (by omega) (by omega) (by omega) ⟨fun _ => close v d _ _ _ vw vf vc vl vr (fun x y0 y1 y2 => vd x y0 (by omega) y2), fun c3 => by omega⟩
            | succ l il =>
              intro v d o6 o7 hl d0 d1 vw vf vc vl vr vd
              have e1 : rd v 188 1 = K.1 1 := by rw [← vw.2.1]; rfl
              have es : rd v 198 0 = S 0 := by rw [vw.2.2]
              refine B_goesBy_67 (RF_of vw.1.1) hp ks (by omega) (by omega) (by omega) (by omega) ⟨fun _ => close v d _ _ _ vw vf vc vl vr (fun x y0 y1 y2 => vd x y0 (by omega) y2), fun c3 => ⟨4, by omega, ?_⟩⟩
              rw [es]
              refine D_leadsNow (by omega) vw (by omega) (by omega) ks (by omega) (by omega) (fun z zw zf => ?_)
              rw [eN]
              have nbd := nb r d r0 (by omega) d0 (by omega)
              have ez : ∀ i, rd z 210 i = rd v 210 i := fun i => zf 210 i (by decide) (by decide)
              have zff : frC h z := fun a i n1 n2 n3 => (zf a i n1 n2).trans (vf a i n1 n2 n3)
              obtain ⟨y1, y2, y3, y4⟩ : rd z 182 28 = K.2.2.2.1 ∧ rd z 182 29 = K.2.2.2.2.1 ∧ rd z 182 30 = K.2.2.2.2.2.1 ∧ rd z 182 31 = K.2.2.2.2.2.2 := by rw [← zw.2.1]; exact ⟨rfl, rfl, rfl, rfl⟩
              have y5 : rd z 188 (8 * d + 11) = K.1 (8 * d + 11) := by rw [← zw.2.1]; rfl
              have hprd := hpr d d0 (by omega)
              have hwd := eW d
              have cr := (vc r r0 (by omega)).1
              -- a new cost of the room
              have upd : ∀ (x : Int) (o6 o7 : Option LV), x ≤ rd v 210 r → 0 ≤ x → (x = rd v 210 r ∨ Walk N (wtS (PRK K) 100) (K.1 (4 * p + 118)) (K.1 0) (K.1 1) r x) → (0 ≤ N r d → x ≤ rd v 210 (N r d) + (wtS (PRK K) 100) d) → Rn xs xl e mm_goesBy 67 [some (.inr (.inr 182)), some (.inl p), some (.inl (K.1 (4 * p + 116))), some (.inl rd'), some (.inl r), some (.inl (d + 1)), o6, o7] [] (wr z 210 r x) Q := by
                intro x o6 o7 hx x0' hxw hxd
                have w2 := WC_cost zw (i := r) (v := x) (by omega) ⟨by omega, by omega⟩
                have eo : ∀ i, i ≠ r → rd (wr z 210 r x) 210 i = rd v 210 i := fun i hi => (rdw_nei (fun q => hi q.symm)).trans (ez i)
                have ex : rd (wr z 210 r x) 210 r = x := rdw_eq
                have le : ∀ i, rd (wr z 210 r x) 210 i ≤ rd v 210 i := fun i => by
                  by_cases hi : i = r
                  · rw [hi, ex]; exact hx
                  · rw [eo i hi]; exact Int.le_refl _
                refine il _ (d + 1) _ _ (by omega) (by omega) (by omega) w2 (fun a i n1 n2 n3 => ?_) (fun i i0 i1 => ?_) (fun i y i0 i1 hd hk => ?_) (fun i y i0 i1 i2 hd hk => ?_) (fun i i0 i1 i2 => ?_)
                · rw [rdw_ne (fun q => n3 q.symm)]
                  exact zff a i n1 n2 n3
                · by_cases hi : i = r
                  · rw [hi, ex]
                    refine ⟨by omega, ?_⟩
                    rcases hxw with q | q
                    · rw [q]
                      exact (vc r r0 (by omega)).2
                    · exact Or.inr q
                  · rw [eo i hi]
                    exact vc i i0 i1
                · have := vl i y i0 i1 hd hk
                  have := le i
                  omega
                · have := vr i y i0 i1 i2 hd hk
                  have := le i
                  omega
                · have hwi := hw1 i i0 (by omega)
                  by_cases hn : N r i = r
                  · rw [hn]
                    omega
                  · rw [ex, eo _ hn]
                    by_cases hi : i = d
                    · subst hi
                      exact hxd i2
                    · have := vd i i0 (by omega) i2
                      omega
              have eR := ez r
              have go : ∀ P : Int, P = PRK K d → 0 ≤ N r d → (-2147483648 ≤ 100 * P ∧ 100 * P ≤ 2147483647) ∧ (-2147483648 ≤ rd z 210 (N r d) + 100 * P ∧ rd z 210 (N r d) + 100 * P ≤ 2147483647) ∧ (-2147483648 ≤ rd z 210 (N r d) + 100 * P + 1 ∧ rd z 210 (N r d) + 100 * P + 1 ≤ 2147483647) ∧ (rd z 210 r ≤ (rd z 210 (N r d) + 100 * P + 1) → Rn xs xl e mm_goesBy 67 [some (.inr (.inr 182)), some (.inl p), some (.inl (K.1 (4 * p + 116))), some (.inl rd'), some (.inl r), some (.inl (d + 1)), some (.inl (N r d)), some (.inl (rd z 210 (N r d) + 100 * P + 1))] [] (wr z 210 r (rd z 210 r)) Q) ∧ ((rd z 210 (N r d) + 100 * P + 1) < rd z 210 r → Rn xs xl e mm_goesBy 67 [some (.inr (.inr 182)), some (.inl p), some (.inl (K.1 (4 * p + 116))), some (.inl rd'), some (.inl r), some (.inl (d + 1)), some (.inl (N r d)), some (.inl (rd z 210 (N r d) + 100 * P + 1))] [] (wr z 210 r (rd z 210 (N r d) + 100 * P + 1)) Q) := by
                intro P hP n0
                have gt := (vc (N r d) n0 nbd.2)
                have e2 := ez (N r d)
                refine ⟨by omega, by omega, by omega, fun cc => ?_, fun cc => ?_⟩
                · exact upd _ _ _ (by omega) (by omega) (Or.inl eR) (fun _ => by omega)
                · refine upd _ _ _ (by omega) (by omega) (Or.inr ?_) (fun _ => by omega)
                  have wk : Walk N (wtS (PRK K) 100) (K.1 (4 * p + 118)) (K.1 0) (K.1 1) (N r d) (rd v 210 (N r d)) := by
                    rcases gt.2 with q | q
                    · omega
                    · exact q
                  have := Walk.cons r0 (by omega) d0 (by omega) n0 wk
                  rw [show rd z 210 (N r d) + 100 * P + 1 = rd v 210 (N r d) + (wtS (PRK K) 100) d by omega]
                  exact this
              refine B_goesBy_92 (RF_of zw.1.1) hp ks (by omega) (by omega) (by omega) (by omega) (by omega) ⟨fun c5 => ⟨by omega, fun c6 => ⟨fun c7 => go _ ?_ c5, fun c7 => go _ ?_ c5⟩, fun c6 => go _ ?_ c5⟩, fun c5 => ⟨fun c6 => upd _ _ _ (by omega) (by omega) (Or.inl eR) (fun q => by omega), fun c6 => by omega⟩⟩
              · unfold PRK
                rw [if_neg (by rw [← y1]; exact c6), if_neg (by rw [← y2]; exact c7)]
                exact y5
              · unfold PRK
                rw [if_neg (by rw [← y1]; exact c6), if_pos (by rw [← y2]; exact c7)]
                exact y4
              · unfold PRK
                rw [if_pos (by rw [← y1]; exact c6)]
                exact y3
          exact doors 14 u 0 _ _ (by omega) (by omega) (by omega) uw uf uc ul ur (fun x x0' x1' => by omega)
      exact rows 10 g 0 _ _ _ (by omega) (by omega) (by omega) gw gf gc gl (fun x y x0' x1' => by omega)
  -- the beginning
  have ini : ∀ (n : Nat) (g : LH) (r : Int), 10 - r ≤ n → 0 ≤ r → r ≤ 10 → WC K S g → frC h g → (∀ x, 0 ≤ x → x < r → rd g 210 x = if x = K.1 (4 * p + 118) then 0 else 1000000) → Rn xs xl e mm_goesBy 9 [some (.inr (.inr 182)), some (.inl p), some (.inl (K.1 (4 * p + 116))), some (.inl r), none, none, none, none] [] g Q := by
    have stop : ∀ g : LH, WC K S g → frC h g → (∀ x, 0 ≤ x → x < 10 → rd g 210 x = if x = K.1 (4 * p + 118) then 0 else 1000000) → Rn xs xl e mm_goesBy 46 [some (.inr (.inr 182)), some (.inl p), some (.inl (K.1 (4 * p + 116))), some (.inl 0), none, none, none, none] [] g Q := by
      intro g gw gf gi
      refine rounds 10 g 0 _ _ _ _ (by omega) (by omega) (by omega) gw gf (fun r r0 r1 => ?_) (fun r m r0 r1 hd hk => ?_)
      · rw [gi r r0 (by omega)]
        split
        · next q => exact ⟨by omega, Or.inr (by rw [q]; exact Walk.nil)⟩
        · exact ⟨by omega, Or.inl rfl⟩
      · rw [gi r r0 (by omega)]
        have m0 := (hd.1.nn hw1)
        split
        · omega
        · next q =>
          exfalso
          obtain ⟨d, m', h0, h1, h2, h3, h4, h5, h6⟩ := Dm_next hw1 hd q
          have nbd := nb r d r0 r1 h2 h3
          have hwd := hw1 d h2 h3
          have lt := rk_lt ⟨h4, nbd.2⟩ (⟨m', m, h5, hd, by omega⟩ : lessD N (wtS (PRK K) 100) (K.1 (4 * p + 118)) (K.1 0) (K.1 1) (N r d) r)
          omega
    intro n
    induction n with
    | zero =>
      intro g r hn r0 r1 gw gf gi
      exact B_goesBy_9 (RF_of gw.1.1) hp ks ⟨r0, r1⟩ (by omega) ⟨fun _ => stop g gw gf (fun x x0 x1 => gi x x0 (by omega)), fun c => by omega⟩
    | succ n ih =>
      intro g r hn r0 r1 gw gf gi
      have e1 : rd g 188 (4 * p + 118) = K.1 (4 * p + 118) := by rw [← gw.2.1]; rfl
      have st : ∀ v : Int, r < 10 → v = (if r = K.1 (4 * p + 118) then 0 else 1000000) → Rn xs xl e mm_goesBy 9 [some (.inr (.inr 182)), some (.inl p), some (.inl (K.1 (4 * p + 116))), some (.inl (r + 1)), none, none, none, none] [] (wr g 210 r v) Q := by
        intro v rl hv
        have vb : 0 ≤ v ∧ v ≤ 1000000 := by rw [hv]; split <;> omega
        refine ih _ (r + 1) (by omega) (by omega) (by omega) (WC_cost gw (by omega) ⟨by omega, by omega⟩) (fun a i n1 n2 n3 => by rw [rdw_ne (fun q => n3 q.symm)]; exact gf a i n1 n2 n3) (fun x x0 x1 => ?_)
        by_cases hx : x = r
        · rw [hx, rdw_eq]; exact hv
        · rw [rdw_nei (fun q => hx q.symm)]
          exact gi x x0 (by omega)
      exact B_goesBy_9 (RF_of gw.1.1) hp ks ⟨r0, r1⟩ (by omega) ⟨fun _ => stop g gw gf (fun x x0 x1 => gi x x0 (by omega)), fun c => ⟨fun c2 => ⟨by omega, st _ c (by rw [if_neg (by omega)])⟩, fun c2 => ⟨by omega, st _ c (by rw [if_pos (by omega)])⟩⟩⟩
  have e0 : rd h 188 (4 * p + 116) = K.1 (4 * p + 116) := by rw [← w.2.1]; rfl
  refine B_goesBy_0 (RF_of w.1.1) hp (by omega) ?_
  rw [e0]
  exact ini 10 h 0 (by omega) (by omega) (by omega) w (fun _ _ _ _ _ => rfl) (fun x x0 x1 => by omega)
end KG
end
