/-! chase, part x1: within how many moves one is caught -/
/-- within so many moves: the thief to move, the tenant to move -/
def chT (E : Int → Int → Prop) (n : Int) : Nat → (Int → Int → Prop) × (Int → Int → Prop)
  | 0 => (fun a b => a = b, fun a b => a = b)
  | m + 1 => (fun a b => a = b ∨ ∀ r, 0 ≤ r → r < n → (r = a ∨ E a r) → (chT E n m).2 r b, fun a b => ∃ r, 0 ≤ r ∧ r < n ∧ (r = b ∨ E b r) ∧ (chT E n m).1 a r)
/-- by a number of both rooms and the turn -/
def chK (E : Int → Int → Prop) (n k : Int) (j : Nat) : Prop := (k % 2 = 0 ∧ (chT E n j).1 (k / 20) (k / 2 % 10)) ∨ (k % 2 ≠ 0 ∧ (chT E n j).2 (k / 20) (k / 2 % 10))
def stb (E : Int → Int → Prop) (n : Int) (j : Nat) : Prop := ∀ a b, 0 ≤ a → a < n → 0 ≤ b → b < n → ((chT E n (j + 1)).1 a b ↔ (chT E n j).1 a b) ∧ ((chT E n (j + 1)).2 a b ↔ (chT E n j).2 a b)
noncomputable def cntP (P : Nat → Prop) : Nat → Nat
  | 0 => 0
  | k + 1 => cntP P k + @ite Nat (P k) (Classical.propDecidable _) 1 0
theorem cnt_le (P : Nat → Prop) (k : Nat) : cntP P k ≤ k := by
  induction k with
  | zero => exact Nat.le_refl _
  | succ k ih =>
    show cntP P k + @ite Nat (P k) (Classical.propDecidable _) 1 0 ≤ k + 1
    by_cases c : P k
    · rw [if_pos c]; omega
    · rw [if_neg c]; omega
theorem cnt_mono {P R : Nat → Prop} (h : ∀ i, P i → R i) (k : Nat) : cntP P k ≤ cntP R k := by
  induction k with
  | zero => exact Nat.le_refl _
  | succ k ih =>
    show cntP P k + @ite Nat (P k) (Classical.propDecidable _) 1 0 ≤ cntP R k + @ite Nat (R k) (Classical.propDecidable _) 1 0
    by_cases c : P k
    · rw [if_pos c, if_pos (h k c)]; omega
    · rw [if_neg c]; omega
theorem cntP_lt {P R : Nat → Prop} (h : ∀ i, P i → R i) {i : Nat} (hr : R i) (hp : ¬ P i) (k : Nat) : i < k → cntP P k + 1 ≤ cntP R k := by
  induction k with
  | zero => intro c; omega
  | succ k ih =>
    intro c
    show cntP P k + @ite Nat (P k) (Classical.propDecidable _) 1 0 + 1 ≤ cntP R k + @ite Nat (R k) (Classical.propDecidable _) 1 0
    by_cases z : i = k
    · rw [← z, if_neg hp, if_pos hr, z]
      have := cnt_mono h k
      omega
    · have := ih (by omega)
      by_cases c : P k
      · rw [if_pos c, if_pos (h k c)]; omega
      · rw [if_neg c]; omega
theorem cnt_one {P : Nat → Prop} (i : Nat) (hp : P i) (k : Nat) : i < k → 1 ≤ cntP P k := by
  induction k with
  | zero => intro c; omega
  | succ k ih =>
    intro c
    show 1 ≤ cntP P k + @ite Nat (P k) (Classical.propDecidable _) 1 0
    by_cases z : i = k
    · rw [← z, if_pos hp]; omega
    · have := ih (by omega)
      omega
section XA
variable {E : Int → Int → Prop} {n a b k r r' : Int}
theorem ch_mono : ∀ (m : Nat) (a b : Int), 0 ≤ a → a < n → 0 ≤ b → b < n → ((chT E n m).1 a b → (chT E n (m + 1)).1 a b) ∧ ((chT E n m).2 a b → (chT E n (m + 1)).2 a b)
  | 0, a, b, a0, a1, b0, b1 => ⟨fun z => Or.inl z, fun z => ⟨b, b0, b1, Or.inl rfl, z⟩⟩
  | m + 1, a, b, a0, a1, b0, b1 => by
    refine ⟨fun z => ?_, fun z => ?_⟩
    · rcases z with z | z
      · exact Or.inl z
      · exact Or.inr (fun r r0 r1 hr => (ch_mono m r b r0 r1 b0 b1).2 (z r r0 r1 hr))
    · obtain ⟨r, r0, r1, hr, y⟩ := z
      exact ⟨r, r0, r1, hr, (ch_mono m a r a0 a1 r0 r1).1 y⟩
theorem ch_le (a0 : 0 ≤ a) (a1 : a < n) (b0 : 0 ≤ b) (b1 : b < n) (m : Nat) : ∀ j : Nat, ((chT E n m).1 a b → (chT E n (m + j)).1 a b) ∧ ((chT E n m).2 a b → (chT E n (m + j)).2 a b)
  | 0 => ⟨fun z => z, fun z => z⟩
  | j + 1 => by
    have ih := ch_le a0 a1 b0 b1 m j
    have s := ch_mono (E := E) (n := n) (m + j) a b a0 a1 b0 b1
    exact ⟨fun z => s.1 (ih.1 z), fun z => s.2 (ih.2 z)⟩
theorem stb_next {j : Nat} (h : stb E n j) : stb E n (j + 1) := fun a b a0 a1 b0 b1 => by
  refine ⟨?_, ?_⟩
  · constructor
    · rintro (z | z)
      · exact Or.inl z
      · exact Or.inr (fun r r0 r1 hr => (h r b r0 r1 b0 b1).2.mp (z r r0 r1 hr))
    · rintro (z | z)
      · exact Or.inl z
      · exact Or.inr (fun r r0 r1 hr => (h r b r0 r1 b0 b1).2.mpr (z r r0 r1 hr))
  · constructor
    · rintro ⟨r, r0, r1, hr, y⟩
      exact ⟨r, r0, r1, hr, (h a r a0 a1 r0 r1).1.mp y⟩
    · rintro ⟨r, r0, r1, hr, y⟩
      exact ⟨r, r0, r1, hr, (h a r a0 a1 r0 r1).1.mpr y⟩
theorem stb_add {j : Nat} (h : stb E n j) : ∀ i : Nat, stb E n (j + i)
  | 0 => h
  | i + 1 => stb_next (stb_add h i)
theorem stb_all {j : Nat} (h : stb E n j) (a0 : 0 ≤ a) (a1 : a < n) (b0 : 0 ≤ b) (b1 : b < n) : ∀ i : Nat, (chT E n (j + i)).1 a b ↔ (chT E n j).1 a b
  | 0 => Iff.rfl
  | i + 1 => ((stb_add h i) a b a0 a1 b0 b1).1.trans (stb_all h a0 a1 b0 b1 i)
/-- what is caught, by its number -/
def chS (E : Int → Int → Prop) (n : Int) (m : Nat) (i : Nat) : Prop := ((i : Int) / 20 < n ∧ (i : Int) / 2 % 10 < n) ∧ chK E n i m
theorem chS_mono (m i : Nat) (h : chS E n m i) : chS E n (m + 1) i := by
  obtain ⟨⟨a1, b1⟩, c⟩ := h
  have s := ch_mono (E := E) (n := n) m ((i : Int) / 20) ((i : Int) / 2 % 10) (by omega) a1 (by omega) b1
  exact ⟨⟨a1, b1⟩, c.elim (fun z => Or.inl ⟨z.1, s.1 z.2⟩) (fun z => Or.inr ⟨z.1, s.2 z.2⟩)⟩
theorem chS_new (hn : n ≤ 10) {m : Nat} (h : ¬ stb E n m) : ∃ i, i < 200 ∧ chS E n (m + 1) i ∧ ¬ chS E n m i := by
  have h' : ∃ a b, 0 ≤ a ∧ a < n ∧ 0 ≤ b ∧ b < n ∧ (((chT E n (m + 1)).1 a b ∧ ¬ (chT E n m).1 a b) ∨ ((chT E n (m + 1)).2 a b ∧ ¬ (chT E n m).2 a b)) := by
    refine Classical.byContradiction (fun no => h (fun a b a0 a1 b0 b1 => ?_))
    have s := ch_mono (E := E) (n := n) m a b a0 a1 b0 b1
    exact ⟨⟨fun z => Classical.byContradiction (fun y => no ⟨a, b, a0, a1, b0, b1, Or.inl ⟨z, y⟩⟩), s.1⟩, ⟨fun z => Classical.byContradiction (fun y => no ⟨a, b, a0, a1, b0, b1, Or.inr ⟨z, y⟩⟩), s.2⟩⟩
  obtain ⟨a, b, a0, a1, b0, b1, c⟩ := h'
  rcases c with ⟨c1, c2⟩ | ⟨c1, c2⟩
  · have e1 : (((20 * a + 2 * b).toNat : Nat) : Int) = 20 * a + 2 * b := Int.toNat_of_nonneg (by omega)
    have e2 : (20 * a + 2 * b) / 20 = a := by omega
    have e3 : (20 * a + 2 * b) / 2 % 10 = b := by omega
    have e4 : (20 * a + 2 * b) % 2 = 0 := by omega
    refine ⟨(20 * a + 2 * b).toNat, by omega, ?_, ?_⟩
    · unfold chS chK
      rw [e1, e2, e3]
      exact ⟨⟨a1, b1⟩, Or.inl ⟨e4, c1⟩⟩
    · unfold chS chK
      rw [e1, e2, e3]
      exact fun z => z.2.elim (fun z => c2 z.2) (fun z => z.1 e4)
  · have e1 : (((20 * a + 2 * b + 1).toNat : Nat) : Int) = 20 * a + 2 * b + 1 := Int.toNat_of_nonneg (by omega)
    have e2 : (20 * a + 2 * b + 1) / 20 = a := by omega
    have e3 : (20 * a + 2 * b + 1) / 2 % 10 = b := by omega
    have e4 : (20 * a + 2 * b + 1) % 2 ≠ 0 := by omega
    refine ⟨(20 * a + 2 * b + 1).toNat, by omega, ?_, ?_⟩
    · unfold chS chK
      rw [e1, e2, e3]
      exact ⟨⟨a1, b1⟩, Or.inr ⟨e4, c1⟩⟩
    · unfold chS chK
      rw [e1, e2, e3]
      exact fun z => z.2.elim (fun z => e4 z.1) (fun z => c2 z.2)
theorem chS_cnt (hn : n ≤ 10) (n0 : 0 < n) : ∀ m : Nat, (∀ j, j < m → ¬ stb E n j) → m + 1 ≤ cntP (chS E n m) 200
  | 0, _ => cnt_one 0 ⟨⟨by show (0 : Int) / 20 < n; omega, by show (0 : Int) / 2 % 10 < n; omega⟩, Or.inl ⟨by decide, by show (0 : Int) / 20 = (0 : Int) / 2 % 10; decide⟩⟩ 200 (by decide)
  | m + 1, h => by
    have ih := chS_cnt hn n0 m (fun j hj => h j (by omega))
    obtain ⟨i, i2, y, z⟩ := chS_new hn (h m (by omega))
    have h5 : cntP (chS E n m) 200 + 1 ≤ cntP (chS E n (m + 1)) 200 := cntP_lt (fun i => chS_mono m i) y z 200 i2
    omega
/-- after 199 moves nothing new is caught -/
theorem stb_199 (hn : n ≤ 10) (n0 : 0 < n) : ∃ m, m ≤ 199 ∧ stb E n m := by
  refine Classical.byContradiction (fun no => ?_)
  have := chS_cnt (E := E) hn n0 200 (fun j hj s => no ⟨j, by omega, s⟩)
  have := cnt_le (chS E n 200) 200
  omega
/-- the answer -/
def chR (E : Int → Int → Prop) (n a b r : Int) : Prop := (r = -1 ∧ ∀ m, ¬ (chT E n m).1 a b) ∨ (0 ≤ r ∧ (chT E n r.toNat).1 a b ∧ ∀ m, m < r.toNat → ¬ (chT E n m).1 a b)
theorem chR_one (h : chR E n a b r) (g : chR E n a b r') : r = r' := by
  rcases h with ⟨h1, h2⟩ | ⟨h1, h2, h3⟩
  · rcases g with ⟨g1, g2⟩ | ⟨g1, g2, g3⟩
    · omega
    · exact absurd g2 (h2 _)
  · rcases g with ⟨g1, g2⟩ | ⟨g1, g2, g3⟩
    · exact absurd h2 (g2 _)
    · have x : ¬ r.toNat < r'.toNat := fun c => g3 _ c h2
      have y : ¬ r'.toNat < r.toNat := fun c => h3 _ c g2
      omega
/-- what isn't caught within 199 moves never is -/
theorem ch_never (hn : n ≤ 10) (n0 : 0 < n) (a0 : 0 ≤ a) (a1 : a < n) (b0 : 0 ≤ b) (b1 : b < n) (h : ∀ m, m ≤ 199 → ¬ (chT E n m).1 a b) (m : Nat) : ¬ (chT E n m).1 a b := fun y => by
  obtain ⟨j, j1, s⟩ := stb_199 (E := E) hn n0
  by_cases c : m ≤ 199
  · exact h m c y
  · have e := stb_all s a0 a1 b0 b1 (m - j)
    rw [show j + (m - j) = m by omega] at e
    exact h j j1 (e.mp y)
end XA
