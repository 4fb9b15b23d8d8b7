section
/-! chase, part x1: within how many moves one is caught -/
/-- within so many moves: the thief to move, the tenant to move -/
def chT (E : Int → Int → Prop) (n : Int) : Nat → (Int → Int → Prop) × (Int → Int → Prop)
  | 0 => (fun a b => a = b, fun a b => a = b)
  | m + 1 => (fun a b => a = b ∨ ∀ r, 0 ≤ r → r < n → (r = a ∨ E a r) → (chT E n m).2 r b, fun a b => ∃ r, 0 ≤ r ∧ r < n ∧ (r = b ∨ E b r) ∧ (chT E n m).1 a r)
/-- by a number of both rooms and the turn -/
def chK (E : Int → Int → Prop) (n k : Int) (j : Nat) : Prop := (k % 2 = 0 ∧ (chT E n j).1 (k / 20) (k / 2 % 10)) ∨ (k % 2 ≠ 0 ∧ (chT E n j).2 (k / 20) (k / 2 % 10))
def stb (E : Int → Int → Prop) (n : Int) (j : Nat) : Prop := ∀ a b, 0 ≤ a → a < n → 0 ≤ b → b < n → ((chT E n (j + 1)).1 a b ↔ (chT E n j).1 a b) ∧ ((chT E n (j + 1)).2 a b ↔ (chT E n j).2 a b)
noncomputable def cntP (P : Nat → Prop) : Nat → Nat
  | 0 => 0
  | k + 1 => cntP P k + @ite Nat (P k) (Classical.propDecidable _) 1 0
theorem cnt_le (P : Nat → Prop) (k : Nat) : cntP P k ≤ k := by
  induction k with
  | zero => exact Nat.le_refl _
  | succ k ih =>
    show cntP P k + @ite Nat (P k) (Classical.propDecidable _) 1 0 ≤ k + 1
    by_cases c : P k
    · rw [if_pos c]; omega
    · rw [if_neg c]; omega
theorem cnt_mono {P R : Nat → Prop} (h : ∀ i, P i → R i) (k : Nat) : cntP P k ≤ cntP R k := by
  induction k with
  | zero => exact Nat.le_refl _
  | succ k ih =>
    show cntP P k + @ite Nat (P k) (Classical.propDecidable _) 1 0 ≤ cntP R k + @ite Nat (R k) (Classical.propDecidable _) 1 0
    by_cases c : P k
    · rw [if_pos c, if_pos (h k c)]; omega
    · rw [if_neg c]; omega
theorem cntP_lt {P R : Nat → Prop} (h : ∀ i, P i → R i) {i : Nat} (hr : R i) (hp : ¬ P i) (k : Nat) : i < k → cntP P k + 1 ≤ cntP R k := by
  induction k with
  | zero => intro c; omega
  | succ k ih =>
    intro c
    show cntP P k + @ite Nat (P k) (Classical.propDecidable _) 1 0 + 1 ≤ cntP R k + @ite Nat (R k) (Classical.propDecidable _) 1 0
    by_cases z : i = k
    · rw [← z, if_neg hp, if_pos hr, z]
      have := cnt_mono h k
      omega
    · have := ih (by omega)
      by_cases c : P k
      · rw [if_pos c, if_pos (h k c)]; omega
      · rw [if_neg c]; omega
theorem cnt_one {P : Nat → Prop} (i : Nat) (hp : P i) (k : Nat) : i < k → 1 ≤ cntP P k := by
  induction k with
  | zero => intro c; omega
  | succ k ih =>
    intro c
    show 1 ≤ cntP P k + @ite Nat (P k) (Classical.propDecidable _) 1 0
    by_cases z : i = k
    · rw [← z, if_pos hp]; omega
    · have := ih (by omega)
      omega
section XA
variable {E : Int → Int → Prop} {n a b k r r' : Int}
theorem ch_mono : ∀ (m : Nat) (a b : Int), 0 ≤ a → a < n → 0 ≤ b → b < n → ((chT E n m).1 a b → (chT E n (m + 1)).1 a b) ∧ ((chT E n m).2 a b → (chT E n (m + 1)).2 a b)
  | 0, a, b, a0, a1, b0, b1 => ⟨fun z => Or.inl z, fun z => ⟨b, b0, b1, Or.inl rfl, z⟩⟩
  | m + 1, a, b, a0, a1, b0, b1 => by
    refine ⟨fun z => ?_, fun z => ?_⟩
    · rcases z with z | z
      · exact Or.inl z
      · exact Or.inr (fun r r0 r1 hr => (ch_mono m r b r0 r1 b0 b1).2 (z r r0 r1 hr))
    · obtain ⟨r, r0, r1, hr, y⟩ := z
      exact ⟨r, r0, r1, hr, (ch_mono m a r a0 a1 r0 r1).1 y⟩
theorem ch_le (a0 : 0 ≤ a) (a1 : a < n) (b0 : 0 ≤ b) (b1 : b < n) (m : Nat) : ∀ j : Nat, ((chT E n m).1 a b → (chT E n (m + j)).1 a b) ∧ ((chT E n m).2 a b → (chT E n (m + j)).2 a b)
  | 0 => ⟨fun z => z, fun z => z⟩
  | j + 1 => by
    have ih := ch_le a0 a1 b0 b1 m j
    have s := ch_mono (E := E) (n := n) (m + j) a b a0 a1 b0 b1
    exact ⟨fun z => s.1 (ih.1 z), fun z => s.2 (ih.2 z)⟩
theorem stb_next {j : Nat} (h : stb E n j) : stb E n (j + 1) := fun a b a0 a1 b0 b1 => by
  refine ⟨?_, ?_⟩
  · constructor
    · rintro (z | z)
      · exact Or.inl z
      · exact Or.inr (fun r r0 r1 hr => (h r b r0 r1 b0 b1).2.mp (z r r0 r1 hr))
    · rintro (z | z)
      · exact Or.inl z
      · exact Or.inr (fun r r0 r1 hr => (h r b r0 r1 b0 b1).2.mpr (z r r0 r1 hr))
  · constructor
    · rintro ⟨r, r0, r1, hr, y⟩
      exact ⟨r, r0, r1, hr, (h a r a0 a1 r0 r1).1.mp y⟩
    · rintro ⟨r, r0, r1, hr, y⟩
      exact ⟨r, r0, r1, hr, (h a r a0 a1 r0 r1).1.mpr y⟩
theorem stb_add {j : Nat} (h : stb E n j) : ∀ i : Nat, stb E n (j + i)
  | 0 => h
  | i + 1 => stb_next (stb_add h i)
theorem stb_all {j : Nat} (h : stb E n j) (a0 : 0 ≤ a) (a1 : a < n) (b0 : 0 ≤ b) (b1 : b < n) : ∀ i : Nat, (chT E n (j + i)).1 a b ↔ (chT E n j).1 a b
  | 0 => Iff.rfl
  | i + 1 => ((stb_add h i) a b a0 a1 b0 b1).1.trans (stb_all h a0 a1 b0 b1 i)
/-- what is caught, by its number -/
def chS (E : Int → Int → Prop) (n : Int) (m : Nat) (i : Nat) : Prop := ((i : Int) / 20 < n ∧ (i : Int) / 2 % 10 < n) ∧ chK E n i m
theorem chS_mono (m i : Nat) (h : chS E n m i) : chS E n (m + 1) i := by
  obtain ⟨⟨a1, b1⟩, c⟩ := h
  have s := ch_mono (E := E) (n := n) m ((i : Int) / 20) ((i : Int) / 2 % 10) (by omega) a1 (by omega) b1
  exact ⟨⟨a1, b1⟩, c.elim (fun z => Or.inl ⟨z.1, s.1 z.2⟩) (fun z => Or.inr ⟨z.1, s.2 z.2⟩)⟩
theorem chS_new (hn : n ≤ 10) {m : Nat} (h : ¬ stb E n m) : ∃ i, i < 200 ∧ chS E n (m + 1) i ∧ ¬ chS E n m i := by
  have h' : ∃ a b, 0 ≤ a ∧ a < n ∧ 0 ≤ b ∧ b < n ∧ (((chT E n (m + 1)).1 a b ∧ ¬ (chT E n m).1 a b) ∨ ((chT E n (m + 1)).2 a b ∧ ¬ (chT E n m).2 a b)) := by
    refine Classical.byContradiction (fun no => h (fun a b a0 a1 b0 b1 => ?_))
    have s := ch_mono (E := E) (n := n) m a b a0 a1 b0 b1
    exact ⟨⟨fun z => Classical.byContradiction (fun y => no ⟨a, b, a0, a1, b0, b1, Or.inl ⟨z, y⟩⟩), s.1⟩, ⟨fun z => Classical.byContradiction (fun y => no ⟨a, b, a0, a1, b0, b1, Or.inr ⟨z, y⟩⟩), s.2⟩⟩
  obtain ⟨a, b, a0, a1, b0, b1, c⟩ := h'
  rcases c with ⟨c1, c2⟩ | ⟨c1, c2⟩
  · have e1 : (((20 * a + 2 * b).toNat : Nat) : Int) = 20 * a + 2 * b := Int.toNat_of_nonneg (by omega)
    have e2 : (20 * a + 2 * b) / 20 = a := by omega
    have e3 : (20 * a + 2 * b) / 2 % 10 = b := by omega
    have e4 : (20 * a + 2 * b) % 2 = 0 := by omega
    refine ⟨(20 * a + 2 * b).toNat, by omega, ?_, ?_⟩
    · unfold chS chK
      rw [e1, e2, e3]
      exact ⟨⟨a1, b1⟩, Or.inl ⟨e4, c1⟩⟩
    · unfold chS chK
      rw [e1, e2, e3]
      exact fun z => z.2.elim (fun z => c2 z.2) (fun z => z.1 e4)
  · have e1 : (((20 * a + 2 * b + 1).toNat : Nat) : Int) = 20 * a + 2 * b + 1 := Int.toNat_of_nonneg (by omega)
    have e2 : (20 * a + 2 * b + 1) / 20 = a := by omega
    have e3 : (20 * a + 2 * b + 1) / 2 % 10 = b := by omega
    have e4 : (20 * a + 2 * b + 1) % 2 ≠ 0 := by omega
    refine ⟨(20 * a + 2 * b + 1).toNat, by omega, ?_, ?_⟩
    · unfold chS chK
      rw [e1, e2, e3]
      exact ⟨⟨a1, b1⟩, Or.inr ⟨e4, c1⟩⟩
    · unfold chS chK
      rw [e1, e2, e3]
      exact fun z => z.2.elim (fun z => e4 z.1) (fun z => c2 z.2)
theorem chS_cnt (hn : n ≤ 10) (n0 : 0 < n) : ∀ m : Nat, (∀ j, j < m → ¬ stb E n j) → m + 1 ≤ cntP (chS E n m) 200
  | 0, _ => cnt_one 0 ⟨⟨by show (0 : Int) / 20 < n; omega, by show (0 : Int) / 2 % 10 < n; omega⟩, Or.inl ⟨by decide, by show (0 : Int) / 20 = (0 : Int) / 2 % 10; decide⟩⟩ 200 (by decide)
  | m + 1, h => by
    have ih := chS_cnt hn n0 m (fun j hj => h j (by omega))
    obtain ⟨i, i2, y, z⟩ := chS_new hn (h m (by omega))
    have h5 : cntP (chS E n m) 200 + 1 ≤ cntP (chS E n (m + 1)) 200 := cntP_lt (fun i => chS_mono m i) y z 200 i2
    omega
/-- after 199 moves nothing new is caught -/
theorem stb_199 (hn : n ≤ 10) (n0 : 0 < n) : ∃ m, m ≤ 199 ∧ stb E n m := by
  refine Classical.byContradiction (fun no => ?_)
  have := chS_cnt (E := E) hn n0 200 (fun j hj s => no ⟨j, by omega, s⟩)
  have := cnt_le (chS E n 200) 200
  omega
/-- the answer -/
def chR (E : Int → Int → Prop) (n a b r : Int) : Prop := (r = -1 ∧ ∀ m, ¬ (chT E n m).1 a b) ∨ (0 ≤ r ∧ (chT E n r.toNat).1 a b ∧ ∀ m, m < r.toNat → ¬ (chT E n m).1 a b)
theorem chR_one (h : chR E n a b r) (g : chR E n a b r') : r = r' := by
  rcases h with ⟨h1, h2⟩ | ⟨h1, h2, h3⟩
  · rcases g with ⟨g1, g2⟩ | ⟨g1, g2, g3⟩
    · omega
    · exact absurd g2 (h2 _)
  · rcases g with ⟨g1, g2⟩ | ⟨g1, g2, g3⟩
    · exact absurd h2 (g2 _)
    · have x : ¬ r.toNat < r'.toNat := fun c => g3 _ c h2
      have y : ¬ r'.toNat < r.toNat := fun c => h3 _ c g2
      omega
/-- what isn't caught within 199 moves never is -/
theorem ch_never (hn : n ≤ 10) (n0 : 0 < n) (a0 : 0 ≤ a) (a1 : a < n) (b0 : 0 ≤ b) (b1 : b < n) (h : ∀ m, m ≤ 199 → ¬ (chT E n m).1 a b) (m : Nat) : ¬ (chT E n m).1 a b := fun y => by
  obtain ⟨j, j1, s⟩ := stb_199 (E := E) hn n0
  by_cases c : m ≤ 199
  · exact h m c y
  · have e := stb_all s a0 a1 b0 b1 (m - j)
    rw [show j + (m - j) = m by omega] at e
    exact h j j1 (e.mp y)
end XA
end
section
/-! years, part y1: draws, days, who is in time -/
def dN (g : Int) : Int := lrm (w64 ((w64 (g * (1103515245))) + (12345))) (2147483648)
def dB (g m : Int) : Int := w32 (lrm (ldv g 65536) m)
/-- what is shut on the next day -/
def ySh (K : KEY) (g sh : Int) : Int := if dB (dN (dN g)) 10 = 0 then 0 else zxor sh (zshl 1 (dB (dN g) (K.1 1)))
/-- a day's beginning, as a state -/
def S0d (K : KEY) (sh i : Int) : Int := if i = 1 then sh else if 2 ≤ i ∧ i < 8 then K.1 (4 * (i - 2) + 117) else if 8 ≤ i ∧ i < 14 then (if K.1 (4 * (i - 8) + 117) = K.1 (4 * (i - 8) + 118) then 1 else 0) else 0
def itP (K : KEY) (sh p : Int) : Prop := ∃ r, FHr K (S0d K sh) 0 p (zshl 1 (K.1 (4 * p + 117) + 10)) r ∧ 0 ≤ r ∧ r ≤ K.1 (4 * p + 119)
noncomputable def nIT (K : KEY) (sh : Int) : Nat → Int
  | 0 => 0
  | n + 1 => nIT K sh n + @ite Int (itP K sh (n : Int)) (Classical.propDecidable _) 1 0
noncomputable def yS (K : KEY) (seed sh0 l0 : Int) : Nat → Int × Int × Int × Int
  | 0 => (seed, sh0, 0, l0)
  | n + 1 => (dN (dN (yS K seed sh0 l0 n).1), ySh K (yS K seed sh0 l0 n).1 (yS K seed sh0 l0 n).2.1, (yS K seed sh0 l0 n).2.2.1 + nIT K (ySh K (yS K seed sh0 l0 n).1 (yS K seed sh0 l0 n).2.1) (K.1 2).toNat, if nIT K (ySh K (yS K seed sh0 l0 n).1 (yS K seed sh0 l0 n).2.1) (K.1 2).toNat < (yS K seed sh0 l0 n).2.2.2 then nIT K (ySh K (yS K seed sh0 l0 n).1 (yS K seed sh0 l0 n).2.1) (K.1 2).toNat else (yS K seed sh0 l0 n).2.2.2)
section YA
variable {xs : Nat → Int} {xl e : Nat} {h g : LH} {Q : Option LV → LH → Prop} {K : KEY} {S S' : Int → Int} {b b' p q sc sh m r seed l0 l1 v1 v2 v3 : Int} {L : List Int}
theorem nIT_in (n : Nat) : 0 ≤ nIT K sh n ∧ nIT K sh n ≤ n := by
  induction n with
  | zero => exact ⟨Int.le_refl _, Int.le_refl _⟩
  | succ n ih =>
    show 0 ≤ nIT K sh n + @ite Int _ (Classical.propDecidable _) 1 0 ∧ nIT K sh n + @ite Int _ (Classical.propDecidable _) 1 0 ≤ ((n + 1 : Nat) : Int)
    by_cases c : itP K sh (n : Int)
    · rw [if_pos c]; omega
    · rw [if_neg c]; omega
theorem yS_same (n : Nat) : (yS K seed sh l0 n).1 = (yS K seed sh l1 n).1 ∧ (yS K seed sh l0 n).2.1 = (yS K seed sh l1 n).2.1 ∧ (yS K seed sh l0 n).2.2.1 = (yS K seed sh l1 n).2.2.1 := by
  induction n with
  | zero => exact ⟨rfl, rfl, rfl⟩
  | succ n ih =>
    obtain ⟨a, c, d⟩ := ih
    refine ⟨?_, ?_, ?_⟩
    · show dN (dN _) = dN (dN _)
      rw [a]
    · show ySh K _ _ = ySh K _ _
      rw [a, c]
    · show _ + nIT K (ySh K _ _) _ = _ + nIT K (ySh K _ _) _
      rw [a, c, d]
theorem yS_least (hn : 0 ≤ K.1 2 ∧ K.1 2 ≤ 6) (h0 : 6 ≤ l0) (h1 : 6 ≤ l1) (n : Nat) : (yS K seed sh l0 (n + 1)).2.2.2 = (yS K seed sh l1 (n + 1)).2.2.2 := by
  induction n with
  | zero =>
    have i := nIT_in (K := K) (sh := ySh K seed sh) (K.1 2).toNat
    show (if nIT K (ySh K seed sh) (K.1 2).toNat < l0 then nIT K (ySh K seed sh) (K.1 2).toNat else l0) = (if nIT K (ySh K seed sh) (K.1 2).toNat < l1 then nIT K (ySh K seed sh) (K.1 2).toNat else l1)
    generalize nIT K (ySh K seed sh) (K.1 2).toNat = x at *
    split <;> split <;> omega
  | succ n ih =>
    obtain ⟨a, c, d⟩ := yS_same (K := K) (seed := seed) (sh := sh) (l0 := l0) (l1 := l1) (n + 1)
    show (if nIT K (ySh K (yS K seed sh l0 (n + 1)).1 (yS K seed sh l0 (n + 1)).2.1) (K.1 2).toNat < (yS K seed sh l0 (n + 1)).2.2.2 then nIT K (ySh K (yS K seed sh l0 (n + 1)).1 (yS K seed sh l0 (n + 1)).2.1) (K.1 2).toNat else (yS K seed sh l0 (n + 1)).2.2.2) = (if nIT K (ySh K (yS K seed sh l1 (n + 1)).1 (yS K seed sh l1 (n + 1)).2.1) (K.1 2).toNat < (yS K seed sh l1 (n + 1)).2.2.2 then nIT K (ySh K (yS K seed sh l1 (n + 1)).1 (yS K seed sh l1 (n + 1)).2.1) (K.1 2).toNat else (yS K seed sh l1 (n + 1)).2.2.2)
    rw [a, c, ih]
theorem yS_sum (hn : 0 ≤ K.1 2 ∧ K.1 2 ≤ 6) (n : Nat) : 0 ≤ (yS K seed sh l0 n).2.2.1 ∧ (yS K seed sh l0 n).2.2.1 ≤ 6 * n := by
  induction n with
  | zero => exact ⟨Int.le_refl _, Int.le_refl _⟩
  | succ n ih =>
    have i := nIT_in (K := K) (sh := ySh K (yS K seed sh l0 n).1 (yS K seed sh l0 n).2.1) (K.1 2).toNat
    show 0 ≤ (yS K seed sh l0 n).2.2.1 + nIT K (ySh K (yS K seed sh l0 n).1 (yS K seed sh l0 n).2.1) (K.1 2).toNat ∧ (yS K seed sh l0 n).2.2.1 + nIT K (ySh K (yS K seed sh l0 n).1 (yS K seed sh l0 n).2.1) (K.1 2).toNat ≤ 6 * ((n + 1 : Nat) : Int)
    omega
/-- the states of one person alone matter -/
theorem Rch_eq (e2 : S (b + 1) = S' (b' + 1)) : ∀ {n : Nat} {hr k0 j : Int}, Rch K S b p n hr k0 j ↔ Rch K S' b' p n hr k0 j
  | 0, hr, k0, j => Iff.rfl
  | n + 1, hr, k0, j => by
    have t : ∀ k d, tr K S b p hr k d = tr K S' b' p hr k d := fun k d => by unfold tr; rw [e2]
    constructor
    · rintro (y | ⟨d, d0, d1, d2, d3⟩)
      · exact Or.inl ((Rch_eq e2).mp y)
      · rw [t] at d2 d3
        exact Or.inr ⟨d, d0, d1, d2, (Rch_eq e2).mp d3⟩
    · rintro (y | ⟨d, d0, d1, d2, d3⟩)
      · exact Or.inl ((Rch_eq e2).mpr y)
      · rw [← t] at d2 d3
        exact Or.inr ⟨d, d0, d1, d2, (Rch_eq e2).mpr d3⟩
theorem FHr_congr (e1 : S b = S' b') (e2 : S (b + 1) = S' (b' + 1)) (e3 : S (b + p + 2) = S' (b' + p + 2)) (e4 : S (b + p + 8) = S' (b' + p + 8)) (e5 : S (b + p + 14) = S' (b' + p + 14)) : FHr K S b p m r ↔ FHr K S' b' p m r := by
  have ek : k0F S b p = k0F S' b' p := by
    unfold k0F
    rw [e3, e4]
  have ef : (fun x => ∃ j, 0 ≤ j ∧ j ≤ 19 ∧ bitZ m j ∧ Rch K S b p (x + 1 - (S b + S (b + p + 14))).toNat (S b + S (b + p + 14)) (k0F S b p) j) = (fun x => ∃ j, 0 ≤ j ∧ j ≤ 19 ∧ bitZ m j ∧ Rch K S' b' p (x + 1 - (S' b' + S' (b' + p + 14))).toNat (S' b' + S' (b' + p + 14)) (k0F S' b' p) j) := by
    funext x
    rw [ek, e1, e5]
    exact propext ⟨fun ⟨j, a, c, d, y⟩ => ⟨j, a, c, d, (Rch_eq e2).mp y⟩, fun ⟨j, a, c, d, y⟩ => ⟨j, a, c, d, (Rch_eq e2).mpr y⟩⟩
  unfold FHr
  rw [ef, ek, e1, e5]
theorem S0d_0 : S0d K sh 0 = 0 := by unfold S0d; rw [if_neg (by decide), if_neg (by omega), if_neg (by omega)]
theorem S0d_1 : S0d K sh (0 + 1) = sh := by unfold S0d; rw [if_pos (by decide)]
theorem S0d_2 (hp : 0 ≤ p ∧ p ≤ 5) : S0d K sh (0 + p + 2) = K.1 (4 * p + 117) := by
  unfold S0d
  rw [if_neg (by omega), if_pos (by omega), show 4 * (0 + p + 2 - 2) + 117 = 4 * p + 117 by omega]
theorem S0d_8 (hp : 0 ≤ p ∧ p ≤ 5) : S0d K sh (0 + p + 8) = if K.1 (4 * p + 117) = K.1 (4 * p + 118) then 1 else 0 := by
  unfold S0d
  rw [if_neg (by omega), if_neg (by omega), if_pos (by omega), show 4 * (0 + p + 8 - 8) + 117 = 4 * p + 117 by omega, show 4 * (0 + p + 8 - 8) + 118 = 4 * p + 118 by omega]
theorem S0d_14 (hp : 0 ≤ p ∧ p ≤ 5) : S0d K sh (0 + p + 14) = 0 := by
  unfold S0d
  rw [if_neg (by omega), if_neg (by omega), if_neg (by omega)]
theorem SB_0d (hK : KR K) (hp : 0 ≤ p ∧ p < K.1 2) : SB (S0d K sh) 0 p := by
  have n := hK.2.2.1
  have k := hK.2.2.2.2 p hp.1 hp.2
  have k0 := hK.1
  unfold SB
  rw [S0d_0, S0d_14 (by omega), S0d_8 (by omega), S0d_2 (by omega)]
  refine ⟨by omega, by omega, ?_, by omega⟩
  split <;> omega
theorem F_doneInTime (he : 4 ≤ e) (hc : CXq h K q L) (hK : KR K) (kb : ∀ p, 0 ≤ p → p < K.1 2 → KB K p) (hsc : scn sc) (hc0 : 60 ≤ sc) (sv : ∀ p, 0 ≤ p → p < K.1 2 → SV h sc (S0d K sh) 0 p) (k : Q (some (.inl (nIT K sh (K.1 2).toNat))) h) : Rn xs xl e mm_Plans_doneInTime 0 [some (.inr (.inr 77)), some (.inr (.inr q)), some (.inr (.inr sc)), none, none, none] [] h Q := by
  obtain ⟨hF, hP, hq, -, ⟨-, -, n4⟩, -⟩ := id hc
  have n2 := hK.2.2.1
  have loop : ∀ (n : Nat) (v4 : Int) (o : Option LV), K.1 2 - v4 ≤ n → 0 ≤ v4 → v4 ≤ K.1 2 → Rn xs xl e mm_Plans_doneInTime 5 [some (.inr (.inr 77)), some (.inr (.inr q)), some (.inr (.inr sc)), some (.inl (nIT K sh v4.toNat)), some (.inl v4), o] [] h Q := by
    intro n
    induction n with
    | zero =>
      intro v4 o hn a0 a1
      have i := nIT_in (K := K) (sh := sh) v4.toNat
      exact B_Plans_doneInTime_5 hq hsc hc0 hF (by omega) (by omega) ⟨fun _ => by rw [show v4 = K.1 2 by omega]; exact k, fun c => by omega⟩
    | succ n ih =>
      intro v4 o hn a0 a1
      have i := nIT_in (K := K) (sh := sh) v4.toNat
      refine B_Plans_doneInTime_5 hq hsc hc0 hF (by omega) (by omega) ⟨fun _ => by rw [show v4 = K.1 2 by omega]; exact k, fun c => ⟨3, by omega, ?_⟩⟩
      have p1 : v4 < K.1 2 := by omega
      have sb := SB_0d (sh := sh) hK ⟨a0, p1⟩
      have eb := (CXq_p hc a0 p1).2.2.2
      refine F_homeHour (Nat.le_refl 3) hc hK (kb v4 a0 p1) sb hsc hc0 ⟨a0, p1⟩ (sv v4 a0 p1) (fun r hr => ?_)
      have neg := FHr_neg sb hr
      have st : nIT K sh (v4 + 1).toNat = nIT K sh v4.toNat + @ite Int (itP K sh v4) (Classical.propDecidable _) 1 0 := by
        rw [show (v4 + 1).toNat = v4.toNat + 1 by omega]
        show nIT K sh v4.toNat + @ite Int (itP K sh (v4.toNat : Int)) (Classical.propDecidable _) 1 0 = _
        rw [Int.toNat_of_nonneg a0]
      have no : ¬ (0 ≤ r ∧ r ≤ K.1 (4 * v4 + 119)) → nIT K sh (v4 + 1).toNat = nIT K sh v4.toNat := fun z => by
        rw [st, if_neg, Int.add_zero]
        rintro ⟨r', hr', x⟩
        rw [FHr_one sb hr' hr] at x
        exact z x
      have yes : 0 ≤ r → r ≤ K.1 (4 * v4 + 119) → nIT K sh (v4 + 1).toNat = nIT K sh v4.toNat + 1 := fun z y => by
        rw [st, if_pos ⟨r, hr, z, y⟩]
      refine B_Plans_doneInTime_22 hq hsc hc0 hF hP (by omega) (by omega) ⟨fun y => ?_, fun y => ⟨fun z => ?_, fun z => ?_⟩⟩
      · have := ih (v4 + 1) (some (.inl r)) (by omega) (by omega) (by omega)
        rw [no (by omega)] at this
        exact this
      · rw [eb] at z
        have := ih (v4 + 1) (some (.inl r)) (by omega) (by omega) (by omega)
        rw [no (by omega)] at this
        exact this
      · rw [eb] at z
        have := ih (v4 + 1) (some (.inl r)) (by omega) (by omega) (by omega)
        rw [yes (by omega) z] at this
        exact this
  exact B_Plans_doneInTime_0 hq hsc hc0 hF (loop 6 0 none (by omega) (by omega) (by omega))
theorem F_runYears (he : 5 ≤ e) (hc : CXq h K q L) (hK : KR K) (kb : ∀ p, 0 ≤ p → p < K.1 2 → KB K p) (hd : 1 ≤ K.1 1) (h5 : 1 ≤ v2 ∧ v2 ≤ 60) (k : ∀ g, scf 68 h g → RF g → Q (some (.inl (if v3 = 0 then (yS K v1 sh 6 v2.toNat).2.2.1 else (yS K v1 sh 6 v2.toNat).2.2.2))) g) : Rn xs xl e mm_Plans_runYears 0 [some (.inr (.inr 77)), some (.inr (.inr q)), some (.inr (.inr 68)), some (.inl sh), some (.inl v1), some (.inl v2), some (.inl v3), none, none, none, none, none, none, none] [] h Q := by
  have n2 := hK.2.2.1
  have hF0 := hc.1
  have hq := hc.2.2.1
  have cx : ∀ g, scf 68 h g → CXq g K q L := fun g gf => CXq_fr hc hK (RF_sc scn_68 hF0 gf) (fun a i ha => gf a i (by unfold scp; omega))
  have loop : ∀ (n : Nat) (g : LH) (v12 : Int) (o : Option LV), v2 - v12 ≤ n → 0 ≤ v12 → v12 ≤ v2 → scf 68 h g → Rn xs xl e mm_Plans_runYears 18 [some (.inr (.inr 77)), some (.inr (.inr q)), some (.inr (.inr 68)), some (.inl sh), some (.inl v1), some (.inl v2), some (.inl v3), some (.inr (.inl (yS K v1 sh 6 v12.toNat).1)), none, some (.inl (yS K v1 sh 6 v12.toNat).2.1), some (.inl (yS K v1 sh 6 v12.toNat).2.2.1), some (.inl (yS K v1 sh 6 v12.toNat).2.2.2), some (.inl v12), o] [] g Q := by
    intro n
    have stop : ∀ (g : LH) (v12 : Int), v2 ≤ v12 → v12 ≤ v2 → scf 68 h g → (v3 = 0 → Q (some (.inl (yS K v1 sh 6 v12.toNat).2.2.1)) g) ∧ (v3 ≠ 0 → Q (some (.inl (yS K v1 sh 6 v12.toNat).2.2.2)) g) := fun g v12 a c gf => by
      have := k g gf (RF_sc scn_68 hF0 gf)
      rw [show v12 = v2 by omega]
      exact ⟨fun z => by rw [if_pos z] at this; exact this, fun z => by rw [if_neg z] at this; exact this⟩
    induction n with
    | zero =>
      intro g v12 o hn a0 a1 gf
      exact B_Plans_runYears_18 hq scn_68 (by decide) (cx g gf).1 (by omega) (by omega) ⟨fun c => stop g v12 c a1 gf, fun c => by omega⟩
    | succ n ih =>
      intro g v12 o hn a0 a1 gf
      have gc := cx g gf
      have g2 : rd g q 2 = K.1 1 := gc.2.2.2.2.1.2.1
      have g4 : rd g q 4 = K.1 2 := gc.2.2.2.2.1.2.2
      have en : (v12 + 1).toNat = v12.toNat + 1 := by omega
      have s68 : v12 < v2 → ∀ o, Rn xs xl e mm_Plans_runYears 68 [some (.inr (.inr 77)), some (.inr (.inr q)), some (.inr (.inr 68)), some (.inl sh), some (.inl v1), some (.inl v2), some (.inl v3), some (.inr (.inl (yS K v1 sh 6 (v12 + 1).toNat).1)), none, some (.inl (yS K v1 sh 6 (v12 + 1).toNat).2.1), some (.inl (yS K v1 sh 6 v12.toNat).2.2.1), some (.inl (yS K v1 sh 6 v12.toNat).2.2.2), some (.inl v12), o] [] g Q := by
        intro c o
        refine B_Plans_runYears_68 hq scn_68 (by decide) gc.1 (by omega) ⟨1, by omega, F_sbegin (Nat.le_refl 1) scn_68 (by decide) hq gc.1 gc.2.1 (by omega) (fun u bg uf uF => ?_)⟩
        have fu : scf 68 h u := scf_trans gf uf
        refine B_Plans_runYears_73 hq scn_68 (by decide) uF (by omega) ⟨4, by omega, ?_⟩
        have fw : scf 68 h (wr u 68 1 (yS K v1 sh 6 (v12 + 1).toNat).2.1) := fun a i n => by
          rw [rd_wr, if_neg (by unfold scp at n; omega)]
          exact fu a i n
        have wc := cx _ fw
        obtain ⟨b0, b1, b2, b3, b4, b5⟩ := bg
        have uc := cx u fu
        rw [g4] at b3 b4
        refine F_doneInTime (sh := (yS K v1 sh 6 (v12 + 1).toNat).2.1) (Nat.le_refl 4) wc hK kb scn_68 (by decide) (fun p p0 p1 => ?_) ?_
        · obtain ⟨f1, f2, f3, f4⟩ := CXq_p uc p0 p1
          have bz := bitZ_01 (rd u 68 3) p
          have i3 := b3 p p0 (by omega)
          unfold SV
          rw [S0d_0, S0d_1, S0d_2 (by omega), S0d_14 (by omega), S0d_8 (by omega), rdw_nei (by decide), rdw_eq, rdw_ne (by omega), rdw_nei (by decide), rdw_nei (by decide), b0, b2, b4 p p0 p1, f2]
          refine ⟨rfl, rfl, rfl, bitZ_n.mp bit_zero, ?_⟩
          rw [f3, f2] at i3
          unfold bitZ at i3
          by_cases z : K.1 (4 * p + 117) = K.1 (4 * p + 118)
          · rw [if_pos z]
            exact i3.mpr ⟨p1, z.symm⟩
          · rw [if_neg z]
            have : ¬ zand (zshr (rd u 68 3) p) 1 = 1 := fun y => z (i3.mp y).2.symm
            omega
        · have sm := yS_sum (K := K) (seed := v1) (sh := sh) (l0 := 6) n2 v12.toNat
          have ci := nIT_in (K := K) (sh := (yS K v1 sh 6 (v12 + 1).toNat).2.1) (K.1 2).toNat
          refine B_Plans_runYears_85 hq scn_68 (by decide) wc.1 (by omega) ⟨by omega, fun m hm => ?_⟩
          have nx := ih _ (v12 + 1) (some (.inl (nIT K (yS K v1 sh 6 (v12 + 1).toNat).2.1 (K.1 2).toNat))) (by omega) (by omega) (by omega) fw
          have e3 : (yS K v1 sh 6 (v12 + 1).toNat).2.2.1 = (yS K v1 sh 6 v12.toNat).2.2.1 + nIT K (yS K v1 sh 6 (v12 + 1).toNat).2.1 (K.1 2).toNat := by rw [en]; rfl
          have e4 : (yS K v1 sh 6 (v12 + 1).toNat).2.2.2 = if nIT K (yS K v1 sh 6 (v12 + 1).toNat).2.1 (K.1 2).toNat < (yS K v1 sh 6 v12.toNat).2.2.2 then nIT K (yS K v1 sh 6 (v12 + 1).toNat).2.1 (K.1 2).toNat else (yS K v1 sh 6 v12.toNat).2.2.2 := by rw [en]; rfl
          have em : m = (yS K v1 sh 6 (v12 + 1).toNat).2.2.2 := by
            rw [e4]
            split <;> omega
          rw [em, ← e3]
          exact nx
      refine B_Plans_runYears_18 hq scn_68 (by decide) gc.1 (by omega) (by omega) ⟨fun c => stop g v12 c a1 gf, fun c => ⟨fun z => by omega, fun z => ⟨by omega, fun y => ?_, fun y => ?_⟩⟩⟩
      · have s := s68 c o
        have e1 : (yS K v1 sh 6 (v12 + 1).toNat).1 = dN (dN (yS K v1 sh 6 v12.toNat).1) := by rw [en]; rfl
        have e2 : (yS K v1 sh 6 (v12 + 1).toNat).2.1 = zxor (yS K v1 sh 6 v12.toNat).2.1 (zshl 1 (dB (dN (yS K v1 sh 6 v12.toNat).1) (K.1 1))) := by
          rw [en]
          show ySh K _ _ = _
          unfold ySh
          exact if_neg y
        rw [e1, e2] at s
        rw [g2]
        exact s
      · have s := s68 c o
        have e1 : (yS K v1 sh 6 (v12 + 1).toNat).1 = dN (dN (yS K v1 sh 6 v12.toNat).1) := by rw [en]; rfl
        have e2 : (yS K v1 sh 6 (v12 + 1).toNat).2.1 = 0 := by
          rw [en]
          show ySh K _ _ = _
          unfold ySh
          exact if_pos y
        rw [e1, e2] at s
        exact s
  exact B_Plans_runYears_0 hq scn_68 (by decide) hF0 (loop v2.toNat h 0 none (by omega) (by omega) (by omega) (fun _ _ _ => rfl))
end YA
end
