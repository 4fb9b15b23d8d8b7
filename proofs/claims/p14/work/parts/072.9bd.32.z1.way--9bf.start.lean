section
/-! errand, part z1: the way, told once for both -/
/-- door d, as soon as it lets one by in state q from an hour on, is a step of a way with the fewest doors; one goes through in hour x -/
def nxD (K : KEY) (S : Int → Int) (b p till : Int) (F : Int → Int) (hour q d x : Int) : Prop := frst K S b p hour till q d x ∧ F (20 * (x + 1) + tr K S b p x q d) + 1 = F (20 * hour + q)
/-- the doors of the way -/
def wayP (K : KEY) (S : Int → Int) (b p till : Int) (F : Int → Int) : Nat → Int → Int → List Int → Prop
  | 0, _, _, l => l = []
  | n + 1, hour, q, l => ∃ d x l', l = d :: l' ∧ (0 ≤ d ∧ d < K.1 1) ∧ nxD K S b p till F hour q d x ∧ (∀ d' x', 0 ≤ d' → d' < d → ¬ nxD K S b p till F hour q d' x') ∧ wayP K S b p till F n (x + 1) (tr K S b p x q d) l'
/-- what one's way is, with the hour at its end -/
def errW (K : KEY) (S : Int → Int) (b p till : Int) (l : List Int) : Prop := ((till < 0 ∨ k0F S b p = K.1 (4 * p + 117) + 10) ∧ l = []) ∨ ((0 ≤ till ∧ k0F S b p ≠ K.1 (4 * p + 117) + 10) ∧ (S b + S (b + p + 14) ≤ till ∧ till ≤ 23) ∧ ∃ F, FOK K S b p till (S b + S (b + p + 14)) F ∧ wayP K S b p till F (F (20 * (S b + S (b + p + 14)) + k0F S b p)).toNat (S b + S (b + p + 14)) (k0F S b p) l)
/-- the door at a place of a way -/
def liA : List Int → Nat → Int
  | [], _ => 0
  | a :: _, 0 => a
  | _ :: l, n + 1 => liA l n
theorem liA_1 : ∀ (l r : List Int) (i : Nat), i < l.length → liA (l ++ r) i = liA l i
  | [], _, _, h => absurd h (Nat.not_lt_zero _)
  | a :: l, r, 0, _ => rfl
  | a :: l, r, i + 1, h => liA_1 l r i (Nat.lt_of_succ_lt_succ h)
theorem liA_2 : ∀ (l : List Int) (d : Int), liA (l ++ [d]) l.length = d
  | [], _ => rfl
  | a :: l, d => liA_2 l d
theorem liL (l : List Int) (d : Int) : (((l ++ [d]).length : Nat) : Int) = (l.length : Int) + 1 := by
  rw [List.length_append]
  rfl
section ZA
variable {K : KEY} {S : Int → Int} {b p till lo hour q d x x' hr : Int} {F F' : Int → Int} {l l' : List Int}
theorem frst_one (h : frst K S b p hour till q d x) (g : frst K S b p hour till q d x') : x = x' := by
  have a : ¬ x < x' := fun c => by
    have := g.2.2.2 x h.1 c
    have := h.2.2.1
    omega
  have c : ¬ x' < x := fun c => by
    have := h.2.2.2 x' g.1 c
    have := g.2.2.1
    omega
  omega
theorem wayP_one : ∀ (n : Nat) (hour q : Int) (l l' : List Int), wayP K S b p till F n hour q l → wayP K S b p till F n hour q l' → l = l'
  | 0, _, _, l, l', h, g => by
    have h : l = [] := h
    have g : l' = [] := g
    rw [h, g]
  | n + 1, hour, q, l, l', h, g => by
    obtain ⟨d, x, r, e, d0, dx, dn, w⟩ := h
    obtain ⟨d', x', r', e', d0', dx', dn', w'⟩ := g
    have a : ¬ d < d' := fun c => dn' d x d0.1 c dx
    have c : ¬ d' < d := fun c => dn d' x' d0'.1 c dx'
    have ed : d = d' := by omega
    subst ed
    have exx := frst_one dx.1 dx'.1
    subst exx
    rw [e, e', wayP_one n (x + 1) _ r r' w w']
theorem FOK_one (kb : KB K p) (f : FOK K S b p till lo F) (g : FOK K S b p till lo F') (lo0 : 0 ≤ lo) (t1 : till ≤ 23) : ∀ (n : Nat) (hr q : Int), lo ≤ hr → hr + n = till + 1 → 0 ≤ q → q ≤ 19 → q % 10 < K.1 0 → F (20 * hr + q) = F' (20 * hr + q)
  | 0, hr, q, h0, h1, q0, q1, _ => by
    rw [show hr = till + 1 by omega, f.1 q q0 q1, g.1 q q0 q1]
  | n + 1, hr, q, h0, h1, q0, q1, qr => by
    obtain ⟨-, f2, f3, f4⟩ := f.2 hr q h0 (by omega) q0 q1
    obtain ⟨-, g2, g3, g4⟩ := g.2 hr q h0 (by omega) q0 q1
    have e0 := FOK_one kb f g lo0 t1 n (hr + 1) q (by omega) (by omega) q0 q1 qr
    have ed : ∀ d, 0 ≤ d → d < K.1 1 → 0 ≤ tr K S b p hr q d → F (20 * (hr + 1) + tr K S b p hr q d) = F' (20 * (hr + 1) + tr K S b p hr q d) := fun d d0 d1 d2 => by
      have t := tr_ok (S := S) (b := b) (hr := hr) kb ⟨q0, q1⟩ ⟨d0, d1⟩ (by omega)
      exact FOK_one kb f g lo0 t1 n (hr + 1) _ (by omega) (by omega) d2 t.2.1 (t.2.2 d2)
    have le1 : F (20 * hr + q) ≤ F' (20 * hr + q) := by
      rcases g4 with z | ⟨d, d0, d1, d2, z⟩
      · omega
      · have := f3 qr d d0 d1 d2
        have := ed d d0 d1 d2
        omega
    have le2 : F' (20 * hr + q) ≤ F (20 * hr + q) := by
      rcases f4 with z | ⟨d, d0, d1, d2, z⟩
      · omega
      · have := g3 qr d d0 d1 d2
        have := ed d d0 d1 d2
        omega
    omega
theorem FOK_eq (kb : KB K p) (f : FOK K S b p till lo F) (g : FOK K S b p till lo F') (lo0 : 0 ≤ lo) (t1 : till ≤ 23) (h0 : lo ≤ hr) (h1 : hr ≤ till + 1) (q0 : 0 ≤ q) (q1 : q ≤ 19) (qr : q % 10 < K.1 0) : F (20 * hr + q) = F' (20 * hr + q) :=
  FOK_one kb f g lo0 t1 (till + 1 - hr).toNat hr q h0 (by omega) q0 q1 qr
theorem nxD_congr (kb : KB K p) (f : FOK K S b p till lo F) (g : FOK K S b p till lo F') (lo0 : 0 ≤ lo) (t1 : till ≤ 23) (h0 : lo ≤ hour) (h1 : hour ≤ till + 1) (q0 : 0 ≤ q) (q1 : q ≤ 19) (qr : q % 10 < K.1 0) (d0 : 0 ≤ d) (d1 : d < K.1 1) : nxD K S b p till F hour q d x ↔ nxD K S b p till F' hour q d x := by
  unfold nxD
  constructor
  · rintro ⟨z1, z2⟩
    have t := tr_ok (S := S) (b := b) (hr := x) kb ⟨q0, q1⟩ ⟨d0, d1⟩ (by have := z1.1; have := z1.2.1; omega)
    have e1 := FOK_eq kb f g lo0 t1 (hr := x + 1) (q := tr K S b p x q d) (by have := z1.1; omega) (by have := z1.2.1; omega) z1.2.2.1 t.2.1 (t.2.2 z1.2.2.1)
    have e2 := FOK_eq kb f g lo0 t1 h0 h1 q0 q1 qr
    exact ⟨z1, by omega⟩
  · rintro ⟨z1, z2⟩
    have t := tr_ok (S := S) (b := b) (hr := x) kb ⟨q0, q1⟩ ⟨d0, d1⟩ (by have := z1.1; have := z1.2.1; omega)
    have e1 := FOK_eq kb f g lo0 t1 (hr := x + 1) (q := tr K S b p x q d) (by have := z1.1; omega) (by have := z1.2.1; omega) z1.2.2.1 t.2.1 (t.2.2 z1.2.2.1)
    have e2 := FOK_eq kb f g lo0 t1 h0 h1 q0 q1 qr
    exact ⟨z1, by omega⟩
theorem wayP_congr (kb : KB K p) (f : FOK K S b p till lo F) (g : FOK K S b p till lo F') (lo0 : 0 ≤ lo) (t1 : till ≤ 23) : ∀ (n : Nat) (hour q : Int) (l : List Int), lo ≤ hour → hour ≤ till + 1 → 0 ≤ q → q ≤ 19 → q % 10 < K.1 0 → wayP K S b p till F n hour q l → wayP K S b p till F' n hour q l
  | 0, _, _, _, _, _, _, _, _, h => h
  | n + 1, hour, q, l, h0, h1, q0, q1, qr, h => by
    obtain ⟨d, x, r, e, d0, dx, dn, w⟩ := h
    have t := tr_ok (S := S) (b := b) (hr := x) kb ⟨q0, q1⟩ d0 (by have := dx.1.1; have := dx.1.2.1; omega)
    exact ⟨d, x, r, e, d0, (nxD_congr kb f g lo0 t1 h0 h1 q0 q1 qr d0.1 d0.2).mp dx, fun d' x' c0 c1 z => dn d' x' c0 c1 ((nxD_congr kb f g lo0 t1 h0 h1 q0 q1 qr c0 (by omega)).mpr z), wayP_congr kb f g lo0 t1 n (x + 1) _ r (by have := dx.1.1; omega) (by have := dx.1.2.1; omega) dx.1.2.2.1 t.2.1 (t.2.2 dx.1.2.2.1) w⟩
theorem k0F_in (sb : SB S b p) : 0 ≤ k0F S b p ∧ k0F S b p ≤ 19 ∧ k0F S b p % 10 = S (b + p + 2) := by
  obtain ⟨-, -, -, s3⟩ := sb
  unfold k0F
  split <;> omega
theorem errW_one (kb : KB K p) (sb : SB S b p) (hro : S (b + p + 2) < K.1 0) (h : errW K S b p till l) (g : errW K S b p till l') : l = l' := by
  obtain ⟨q0, q1, q2⟩ := k0F_in sb
  have s0 := sb.1
  have s1 := sb.2.1
  rcases h with ⟨h1, h2⟩ | ⟨⟨h1, h2⟩, ⟨h3, h4⟩, F, h5, h6⟩
  · rcases g with ⟨g1, g2⟩ | ⟨⟨g1, g2⟩, _⟩
    · rw [h2, g2]
    · rcases h1 with z | z
      · omega
      · exact absurd z g2
  · rcases g with ⟨g1, g2⟩ | ⟨⟨g1, g2⟩, _, F', g5, g6⟩
    · rcases g1 with z | z
      · omega
      · exact absurd z h2
    · have e := FOK_eq kb h5 g5 (by omega) h4 (hr := S b + S (b + p + 14)) (q := k0F S b p) (by omega) (by omega) q0 q1 (by omega)
      have w := wayP_congr kb h5 g5 (by omega) h4 _ _ _ _ (by omega) (by omega) q0 q1 (by omega) h6
      rw [e] at w
      exact wayP_one _ _ _ _ _ w g6
theorem frst_ex (hx : 0 ≤ tr K S b p x q d) (x0 : hour ≤ x) (x1 : x ≤ till) : ∃ f, frst K S b p hour till q d f ∧ f ≤ x := by
  have fnd : ∀ (m : Nat), hour + m ≤ x + 1 → (∀ y, hour ≤ y → y < hour + m → tr K S b p y q d < 0) ∨ ∃ f, frst K S b p hour till q d f ∧ f ≤ x := by
    intro m
    induction m with
    | zero => exact fun _ => Or.inl (fun y y0 y1 => by omega)
    | succ m im =>
      intro hm
      rcases im (by omega) with z | z
      · by_cases c : 0 ≤ tr K S b p (hour + m) q d
        · exact Or.inr ⟨hour + m, ⟨by omega, by omega, c, fun y y0 y1 => z y y0 y1⟩, by omega⟩
        · refine Or.inl (fun y y0 y1 => ?_)
          by_cases hy : y = hour + m
          · rw [hy]; omega
          · exact z y y0 (by omega)
      · exact Or.inr z
  rcases fnd (x + 1 - hour).toNat (by omega) with z | z
  · have := z x x0 (by omega)
    omega
  · exact z
/-- the way goes on -/
theorem ex_next (kb : KB K p) (f : FOK K S b p till lo F) (lo0 : 0 ≤ lo) (t1 : till ≤ 23) (h0 : lo ≤ hour) (h1 : hour ≤ till + 1) (q0 : 0 ≤ q) (q1 : q ≤ 19) (qr : q % 10 < K.1 0) (p0 : 0 < F (20 * hour + q)) (p1 : F (20 * hour + q) < 1000000) : ∃ d x, (0 ≤ d ∧ d < K.1 1) ∧ nxD K S b p till F hour q d x := by
  obtain ⟨X, d, x0, x1, d0, d1, d2, d3⟩ := F_next f ⟨q0, q1⟩ (till + 1 - hour).toNat hour h0 (by omega) p0 p1
  obtain ⟨x, fx, le⟩ := frst_ex d2 x0 x1
  have f0 := fx.1
  have f1' := fx.2.1
  have f2 := fx.2.2.1
  have same := tr_hour (S := S) (b := b) (hr := X) (hr' := x) kb ⟨q0, q1⟩ ⟨d0, d1⟩ (by omega) (by omega) d2 f2
  have t := tr_ok (S := S) (b := b) (hr := X) kb ⟨q0, q1⟩ ⟨d0, d1⟩ (by omega)
  have m1 := F_mono f (q := tr K S b p X q d) ⟨d2, t.2.1⟩ (X - x).toNat (x + 1) (by omega) (by omega)
  rw [show x + 1 + (((X - x).toNat : Nat) : Int) = X + 1 by omega] at m1
  have m2 := F_mono f (q := q) ⟨q0, q1⟩ (x - hour).toNat hour h0 (by omega)
  rw [show hour + (((x - hour).toNat : Nat) : Int) = x by omega] at m2
  have m3 := (f.2 x q (by omega) f1' q0 q1).2.2.1 qr d d0 d1 f2
  rw [same] at m3
  refine ⟨d, x, ⟨d0, d1⟩, fx, ?_⟩
  rw [same]
  omega
end ZA
end
section
/-! errand, part z2: the class's fewest doors from each hour on -/
def ciN (hr r δ : Int) : Int := 20 * hr + 2 * r + δ
def dnN (b er δ : Int) : Int := if b = er then 1 else δ
def cvN (v : Int) : Int := if v = 1000 then 1000000 else v
/-- the class's table, laid as the reference lays its own -/
def nFN (N : Int → Int) (i : Int) : Int := cvN (N (ciN (i / 20) (i % 20 % 10) (i % 20 / 10)))
def lsN (till hr v : Int) : Prop := v = 1000 ∨ (0 ≤ v ∧ v ≤ till + 1 - hr)
def minN (m a b : Int) : Prop := m ≤ a ∧ m ≤ b ∧ (m = a ∨ m = b)
/-- a row of the table, by the doors Ed seen so far -/
def rowN (N : Int → Int) (till hr er : Int) (Ed : Int → Int → Prop) : Prop := ∀ r δ, 0 ≤ r → r ≤ 9 → (δ = 0 ∨ δ = 1) → lsN till hr (N (ciN hr r δ)) ∧ N (ciN hr r δ) ≤ N (ciN (hr + 1) r δ) ∧ (∀ b, Ed r b → N (ciN hr r δ) ≤ N (ciN (hr + 1) b (dnN b er δ)) + 1) ∧ (N (ciN hr r δ) = N (ciN (hr + 1) r δ) ∨ ∃ b, Ed r b ∧ N (ciN hr r δ) = N (ciN (hr + 1) b (dnN b er δ)) + 1)
/-- the row behind the last hour -/
def endN (N : Int → Int) (till hm : Int) : Prop := ∀ r δ, 0 ≤ r → r ≤ 9 → (δ = 0 ∨ δ = 1) → N (ciN (till + 1) r δ) = if r = hm ∧ δ = 1 then 0 else 1000
/-- a row that the next one may be built upon -/
def nxtN (N : Int → Int) (till hr : Int) : Prop := ∀ r δ, 0 ≤ r → r ≤ 9 → (δ = 0 ∨ δ = 1) → lsN till hr (N (ciN hr r δ))
theorem dnN_01 {b er δ : Int} (h : δ = 0 ∨ δ = 1) : dnN b er δ = 0 ∨ dnN b er δ = 1 := by
  unfold dnN
  split
  · exact Or.inr rfl
  · exact h
section ZB
variable {xs : Nat → Int} {xl e : Nat} {h g : LH} {Q : Option LV → LH → Prop} {K : KEY} {S : Int → Int} {L : List Int} {N N' : Int → Int} {Ed Ed' : Int → Int → Prop} {q p P b d s sh er hm till hr at' first last r δ a c v2 v3 v4 v5 : Int}
theorem F_lessenNeed (hq : q = 5 ∨ q = 32) (hp : q + 21 ≤ p ∧ p ≤ q + 26) (hF : RF h) (h2 : 0 ≤ v2 ∧ v2 ≤ 23) (h3 : 0 ≤ v3 ∧ v3 ≤ 9) (h4 : 0 ≤ v4 ∧ v4 ≤ 9) (hb : ∀ δ, (δ = 0 ∨ δ = 1) → 0 ≤ rd h 79 (ciN (v2 + 1) v4 δ) ∧ rd h 79 (ciN (v2 + 1) v4 δ) ≤ 1000)
    (k : ∀ g, RF g → (∀ a i, a ≠ 79 → rd g a i = rd h a i) → (∀ i, i ≠ ciN v2 v3 0 → i ≠ ciN v2 v3 1 → rd g 79 i = rd h 79 i) → (∀ δ, (δ = 0 ∨ δ = 1) → minN (rd g 79 (ciN v2 v3 δ)) (rd h 79 (ciN v2 v3 δ)) (rd h 79 (ciN (v2 + 1) v4 (dnN v4 (rd h p 3) δ)) + 1)) → Q none g) : Rn xs xl e mm_Plans_lessenNeed 0 [some (.inr (.inr 77)), some (.inr (.inr p)), some (.inl v2), some (.inl v3), some (.inl v4), none, none, none, none] [] h Q := by
  have w79 : ∀ g i v, RF g → RF (wr g 79 i v) := fun g i v gF => RF_wn (hav_nr (by decide +kernel) i) gF
  have p79 : p ≠ 79 := by omega
  -- one of both
  have step : ∀ (u : LH) (v5 : Int) (o6 o7 o8 : Option LV), (v5 = 0 ∨ v5 = 1) → RF u → (∀ a i, a ≠ 79 → rd u a i = rd h a i) → (∀ i, i ≠ ciN v2 v3 0 → rd u 79 i = rd h 79 i) → (v5 = 0 → rd u 79 (ciN v2 v3 0) = rd h 79 (ciN v2 v3 0)) → (∀ m o6 o7 o8, minN m (rd h 79 (ciN v2 v3 v5)) (rd h 79 (ciN (v2 + 1) v4 (dnN v4 (rd h p 3) v5)) + 1) → Rn xs xl e mm_Plans_lessenNeed 3 [some (.inr (.inr 77)), some (.inr (.inr p)), some (.inl v2), some (.inl v3), some (.inl v4), some (.inl (v5 + 1)), o6, o7, o8] [] (wr u 79 (ciN v2 v3 v5) m) Q) → Rn xs xl e mm_Plans_lessenNeed 3 [some (.inr (.inr 77)), some (.inr (.inr p)), some (.inl v2), some (.inl v3), some (.inl v4), some (.inl v5), o6, o7, o8] [] u Q := by
    intro u v5 o6 o7 o8 h5 uF uf un u0 next
    have ep : rd u p 3 = rd h p 3 := uf p 3 p79
    have e1 : rd u 79 (ciN v2 v3 v5) = rd h 79 (ciN v2 v3 v5) := by
      rcases h5 with rfl | rfl
      · exact u0 rfl
      · exact un _ (by unfold ciN; omega)
    have e2 : ∀ δ, (δ = 0 ∨ δ = 1) → rd u 79 (ciN (v2 + 1) v4 δ) = rd h 79 (ciN (v2 + 1) v4 δ) := fun δ h => un _ (by unfold ciN; omega)
    have i1 : ciN v2 v3 v5 = 20 * v2 + 2 * v3 + v5 := rfl
    have i2 : ∀ δ, ciN (v2 + 1) v4 δ = 20 * v2 + 2 * v4 + δ + 20 := fun δ => by unfold ciN; omega
    have b5 := hb v5 h5
    have b1 := hb 1 (Or.inr rfl)
    have x5 := e2 v5 h5
    have x1 := e2 1 (Or.inr rfl)
    unfold minN at next
    refine B_Plans_lessenNeed_3 hq hp uF h2 h3 h4 (by omega) ⟨fun z => by omega, fun _ => ⟨fun z => ⟨by omega, ?_, fun m hm => ?_⟩, fun z => ⟨?_, fun m hm => ?_⟩⟩⟩
    · rw [← i2 v5, x5]
      omega
    · rw [ep] at z
      have dn : dnN v4 (rd h p 3) v5 = v5 := by
        unfold dnN
        rw [if_neg z]
      rw [← i1, ← i2 v5, e1, x5] at hm
      have := next m (some (.inl v5)) (some (.inl (20 * v2 + 2 * v3 + v5))) (some (.inl (20 * v2 + 2 * v4 + v5 + 20))) (by rw [dn]; exact hm)
      exact this
    · rw [show 20 * v2 + 2 * v4 + 21 = ciN (v2 + 1) v4 1 by unfold ciN; omega, x1]
      omega
    · rw [ep] at z
      have dn : dnN v4 (rd h p 3) v5 = 1 := by
        unfold dnN
        rw [if_pos z]
      rw [← i1, show 20 * v2 + 2 * v4 + 21 = ciN (v2 + 1) v4 1 by unfold ciN; omega, e1, x1] at hm
      have := next m (some (.inl 1)) (some (.inl (20 * v2 + 2 * v3 + v5))) (some (.inl (20 * v2 + 2 * v4 + 21))) (by rw [dn]; exact hm)
      exact this
  refine B_Plans_lessenNeed_0 hq hp hF (step h 0 none none none (Or.inl rfl) hF (fun _ _ _ => rfl) (fun _ _ => rfl) (fun _ => rfl) (fun m0 o6 o7 o8 hm0 => ?_))
  refine step (wr h 79 (ciN v2 v3 0) m0) (0 + 1) o6 o7 o8 (Or.inr rfl) (w79 _ _ _ hF) (fun a i n => rdw_ne (fun z => n z.symm)) (fun i n => rdw_nei (fun z => n z.symm)) (fun z => absurd z (by decide)) (fun m1 o6 o7 o8 hm1 => ?_)
  have gF := w79 _ (ciN v2 v3 (0 + 1)) m1 (w79 h (ciN v2 v3 0) m0 hF)
  have n01 : ciN v2 v3 (0 + 1) ≠ ciN v2 v3 0 := by
    unfold ciN
    omega
  refine B_Plans_lessenNeed_3 hq hp gF h2 h3 h4 (by omega) ⟨fun _ => k _ gF (fun a i n => ?_) (fun i n0 n1 => ?_) (fun δ h => ?_), fun z => by omega⟩
  · rw [rdw_ne (fun z => n z.symm), rdw_ne (fun z => n z.symm)]
  · have n1' : ciN v2 v3 (0 + 1) ≠ i := fun z => n1 z.symm
    rw [rdw_nei n1', rdw_nei (fun z => n0 z.symm)]
  · rcases h with rfl | rfl
    · rw [rdw_nei n01, rdw_eq]
      exact hm0
    · rw [show ciN v2 v3 1 = ciN v2 v3 (0 + 1) from rfl, rdw_eq]
      exact hm1
/-- one door more -/
theorem rowN_step (ht : till ≤ 23) (h1 : 0 ≤ hr) (ha : 0 ≤ a ∧ a ≤ 9) (hc : 0 ≤ c ∧ c ≤ 9) (nx : nxtN N till (hr + 1)) (ro : rowN N till hr er Ed) (ev : ∀ i, i ≠ ciN hr a 0 → i ≠ ciN hr a 1 → N' i = N i) (em : ∀ δ, (δ = 0 ∨ δ = 1) → minN (N' (ciN hr a δ)) (N (ciN hr a δ)) (N (ciN (hr + 1) c (dnN c er δ)) + 1)) (hE : ∀ r b, Ed' r b ↔ Ed r b ∨ (r = a ∧ b = c)) (hEd : ∀ r b, Ed' r b → 0 ≤ b ∧ b ≤ 9) : rowN N' till hr er Ed' := by
  intro r δ r0 r1 hδ
  have up : ∀ r δ, 0 ≤ r → r ≤ 9 → (δ = 0 ∨ δ = 1) → N' (ciN (hr + 1) r δ) = N (ciN (hr + 1) r δ) := fun r δ r0 r1 hδ => ev _ (by unfold ciN; omega) (by unfold ciN; omega)
  have upD : ∀ b, Ed' r b → N' (ciN (hr + 1) b (dnN b er δ)) = N (ciN (hr + 1) b (dnN b er δ)) := fun b y => up b _ (hEd r b y).1 (hEd r b y).2 (dnN_01 hδ)
  have es : r ≠ a → N' (ciN hr r δ) = N (ciN hr r δ) := fun z => ev _ (by unfold ciN; omega) (by unfold ciN; omega)
  obtain ⟨o1, o2, o3, o4⟩ := ro r δ r0 r1 hδ
  rw [up r δ r0 r1 hδ]
  by_cases z : r = a
  · subst z
    obtain ⟨m1, m2, m3⟩ := em δ hδ
    have ln := nx c (dnN c er δ) hc.1 hc.2 (dnN_01 hδ)
    have cE : Ed' r c := (hE r c).mpr (Or.inr ⟨rfl, rfl⟩)
    have small : lsN till hr (N' (ciN hr r δ)) := by
      clear o3 o4 es up upD cE
      generalize N' (ciN hr r δ) = m at *
      unfold lsN at o1 ln ⊢
      omega
    generalize N' (ciN hr r δ) = m at *
    refine ⟨small, Int.le_trans m1 o2, fun b y => ?_, ?_⟩
    · rw [upD b y]
      rcases (hE r b).mp y with w | ⟨-, w⟩
      · exact Int.le_trans m1 (o3 b w)
      · rw [w]
        exact m2
    · rcases m3 with w | w
      · rw [w]
        rcases o4 with w2 | ⟨b, w2, w3⟩
        · exact Or.inl w2
        · have y : Ed' r b := (hE r b).mpr (Or.inl w2)
          exact Or.inr ⟨b, y, by rw [upD b y]; exact w3⟩
      · exact Or.inr ⟨c, cE, by rw [upD c cE]; exact w⟩
  · rw [es z]
    refine ⟨o1, o2, fun b y => ?_, ?_⟩
    · rw [upD b y]
      rcases (hE r b).mp y with w | w
      · exact o3 b w
      · exact absurd w.1 z
    · rcases o4 with w | ⟨b, w2, w3⟩
      · exact Or.inl w
      · have y : Ed' r b := (hE r b).mpr (Or.inl w2)
        exact Or.inr ⟨b, y, by rw [upD b y]; exact w3⟩
theorem rowN_congr (ev : ∀ i, N' i = N i) (hE : ∀ r b, Ed' r b ↔ Ed r b) (ro : rowN N till hr er Ed) : rowN N' till hr er Ed' := by
  intro r δ r0 r1 hδ
  obtain ⟨o1, o2, o3, o4⟩ := ro r δ r0 r1 hδ
  rw [ev, ev]
  refine ⟨o1, o2, fun b y => ?_, ?_⟩
  · rw [ev]
    exact o3 b ((hE r b).mp y)
  · rcases o4 with w | ⟨b, w2, w3⟩
    · exact Or.inl w
    · exact Or.inr ⟨b, (hE r b).mpr w2, by rw [ev]; exact w3⟩
/-- by door d one comes from room a into room b -/
theorem dor_edge (hc : CXq h K q L) (hK : KR K) (hs : 0 ≤ s ∧ s ≤ 3) (hh : 0 ≤ hr ∧ hr ≤ 23) (d0 : 0 ≤ d) (d1 : d < K.1 1) (a0 : 0 ≤ a) (a1 : a ≤ 9) (b0 : 0 ≤ b) : ((bitZ (zand (rd h (q + 5) (24 * s + hr)) (zxor sh (-1))) d ∧ a = K.1 (8 * d + 5) ∧ b = K.1 (8 * d + 6)) ∨ (bitZ (zand (rd h (q + 6) (24 * s + hr)) (zxor sh (-1))) d ∧ a = K.1 (8 * d + 6) ∧ b = K.1 (8 * d + 5))) ↔ LF K d s a hr sh 0 = b := by
  have x := ent_edg (v1 := sh) (R := zshl 1 a) hc hK hs hh b0 d0 d1
  obtain ⟨r2, r3, -⟩ := hK.2.2.2.1 d d0 d1
  have k0 := hK.1
  unfold entD at x
  rw [bit_shl a0 (by omega) r2.1 (by omega), bit_shl a0 (by omega) r3.1 (by omega)] at x
  constructor
  · intro z
    obtain ⟨a', c0, c1, c2, c3⟩ := x.mp (z.elim (fun y => Or.inl ⟨y.1, y.2.1.symm, y.2.2⟩) (fun y => Or.inr ⟨y.1, y.2.1.symm, y.2.2⟩))
    rw [bit_shl a0 (by omega) c0 (by omega)] at c2
    rw [← c2]
    exact c3
  · intro z
    rcases x.mpr ⟨a, a0, a1, (bit_shl a0 (by omega) a0 (by omega)).mpr rfl, z⟩ with y | y
    · exact Or.inl ⟨y.1, y.2.1.symm, y.2.2⟩
    · exact Or.inr ⟨y.1, y.2.1.symm, y.2.2⟩
end ZB
end
section
/-! errand, part z3: the class fills its table -/
/-- through some door below D one comes in hour hr from room r into room b -/
def edD (K : KEY) (sh s hr D r b : Int) : Prop := 0 ≤ b ∧ 0 ≤ r ∧ r ≤ 9 ∧ ∃ d, 0 ≤ d ∧ d < D ∧ LF K d s r hr sh 0 = b
section ZC
variable {xs : Nat → Int} {xl e : Nat} {h g : LH} {Q : Option LV → LH → Prop} {K : KEY} {L : List Int} {N N' : Int → Int} {Ed Ed' : Int → Int → Prop} {q p P b d s sh er hm till hr x D first last r δ a c : Int}
theorem rowN_fr (x0 : 0 ≤ x) (ev : ∀ i, 20 * x ≤ i → N' i = N i) (hE : ∀ r b, Ed r b → 0 ≤ b) (ro : rowN N till x er Ed) : rowN N' till x er Ed := by
  intro r δ r0 r1 hδ
  obtain ⟨o1, o2, o3, o4⟩ := ro r δ r0 r1 hδ
  have up : ∀ b, 0 ≤ b → N' (ciN (x + 1) b (dnN b er δ)) = N (ciN (x + 1) b (dnN b er δ)) := fun b b0 => ev _ (by have := dnN_01 (b := b) (er := er) hδ; unfold ciN; omega)
  rw [ev (ciN x r δ) (by unfold ciN; omega), ev (ciN (x + 1) r δ) (by unfold ciN; omega)]
  refine ⟨o1, o2, fun b y => ?_, ?_⟩
  · rw [up b (hE r b y)]
    exact o3 b y
  · rcases o4 with w | ⟨b, w2, w3⟩
    · exact Or.inl w
    · exact Or.inr ⟨b, w2, by rw [up b (hE r b w2)]; exact w3⟩
theorem endN_fr (t0 : 0 ≤ till) (ev : ∀ i, 20 * (till + 1) ≤ i → N' i = N i) (hn : endN N till hm) : endN N' till hm := fun r δ r0 r1 hδ => by
  rw [ev _ (by unfold ciN; omega)]
  exact hn r δ r0 r1 hδ
theorem nxt_end (hn : endN N till hm) : nxtN N till (till + 1) := fun r δ r0 r1 hδ => by
  unfold lsN
  rw [hn r δ r0 r1 hδ]
  split <;> omega
theorem nxt_row (ro : rowN N till x er Ed) : nxtN N till x := fun r δ r0 r1 hδ => (ro r δ r0 r1 hδ).1
theorem F_fillNeed (he : 2 ≤ e) (hc : CXq h K q L) (hK : KR K) (hp : 0 ≤ p ∧ p < K.1 2) (hf : 0 ≤ first ∧ first ≤ 24) (hl : 0 ≤ last ∧ last ≤ 23)
    (k : ∀ g, RF g → (∀ a i, a ≠ 79 → rd g a i = rd h a i) → endN (rd g 79) last (K.1 (4 * p + 117)) → (∀ x, first ≤ x → x ≤ last → rowN (rd g 79) last x (K.1 (4 * p + 118)) (edD K sh (K.1 (4 * p + 116)) x (K.1 1))) → Q none g) : Rn xs xl e mm_Plans_fillNeed 0 [some (.inr (.inr 77)), some (.inr (.inr q)), some (.inr (.inr (q + 21 + p))), some (.inl sh), some (.inl first), some (.inl last), none, none, none, none, none, none] [] h Q := by
  obtain ⟨hF, hP, hq, -, ⟨-, c2, -⟩, -⟩ := id hc
  have k1 := hK.2.1
  have k2 := hK.2.2.1
  obtain ⟨f1, f2, f3, f4⟩ := CXq_p hc hp.1 hp.2
  obtain ⟨s0, h0, e0, -⟩ := hK.2.2.2.2 p hp.1 hp.2
  have k0 := hK.1
  have hPc : q + 21 ≤ q + 21 + p ∧ q + 21 + p ≤ q + 26 := by omega
  generalize K.1 (4 * p + 116) = s at *
  generalize K.1 (4 * p + 117) = hm at *
  generalize K.1 (4 * p + 118) = er at *
  have w79 : ∀ g i v, RF g → RF (wr g 79 i v) := fun g i v gF => RF_wn (hav_nr (by decide +kernel) i) gF
  have cx : ∀ g, RF g → (∀ a i, a ≠ 79 → rd g a i = rd h a i) → CXq g K q L := fun g gF gf => CXq_fr hc hK gF (fun a i ha => gf a i (by omega))
  have eD0 : ∀ {x D r b}, edD K sh s x D r b → 0 ≤ b := fun z => z.1
  have eD9 : ∀ {x D r b}, 0 ≤ x → x ≤ 23 → D ≤ K.1 1 → edD K sh s x D r b → 0 ≤ b ∧ b ≤ 9 := fun {x D r b} x0 x1 hD z => by
    obtain ⟨b0, r0, r1, d, d0, d1, y⟩ := z
    obtain ⟨t2, t3, -⟩ := hK.2.2.2.1 d d0 (by omega)
    rcases (dor_edge (h := h) (sh := sh) (b := b) hc hK s0 ⟨x0, x1⟩ d0 (by omega) r0 r1 b0).mpr y with y | y
    · omega
    · omega
  -- the rows, the last one first
  have rows : ∀ (fuel : Nat) (g : LH) (v6 v7 : Int) (o8 o9 o10 o11 : Option LV), v7 + 1 ≤ fuel → -1 ≤ v7 → v7 ≤ last → RF g → (∀ a i, a ≠ 79 → rd g a i = rd h a i) → endN (rd g 79) last hm → (∀ x, v7 < x → first ≤ x → x ≤ last → rowN (rd g 79) last x er (edD K sh s x (K.1 1))) → Rn xs xl e mm_Plans_fillNeed 59 [some (.inr (.inr 77)), some (.inr (.inr q)), some (.inr (.inr (q + 21 + p))), some (.inl sh), some (.inl first), some (.inl last), some (.inl v6), some (.inl v7), o8, o9, o10, o11] [] g Q := by
    intro fuel
    have stop : ∀ (g : LH) (v7 : Int), v7 < first → RF g → (∀ a i, a ≠ 79 → rd g a i = rd h a i) → endN (rd g 79) last hm → (∀ x, v7 < x → first ≤ x → x ≤ last → rowN (rd g 79) last x er (edD K sh s x (K.1 1))) → Q none g := fun g v7 c gF gf ge gr => k g gF gf ge (fun x x0 x1 => gr x (by omega) x0 x1)
    induction fuel with
    | zero =>
      intro g v6 v7 o8 o9 o10 o11 hn a0 a1 gF gf ge gr
      exact B_Plans_fillNeed_59 hq hPc gF (by omega) (by omega) ⟨fun c => stop g v7 c gF gf ge gr, fun c => by omega⟩
    | succ fuel ih =>
      intro g v6 v7 o8 o9 o10 o11 hn a0 a1 gF gf ge gr
      refine B_Plans_fillNeed_59 hq hPc gF (by omega) (by omega) ⟨fun c => stop g v7 c gF gf ge gr, fun c => ?_⟩
      have x0 : 0 ≤ v7 := by omega
      have cp : ∀ x y, rd (cpyL g 79 (20 * v7 + 20) 79 (20 * v7) 20 ++ g) x y = if x = 79 ∧ 20 * v7 ≤ y ∧ y < 20 * v7 + ((20 : Nat) : Int) then rd g 79 (20 * v7 + 20 + (y - 20 * v7)) else rd g x y := fun x y => rd_cpy g 79 (20 * v7 + 20) 79 (20 * v7) x y 20
      generalize cpyL g 79 (20 * v7 + 20) 79 (20 * v7) 20 ++ g = u at *
      have ug : ∀ a i, a ≠ 79 → rd u a i = rd g a i := fun a i n => by
        rw [cp, if_neg (fun z => n z.1)]
      have uh : ∀ a i, a ≠ 79 → rd u a i = rd h a i := fun a i n => (ug a i n).trans (gf a i n)
      have uF : RF u := RF_row (b := 79) (hav_nr (by decide +kernel)) gF ug
      have uN : ∀ i, 20 * (v7 + 1) ≤ i → rd u 79 i = rd g 79 i := fun i hi => by
        rw [cp, if_neg (by omega)]
      have ue : endN (rd u 79) last hm := endN_fr hl.1 (fun i hi => uN i (by omega)) ge
      have ur : ∀ x, v7 < x → first ≤ x → x ≤ last → rowN (rd u 79) last x er (edD K sh s x (K.1 1)) := fun x z1 z2 z3 => rowN_fr (by omega) (fun i hi => uN i (by omega)) (fun _ _ z => eD0 z) (gr x z1 z2 z3)
      have unx : nxtN (rd u 79) last (v7 + 1) := by
        by_cases z : v7 = last
        · rw [z]
          exact nxt_end ue
        · exact nxt_row (ur (v7 + 1) (by omega) (by omega) (by omega))
      have u0 : rowN (rd u 79) last v7 er (edD K sh s v7 0) := fun r δ r0 r1 hδ => by
        have ee : rd u 79 (ciN v7 r δ) = rd u 79 (ciN (v7 + 1) r δ) := by
          rw [cp, if_pos (by unfold ciN; omega), uN _ (by unfold ciN; omega), show 20 * v7 + 20 + (ciN v7 r δ - 20 * v7) = ciN (v7 + 1) r δ by unfold ciN; omega]
        have := unx r δ r0 r1 hδ
        rw [ee]
        refine ⟨?_, Int.le_refl _, fun b z => ?_, Or.inl rfl⟩
        · unfold lsN at this ⊢
          omega
        · obtain ⟨-, -, -, d, d0, d1, -⟩ := z
          omega
      have uc := cx u uF uh
      have uf1 : rd u (q + 21 + p) 1 = s := (uh _ _ (by omega)).trans f1
      refine B_Plans_fillNeed_91 hq hPc uF (by omega) (by omega) ⟨fun z => by omega, fun _ => ?_⟩
      rw [uf1]
      refine ⟨by omega, by omega, by omega, by omega, by omega, by omega, ?_⟩
      rw [uh (q + 5) _ (by omega), uh (q + 6) _ (by omega)]
      have de : ∀ {d a b : Int}, 0 ≤ d → d < K.1 1 → 0 ≤ a → a ≤ 9 → 0 ≤ b → (((bitZ (zand (rd h (q + 5) (24 * s + v7)) (zxor sh (-1))) d ∧ a = K.1 (8 * d + 5) ∧ b = K.1 (8 * d + 6)) ∨ (bitZ (zand (rd h (q + 6) (24 * s + v7)) (zxor sh (-1))) d ∧ a = K.1 (8 * d + 6) ∧ b = K.1 (8 * d + 5))) ↔ LF K d s a v7 sh 0 = b) := fun d0 d1 a0 a1 b0 => dor_edge hc hK s0 ⟨x0, by omega⟩ d0 d1 a0 a1 b0
      generalize zand (rd h (q + 5) (24 * s + v7)) (zxor sh (-1)) = A at *
      generalize zand (rd h (q + 6) (24 * s + v7)) (zxor sh (-1)) = B at *
      -- door by door
      have doors : ∀ (m : Nat) (w : LH) (D : Int) (o11 : Option LV), K.1 1 - D ≤ m → 0 ≤ D → D ≤ K.1 1 → RF w → (∀ a i, a ≠ 79 → rd w a i = rd h a i) → (∀ i, 20 * (v7 + 1) ≤ i → rd w 79 i = rd u 79 i) → rowN (rd w 79) last v7 er (edD K sh s v7 D) → Rn xs xl e mm_Plans_fillNeed 120 [some (.inr (.inr 77)), some (.inr (.inr q)), some (.inr (.inr (q + 21 + p))), some (.inl sh), some (.inl first), some (.inl last), some (.inl v6), some (.inl v7), some (.inl A), some (.inl B), some (.inl D), o11] [] w Q := by
        intro m
        have out : ∀ (w : LH) (D : Int) (o8 o9 o10 o11 : Option LV), K.1 1 ≤ D → D ≤ K.1 1 → RF w → (∀ a i, a ≠ 79 → rd w a i = rd h a i) → (∀ i, 20 * (v7 + 1) ≤ i → rd w 79 i = rd u 79 i) → rowN (rd w 79) last v7 er (edD K sh s v7 D) → Rn xs xl e mm_Plans_fillNeed 59 [some (.inr (.inr 77)), some (.inr (.inr q)), some (.inr (.inr (q + 21 + p))), some (.inl sh), some (.inl first), some (.inl last), some (.inl v6), some (.inl (v7 - 1)), o8, o9, o10, o11] [] w Q := fun w D o8 o9 o10 o11 c0 c1 wF wf wn wr' => by
          rw [show D = K.1 1 by omega] at wr'
          refine ih w v6 (v7 - 1) o8 o9 o10 o11 (by omega) (by omega) (by omega) wF wf (endN_fr hl.1 (fun i hi => wn i (by omega)) ue) (fun x z1 z2 z3 => ?_)
          by_cases z : x = v7
          · rw [z]
            exact wr'
          · exact rowN_fr (by omega) (fun i hi => wn i (by omega)) (fun _ _ z => eD0 z) (ur x (by omega) z2 z3)
        induction m with
        | zero =>
          intro w D o11 hm' d0 d1 wF wf wn wr'
          have wc := cx w wF wf
          have w2 : rd w q 2 = K.1 1 := wc.2.2.2.2.1.2.1
          exact B_Plans_fillNeed_120 hq hPc wF wc.2.1 (by omega) (by omega) ⟨fun _ => out w D _ _ _ _ (by omega) d1 wF wf wn wr', fun z => by omega⟩
        | succ m jh =>
          intro w D o11 hm' d0 d1 wF wf wn wr'
          have wc := cx w wF wf
          have w2 : rd w q 2 = K.1 1 := wc.2.2.2.2.1.2.1
          refine B_Plans_fillNeed_120 hq hPc wF wc.2.1 (by omega) (by omega) ⟨fun _ => out w D _ _ _ _ (by omega) d1 wF wf wn wr', fun z => ⟨by omega, ?_⟩⟩
          have dl : D < K.1 1 := by omega
          obtain ⟨t2, t3, -⟩ := hK.2.2.2.1 D d0 dl
          obtain ⟨g2, g3, -⟩ := CXq_d hc d0 dl
          have de' := fun {a b : Int} (a0 : 0 ≤ a) (a1 : a ≤ 9) (b0 : 0 ≤ b) => de (d := D) (a := a) (b := b) d0 dl a0 a1 b0
          have wnx : ∀ {w' : LH}, (∀ i, 20 * (v7 + 1) ≤ i → rd w' 79 i = rd u 79 i) → nxtN (rd w' 79) last (v7 + 1) := fun e r δ r0 r1 hδ => by
            rw [e _ (by unfold ciN; omega)]
            exact unx r δ r0 r1 hδ
          have bnd : ∀ {w' : LH}, (∀ i, 20 * (v7 + 1) ≤ i → rd w' 79 i = rd u 79 i) → ∀ c, 0 ≤ c → c ≤ 9 → ∀ δ, (δ = 0 ∨ δ = 1) → 0 ≤ rd w' 79 (ciN (v7 + 1) c δ) ∧ rd w' 79 (ciN (v7 + 1) c δ) ≤ 1000 := fun e c c0 c1 δ hδ => by
            have := wnx e c δ c0 c1 hδ
            unfold lsN at this
            omega
          have keepU : ∀ {w' : LH} {a : Int}, 0 ≤ a → a ≤ 9 → (∀ i, i ≠ ciN v7 a 0 → i ≠ ciN v7 a 1 → rd w' 79 i = rd w 79 i) → (∀ i, 20 * (v7 + 1) ≤ i → rd w' 79 i = rd u 79 i) := fun a0 a1 e i hi => (e i (by unfold ciN; omega) (by unfold ciN; omega)).trans (wn i hi)
          -- back through the door
          have s165 : ∀ (y : LH), RF y → (∀ a i, a ≠ 79 → rd y a i = rd h a i) → (∀ i, 20 * (v7 + 1) ≤ i → rd y 79 i = rd u 79 i) → rowN (rd y 79) last v7 er (fun r b => edD K sh s v7 D r b ∨ (bitZ A D ∧ r = K.1 (8 * D + 5) ∧ b = K.1 (8 * D + 6))) → Rn xs xl e mm_Plans_fillNeed 165 [some (.inr (.inr 77)), some (.inr (.inr q)), some (.inr (.inr (q + 21 + p))), some (.inl sh), some (.inl first), some (.inl last), some (.inl v6), some (.inl v7), some (.inl A), some (.inl B), some (.inl D), some (.inr (.inr (q + 7 + D)))] [] y Q := by
            intro y yF yf yn yr
            have y2 : rd y (q + 7 + D) 2 = K.1 (8 * D + 5) := (yf _ _ (by omega)).trans g2
            have y3 : rd y (q + 7 + D) 3 = K.1 (8 * D + 6) := (yf _ _ (by omega)).trans g3
            have full : ∀ r b, edD K sh s v7 (D + 1) r b ↔ (edD K sh s v7 D r b ∨ (bitZ A D ∧ r = K.1 (8 * D + 5) ∧ b = K.1 (8 * D + 6))) ∨ (bitZ B D ∧ r = K.1 (8 * D + 6) ∧ b = K.1 (8 * D + 5)) := fun r b => by
              unfold edD
              constructor
              · rintro ⟨b0, r0, r1, d, c0, c1, z⟩
                by_cases t : d = D
                · rw [t] at z
                  rcases (de' r0 r1 b0).mpr z with z | z
                  · exact Or.inl (Or.inr z)
                  · exact Or.inr z
                · exact Or.inl (Or.inl ⟨b0, r0, r1, d, c0, by omega, z⟩)
              · rintro ((⟨b0, r0, r1, d, c0, c1, z⟩ | z) | z)
                · exact ⟨b0, r0, r1, d, c0, by omega, z⟩
                · exact ⟨by omega, by omega, by omega, D, d0, by omega, (de' (by omega) (by omega) (by omega)).mp (Or.inl z)⟩
                · exact ⟨by omega, by omega, by omega, D, d0, by omega, (de' (by omega) (by omega) (by omega)).mp (Or.inr z)⟩
            refine B_Plans_fillNeed_165 hq hPc yF (by omega) (by omega) ⟨fun z => B_Plans_fillNeed_192 hq hPc yF (by omega) (by omega) (jh y (D + 1) _ (by omega) (by omega) (by omega) yF yf yn (rowN_congr (fun _ => rfl) (fun r b => ?_) yr)), fun z => ⟨1, by omega, ?_⟩⟩
            · rw [full]
              exact ⟨fun t => t.elim (fun t => t) (fun t => absurd t.1 (bitZ_n.mpr z)), Or.inl⟩
            · have bD : bitZ B D := Classical.byContradiction (fun t => z (bitZ_n.mp t))
              rw [y2, y3]
              have ye : rd y (q + 21 + p) 3 = er := (yf _ _ (by omega)).trans f3
              refine F_lessenNeed hq hPc yF (by omega) (by omega) (by omega) (bnd yn _ (by omega) (by omega)) (fun v vF vf vn vm => ?_)
              rw [ye] at vm
              have vh : ∀ a i, a ≠ 79 → rd v a i = rd h a i := fun a i n => (vf a i n).trans (yf a i n)
              have vU : ∀ i, 20 * (v7 + 1) ≤ i → rd v 79 i = rd u 79 i := fun i hi => (vn i (by unfold ciN; omega) (by unfold ciN; omega)).trans (yn i hi)
              exact B_Plans_fillNeed_192 hq hPc vF (by omega) (by omega) (jh v (D + 1) _ (by omega) (by omega) (by omega) vF vh vU (rowN_step (a := K.1 (8 * D + 6)) (c := K.1 (8 * D + 5)) (N := rd y 79) (by omega) x0 (by omega) (by omega) (wnx yn) yr vn vm (fun r b => by rw [full]; exact or_congr Iff.rfl ⟨fun t => t.2, fun t => ⟨bD, t⟩⟩) (fun r b t => eD9 x0 (by omega) (by omega) t)))
          refine ⟨fun z => s165 w wF wf wn (rowN_congr (fun _ => rfl) (fun r b => ⟨fun t => t.elim (fun t => t) (fun t => absurd t.1 (bitZ_n.mpr z)), Or.inl⟩) wr'), fun z => ⟨1, by omega, ?_⟩⟩
          have bA : bitZ A D := Classical.byContradiction (fun t => z (bitZ_n.mp t))
          rw [(wf (q + 7 + D) 2 (by omega)).trans g2, (wf (q + 7 + D) 3 (by omega)).trans g3]
          have we : rd w (q + 21 + p) 3 = er := (wf _ _ (by omega)).trans f3
          refine F_lessenNeed hq hPc wF (by omega) (by omega) (by omega) (bnd wn _ (by omega) (by omega)) (fun v vF vf vn vm => ?_)
          rw [we] at vm
          have vh : ∀ a i, a ≠ 79 → rd v a i = rd h a i := fun a i n => (vf a i n).trans (wf a i n)
          have vU : ∀ i, 20 * (v7 + 1) ≤ i → rd v 79 i = rd u 79 i := fun i hi => (vn i (by unfold ciN; omega) (by unfold ciN; omega)).trans (wn i hi)
          exact s165 v vF vh vU (rowN_step (a := K.1 (8 * D + 5)) (c := K.1 (8 * D + 6)) (N := rd w 79) (by omega) x0 (by omega) (by omega) (wnx wn) wr' vn vm (fun r b => or_congr Iff.rfl ⟨fun t => t.2, fun t => ⟨bA, t⟩⟩) (fun r b t => t.elim (fun t => eD9 x0 (by omega) (by omega) t) (fun t => by omega)))
      exact doors (K.1 1).toNat u 0 _ (by omega) (by omega) (by omega) uF uh (fun _ _ => rfl) u0
  -- the row behind the last
  have init : ∀ (fuel : Nat) (g : LH) (v7 : Int), 20 - v7 ≤ fuel → 0 ≤ v7 → v7 ≤ 20 → RF g → (∀ a i, a ≠ 79 → rd g a i = rd h a i) → (∀ j, 0 ≤ j → j < v7 → rd g 79 (20 * last + 20 + j) = if j = 2 * hm + 1 then 0 else 1000) → Rn xs xl e mm_Plans_fillNeed 12 [some (.inr (.inr 77)), some (.inr (.inr q)), some (.inr (.inr (q + 21 + p))), some (.inl sh), some (.inl first), some (.inl last), some (.inl (20 * last + 20)), some (.inl v7), none, none, none, none] [] g Q := by
    intro fuel
    have stop : ∀ (g : LH) (v7 : Int), 20 ≤ v7 → RF g → (∀ a i, a ≠ 79 → rd g a i = rd h a i) → (∀ j, 0 ≤ j → j < v7 → rd g 79 (20 * last + 20 + j) = if j = 2 * hm + 1 then 0 else 1000) → Rn xs xl e mm_Plans_fillNeed 59 [some (.inr (.inr 77)), some (.inr (.inr q)), some (.inr (.inr (q + 21 + p))), some (.inl sh), some (.inl first), some (.inl last), some (.inl (20 * last + 20)), some (.inl last), none, none, none, none] [] g Q := fun g v7 c gF gf gj =>
      rows 24 g _ last _ _ _ _ (by omega) (by omega) (by omega) gF gf (fun r δ r0 r1 hδ => by
        rw [show ciN (last + 1) r δ = 20 * last + 20 + (2 * r + δ) by unfold ciN; omega, gj _ (by omega) (by omega)]
        by_cases z : r = hm ∧ δ = 1
        · rw [if_pos z, if_pos (by omega)]
        · rw [if_neg z, if_neg (by omega)]) (fun x z1 z2 z3 => by omega)
    induction fuel with
    | zero =>
      intro g v7 hn a0 a1 gF gf gj
      exact B_Plans_fillNeed_12 hq hPc gF (by omega) (by omega) (by omega) ⟨fun c => stop g v7 c gF gf gj, fun c => by omega⟩
    | succ fuel ih =>
      intro g v7 hn a0 a1 gF gf gj
      have g2 : rd g (q + 21 + p) 2 = hm := (gf _ _ (by omega)).trans f2
      have put : ∀ v, v7 < 20 → v = (if v7 = 2 * hm + 1 then 0 else 1000) → Rn xs xl e mm_Plans_fillNeed 12 [some (.inr (.inr 77)), some (.inr (.inr q)), some (.inr (.inr (q + 21 + p))), some (.inl sh), some (.inl first), some (.inl last), some (.inl (20 * last + 20)), some (.inl (v7 + 1)), none, none, none, none] [] (wr g 79 (20 * last + 20 + v7) v) Q := fun v c hv => by
        refine ih _ (v7 + 1) (by omega) (by omega) (by omega) (w79 _ _ _ gF) (fun a i n => ?_) (fun j j0 j1 => ?_)
        · rw [rdw_ne (fun z => n z.symm)]
          exact gf a i n
        · by_cases z : j = v7
          · rw [z, rdw_eq]
            exact hv
          · rw [rdw_nei (by omega)]
            exact gj j j0 (by omega)
      refine B_Plans_fillNeed_12 hq hPc gF (by omega) (by omega) (by omega) ⟨fun c => stop g v7 c gF gf gj, fun c => ?_⟩
      rw [g2]
      exact ⟨by omega, by omega, fun z => ⟨by omega, put 1000 c (by rw [if_neg z])⟩, fun z => ⟨by omega, put 0 c (by rw [if_pos z])⟩⟩
  exact B_Plans_fillNeed_0 hq hPc hF (by omega) (init 20 h 0 (by omega) (by omega) (by omega) hF (fun _ _ _ => rfl) (fun j j0 j1 => by omega))
end ZC
end
section
/-! errand, part z4: the class's way -/
/-- places of the table between two hours -/
def bndN (N : Int → Int) (lo till : Int) : Prop := ∀ x r δ, lo ≤ x → x ≤ till + 1 → 0 ≤ r → r ≤ 9 → (δ = 0 ∨ δ = 1) → N (ciN x r δ) = 1000 ∨ (0 ≤ N (ciN x r δ) ∧ N (ciN x r δ) ≤ 25)
section ZD
variable {xs : Nat → Int} {xl e : Nat} {h g : LH} {Q : Option LV → LH → Prop} {K : KEY} {S : Int → Int} {L : List Int} {N : Int → Int} {q p b d s sh er hm till hr lo hour z x a sc : Int}
theorem nFN_at (h0 : 0 ≤ z) (h1 : z ≤ 19) : nFN N (20 * x + z) = cvN (N (ciN x (z % 10) (z / 10))) := by
  unfold nFN
  rw [show (20 * x + z) / 20 = x by omega, show (20 * x + z) % 20 = z by omega]
theorem cvN_lt (h : x = 1000 ∨ (0 ≤ x ∧ x ≤ 25)) : (cvN x = 1000000 ∧ x = 1000) ∨ (cvN x = x ∧ 0 ≤ x ∧ x ≤ 25) := by
  unfold cvN
  split <;> omega
theorem LF_v (hc : CXq h K q L) (hK : KR K) (hs : 0 ≤ s ∧ s ≤ 3) (hh : 0 ≤ hr ∧ hr ≤ 23) (d0 : 0 ≤ d) (d1 : d < K.1 1) (a0 : 0 ≤ a) (a1 : a ≤ 9) : LF K d s a hr sh 0 = -1 ∨ (0 ≤ LF K d s a hr sh 0 ∧ ((a = K.1 (8 * d + 5) ∧ LF K d s a hr sh 0 = K.1 (8 * d + 6)) ∨ (a = K.1 (8 * d + 6) ∧ LF K d s a hr sh 0 = K.1 (8 * d + 5)))) := by
  obtain ⟨e2, e3, -⟩ := CXq_d hc d0 d1
  obtain ⟨t2, t3, -⟩ := hK.2.2.2.1 d d0 d1
  rw [hc.2.2.2.2.2.2.2.2 d s a hr sh d0 d1 hs.1 hs.2 a0 a1 hh.1 hh.2]
  unfold inF
  by_cases c : rd h (q + 7 + d) 2 = a ∧ wAh (rd h (q + 7 + d)) L s hr (rd h (q + 7 + d) 8) 0 ∧ ¬ bitZ sh d
  · rw [if_pos c]
    exact Or.inr ⟨by omega, Or.inl ⟨by rw [← e2]; exact c.1.symm, e3⟩⟩
  · rw [if_neg c]
    by_cases c2 : rd h (q + 7 + d) 3 = a ∧ wBk (rd h (q + 7 + d)) L s hr (rd h (q + 7 + d) 8) 0 ∧ ¬ bitZ sh d
    · rw [if_pos c2]
      exact Or.inr ⟨by omega, Or.inr ⟨by rw [← e3]; exact c2.1.symm, e2⟩⟩
    · rw [if_neg c2]
      exact Or.inl rfl
theorem tr_lf (hx : x < 24) : (tr K S b p x z d < 0 ↔ LF K d (K.1 (4 * p + 116)) (z % 10) x (S (b + 1)) 0 < 0) ∧ (0 ≤ LF K d (K.1 (4 * p + 116)) (z % 10) x (S (b + 1)) 0 → tr K S b p x z d = LF K d (K.1 (4 * p + 116)) (z % 10) x (S (b + 1)) 0 + (if 10 ≤ z ∨ LF K d (K.1 (4 * p + 116)) (z % 10) x (S (b + 1)) 0 = K.1 (4 * p + 118) then 10 else 0)) := by
  unfold tr NW
  rw [if_pos hx]
  generalize LF K d (K.1 (4 * p + 116)) (z % 10) x (S (b + 1)) 0 = v
  by_cases c : v < 0
  · rw [if_pos c]
    exact ⟨by omega, fun y => by omega⟩
  · rw [if_neg c]
    refine ⟨⟨fun y => ?_, fun y => absurd y c⟩, fun _ => rfl⟩
    split at y <;> omega
theorem F_hourThrough (he : 2 ≤ e) (hc : CXq h K q L) (hK : KR K) (hp : 0 ≤ p ∧ p < K.1 2) (d0 : 0 ≤ d) (d1 : d < K.1 1) (hh : 0 ≤ hour ∧ hour ≤ 24) (ht : 0 ≤ till ∧ till ≤ 23) (z0 : 0 ≤ z ∧ z ≤ 19) (w3 : rd h 77 3 = hour) (w4 : rd h 77 4 = 2 * (z % 10) + z / 10) (k : ∀ r, ((r = -1 ∧ ∀ x, ¬ frst K S b p hour till z d x) ∨ (0 ≤ r ∧ frst K S b p hour till z d r)) → Q (some (.inl r)) h) : Rn xs xl e mm_Plans_hourThrough 0 [some (.inr (.inr 77)), some (.inr (.inr q)), some (.inl (K.1 (4 * p + 116))), some (.inl (S (b + 1))), some (.inl d), some (.inl till), none] [] h Q := by
  obtain ⟨hF, hP, hq, -, ⟨-, c2, -⟩, -, -, st, lf⟩ := id hc
  have k1 := hK.2.1
  obtain ⟨s0, -, -, -⟩ := hK.2.2.2.2 p hp.1 hp.2
  obtain ⟨-, -, e5, -⟩ := CXq_d hc d0 d1
  obtain ⟨-, -, t5, -⟩ := hK.2.2.2.1 d d0 d1
  have loop : ∀ (fuel : Nat) (v6 : Int), till + 1 - v6 ≤ fuel → hour ≤ v6 → v6 ≤ 24 → (∀ y, hour ≤ y → y < v6 → y ≤ till → tr K S b p y z d < 0) → Rn xs xl e mm_Plans_hourThrough 6 [some (.inr (.inr 77)), some (.inr (.inr q)), some (.inl (K.1 (4 * p + 116))), some (.inl (S (b + 1))), some (.inl d), some (.inl till), some (.inl v6)] [] h Q := by
    intro fuel
    have stop : ∀ v6 : Int, till < v6 → (∀ y, hour ≤ y → y < v6 → y ≤ till → tr K S b p y z d < 0) → Q (some (.inl (-1))) h := fun v6 c no => k (-1) (Or.inl ⟨rfl, fun x f => by
      have := no x f.1 (by have := f.2.1; omega) f.2.1
      have := f.2.2.1
      omega⟩)
    induction fuel with
    | zero =>
      intro v6 hn a0 a1 no
      exact B_Plans_hourThrough_6 hq hF (by omega) (by omega) ⟨fun c => stop v6 c no, fun c => by omega⟩
    | succ fuel ih =>
      intro v6 hn a0 a1 no
      refine B_Plans_hourThrough_6 hq hF (by omega) (by omega) ⟨fun c => stop v6 c no, fun c => ⟨by omega, 1, by omega, ?_⟩⟩
      rw [w4, show (2 * (z % 10) + z / 10) / 2 = z % 10 by omega]
      obtain ⟨u1, u2⟩ := tr_lf (K := K) (S := S) (b := b) (p := p) (d := d) (z := z) (x := v6) (by omega)
      have lv := LF_v (s := K.1 (4 * p + 116)) (sh := S (b + 1)) (a := z % 10) (hr := v6) hc hK s0 (by omega) d0 d1 (by omega) (by omega)
      have el := lf d (K.1 (4 * p + 116)) (z % 10) v6 (S (b + 1)) d0 d1 s0.1 s0.2 (by omega) (by omega) (by omega) (by omega)
      refine F_into (Nat.le_refl 1) hq (by omega) (by omega) s0 (by omega) hF hP (by omega) st ?_
      rw [← el]
      refine B_Plans_hourThrough_29 hq hF (by omega) ⟨fun y => ih (v6 + 1) (by omega) (by omega) (by omega) (fun y' y0 y1 y2 => ?_), fun y => k v6 (Or.inr ⟨by omega, a0, c, ?_, fun y' y0 y1 => no y' y0 y1 (by omega)⟩)⟩
      · by_cases t : y' = v6
        · rw [t]
          exact u1.mpr (by omega)
        · exact no y' y0 (by omega) y2
      · have := mt u1.mp (by omega)
        omega
  refine B_Plans_hourThrough_0 hq hF ?_
  rw [w3]
  exact loop 25 hour (by omega) (by omega) (by omega) (fun y y0 y1 _ => by omega)
theorem F_stateThrough (hc : CXq h K q L) (hK : KR K) (hp : 0 ≤ p ∧ p < K.1 2) (d0 : 0 ≤ d) (d1 : d < K.1 1) (hx : 0 ≤ x ∧ x ≤ 23) (z0 : 0 ≤ z ∧ z ≤ 19) (w4 : rd h 77 4 = 2 * (z % 10) + z / 10) (hz : 0 ≤ tr K S b p x z d) (k : Q (some (.inl (2 * (tr K S b p x z d % 10) + tr K S b p x z d / 10))) h) : Rn xs xl e mm_Plans_stateThrough 0 [some (.inr (.inr 77)), some (.inr (.inr q)), some (.inl (K.1 (4 * p + 118))), some (.inl d), none, none] [] h Q := by
  obtain ⟨hF, hP, hq, -⟩ := id hc
  have k1 := hK.2.1
  have k0 := hK.1
  obtain ⟨s0, -, -, -⟩ := hK.2.2.2.2 p hp.1 hp.2
  obtain ⟨e2, e3, -⟩ := CXq_d hc d0 d1
  obtain ⟨t2, t3, -⟩ := hK.2.2.2.1 d d0 d1
  obtain ⟨u1, u2⟩ := tr_lf (K := K) (S := S) (b := b) (p := p) (d := d) (z := z) (x := x) (by omega)
  have lv := LF_v (s := K.1 (4 * p + 116)) (sh := S (b + 1)) (a := z % 10) (hr := x) hc hK s0 hx d0 d1 (by omega) (by omega)
  generalize LF K d (K.1 (4 * p + 116)) (z % 10) x (S (b + 1)) 0 = v at *
  have v0 : 0 ≤ v := by
    have := mt u1.mpr (by omega)
    omega
  have et := u2 v0
  have room : (2 * (z % 10) + z / 10) / 2 = z % 10 := by omega
  have flag : (2 * (z % 10) + z / 10) % 2 = z / 10 := by omega
  -- by the room behind the door
  have fin : ∀ w : Int, w = v → (w ≠ K.1 (4 * p + 118) → Q (some (.inl (2 * w + z / 10))) h) ∧ (w = K.1 (4 * p + 118) → Q (some (.inl (2 * w + 1))) h) := fun w hw => by
    rw [hw]
    refine ⟨fun y => ?_, fun y => ?_⟩
    · by_cases c : 10 ≤ z
      · rw [if_pos (Or.inl c)] at et
        rw [et, show 2 * ((v + 10) % 10) + (v + 10) / 10 = 2 * v + z / 10 by omega] at k
        exact k
      · rw [if_neg (fun t => t.elim c y)] at et
        rw [et, show 2 * ((v + 0) % 10) + (v + 0) / 10 = 2 * v + z / 10 by omega] at k
        exact k
    · rw [if_pos (Or.inr y)] at et
      rw [et, show 2 * ((v + 10) % 10) + (v + 10) / 10 = 2 * v + 1 by omega] at k
      exact k
  refine B_Plans_stateThrough_0 hq hF hP (by omega) ⟨by omega, ?_⟩
  rw [w4, room, flag, e2, e3]
  refine ⟨fun c => ⟨by omega, fun y => ⟨by omega, by omega, (fin _ (by omega)).1 y⟩, fun y => ⟨by omega, (fin _ (by omega)).2 y⟩⟩, fun c => ⟨by omega, fun y => ⟨by omega, by omega, (fin _ (by omega)).1 y⟩, fun y => ⟨by omega, (fin _ (by omega)).2 y⟩⟩⟩
theorem F_nextDoor (he : 3 ≤ e) (hc : CXq h K q L) (hK : KR K) (kb : KB K p) (hp : 0 ≤ p ∧ p < K.1 2) (lo0 : 0 ≤ lo) (hh : lo ≤ hour ∧ hour ≤ till + 1) (ht : 0 ≤ till ∧ till ≤ 23) (z0 : 0 ≤ z ∧ z ≤ 19) (zr : z % 10 < K.1 0) (w3 : rd h 77 3 = hour) (w4 : rd h 77 4 = 2 * (z % 10) + z / 10) (bn : bndN (rd h 79) lo till) (fk : FOK K S b p till lo (nFN (rd h 79))) (f0 : 0 < nFN (rd h 79) (20 * hour + z)) (f1 : nFN (rd h 79) (20 * hour + z) < 1000000) (k : ∀ d x, 0 ≤ d → d < K.1 1 → nxD K S b p till (nFN (rd h 79)) hour z d x → (∀ d' x', 0 ≤ d' → d' < d → ¬ nxD K S b p till (nFN (rd h 79)) hour z d' x') → Q (some (.inl d)) h) : Rn xs xl e mm_Plans_nextDoor 0 [some (.inr (.inr 77)), some (.inr (.inr q)), some (.inr (.inr (q + 21 + p))), some (.inl (S (b + 1))), some (.inl till), none, none, none] [] h Q := by
  obtain ⟨hF, hP, hq, -, ⟨-, c2, -⟩, -⟩ := id hc
  have k1 := hK.2.1
  have k2 := hK.2.2.1
  obtain ⟨g1, -, g3, -⟩ := CXq_p hc hp.1 hp.2
  have hPc : q + 21 ≤ q + 21 + p ∧ q + 21 + p ≤ q + 26 := by omega
  obtain ⟨D, X, ⟨D0, D1⟩, DX⟩ := ex_next kb fk lo0 ht.2 hh.1 hh.2 z0.1 z0.2 zr f0 f1
  have now := cvN_lt (bn hour (z % 10) (z / 10) hh.1 hh.2 (by omega) (by omega) (by omega))
  have en := nFN_at (N := rd h 79) (x := hour) z0.1 z0.2
  have i1 : ciN hour (z % 10) (z / 10) = 20 * hour + (2 * (z % 10) + z / 10) := by
    unfold ciN
    omega
  have loop : ∀ (fuel : Nat) (v5 : Int) (o6 o7 : Option LV), D + 1 - v5 ≤ fuel → 0 ≤ v5 → v5 ≤ D → (∀ d' x', 0 ≤ d' → d' < v5 → ¬ nxD K S b p till (nFN (rd h 79)) hour z d' x') → Rn xs xl e mm_Plans_nextDoor 3 [some (.inr (.inr 77)), some (.inr (.inr q)), some (.inr (.inr (q + 21 + p))), some (.inl (S (b + 1))), some (.inl till), some (.inl v5), o6, o7] [] h Q := by
    intro fuel
    induction fuel with
    | zero => intro v5 o6 o7 hn a0 a1 no; omega
    | succ fuel ih =>
      intro v5 o6 o7 hn a0 a1 no
      refine B_Plans_nextDoor_3 hq hPc hF (by omega) (by omega) ⟨fun c => by omega, fun c => ⟨2, by omega, ?_⟩⟩
      rw [g1]
      have more : (∀ x', ¬ nxD K S b p till (nFN (rd h 79)) hour z v5 x') → ∀ (y6 : Int) (o7 : Option LV), Rn xs xl e mm_Plans_nextDoor 90 [some (.inr (.inr 77)), some (.inr (.inr q)), some (.inr (.inr (q + 21 + p))), some (.inl (S (b + 1))), some (.inl till), some (.inl v5), some (.inl y6), o7] [] h Q := fun nn y6 o7 => by
        have vD : v5 ≠ D := fun e => nn X (by rw [e]; exact DX)
        exact B_Plans_nextDoor_90 hq hPc hF (by omega) (ih (v5 + 1) _ _ (by omega) (by omega) (by omega) (fun d' x' c0 c1 => by
          by_cases t' : d' = v5
          · rw [t']
            exact nn x'
          · exact no d' x' c0 (by omega)))
      refine F_hourThrough (S := S) (b := b) (z := z) (Nat.le_refl 2) hc hK hp a0 (by omega) (by omega) ht z0 w3 w4 (fun r hr => B_Plans_nextDoor_26 hq hPc hF (by omega) ⟨fun y => ?_, fun y => ?_⟩)
      · rcases hr with ⟨y', _⟩ | ⟨r0, fr⟩
        · exact absurd y' y
        · have r1 := fr.2.1
          have t := tr_ok (S := S) (b := b) (hr := r) kb z0 ⟨a0, by omega⟩ (by omega)
          have tz := fr.2.2.1
          have hr0 := fr.1
          refine ⟨by omega, by omega, 0, by omega, ?_⟩
          rw [g3]
          refine F_stateThrough (S := S) (b := b) (x := r) hc hK hp a0 (by omega) (by omega) z0 w4 tz ?_
          have then' := cvN_lt (bn (r + 1) (tr K S b p r z v5 % 10) (tr K S b p r z v5 / 10) (by omega) (by omega) (by omega) (by omega) (by omega))
          have et := nFN_at (N := rd h 79) (x := r + 1) (z := tr K S b p r z v5) tz t.2.1
          have i2 : ciN (r + 1) (tr K S b p r z v5 % 10) (tr K S b p r z v5 / 10) = 20 * r + 20 + (2 * (tr K S b p r z v5 % 10) + tr K S b p r z v5 / 10) := by
            unfold ciN
            omega
          rw [i1] at now en
          rw [i2] at then' et
          refine B_Plans_nextDoor_55 hq hPc hF (by omega) (by omega) ⟨by omega, by omega, ?_⟩
          rw [w3, w4]
          refine ⟨by omega, by omega, by omega, by omega, fun c => more (fun x' n => ?_) _ _, fun c => k v5 r a0 (by omega) ⟨fr, by omega⟩ no⟩
          have e1 := frst_one n.1 fr
          rw [e1] at n
          have := n.2
          omega
      · rcases hr with ⟨_, nf⟩ | ⟨r0, _⟩
        · exact more (fun x' n => nf x' n.1) _ _
        · omega
  exact B_Plans_nextDoor_0 hq hPc hF (loop 15 0 none none (by omega) (by omega) (by omega) (fun d' x' c0 c1 => by omega))
theorem FOK_N (hc : CXq h K q L) (hK : KR K) (hp : 0 ≤ p ∧ p < K.1 2) (lo0 : 0 ≤ lo) (ht : 0 ≤ till ∧ till ≤ 23) (en : endN N till (K.1 (4 * p + 117))) (ro : ∀ x, lo ≤ x → x ≤ till → rowN N till x (K.1 (4 * p + 118)) (edD K (S (b + 1)) (K.1 (4 * p + 116)) x (K.1 1))) : FOK K S b p till lo (nFN N) ∧ bndN N lo till := by
  have k0 := hK.1
  obtain ⟨s0, h0, e0, -⟩ := hK.2.2.2.2 p hp.1 hp.2
  have bn : bndN N lo till := fun x r δ x0 x1 r0 r1 hδ => by
    by_cases c : x = till + 1
    · rw [c, en r δ r0 r1 hδ]
      split <;> omega
    · have := (ro x x0 (by omega) r δ r0 r1 hδ).1
      unfold lsN at this
      omega
  refine ⟨⟨fun k k0' k1 => ?_, fun hr z z1 z2 z3 z4 => ?_⟩, bn⟩
  · rw [nFN_at k0' k1, en _ _ (by omega) (by omega) (by omega)]
    by_cases c : k = K.1 (4 * p + 117) + 10
    · rw [if_pos c, if_pos (by omega)]
      rfl
    · rw [if_neg c, if_neg (by omega)]
      rfl
  · obtain ⟨o1, o2, o3, o4⟩ := ro hr z1 z2 (z % 10) (z / 10) (by omega) (by omega) (by omega)
    have b1 := cvN_lt (bn hr (z % 10) (z / 10) z1 (by omega) (by omega) (by omega) (by omega))
    have b2 := cvN_lt (bn (hr + 1) (z % 10) (z / 10) (by omega) (by omega) (by omega) (by omega) (by omega))
    have e1 := nFN_at (N := N) (x := hr) z3 z4
    have e2 := nFN_at (N := N) (x := hr + 1) z3 z4
    -- a door's other side
    have side : ∀ d, 0 ≤ d → d < K.1 1 → 0 ≤ LF K d (K.1 (4 * p + 116)) (z % 10) hr (S (b + 1)) 0 → 0 ≤ tr K S b p hr z d ∧ nFN N (20 * (hr + 1) + tr K S b p hr z d) = cvN (N (ciN (hr + 1) (LF K d (K.1 (4 * p + 116)) (z % 10) hr (S (b + 1)) 0) (dnN (LF K d (K.1 (4 * p + 116)) (z % 10) hr (S (b + 1)) 0) (K.1 (4 * p + 118)) (z / 10)))) ∧ LF K d (K.1 (4 * p + 116)) (z % 10) hr (S (b + 1)) 0 ≤ 9 := fun d d0 d1 v0 => by
      obtain ⟨-, u2⟩ := tr_lf (K := K) (S := S) (b := b) (p := p) (d := d) (z := z) (x := hr) (by omega)
      have et := u2 v0
      obtain ⟨t2, t3, -⟩ := hK.2.2.2.1 d d0 d1
      have lv := LF_v (s := K.1 (4 * p + 116)) (sh := S (b + 1)) (a := z % 10) (hr := hr) hc hK s0 (by omega) d0 d1 (by omega) (by omega)
      generalize LF K d (K.1 (4 * p + 116)) (z % 10) hr (S (b + 1)) 0 = v at *
      have v9 : v ≤ 9 := by omega
      have dn : tr K S b p hr z d = v + 10 * dnN v (K.1 (4 * p + 118)) (z / 10) ∧ (dnN v (K.1 (4 * p + 118)) (z / 10) = 0 ∨ dnN v (K.1 (4 * p + 118)) (z / 10) = 1) := by
        rw [et]
        unfold dnN
        by_cases c : v = K.1 (4 * p + 118)
        · rw [if_pos (Or.inr c), if_pos c]
          omega
        · rw [if_neg c]
          by_cases c2 : 10 ≤ z
          · rw [if_pos (Or.inl c2)]
            omega
          · rw [if_neg (fun t => t.elim c2 c)]
            omega
      obtain ⟨dn1, dn2⟩ := dn
      refine ⟨by omega, ?_, v9⟩
      rw [nFN_at (by omega) (by omega), show tr K S b p hr z d % 10 = v by omega, show tr K S b p hr z d / 10 = dnN v (K.1 (4 * p + 118)) (z / 10) by omega]
    refine ⟨by omega, by omega, fun zr d d0 d1 d2 => ?_, ?_⟩
    · have v0 : 0 ≤ LF K d (K.1 (4 * p + 116)) (z % 10) hr (S (b + 1)) 0 := by
        have u1 := (tr_lf (K := K) (S := S) (b := b) (p := p) (d := d) (z := z) (x := hr) (by omega)).1
        have := mt u1.mpr (by omega)
        omega
      obtain ⟨-, w2, w3⟩ := side d d0 d1 v0
      have o := o3 _ (⟨v0, by omega, by omega, d, d0, d1, rfl⟩)
      have b3 := cvN_lt (bn (hr + 1) (LF K d (K.1 (4 * p + 116)) (z % 10) hr (S (b + 1)) 0) (dnN (LF K d (K.1 (4 * p + 116)) (z % 10) hr (S (b + 1)) 0) (K.1 (4 * p + 118)) (z / 10)) (by omega) (by omega) v0 w3 (dnN_01 (by omega)))
      omega
    · rcases o4 with o | ⟨v, ⟨v0, -, -, d, d0, d1, lv⟩, o⟩
      · exact Or.inl (by omega)
      · rw [← lv] at v0 o
        obtain ⟨w1, w2, w3⟩ := side d d0 d1 v0
        have b3 := cvN_lt (bn (hr + 1) (LF K d (K.1 (4 * p + 116)) (z % 10) hr (S (b + 1)) 0) (dnN (LF K d (K.1 (4 * p + 116)) (z % 10) hr (S (b + 1)) 0) (K.1 (4 * p + 118)) (z / 10)) (by omega) (by omega) v0 w3 (dnN_01 (by omega)))
        exact Or.inr ⟨d, d0, d1, w1, by omega⟩
theorem F_findWay (he : 5 ≤ e) (hc : CXq h K q L) (hK : KR K) (kb : KB K p) (sb : SB S b p) (hro : S (b + p + 2) < K.1 0) (hsc : scn sc) (hc0 : 60 ≤ sc) (hp : 0 ≤ p ∧ p < K.1 2) (sv : SV h sc S b p) (k : ∀ g l till, RF g → (∀ a i, a ≠ 78 → a ≠ 79 → ¬ (a = 77 ∧ (i = 0 ∨ i = 3 ∨ i = 4)) → rd g a i = rd h a i) → FHr K S b p (zshl 1 (K.1 (4 * p + 117) + 10)) till → errW K S b p till l → rd g 77 0 = (l.length : Int) → (l.length : Int) ≤ 24 → (∀ i : Nat, i < l.length → rd g 78 (i : Int) = liA l i) → Q none g) : Rn xs xl e mm_Plans_findWay 0 [some (.inr (.inr 77)), some (.inr (.inr q)), some (.inr (.inr sc)), some (.inl p), none, none, none, none, none] [] h Q := by
  obtain ⟨hF, -, hq, -⟩ := id hc
  have k2 := hK.2.2.1
  obtain ⟨s0', h0', -, -⟩ := hK.2.2.2.2 p hp.1 hp.2
  have k0 := hK.1
  have scN : sc ≠ 77 ∧ sc ≠ 78 ∧ sc ≠ 79 ∧ sc + 1 ≠ 77 ∧ sc + 1 ≠ 78 ∧ sc + 1 ≠ 79 := by
    unfold scn at hsc
    omega
  have hPc : q + 21 ≤ q + 21 + p ∧ q + 21 + p ≤ q + 26 := by omega
  obtain ⟨z0, z1, z2⟩ := k0F_in sb
  obtain ⟨s0, s1, s2, s3⟩ := id sb
  have n77 : ∀ i : Int, (i = 0 ∨ i = 3 ∨ i = 4) → (hav 77 i).1 ≠ 2 := fun i hi => by rcases hi with rfl | rfl | rfl <;> decide +kernel
  have w77 : ∀ g i v, (i = 0 ∨ i = 3 ∨ i = 4) → RF g → RF (wr g 77 i v) := fun g i v hi gF => RF_wn (n77 i hi) gF
  have w78 : ∀ g i v, RF g → RF (wr g 78 i v) := fun g i v gF => RF_wn (hav_nr (by decide +kernel) i) gF
  have cx : ∀ g, RF g → (∀ a i, a ≠ 78 → a ≠ 79 → ¬ (a = 77 ∧ (i = 0 ∨ i = 3 ∨ i = 4)) → rd g a i = rd h a i) → CXq g K q L := fun g gF gf => CXq_fr hc hK gF (fun a i ha => gf a i (by omega) (by omega) (by omega))
  have svg : ∀ g, (∀ a i, a ≠ 78 → a ≠ 79 → ¬ (a = 77 ∧ (i = 0 ∨ i = 3 ∨ i = 4)) → rd g a i = rd h a i) → SV g sc S b p := fun g gf => by
    unfold SV
    rw [gf sc 0 (by omega) (by omega) (by omega), gf sc 1 (by omega) (by omega) (by omega), gf (sc + 1) p (by omega) (by omega) (by omega), gf sc 2 (by omega) (by omega) (by omega), gf sc 3 (by omega) (by omega) (by omega)]
    exact sv
  have f1 : ∀ a i, a ≠ 78 → a ≠ 79 → ¬ (a = 77 ∧ (i = 0 ∨ i = 3 ∨ i = 4)) → rd (wr h 77 0 0) a i = rd h a i := fun a i _ _ n => by rw [rd_wr, if_neg (by omega)]
  have F1 := w77 h 0 0 (Or.inl rfl) hF
  have c1 := cx _ F1 f1
  have ez : 2 * S (b + p + 2) + S (b + p + 8) = 2 * (k0F S b p % 10) + k0F S b p / 10 := by
    rw [z2]
    unfold k0F
    split <;> omega
  refine B_Plans_findWay_0 hq hsc hc0 hF (by omega) ⟨3, by omega, F_homeHour (Nat.le_refl 3) c1 hK kb sb hsc hc0 hp (svg _ f1) (fun till ht => B_Plans_findWay_12 hq hsc hc0 F1 (by omega) (by omega) ?_)⟩
  obtain ⟨v1, v2, v3, v4, v5⟩ := svg _ f1
  rw [v1, v4]
  refine ⟨by omega, ?_⟩
  have f2 : ∀ a i, a ≠ 78 → a ≠ 79 → ¬ (a = 77 ∧ (i = 0 ∨ i = 3 ∨ i = 4)) → rd (wr (wr h 77 0 0) 77 3 (S b + S (b + p + 14))) a i = rd h a i := fun a i m1 m2 n => by
    rw [rd_wr, if_neg (by omega)]
    exact f1 a i m1 m2 n
  have F2 := w77 _ 3 (S b + S (b + p + 14)) (Or.inr (Or.inl rfl)) F1
  have e3 : rd (wr (wr h 77 0 0) 77 3 (S b + S (b + p + 14))) 77 3 = S b + S (b + p + 14) := rdw_eq
  have e0 : rd (wr (wr h 77 0 0) 77 3 (S b + S (b + p + 14))) 77 0 = 0 := by rw [rdw_nei (by decide), rdw_eq]
  generalize wr (wr h 77 0 0) 77 3 (S b + S (b + p + 14)) = g at *
  have gc := cx g F2 f2
  have neg := FHr_neg sb ht
  have zb : ∀ j, 0 ≤ j → j ≤ 19 → (bitZ (zshl 1 (K.1 (4 * p + 117) + 10)) j ↔ j = K.1 (4 * p + 117) + 10) := fun j j0 j1 => bit_shl (by omega) (by omega) j0 (by omega)
  -- no way, or none needed
  have nil : (till < 0 ∨ k0F S b p = K.1 (4 * p + 117) + 10) → Q none g := fun c => k g [] till F2 f2 ht (Or.inl ⟨c, rfl⟩) e0 (by decide) (fun i hi => absurd hi (Nat.not_lt_zero i))
  have far : k0F S b p ≠ K.1 (4 * p + 117) + 10 → 0 ≤ till → S b + S (b + p + 14) ≤ till ∧ till ≤ 23 ∧ Rch K S b p (till + 1 - (S b + S (b + p + 14))).toNat (S b + S (b + p + 14)) (k0F S b p) (K.1 (4 * p + 117) + 10) := fun c t0 => by
    rcases ht with ⟨y, _⟩ | ⟨_, ⟨y, _⟩ | ⟨y1, y2, ⟨j, j0, j1, j2, j3⟩, _⟩⟩
    · exact absurd ((zb _ z0 z1).mp y) c
    · omega
    · rw [(zb j j0 j1).mp j2] at j3
      exact ⟨y1, by omega, j3⟩
  refine B_Plans_findWay_23 hq hsc hc0 F2 gc.2.1 (by omega) ⟨fun c => nil (Or.inl (by omega)), fun c => ⟨fun c2 => nil (Or.inr (Classical.byContradiction (fun n => by have := (far n (by omega)).2.1; omega))), fun c2 => ⟨fun c3 => ⟨2, by omega, ?_⟩, fun c3 => nil (Or.inr (Classical.byContradiction (fun n => by have := (far n (by omega)).1; omega)))⟩⟩⟩
  have t0 : 0 ≤ till := by omega
  rw [e3] at c3 ⊢
  rw [(svg g f2).2.1]
  refine F_fillNeed (Nat.le_refl 2) gc hK hp ⟨by omega, by omega⟩ ⟨t0, by omega⟩ (fun u uF uf ue ur => ?_)
  obtain ⟨fk, bn⟩ := FOK_N (S := S) (b := b) (lo := S b + S (b + p + 14)) gc hK hp (by omega) ⟨t0, by omega⟩ ue (fun x x0 x1 => ur x x0 x1)
  have f3 : ∀ a i, a ≠ 78 → a ≠ 79 → ¬ (a = 77 ∧ (i = 0 ∨ i = 3 ∨ i = 4)) → rd u a i = rd h a i := fun a i m1 m2 n => (uf a i m2).trans (f2 a i m1 m2 n)
  have u3 : rd u 77 3 = S b + S (b + p + 14) := (uf 77 3 (by decide)).trans e3
  have u0 : rd u 77 0 = 0 := (uf 77 0 (by decide)).trans e0
  obtain ⟨x1, x2, x3, x4, x5⟩ := svg u f3
  have i1 : ciN (S b + S (b + p + 14)) (k0F S b p % 10) (k0F S b p / 10) = 20 * (S b + S (b + p + 14)) + (2 * (k0F S b p % 10) + k0F S b p / 10) := by
    unfold ciN
    omega
  have now := cvN_lt (bn (S b + S (b + p + 14)) (k0F S b p % 10) (k0F S b p / 10) (by omega) (by omega) (by omega) (by omega) (by omega))
  have en := nFN_at (N := rd u 79) (x := S b + S (b + p + 14)) z0 z1
  rw [i1] at now en
  have few : nFN (rd u 79) (20 * (S b + S (b + p + 14)) + k0F S b p) ≤ 24 := by
    by_cases c : k0F S b p = K.1 (4 * p + 117) + 10
    · have := F_goal kb rfl fk (hr := S b + S (b + p + 14)) (by omega) (by omega)
      rw [c, this]
      decide
    · have := F_fin kb rfl fk (by omega) (by omega) (till + 1 - (S b + S (b + p + 14))).toNat (S b + S (b + p + 14)) (k0F S b p) z0 z1 (by omega) (by omega) (by omega) (far c t0).2.2
      omega
  refine B_Plans_findWay_71 hq hsc hc0 hPc uF (by omega) ?_
  rw [x3, x5, u3, ez]
  refine ⟨by omega, by omega, by omega, by omega, by omega, ?_⟩
  have eD : rd u 79 (20 * (S b + S (b + p + 14)) + (2 * (k0F S b p % 10) + k0F S b p / 10)) = nFN (rd u 79) (20 * (S b + S (b + p + 14)) + k0F S b p) := by omega
  rw [eD]
  have goal0 : k0F S b p = K.1 (4 * p + 117) + 10 → nFN (rd u 79) (20 * (S b + S (b + p + 14)) + k0F S b p) = 0 := fun c => by
    have := F_goal kb rfl fk (hr := S b + S (b + p + 14)) (by omega) (by omega)
    rw [c, this]
  have eW : ∀ l, wayP K S b p till (nFN (rd u 79)) (nFN (rd u 79) (20 * (S b + S (b + p + 14)) + k0F S b p)).toNat (S b + S (b + p + 14)) (k0F S b p) l → errW K S b p till l := fun l w => by
    by_cases c : k0F S b p = K.1 (4 * p + 117) + 10
    · rw [goal0 c] at w
      exact Or.inl ⟨Or.inr c, w⟩
    · exact Or.inr ⟨⟨t0, c⟩, ⟨c3, by omega⟩, _, fk, w⟩
  have pos : 0 ≤ nFN (rd u 79) (20 * (S b + S (b + p + 14)) + k0F S b p) := by omega
  generalize eD2 : nFN (rd u 79) (20 * (S b + S (b + p + 14)) + k0F S b p) = D at *
  generalize k0F S b p = q0 at *
  generalize eh : S b + S (b + p + 14) = h0 at *
  -- door by door
  have way : ∀ (n : Nat) (v : LH) (hour z : Int) (acc : List Int) (o8 : Option LV), nFN (rd u 79) (20 * hour + z) = n → h0 ≤ hour → hour ≤ till + 1 → 0 ≤ z → z ≤ 19 → z % 10 < K.1 0 → RF v → (∀ a i, a ≠ 78 → a ≠ 79 → ¬ (a = 77 ∧ (i = 0 ∨ i = 3 ∨ i = 4)) → rd v a i = rd h a i) → rd v 79 = rd u 79 → rd v 77 3 = hour → rd v 77 4 = 2 * (z % 10) + z / 10 → rd v 77 0 = (acc.length : Int) → (acc.length : Int) + n = D → (∀ i : Nat, i < acc.length → rd v 78 (i : Int) = liA acc i) → (∀ rest, wayP K S b p till (nFN (rd u 79)) n hour z rest → wayP K S b p till (nFN (rd u 79)) D.toNat h0 q0 (acc ++ rest)) → Rn xs xl e mm_Plans_findWay 114 [some (.inr (.inr 77)), some (.inr (.inr q)), some (.inr (.inr sc)), some (.inl p), some (.inl till), some (.inr (.inr (q + 21 + p))), some (.inl D), some (.inl (acc.length : Int)), o8] [] v Q := by
    intro n
    induction n with
    | zero =>
      intro v hour z acc o8 hn a0 a1 b0 b1 br vF vf v79 v3 v4 v0 vl vi vw
      have w := vw [] rfl
      rw [List.append_nil] at w
      exact B_Plans_findWay_114 hq hsc hc0 hPc vF (by omega) ⟨fun _ => k v acc till vF vf ht (eW acc w) v0 (by omega) vi, fun c => by omega⟩
    | succ n ih =>
      intro v hour z acc o8 hn a0 a1 b0 b1 br vF vf v79 v3 v4 v0 vl vi vw
      refine B_Plans_findWay_114 hq hsc hc0 hPc vF (by omega) ⟨fun c => by omega, fun c => ⟨fun c2 => by omega, fun c2 => ⟨3, by omega, ?_⟩⟩⟩
      rw [(svg v vf).2.1]
      refine F_nextDoor (S := S) (b := b) (lo := h0) (hour := hour) (z := z) (Nat.le_refl 3) (cx v vF vf) hK kb hp (by omega) ⟨a0, a1⟩ ⟨t0, by omega⟩ ⟨b0, b1⟩ br v3 v4 (by rw [v79]; exact bn) (by rw [v79]; exact fk) (by rw [v79, hn]; omega) (by rw [v79, hn]; omega) (fun d x d0 d1 dx dn => ?_)
      rw [v79] at dx dn
      have x0 := dx.1.1
      have x1 := dx.1.2.1
      have xt := dx.1.2.2.1
      have tk := tr_ok (S := S) (b := b) (hr := x) kb ⟨b0, b1⟩ ⟨d0, d1⟩ (by omega)
      refine B_Plans_findWay_141 hq hsc hc0 hPc vF (by omega) ⟨fun _ => ?_, fun c => by omega⟩
      rw [v0]
      refine ⟨by omega, by omega, ?_⟩
      have wF : RF (wr (wr v 78 (acc.length : Int) d) 77 0 ((acc.length : Int) + 1)) := w77 _ 0 _ (Or.inl rfl) (w78 _ _ _ vF)
      have wf : ∀ a i, a ≠ 78 → a ≠ 79 → ¬ (a = 77 ∧ (i = 0 ∨ i = 3 ∨ i = 4)) → rd (wr (wr v 78 (acc.length : Int) d) 77 0 ((acc.length : Int) + 1)) a i = rd h a i := fun a i m1 m2 m3 => by
        rw [rd_wr, if_neg (by omega), rdw_ne (fun y => m1 y.symm)]
        exact vf a i m1 m2 m3
      have w79 : rd (wr (wr v 78 (acc.length : Int) d) 77 0 ((acc.length : Int) + 1)) 79 = rd u 79 := by
        rw [← v79]
        exact funext (fun i => by rw [rdw_ne (by decide), rdw_ne (by decide)])
      have w3 : rd (wr (wr v 78 (acc.length : Int) d) 77 0 ((acc.length : Int) + 1)) 77 3 = hour := by
        rw [rdw_nei (by decide), rdw_ne (by decide)]
        exact v3
      have w4 : rd (wr (wr v 78 (acc.length : Int) d) 77 0 ((acc.length : Int) + 1)) 77 4 = 2 * (z % 10) + z / 10 := by
        rw [rdw_nei (by decide), rdw_ne (by decide)]
        exact v4
      have w0 : rd (wr (wr v 78 (acc.length : Int) d) 77 0 ((acc.length : Int) + 1)) 77 0 = (acc.length : Int) + 1 := rdw_eq
      have wi : ∀ i : Nat, i < (acc ++ [d]).length → rd (wr (wr v 78 (acc.length : Int) d) 77 0 ((acc.length : Int) + 1)) 78 (i : Int) = liA (acc ++ [d]) i := fun i hi => by
        have el := liL acc d
        rw [rdw_ne (by decide)]
        by_cases c : i = acc.length
        · rw [c, rdw_eq, liA_2]
        · rw [rdw_nei (by omega), liA_1 _ _ _ (by omega)]
          exact vi i (by omega)
      generalize wr (wr v 78 (acc.length : Int) d) 77 0 ((acc.length : Int) + 1) = w at *
      have wc := cx w wF wf
      obtain ⟨p1, -, p3, -⟩ := CXq_p wc hp.1 hp.2
      refine B_Plans_findWay_171 hq hsc hc0 hPc wF (by omega) ⟨2, by omega, ?_⟩
      rw [p1, (svg w wf).2.1]
      refine F_hourThrough (S := S) (b := b) (hour := hour) (z := z) (Nat.le_refl 2) wc hK hp d0 d1 (by omega) ⟨t0, by omega⟩ ⟨b0, b1⟩ w3 w4 (fun r hr => ?_)
      have er : r = x := by
        rcases hr with ⟨_, no⟩ | ⟨_, fr⟩
        · exact absurd dx.1 (no x)
        · exact frst_one fr dx.1
      rw [er]
      refine B_Plans_findWay_190 hq hsc hc0 hPc wF (by omega) ⟨by omega, ?_⟩
      have yF := w77 w 3 (x + 1) (Or.inr (Or.inl rfl)) wF
      have yf : ∀ a i, a ≠ 78 → a ≠ 79 → ¬ (a = 77 ∧ (i = 0 ∨ i = 3 ∨ i = 4)) → rd (wr w 77 3 (x + 1)) a i = rd h a i := fun a i m1 m2 m3 => by
        rw [rd_wr, if_neg (by omega)]
        exact wf a i m1 m2 m3
      have yc := cx _ yF yf
      obtain ⟨-, -, p3', -⟩ := CXq_p yc hp.1 hp.2
      refine B_Plans_findWay_195 hq hsc hc0 hPc yF (by omega) ⟨0, by omega, ?_⟩
      rw [p3']
      refine F_stateThrough (S := S) (b := b) (x := x) (z := z) yc hK hp d0 d1 (by omega) ⟨b0, b1⟩ (by rw [rdw_nei (by decide)]; exact w4) xt (B_Plans_findWay_208 hq hsc hc0 hPc yF (by omega) ?_)
      have tF := w77 _ 4 (2 * (tr K S b p x z d % 10) + tr K S b p x z d / 10) (Or.inr (Or.inr rfl)) yF
      have := ih (wr (wr w 77 3 (x + 1)) 77 4 (2 * (tr K S b p x z d % 10) + tr K S b p x z d / 10)) (x + 1) (tr K S b p x z d) (acc ++ [d]) (some (.inl d)) (by have := dx.2; omega) (by omega) (by omega) xt tk.2.1 (tk.2.2 xt) tF (fun a i m1 m2 m3 => by
        rw [rd_wr, if_neg (by omega)]
        exact yf a i m1 m2 m3) (by
        rw [← w79]
        exact funext (fun i => by rw [rdw_ne (by decide), rdw_ne (by decide)])) (by rw [rdw_nei (by decide), rdw_eq]) rdw_eq (by rw [rdw_nei (by decide), rdw_nei (by decide), w0, liL]) (by rw [liL]; omega) (fun i hi => by
        rw [rdw_ne (by decide), rdw_ne (by decide)]
        exact wi i hi) (fun rest hr => by
        rw [List.append_assoc]
        exact vw (d :: rest) ⟨d, x, rest, rfl, ⟨d0, d1⟩, dx, dn, hr⟩)
      rw [liL] at this
      exact this
  have := way D.toNat (wr u 77 4 (2 * (q0 % 10) + q0 / 10)) h0 q0 [] none (by omega) (Int.le_refl _) (by omega) z0 z1 (by omega) (w77 _ _ _ (Or.inr (Or.inr rfl)) uF) (fun a i m1 m2 m3 => by
    rw [rd_wr, if_neg (by omega)]
    exact f3 a i m1 m2 m3) (funext (fun i => rdw_ne (by decide))) (by rw [rdw_nei (by decide)]; exact u3) rdw_eq (by rw [rdw_nei (by decide)]; exact u0) (by show (0 : Int) + _ = _; omega) (fun i hi => absurd hi (Nat.not_lt_zero i)) (fun rest hr => hr)
  exact this
end ZD
end
section
/-! errand, part z5: the reference's way; both roots -/
section ZE
variable {xs : Nat → Int} {xl e : Nat} {h g : LH} {Q : Option LV → LH → Prop} {K : KEY} {S : Int → Int} {b p r v1 v2 : Int}
theorem G_findWayX (he : 8 ≤ e) (w : WC K S h) (b0 : b % 70 = 0) (hb : 0 ≤ b ∧ b ≤ 1540) (hp : 0 ≤ p ∧ p ≤ 5) (hro : S (b + p + 2) < K.1 0) (k : ∀ r h' l, WC K S h' → frW h h' → FHr K S b p (zshl 1 (K.1 (4 * p + 117) + 10)) r → errW K S b p r l → rd h' 182 34 = (l.length : Int) → (∀ i : Nat, i < l.length → rd h' 202 (i : Int) = liA l i) → Q (some (.inl r)) h') : Rn xs xl e mm_findWay 0 [some (.inr (.inr 182)), some (.inl b), some (.inl p), none, none, none, none, none] [] h Q := by
  have kb := KB_of w hp
  have sb := SB_of w b0 hb hp
  obtain ⟨z0, z1, z2⟩ := k0F_in sb
  obtain ⟨s0, s1, s2, s3⟩ := id sb
  have kd := kb.1
  have kr := kb.2.1
  have kh := kb.2.2.2.1
  refine B_findWay_0 (RF_of w.1.1) hb hp ⟨7, by omega, G_errandHourX (Nat.le_refl 7) w b0 hb hp (fun till g gw gf ht => ?_)⟩
  have e2 : rd g 198 (b + p + 2) = S (b + p + 2) := by rw [gw.2.2]
  have e8 : rd g 198 (b + p + 8) = S (b + p + 8) := by rw [gw.2.2]
  have e7 : rd g 188 (4 * p + 117) = K.1 (4 * p + 117) := by rw [← gw.2.1]; rfl
  have w1 := WC_fld (j := 34) (v := 0) (by omega) gw (wF_wayMany gw.1 (by omega) (by omega))
  have f1 : frW h (wr g 182 34 0) := by
    intro a i n1 n2 n3 n4 n5
    rw [rd_wr, if_neg (by rintro ⟨rfl, rfl⟩; exact n5 ⟨rfl, Or.inl rfl⟩)]
    exact gf a i n1 n2
  have neg := FHr_neg sb ht
  have zb : ∀ j, 0 ≤ j → j ≤ 19 → (bitZ (zshl 1 (K.1 (4 * p + 117) + 10)) j ↔ j = K.1 (4 * p + 117) + 10) := fun j j0 j1 => bit_shl (by omega) (by omega) j0 (by omega)
  have nil : (till < 0 ∨ k0F S b p = K.1 (4 * p + 117) + 10) → Q (some (.inl till)) (wr g 182 34 0) := fun c => k till _ [] w1 f1 ht (Or.inl ⟨c, rfl⟩) rdw_eq (fun i hi => absurd hi (Nat.not_lt_zero i))
  have go : ∀ q0 : Int, k0F S b p = q0 → 0 ≤ till → q0 ≠ K.1 (4 * p + 117) + 10 → ∃ c, c < e ∧ Rn xs xl c mm_findFewest 0 [some (.inr (.inr 182)), some (.inl b), some (.inl p), some (.inl till), none, none, none, none, none, none, none] [] (wr g 182 34 0) (fun r h' => Rn xs xl e mm_findWay 73 [some (.inr (.inr 182)), some (.inl b), some (.inl p), some (.inl till), some (.inl q0), none, none, none] (r.toList ++ []) h' Q) := by
    intro q0 hq0 t0 hne
    obtain ⟨y1, y2, y3⟩ : S b + S (b + p + 14) ≤ till ∧ till ≤ 23 ∧ Rch K S b p (till + 1 - (S b + S (b + p + 14))).toNat (S b + S (b + p + 14)) q0 (K.1 (4 * p + 117) + 10) := by
      rcases ht with ⟨y, _⟩ | ⟨_, ⟨y, _⟩ | ⟨y1, y2, ⟨j, j0, j1, j2, j3⟩, _⟩⟩
      · exact absurd (hq0.symm.trans ((zb _ z0 z1).mp y)) hne
      · omega
      · rw [(zb j j0 j1).mp j2, hq0] at j3
        exact ⟨y1, by omega, j3⟩
    rw [hq0] at z0 z1 z2
    refine ⟨5, by omega, D_findFewest (by omega) w1 b0 hb hp (by omega) (fun u uw uf ul ug => ?_)⟩
    have fk : FOK K S b p till (S b + S (b + p + 14)) (rd u 201) := ⟨ul, fun hr q h0 h1 q0 q1 => ug hr q (by omega) h1 q0 q1⟩
    have u34 : rd u 182 34 = 0 := (uf 182 34 (by decide) (by decide) (by decide)).trans rdw_eq
    have u0 : rd u 198 b = S b := by rw [uw.2.2]
    have u14 : rd u 198 (b + p + 14) = S (b + p + 14) := by rw [uw.2.2]
    have fin := F_fin kb rfl fk (by omega) y2 (till + 1 - (S b + S (b + p + 14))).toNat (S b + S (b + p + 14)) q0 z0 z1 (by omega) (by omega) (by omega) y3
    have r0 := F_rng fk (q := q0) (hr := S b + S (b + p + 14)) ⟨z0, z1⟩ (by omega) (by omega)
    refine B_findWay_73 (RF_of uw.1.1) hb hp ⟨by omega, ?_⟩
    rw [u0, u14]
    have eW : ∀ l, wayP K S b p till (rd u 201) (rd u 201 (20 * (S b + S (b + p + 14)) + q0)).toNat (S b + S (b + p + 14)) q0 l → errW K S b p till l := fun l w => Or.inr ⟨⟨t0, fun c => hne (hq0.symm.trans c)⟩, ⟨y1, y2⟩, rd u 201, fk, by rw [hq0]; exact w⟩
    have few : rd u 201 (20 * (S b + S (b + p + 14)) + q0) ≤ 24 := by omega
    have h00 : 0 ≤ S b + S (b + p + 14) := by omega
    have hSb : S b ≤ S b + S (b + p + 14) := by omega
    have eD : rd u 201 (20 * (S b + S (b + p + 14)) + q0) = rd u 201 (20 * (S b + S (b + p + 14)) + q0) := rfl
    generalize eDD : rd u 201 (20 * (S b + S (b + p + 14)) + q0) = D at *
    generalize S b + S (b + p + 14) = h0 at *
    clear eD
    have way : ∀ (n : Nat) (v : LH) (q hour : Int) (acc : List Int) (o6 o7 : Option LV), rd u 201 (20 * hour + q) = n → 0 ≤ q → q ≤ 19 → q % 10 < K.1 0 → h0 ≤ hour → hour ≤ till + 1 → WC K S v → frW h v → (∀ i, rd v 201 i = rd u 201 i) → rd v 182 34 = (acc.length : Int) → (acc.length : Int) + n = D → (∀ i : Nat, i < acc.length → rd v 202 (i : Int) = liA acc i) → (∀ rest, wayP K S b p till (rd u 201) n hour q rest → wayP K S b p till (rd u 201) D.toNat h0 q0 (acc ++ rest)) → Rn xs xl e mm_findWay 95 [some (.inr (.inr 182)), some (.inl b), some (.inl p), some (.inl till), some (.inl q), some (.inl hour), o6, o7] [] v Q := by
      intro n
      induction n with
      | zero =>
        intro v q hour acc o6 o7 hn q0' q1 q2 h0' h1 vw vf ve vm vl vi vc
        have eq := F_zero kb rfl fk h00 y2 ⟨q0', q1⟩ (till + 1 - hour).toNat hour h0' (by omega) hn
        have ev := ve (20 * hour + q)
        have e7v : rd v 188 (4 * p + 117) = K.1 (4 * p + 117) := by rw [← vw.2.1]; rfl
        have wl := vc [] rfl
        rw [List.append_nil] at wl
        exact B_findWay_95 (RF_of vw.1.1) hb hp ⟨q0', q1⟩ (by omega) (by omega) ⟨by omega, fun c => by omega, fun _ => ⟨fun _ => k till v acc vw vf ht (eW acc wl) vm vi, fun c => by omega⟩⟩
      | succ n ih =>
        intro v q hour acc o6 o7 hn q0' q1 q2 h0' h1 vw vf ve vm vl vi vc
        have ev := ve (20 * hour + q)
        have e7v : rd v 188 (4 * p + 117) = K.1 (4 * p + 117) := by rw [← vw.2.1]; rfl
        have qg : q ≠ K.1 (4 * p + 117) + 10 := by
          intro z
          have := F_goal kb z fk h0' h1
          omega
        obtain ⟨d, X, ⟨d0, d1⟩, dX⟩ := ex_next kb fk h00 y2 h0' h1 q0' q1 q2 (by omega) (by omega)
        have dl : ∀ (m : Nat) (y : LH) (door : Int), d - door ≤ m → 0 ≤ door → door ≤ d → WC K S y → frW h y → (∀ i, rd y 201 i = rd u 201 i) → (rd y 182 34 = rd v 182 34 ∧ ∀ i, rd y 202 i = rd v 202 i) → (∀ d' x', 0 ≤ d' → d' < door → ¬ nxD K S b p till (rd u 201) hour q d' x') → Rn xs xl e mm_findWay 145 [some (.inr (.inr 182)), some (.inl b), some (.inl p), some (.inl till), some (.inl q), some (.inl hour), some (.inl (n : Int)), some (.inl door)] [] y Q := by
          intro m
          have step : ∀ (y : LH) (door : Int), 0 ≤ door → door ≤ d → WC K S y → frW h y → (∀ i, rd y 201 i = rd u 201 i) → (rd y 182 34 = rd v 182 34 ∧ ∀ i, rd y 202 i = rd v 202 i) → (∀ d' x', 0 ≤ d' → d' < door → ¬ nxD K S b p till (rd u 201) hour q d' x') → (∀ y' : LH, door ≠ d → WC K S y' → frW h y' → (∀ i, rd y' 201 i = rd u 201 i) → (rd y' 182 34 = rd v 182 34 ∧ ∀ i, rd y' 202 i = rd v 202 i) → (∀ d' x', 0 ≤ d' → d' < door + 1 → ¬ nxD K S b p till (rd u 201) hour q d' x') → Rn xs xl e mm_findWay 145 [some (.inr (.inr 182)), some (.inl b), some (.inl p), some (.inl till), some (.inl q), some (.inl hour), some (.inl (n : Int)), some (.inl (door + 1))] [] y' Q) → Rn xs xl e mm_findWay 145 [some (.inr (.inr 182)), some (.inl b), some (.inl p), some (.inl till), some (.inl q), some (.inl hour), some (.inl (n : Int)), some (.inl door)] [] y Q := by
            intro y door dr0 dr1 yw yf ye ym yn more
            refine B_findWay_145 (RF_of yw.1.1) hb hp ⟨5, by omega, D_isNext (by omega) yw hb hp ⟨q0', q1⟩ ⟨dr0, by omega⟩ (by omega) (by omega) (fun y' z yw' yf' fz ez n35 n36 => ?_) (fun y' yw' yf' no => ?_)⟩
            · have fz1 := fz.1
              have fz2 := fz.2.1
              have t := tr_ok (S := S) (b := b) (hr := z) kb ⟨q0', q1⟩ ⟨dr0, by omega⟩ (by omega)
              have ym' : rd y' 182 34 = (acc.length : Int) := ((yf' 182 34 (by decide) (by decide) (by omega)).trans ym.1).trans vm
              have y2' : ∀ i, rd y' 202 i = rd v 202 i := fun i => (yf' 202 i (by decide) (by decide) (by omega)).trans (ym.2 i)
              have fwy : frW h y' := fun a i n1 n2 n3 n4 n5 => (yf' a i n1 n2 (fun c => n5 ⟨c.1, by omega⟩)).trans (yf a i n1 n2 n3 n4 n5)
              have i1 : INV (wr y' 202 (rd y' 182 34) door) := wA_wayDoors yw'.1 (by omega) (by omega) (by omega)
              have wv : WC K S (wr y' 202 (rd y' 182 34) door) := by
                refine ⟨i1, ?_, ?_⟩
                · rw [← yw'.2.1]
                  exact key_frs (fun a i _ _ => rdw_ne (by omega)) (fun i _ _ => rdw_ne (by decide))
                · rw [← yw'.2.2]
                  exact funext (fun i => rdw_ne (by decide))
              have w3 := WC_fld (j := 34) (v := rd y' 182 34 + 1) (by omega) wv (wF_wayMany wv.1 (by omega) (by omega))
              refine B_findWay_160_1 (RF_of yw'.1.1) hb hp ⟨by omega, by omega, ?_⟩
              rw [n35, n36]
              rw [ye] at ez
              have nx : nxD K S b p till (rd u 201) hour q door z := ⟨fz, by omega⟩
              refine ih _ _ (z + 1) (acc ++ [door]) _ _ (by rw [ez]) fz.2.2.1 t.2.1 (t.2.2 fz.2.2.1) (by omega) (by omega) w3 (fun a i n1 n2 n3 n4 n5 => ?_) (fun i => ?_) ?_ (by rw [liL]; omega) (fun i hi => ?_) (fun rest hr => ?_)
              · rw [rd_wr, if_neg (by rintro ⟨rfl, rfl⟩; exact n5 ⟨rfl, Or.inl rfl⟩), rdw_ne (fun c => n4 c.symm)]
                exact fwy a i n1 n2 n3 n4 n5
              · rw [rdw_ne (by decide), rdw_ne (by decide), yf' 201 i (by decide) (by decide) (by omega)]
                exact ye i
              · rw [rdw_eq, ym', liL]
              · have el := liL acc door
                rw [rdw_ne (by decide), ym']
                by_cases c : i = acc.length
                · rw [c, rdw_eq, liA_2]
                · rw [rdw_nei (by omega), y2', liA_1 _ _ _ (by omega)]
                  exact vi i (by omega)
              · rw [List.append_assoc]
                exact vc (door :: rest) ⟨door, z, rest, rfl, ⟨dr0, by omega⟩, nx, yn, hr⟩
            · have ym' : rd y' 182 34 = rd v 182 34 := (yf' 182 34 (by decide) (by decide) (by omega)).trans ym.1
              have y2' : ∀ i, rd y' 202 i = rd v 202 i := fun i => (yf' 202 i (by decide) (by decide) (by omega)).trans (ym.2 i)
              have fwy : frW h y' := fun a i n1 n2 n3 n4 n5 => (yf' a i n1 n2 (fun c => n5 ⟨c.1, by omega⟩)).trans (yf a i n1 n2 n3 n4 n5)
              have ye' : ∀ i, rd y' 201 i = rd u 201 i := fun i => (yf' 201 i (by decide) (by decide) (by omega)).trans (ye i)
              have nn : ∀ x', ¬ nxD K S b p till (rd u 201) hour q door x' := fun x' nx => by
                have := no x' nx.1
                rw [ye] at this
                have := nx.2
                omega
              have ne : door ≠ d := fun c => nn X (by rw [c]; exact dX)
              exact B_findWay_160_0 (RF_of yw'.1.1) hb hp (by omega) (more y' ne yw' fwy ye' ⟨ym', y2'⟩ (fun d' x' c0 c1 => by
                by_cases t' : d' = door
                · rw [t']
                  exact nn x'
                · exact yn d' x' c0 (by omega)))
          induction m with
          | zero => exact fun y door hm dr0 dr1 yw yf ye ym yn => step y door dr0 dr1 yw yf ye ym yn (fun y' ne _ _ _ _ _ => by omega)
          | succ m im => exact fun y door hm dr0 dr1 yw yf ye ym yn => step y door dr0 dr1 yw yf ye ym yn (fun y' ne yw' yf' ye' ym' yn' => im y' (door + 1) (by omega) (by omega) (by omega) yw' yf' ye' ym' yn')
        have en : rd v 201 (20 * hour + q) - 1 = (n : Int) := by omega
        refine B_findWay_95 (RF_of vw.1.1) hb hp ⟨q0', q1⟩ (by omega) (by omega) ⟨by omega, fun _ => ⟨by omega, ?_⟩, fun c => by omega⟩
        rw [en]
        exact dl d.toNat v 0 (by omega) (by omega) (by omega) vw vf ve ⟨rfl, fun _ => rfl⟩ (fun d' x' c0 c1 => by omega)
    exact way D.toNat u q0 h0 [] none none (by omega) z0 z1 (by omega) (Int.le_refl _) (by omega) uw (fun a i n1 n2 n3 n4 n5 => by
      rw [uf a i n1 n2 n3]
      exact f1 a i n1 n2 n3 n4 n5) (fun _ => rfl) u34 (by show (0 : Int) + _ = _; omega) (fun i hi => absurd hi (Nat.not_lt_zero i)) (fun rest hr => hr)
  refine B_findWay_6 (RF_of gw.1.1) hb hp (by omega) ⟨fun c => ?_, fun c => ?_⟩
  · rw [e8] at c
    rw [e2, e7]
    have ek : k0F S b p = S (b + p + 2) := by
      unfold k0F
      rw [if_neg c]
    exact ⟨by omega, fun t => nil (Or.inl t), fun t => ⟨by omega, fun t2 => go _ ek t t2, fun t2 => nil (Or.inr (ek.trans t2))⟩⟩
  · rw [e8] at c
    rw [e2, e7]
    have ek : k0F S b p = S (b + p + 2) + 10 := by
      unfold k0F
      rw [if_pos c]
    exact ⟨by omega, fun t => nil (Or.inl t), fun t => ⟨by omega, fun t2 => go _ ek t t2, fun t2 => nil (Or.inr (ek.trans t2))⟩⟩
def frPl (h g : LH) : Prop := ∀ a i, a ≠ 78 → a ≠ 79 → ¬ (a = 77 ∧ (i = 0 ∨ i = 3 ∨ i = 4)) → rd g a i = rd h a i
def errC (h : LH) (p w : Int) : Prop := (0 ≤ p ∧ p < rd h 188 2) ∧ -1 ≤ w
/-- what errand answers, by hour and way -/
def errA (K : KEY) (S : Int → Int) (p w r : Int) : Prop := ∃ till, FHr K S 0 p (zshl 1 (K.1 (4 * p + 117) + 10)) till ∧ ((till < 0 ∧ r = -2) ∨ (0 ≤ till ∧ ((w = -1 ∧ r = till) ∨ (w = 0 ∧ ((till ≤ K.1 (4 * p + 119) ∧ r = 1) ∨ (K.1 (4 * p + 119) < till ∧ r = 0))) ∨ (1 ≤ w ∧ ∃ l, errW K S 0 p till l ∧ ((w ≤ (l.length : Int) ∧ r = liA l (w - 1).toNat) ∨ ((l.length : Int) < w ∧ r = -2))))))
def errJ (v1 v2 : Int) (h g : LH) (r : Int) : Prop := frPl h g ∧ ((¬ errC h v1 v2 ∧ r = -2) ∨ (errC h v1 v2 ∧ errA (key h) (rd h 198) v1 v2 r))
theorem E_errandS (he : 8 ≤ e) (hI : INV h) (hE : EQL h) (h1 : i32 v1) (h2 : i32 v2) (k : ∀ r g, INV g → errJ v1 v2 h g r → Q (some (.inl r)) g) : Rn xs xl e mm_OneSided_errand 0 [some (.inr (.inr 1)), some (.inl v1), some (.inl v2), none] [] h Q := by
  obtain ⟨L, hc⟩ := CXq_of hI hE
  have hK := KR_of hI
  have hq : rd h 1 1 = 5 ∨ rd h 1 1 = 32 := rQf hI.1
  obtain ⟨hF, hP, -, -, ⟨-, -, c4⟩, -⟩ := id hc
  have c4' : rd h (rd h 1 1) 4 = rd h 188 2 := c4
  have n2 := rq_people hI.1
  have k5 := hE.2.2.2.2.2.2.2.2.2.2.2.1
  have w : WC (key h) (rd h 198) h := ⟨hI, rfl, rfl⟩
  have A : Rn xs xl e mm_OneSided_errand 0 [some (.inr (.inr 1)), some (.inl v1), some (.inl v2), none] [] h (fun r g => ∃ x, r = some (.inl x) ∧ errJ v1 v2 h g x) := by
    have no : ¬ errC h v1 v2 → ∃ x, (some (.inl (-2)) : Option LV) = some (.inl x) ∧ errJ v1 v2 h h x := fun z => ⟨-2, rfl, fun _ _ _ _ _ => rfl, Or.inl ⟨z, rfl⟩⟩
    refine B_OneSided_errand_0 hq rfl hF hP (by omega) ⟨fun c => no (fun z => by have := z.1; omega), fun a1 => ⟨fun c => no (fun z => by have := z.1; omega), fun a2 => ⟨fun a3 => ⟨3, by omega, ?_⟩, fun c => no (fun z => by have := z.2; omega)⟩⟩⟩
    have p2 : v1 < rd h 188 2 := by omega
    have kb := KB_of w (p := v1) (by omega)
    have sb := SB_of w (b := 0) (p := v1) (by decide) (by decide) (by omega)
    have sv := SV_of k5 a1 p2
    have yc : errC h v1 v2 := ⟨⟨a1, p2⟩, a3⟩
    have hro : rd h 198 (0 + v1 + 2) < (key h).1 0 := by
      have := (INVw hI).1 v1 a1 (by omega) p2
      rw [show 0 + 2 + v1 = 0 + v1 + 2 by omega] at this
      exact this
    refine F_homeHour (Nat.le_refl 3) hc hK kb sb scn_60 (by decide) ⟨a1, p2⟩ sv (fun till ht => ?_)
    have neg := FHr_neg sb ht
    have e4 : rd h (rd h 1 1 + 21 + v1) 4 = (key h).1 (4 * v1 + 119) := (CXq_p hc a1 p2).2.2.2
    refine B_OneSided_errand_35 hq rfl hF hP (by omega) ⟨fun b1 => ⟨fun b2 => ⟨fun b3 => ⟨5, by omega, ?_⟩, fun b3 => ?_⟩, fun b2 => ⟨till, rfl, fun _ _ _ _ _ => rfl, Or.inr ⟨yc, till, ht, Or.inr ⟨by omega, Or.inl ⟨b2, rfl⟩⟩⟩⟩⟩, fun b1 => ⟨-2, rfl, fun _ _ _ _ _ => rfl, Or.inr ⟨yc, till, ht, Or.inl ⟨by omega, rfl⟩⟩⟩⟩
    · refine F_findWay (Nat.le_refl 5) hc hK kb sb hro scn_60 (by decide) ⟨a1, p2⟩ sv (fun g l till' gF gf ht' ew el le li => ?_)
      rw [FHr_one sb ht' ht] at ew
      refine B_OneSided_errand_96 gF ⟨by omega, h2.2⟩ ⟨fun c => ⟨-2, rfl, gf, Or.inr ⟨yc, till, ht, Or.inr ⟨by omega, Or.inr (Or.inr ⟨by omega, l, ew, Or.inr ⟨by omega, rfl⟩⟩)⟩⟩⟩, fun c => ⟨by omega, _, rfl, gf, Or.inr ⟨yc, till, ht, Or.inr ⟨by omega, Or.inr (Or.inr ⟨by omega, l, ew, Or.inl ⟨by omega, ?_⟩⟩)⟩⟩⟩⟩
      have := li (v2 - 1).toNat (by omega)
      rw [Int.toNat_of_nonneg (by omega)] at this
      exact this
    · rw [e4]
      exact ⟨fun c => ⟨0, rfl, fun _ _ _ _ _ => rfl, Or.inr ⟨yc, till, ht, Or.inr ⟨by omega, Or.inr (Or.inl ⟨b3, Or.inr ⟨c, rfl⟩⟩)⟩⟩⟩, fun c => ⟨1, rfl, fun _ _ _ _ _ => rfl, Or.inr ⟨yc, till, ht, Or.inr ⟨by omega, Or.inr (Or.inl ⟨b3, Or.inl ⟨c, rfl⟩⟩)⟩⟩⟩⟩
  have B : Rn xs xl e mm_OneSided_errand 0 [some (.inr (.inr 1)), some (.inl v1), some (.inl v2), none] [] h (fun r g => INV g) := use_sm TC_errand (as := [.inr (.inr 1), .inl v1, .inl v2]) rfl (Nat.le_trans (Nat.le_of_ble_eq_true rfl) he) hI (gAr_c (g_ref 1) (gAr_c (g_i h1) (gAr_c (g_i h2) gAr_n))) rfl (Nat.le_of_ble_eq_true rfl) rfl (fun r g gI gf gq => gI)
  refine (A.and B).mono (fun r g z => ?_)
  obtain ⟨⟨x, rfl, a⟩, b⟩ := z
  exact k x g b a
theorem G_errandS (he : 9 ≤ e) (hI : INV h) (hE : EQL h) (gI : INV g) (hj : errJ v1 v2 h g r) (k : ∀ g', INV g' → EQL g' → Q (some (.inl r)) g') : Rn xs xl e mm_errand 0 [some (.inr (.inr 182)), some (.inl v1), some (.inl v2), none] [] g Q := by
  obtain ⟨sm, hc⟩ := hj
  have EG : EQL g := EQL_fr hI hE (sm 2 0 (by decide) (by decide) (by decide)) (sm 182 2 (by decide) (by decide) (by decide)) (fun a i ha => by
    obtain ⟨y1, -⟩ := inK_p ha
    exact sm a i (by omega) (by omega) (by omega))
  have ek : key g = key h := key_frs (fun a i a0 a1 => sm a i (by omega) (by omega) (by omega)) (fun i _ _ => sm 182 i (by decide) (by decide) (by omega))
  have e8 : rd g 198 = rd h 198 := funext (fun i => sm 198 i (by decide) (by decide) (by omega))
  have n2 := rq_people gI.1
  have eC : errC g v1 v2 ↔ errC h v1 v2 := by
    unfold errC
    rw [sm 188 2 (by decide) (by decide) (by decide)]
  rw [← eC, ← ek, ← e8] at hc
  have no : ¬ errC g v1 v2 → Q (some (.inl (-2))) (wr g 182 0 0) := fun z => by
    obtain ⟨i1, e1⟩ := thr gI EG
    rcases hc with ⟨_, rfl⟩ | ⟨c, _⟩
    · exact k _ i1 e1
    · exact absurd c z
  refine B_errand_0 (RF_of gI.1) (by omega) ⟨fun c => no (fun z => by have := z.1; omega), fun a1 => ⟨fun c => no (fun z => by have := z.1; omega), fun a2 => ⟨fun c => no (fun z => by have := z.2; omega), fun a3 => ⟨8, by omega, ?_⟩⟩⟩⟩
  have w := WC_thr gI
  have sb := SB_of w (b := 0) (p := v1) (by decide) (by decide) (by omega)
  have kb := KB_of w (p := v1) (by omega)
  have hro : rd g 198 (0 + v1 + 2) < (key g).1 0 := by
    have := (INVw gI).1 v1 a1 (by omega) a2
    rw [show 0 + 2 + v1 = 0 + v1 + 2 by omega] at this
    exact this
  rcases hc with ⟨z, _⟩ | ⟨_, till, ht, ha⟩
  · exact absurd ⟨⟨a1, a2⟩, a3⟩ z
  have neg := FHr_neg sb ht
  refine G_findWayX (Nat.le_refl 8) w (by decide) (by decide) (by omega) hro (fun r' u l uw uf ht' ew el li => ?_)
  rw [FHr_one sb ht' ht] at ew ⊢
  have uk : ∀ x, x = r → Q (some (.inl x)) u := fun x ex => by
    rw [ex]
    refine k u uw.1 (EQL_fr gI EG ?_ ?_ (fun a i ha' => ?_))
    · exact (uf 2 0 (by decide) (by decide) (by decide) (by decide) (by decide)).trans (rdw_ne (by decide))
    · exact (uf 182 2 (by decide) (by decide) (by decide) (by decide) (by decide)).trans (rdw_nei (by decide))
    · obtain ⟨y1, y2, -⟩ := inK_p ha'
      exact (uf a i (by omega) (by omega) (by omega) (by omega) (by omega)).trans (by rw [rd_wr, if_neg (by omega)])
  have m := rF_wayMany uw.1.1
  have e9 : rd u 188 (4 * v1 + 119) = (key g).1 (4 * v1 + 119) := by
    have := uw.2.1
    rw [show rd u 188 (4 * v1 + 119) = (key u).1 (4 * v1 + 119) from rfl, this]
  refine B_errand_24 (RF_of uw.1.1) (by omega) ⟨fun c => uk (-2) ?_, fun c => ⟨fun c2 => ⟨fun c3 => ⟨fun c4 => ⟨by omega, by omega, uk _ ?_⟩, fun c4 => ⟨by omega, by omega, by omega, by omega, fun c5 => uk 0 ?_, fun c5 => uk 1 ?_⟩⟩, fun c3 => uk till ?_⟩, fun c2 => uk (-2) ?_⟩⟩
  · rcases ha with ⟨_, y⟩ | ⟨y, _⟩
    · exact y.symm
    · omega
  · rcases ha with ⟨y, _⟩ | ⟨_, ⟨y, _⟩ | ⟨y, _⟩ | ⟨y, l', ew', ⟨_, z⟩ | ⟨z, _⟩⟩⟩
    · omega
    · omega
    · omega
    · have elq := errW_one kb sb hro ew ew'
      rw [← elq] at z
      have := li (v2 - 1).toNat (by omega)
      rw [Int.toNat_of_nonneg (by omega)] at this
      exact this.trans z.symm
    · have elq := errW_one kb sb hro ew ew'
      rw [← elq] at z
      omega
  · rcases ha with ⟨y, _⟩ | ⟨_, ⟨y, _⟩ | ⟨_, ⟨z, _⟩ | ⟨_, z⟩⟩ | ⟨y, _⟩⟩
    · omega
    · omega
    · omega
    · exact z.symm
    · omega
  · rcases ha with ⟨y, _⟩ | ⟨_, ⟨y, _⟩ | ⟨_, ⟨_, z⟩ | ⟨z, _⟩⟩ | ⟨y, _⟩⟩
    · omega
    · omega
    · exact z.symm
    · omega
    · omega
  · rcases ha with ⟨y, _⟩ | ⟨_, ⟨_, z⟩ | ⟨y, _⟩ | ⟨y, _⟩⟩
    · omega
    · exact z.symm
    · omega
    · omega
  · rcases ha with ⟨_, y⟩ | ⟨_, ⟨y, _⟩ | ⟨y, _⟩ | ⟨y, l', ew', ⟨z, _⟩ | ⟨_, z⟩⟩⟩
    · exact y.symm
    · omega
    · omega
    · have elq := errW_one kb sb hro ew ew'
      rw [← elq] at z
      omega
    · exact z.symm
end ZE
end
section
/-! the law's calls, one by one, and its loop, by program (wip/sc/gen_law_s.py) -/
section LA
variable {xs : Nat → Int} {xl e : Nat} {h g : LH} {Q : Option LV → LH → Prop}
theorem inK_muY {a i : Int} (ha : inK a i) : ¬ muY a i := by
  obtain ⟨y1, y2, y3, y4, y5⟩ := inK_p ha
  unfold muY
  omega
theorem inK_182 {a i : Int} (ha : inK a i) : ¬ (a = 182 ∧ (i = 0 ∨ i = 2)) := by
  obtain ⟨y1, y2, -⟩ := inK_p ha
  omega
theorem inK_2 {a i : Int} (ha : inK a i) : a ≠ 2 := by
  obtain ⟨y1, -⟩ := inK_p ha
  omega
theorem LW_0 {v3 : Int} (hxs : ∀ j, i32 (xs j)) (h0 : 0 ≤ v3) (h1 : v3 + 7 ≤ (xl : Int)) (hx : xl ≤ 3584) (hI : INV h) (hE : EQL h) (k : ∀ g, INV g → EQL g → Rn xs xl 64 mm_OneSidedLaw_law 1231 [some (.inr (.inr (-2))), some (.inr (.inr 1)), some (.inr (.inr 182)), some (.inl v3)] [] g Q) : Rn xs xl 64 mm_OneSidedLaw_law 164 [some (.inr (.inr (-2))), some (.inr (.inr 1)), some (.inr (.inr 182)), some (.inl v3)] [] h Q := by
  refine B_law_164 (RF_of hI.1) (by omega) ⟨by omega, by omega, by omega, by omega, by omega, by omega, 63, by decide, E_feedX (by decide) hI (fun g gI ge gx gf => ?_)⟩
  refine B_law_229 (RF_of gI.1) (by omega) ⟨by omega, by omega, by omega, by omega, by omega, by omega, 63, by decide, D_feedX (r64 _ _) (r64 _ _) (r64 _ _) (by decide) gI (fun g2 i2 e2 x2 f2 => ?_)⟩
  have e0 : rd g 182 2 = rd h 182 2 := gf 182 2 (by decide) (by decide)
  have x0 : rd g 183 = rd h 183 := funext (fun i => gf 183 i (by omega) (by decide))
  have e3 : rd g2 2 0 = rd g 2 0 := f2 2 0 (by decide) (by decide)
  have x3 : rd g2 3 = rd g 3 := funext (fun i => f2 3 i (by omega) (by decide))
  have hE' : rd h 2 0 = rd h 182 2 := hE.1
  rw [e0, ← hE'] at e2 x2
  rw [x0] at x2
  refine B_law_295 (RF_of i2.1) (by omega) (k g2 i2 ⟨?_, fun i i0 i1 => ?_, EQS_fr hI hE.2.2 (fun a i ha n3 n183 _ => (f2 a i (inK_182 ha) n183).trans (gf a i (fun z => inK_2 ha z.1) n3))⟩)
  · rw [e3, ge, e2]
  · rw [e3, ge] at i1
    rw [x3, gx, x2]
    exact fedX3_ag hE.2.1 i i0 i1
theorem LW_1 {v3 : Int} (hxs : ∀ j, i32 (xs j)) (h0 : 0 ≤ v3) (h1 : v3 + 7 ≤ (xl : Int)) (hx : xl ≤ 3584) (hI : INV h) (hE : EQL h) (k : ∀ g, INV g → EQL g → Rn xs xl 64 mm_OneSidedLaw_law 1231 [some (.inr (.inr (-2))), some (.inr (.inr 1)), some (.inr (.inr 182)), some (.inl v3)] [] g Q) : Rn xs xl 64 mm_OneSidedLaw_law 299 [some (.inr (.inr (-2))), some (.inr (.inr 1)), some (.inr (.inr 182)), some (.inl v3)] [] h Q := by
  exact B_law_299 (RF_of hI.1) (by omega) ⟨63, by decide, E_quarterJS (by decide) hI hE (fun g gI gj => B_law_303 (RF_of gI.1) (by omega) ⟨63, by decide, G_quarterJS (by decide) hI hE gI gj (fun g2 i2 E2 => B_law_308 (RF_of i2.1) (by omega) (k g2 i2 E2))⟩)⟩
theorem LW_2 {v3 : Int} (hxs : ∀ j, i32 (xs j)) (h0 : 0 ≤ v3) (h1 : v3 + 7 ≤ (xl : Int)) (hx : xl ≤ 3584) (hI : INV h) (hE : EQL h) (k : ∀ g, INV g → EQL g → Rn xs xl 64 mm_OneSidedLaw_law 1231 [some (.inr (.inr (-2))), some (.inr (.inr 1)), some (.inr (.inr 182)), some (.inl v3)] [] g Q) : Rn xs xl 64 mm_OneSidedLaw_law 312 [some (.inr (.inr (-2))), some (.inr (.inr 1)), some (.inr (.inr 182)), some (.inl v3)] [] h Q := by
  have day_F : ∀ {g g2 : LH}, INV g → rd g 2 0 = 0 → EQS g → rd g2 182 2 = 0 → (∀ a i, ¬ muY a i → rd g2 a i = rd g a i) → EQL g2 := fun gI gz gP e2 f2 => EQL_0 ((f2 2 0 (by unfold muY; omega)).trans gz) e2 (EQS_fr gI gP (fun a i ha _ _ _ => f2 a i (inK_muY ha)))
  have S : ∀ (r : Int) (g : LH), INV g → rd g 2 0 = 0 → EQS g → Rn xs xl 64 mm_OneSidedLaw_law 316 [some (.inr (.inr (-2))), some (.inr (.inr 1)), some (.inr (.inr 182)), some (.inl v3)] [.inl r] g Q := by
    intro r g gI gz gP
    exact B_law_316 (RF_of gI.1) (by omega) ⟨63, by decide, D_day (by decide) gI (fun r2 g2 i2 e2 f2 => B_law_321 (RF_of i2.1) (by omega) (k g2 i2 (day_F gI gz gP e2 f2)))⟩
  exact B_law_312 (RF_of hI.1) (by omega) ⟨63, by decide, root_0 TD_day (as := [.inr (.inr 1)]) rfl (Nat.le_of_ble_eq_true rfl) hI (gAr_c (g_ref 1) gAr_n) rfl (Nat.le_of_ble_eq_true rfl) rfl rfl rfl (fun r g gI gz gf => S r g gI gz (EQS_fr hI hE.2.2 (fun a i ha _ _ _ => gf a i (dsj_ok (by decide +kernel) ha))))⟩
theorem LW_3 {v3 : Int} (hxs : ∀ j, i32 (xs j)) (h0 : 0 ≤ v3) (h1 : v3 + 7 ≤ (xl : Int)) (hx : xl ≤ 3584) (hI : INV h) (hE : EQL h) (k : ∀ g, INV g → EQL g → Rn xs xl 64 mm_OneSidedLaw_law 1231 [some (.inr (.inr (-2))), some (.inr (.inr 1)), some (.inr (.inr 182)), some (.inl v3)] [] g Q) : Rn xs xl 64 mm_OneSidedLaw_law 325 [some (.inr (.inr (-2))), some (.inr (.inr 1)), some (.inr (.inr 182)), some (.inl v3)] [] h Q := by
  have S : ∀ (r : Int) (g : LH), INV g → EQL g → Rn xs xl 64 mm_OneSidedLaw_law 339 [some (.inr (.inr (-2))), some (.inr (.inr 1)), some (.inr (.inr 182)), some (.inl v3)] [.inl r] g Q := by
    intro r g gI EG
    exact B_law_339 (RF_of gI.1) (by omega) ⟨by omega, by omega, 63, by decide, root_i TR_door (as := [.inr (.inr 182), .inl (xs (v3 + 1).toNat), .inl (xs (v3 + 2).toNat)]) rfl (Nat.le_of_ble_eq_true rfl) gI (gAr_c (g_ref 182) (gAr_c (g_i (hxs _)) (gAr_c (g_i (hxs _)) gAr_n))) rfl (Nat.le_of_ble_eq_true rfl) rfl rfl rfl (by decide +kernel) (by decide +kernel) (by decide +kernel) EG (fun r2 g2 i2 E2 => B_law_354 (RF_of i2.1) (by omega) (k g2 i2 E2))⟩
  exact B_law_325 (RF_of hI.1) (by omega) ⟨by omega, by omega, 63, by decide, root_i TC_door (as := [.inr (.inr 1), .inl (xs (v3 + 1).toNat), .inl (xs (v3 + 2).toNat)]) rfl (Nat.le_of_ble_eq_true rfl) hI (gAr_c (g_ref 1) (gAr_c (g_i (hxs _)) (gAr_c (g_i (hxs _)) gAr_n))) rfl (Nat.le_of_ble_eq_true rfl) rfl rfl rfl (by decide +kernel) (by decide +kernel) (by decide +kernel) hE (fun r g gI EG => S r g gI EG)⟩
theorem LW_4 {v3 : Int} (hxs : ∀ j, i32 (xs j)) (h0 : 0 ≤ v3) (h1 : v3 + 7 ≤ (xl : Int)) (hx : xl ≤ 3584) (hI : INV h) (hE : EQL h) (k : ∀ g, INV g → EQL g → Rn xs xl 64 mm_OneSidedLaw_law 1231 [some (.inr (.inr (-2))), some (.inr (.inr 1)), some (.inr (.inr 182)), some (.inl v3)] [] g Q) : Rn xs xl 64 mm_OneSidedLaw_law 358 [some (.inr (.inr (-2))), some (.inr (.inr 1)), some (.inr (.inr 182)), some (.inl v3)] [] h Q := by
  have S : ∀ (r : Int) (g : LH), INV g → EQL g → Rn xs xl 64 mm_OneSidedLaw_law 372 [some (.inr (.inr (-2))), some (.inr (.inr 1)), some (.inr (.inr 182)), some (.inl v3)] [.inl r] g Q := by
    intro r g gI EG
    exact B_law_372 (RF_of gI.1) (by omega) ⟨by omega, by omega, 63, by decide, root_i TR_person (as := [.inr (.inr 182), .inl (xs (v3 + 1).toNat), .inl (xs (v3 + 2).toNat)]) rfl (Nat.le_of_ble_eq_true rfl) gI (gAr_c (g_ref 182) (gAr_c (g_i (hxs _)) (gAr_c (g_i (hxs _)) gAr_n))) rfl (Nat.le_of_ble_eq_true rfl) rfl rfl rfl (by decide +kernel) (by decide +kernel) (by decide +kernel) EG (fun r2 g2 i2 E2 => B_law_387 (RF_of i2.1) (by omega) (k g2 i2 E2))⟩
  exact B_law_358 (RF_of hI.1) (by omega) ⟨by omega, by omega, 63, by decide, root_i TC_person (as := [.inr (.inr 1), .inl (xs (v3 + 1).toNat), .inl (xs (v3 + 2).toNat)]) rfl (Nat.le_of_ble_eq_true rfl) hI (gAr_c (g_ref 1) (gAr_c (g_i (hxs _)) (gAr_c (g_i (hxs _)) gAr_n))) rfl (Nat.le_of_ble_eq_true rfl) rfl rfl rfl (by decide +kernel) (by decide +kernel) (by decide +kernel) hE (fun r g gI EG => S r g gI EG)⟩
theorem LW_5 {v3 : Int} (hxs : ∀ j, i32 (xs j)) (h0 : 0 ≤ v3) (h1 : v3 + 7 ≤ (xl : Int)) (hx : xl ≤ 3584) (hI : INV h) (hE : EQL h) (k : ∀ g, INV g → EQL g → Rn xs xl 64 mm_OneSidedLaw_law 1231 [some (.inr (.inr (-2))), some (.inr (.inr 1)), some (.inr (.inr 182)), some (.inl v3)] [] g Q) : Rn xs xl 64 mm_OneSidedLaw_law 391 [some (.inr (.inr (-2))), some (.inr (.inr 1)), some (.inr (.inr 182)), some (.inl v3)] [] h Q := by
  have S : ∀ (r : Int) (g : LH), INV g → EQL g → Rn xs xl 64 mm_OneSidedLaw_law 415 [some (.inr (.inr (-2))), some (.inr (.inr 1)), some (.inr (.inr 182)), some (.inl v3)] [.inl r] g Q := by
    intro r g gI EG
    exact B_law_415 (RF_of gI.1) (by omega) ⟨by omega, by omega, by omega, by omega, 63, by decide, root_i TR_leads (as := [.inr (.inr 182), .inl (xs (v3 + 1).toNat), .inl (xs (v3 + 2).toNat), .inl (xs (v3 + 3).toNat), .inl (xs (v3 + 4).toNat)]) rfl (Nat.le_of_ble_eq_true rfl) gI (gAr_c (g_ref 182) (gAr_c (g_i (hxs _)) (gAr_c (g_i (hxs _)) (gAr_c (g_i (hxs _)) (gAr_c (g_i (hxs _)) gAr_n))))) rfl (Nat.le_of_ble_eq_true rfl) rfl rfl rfl (by decide +kernel) (by decide +kernel) (by decide +kernel) EG (fun r2 g2 i2 E2 => B_law_440 (RF_of i2.1) (by omega) (k g2 i2 E2))⟩
  exact B_law_391 (RF_of hI.1) (by omega) ⟨by omega, by omega, by omega, by omega, 63, by decide, root_i TC_leads (as := [.inr (.inr 1), .inl (xs (v3 + 1).toNat), .inl (xs (v3 + 2).toNat), .inl (xs (v3 + 3).toNat), .inl (xs (v3 + 4).toNat)]) rfl (Nat.le_of_ble_eq_true rfl) hI (gAr_c (g_ref 1) (gAr_c (g_i (hxs _)) (gAr_c (g_i (hxs _)) (gAr_c (g_i (hxs _)) (gAr_c (g_i (hxs _)) gAr_n))))) rfl (Nat.le_of_ble_eq_true rfl) rfl rfl rfl (by decide +kernel) (by decide +kernel) (by decide +kernel) hE (fun r g gI EG => S r g gI EG)⟩
theorem LW_6 {v3 : Int} (hxs : ∀ j, i32 (xs j)) (h0 : 0 ≤ v3) (h1 : v3 + 7 ≤ (xl : Int)) (hx : xl ≤ 3584) (hI : INV h) (hE : EQL h) (k : ∀ g, INV g → EQL g → Rn xs xl 64 mm_OneSidedLaw_law 1231 [some (.inr (.inr (-2))), some (.inr (.inr 1)), some (.inr (.inr 182)), some (.inl v3)] [] g Q) : Rn xs xl 64 mm_OneSidedLaw_law 444 [some (.inr (.inr (-2))), some (.inr (.inr 1)), some (.inr (.inr 182)), some (.inl v3)] [] h Q := by
  exact B_law_444 (RF_of hI.1) (by omega) ⟨by omega, by omega, 63, by decide, E_goS (by decide) hI hE (hxs _) (hxs _) (fun r g gI gj => B_law_458 (RF_of gI.1) (by omega) ⟨by omega, by omega, 63, by decide, G_goS (by decide) hI hE gI gj (fun g2 i2 E2 => B_law_473 (RF_of i2.1) (by omega) (k g2 i2 E2))⟩)⟩
theorem LW_7 {v3 : Int} (hxs : ∀ j, i32 (xs j)) (h0 : 0 ≤ v3) (h1 : v3 + 7 ≤ (xl : Int)) (hx : xl ≤ 3584) (hI : INV h) (hE : EQL h) (k : ∀ g, INV g → EQL g → Rn xs xl 64 mm_OneSidedLaw_law 1231 [some (.inr (.inr (-2))), some (.inr (.inr 1)), some (.inr (.inr 182)), some (.inl v3)] [] g Q) : Rn xs xl 64 mm_OneSidedLaw_law 477 [some (.inr (.inr (-2))), some (.inr (.inr 1)), some (.inr (.inr 182)), some (.inl v3)] [] h Q := by
  exact B_law_477 (RF_of hI.1) (by omega) ⟨by omega, 63, by decide, E_hoursS (by decide) hI hE (hxs _) (fun r g gI gj => B_law_486 (RF_of gI.1) (by omega) ⟨by omega, 63, by decide, G_hoursS (by decide) hI hE gI gj (fun g2 i2 E2 => B_law_496 (RF_of i2.1) (by omega) (k g2 i2 E2))⟩)⟩
theorem LW_8 {v3 : Int} (hxs : ∀ j, i32 (xs j)) (h0 : 0 ≤ v3) (h1 : v3 + 7 ≤ (xl : Int)) (hx : xl ≤ 3584) (hI : INV h) (hE : EQL h) (k : ∀ g, INV g → EQL g → Rn xs xl 64 mm_OneSidedLaw_law 1231 [some (.inr (.inr (-2))), some (.inr (.inr 1)), some (.inr (.inr 182)), some (.inl v3)] [] g Q) : Rn xs xl 64 mm_OneSidedLaw_law 500 [some (.inr (.inr (-2))), some (.inr (.inr 1)), some (.inr (.inr 182)), some (.inl v3)] [] h Q := by
  exact B_law_500 (RF_of hI.1) (by omega) ⟨by omega, by omega, fun c => ⟨63, by decide, E_shutS (by decide) hI hE (hxs _) g_z0 (by omega) (fun r g gI gj => B_law_522 (RF_of gI.1) (by omega) ⟨by omega, by omega, fun _ => ⟨63, by decide, G_shutS (by decide) hI hE gI (by omega) gj (fun g2 i2 E2 => B_law_545 (RF_of i2.1) (by omega) (k g2 i2 E2))⟩, fun z => absurd c z⟩)⟩, fun c => ⟨63, by decide, E_shutS (by decide) hI hE (hxs _) g_z1 (by omega) (fun r g gI gj => B_law_522 (RF_of gI.1) (by omega) ⟨by omega, by omega, fun z => absurd z c, fun _ => ⟨63, by decide, G_shutS (by decide) hI hE gI (by omega) gj (fun g2 i2 E2 => B_law_545 (RF_of i2.1) (by omega) (k g2 i2 E2))⟩⟩)⟩⟩
theorem LW_9 {v3 : Int} (hxs : ∀ j, i32 (xs j)) (h0 : 0 ≤ v3) (h1 : v3 + 7 ≤ (xl : Int)) (hx : xl ≤ 3584) (hI : INV h) (hE : EQL h) (k : ∀ g, INV g → EQL g → Rn xs xl 64 mm_OneSidedLaw_law 1231 [some (.inr (.inr (-2))), some (.inr (.inr 1)), some (.inr (.inr 182)), some (.inl v3)] [] g Q) : Rn xs xl 64 mm_OneSidedLaw_law 549 [some (.inr (.inr (-2))), some (.inr (.inr 1)), some (.inr (.inr 182)), some (.inl v3)] [] h Q := by
  exact B_law_549 (RF_of hI.1) (by omega) ⟨63, by decide, E_undoS (by decide) hI hE (fun r g gI gj => B_law_553 (RF_of gI.1) (by omega) ⟨63, by decide, G_undoS (by decide) hI hE gI gj (fun g2 i2 E2 => B_law_558 (RF_of i2.1) (by omega) (k g2 i2 E2))⟩)⟩
theorem LW_10 {v3 : Int} (hxs : ∀ j, i32 (xs j)) (h0 : 0 ≤ v3) (h1 : v3 + 7 ≤ (xl : Int)) (hx : xl ≤ 3584) (hI : INV h) (hE : EQL h) (k : ∀ g, INV g → EQL g → Rn xs xl 64 mm_OneSidedLaw_law 1231 [some (.inr (.inr (-2))), some (.inr (.inr 1)), some (.inr (.inr 182)), some (.inl v3)] [] g Q) : Rn xs xl 64 mm_OneSidedLaw_law 562 [some (.inr (.inr (-2))), some (.inr (.inr 1)), some (.inr (.inr 182)), some (.inl v3)] [] h Q := by
  have S : ∀ (r : Int) (g : LH), INV g → EQL g → Rn xs xl 64 mm_OneSidedLaw_law 571 [some (.inr (.inr (-2))), some (.inr (.inr 1)), some (.inr (.inr 182)), some (.inl v3)] [.inl r] g Q := by
    intro r g gI EG
    exact B_law_571 (RF_of gI.1) (by omega) ⟨by omega, 63, by decide, D_judgedS (by decide) gI (fun r2 g2 i2 f2 => B_law_581 (RF_of i2.1) (by omega) (k g2 i2 (EQL_fr gI EG (f2 2 0 (by decide) (by decide) (fun z => absurd z (by decide)) (by decide)) (f2 182 2 (by decide) (by decide) (fun z => absurd z (by decide)) (by decide)) (fun a i ha => by obtain ⟨y1, y2, y3, -⟩ := inK_p ha; exact f2 a i (by omega) (by omega) (fun z => by omega) (by omega)))))⟩
  exact B_law_562 (RF_of hI.1) (by omega) ⟨by omega, 63, by decide, root_i TD_judged (as := [.inr (.inr 1), .inl (xs (v3 + 1).toNat)]) rfl (Nat.le_of_ble_eq_true rfl) hI (gAr_c (g_ref 1) (gAr_c (g_i (hxs _)) gAr_n)) rfl (Nat.le_of_ble_eq_true rfl) rfl rfl rfl (by decide +kernel) (by decide +kernel) (by decide +kernel) hE (fun r g gI EG => S r g gI EG)⟩
theorem LW_11 {v3 : Int} (hxs : ∀ j, i32 (xs j)) (h0 : 0 ≤ v3) (h1 : v3 + 7 ≤ (xl : Int)) (hx : xl ≤ 3584) (hI : INV h) (hE : EQL h) (k : ∀ g, INV g → EQL g → Rn xs xl 64 mm_OneSidedLaw_law 1231 [some (.inr (.inr (-2))), some (.inr (.inr 1)), some (.inr (.inr 182)), some (.inl v3)] [] g Q) : Rn xs xl 64 mm_OneSidedLaw_law 585 [some (.inr (.inr (-2))), some (.inr (.inr 1)), some (.inr (.inr 182)), some (.inl v3)] [] h Q := by
  have S : ∀ (r : Int) (g : LH), INV g → EQL g → Rn xs xl 64 mm_OneSidedLaw_law 599 [some (.inr (.inr (-2))), some (.inr (.inr 1)), some (.inr (.inr 182)), some (.inl v3)] [.inl r] g Q := by
    intro r g gI EG
    exact B_law_599 (RF_of gI.1) (by omega) ⟨by omega, by omega, 63, by decide, root_i TR_soonest (as := [.inr (.inr 182), .inl (xs (v3 + 1).toNat), .inl (xs (v3 + 2).toNat)]) rfl (Nat.le_of_ble_eq_true rfl) gI (gAr_c (g_ref 182) (gAr_c (g_i (hxs _)) (gAr_c (g_i (hxs _)) gAr_n))) rfl (Nat.le_of_ble_eq_true rfl) rfl rfl rfl (by decide +kernel) (by decide +kernel) (by decide +kernel) EG (fun r2 g2 i2 E2 => B_law_614 (RF_of i2.1) (by omega) (k g2 i2 E2))⟩
  exact B_law_585 (RF_of hI.1) (by omega) ⟨by omega, by omega, 63, by decide, root_i TC_soonest (as := [.inr (.inr 1), .inl (xs (v3 + 1).toNat), .inl (xs (v3 + 2).toNat)]) rfl (Nat.le_of_ble_eq_true rfl) hI (gAr_c (g_ref 1) (gAr_c (g_i (hxs _)) (gAr_c (g_i (hxs _)) gAr_n))) rfl (Nat.le_of_ble_eq_true rfl) rfl rfl rfl (by decide +kernel) (by decide +kernel) (by decide +kernel) hE (fun r g gI EG => S r g gI EG)⟩
theorem LW_12 {v3 : Int} (hxs : ∀ j, i32 (xs j)) (h0 : 0 ≤ v3) (h1 : v3 + 7 ≤ (xl : Int)) (hx : xl ≤ 3584) (hI : INV h) (hE : EQL h) (k : ∀ g, INV g → EQL g → Rn xs xl 64 mm_OneSidedLaw_law 1231 [some (.inr (.inr (-2))), some (.inr (.inr 1)), some (.inr (.inr 182)), some (.inl v3)] [] g Q) : Rn xs xl 64 mm_OneSidedLaw_law 618 [some (.inr (.inr (-2))), some (.inr (.inr 1)), some (.inr (.inr 182)), some (.inl v3)] [] h Q := by
  exact B_law_618 (RF_of hI.1) (by omega) ⟨by omega, by omega, 63, by decide, E_errandS (by decide) hI hE (hxs _) (hxs _) (fun r g gI gj => B_law_632 (RF_of gI.1) (by omega) ⟨by omega, by omega, 63, by decide, G_errandS (by decide) hI hE gI gj (fun g2 i2 E2 => B_law_646 (RF_of i2.1) (by omega) ⟨fun _ => k g2 i2 E2, fun z => absurd rfl z⟩)⟩)⟩
theorem LW_13 {v3 : Int} (hxs : ∀ j, i32 (xs j)) (h0 : 0 ≤ v3) (h1 : v3 + 7 ≤ (xl : Int)) (hx : xl ≤ 3584) (hI : INV h) (hE : EQL h) (k : ∀ g, INV g → EQL g → Rn xs xl 64 mm_OneSidedLaw_law 1231 [some (.inr (.inr (-2))), some (.inr (.inr 1)), some (.inr (.inr 182)), some (.inl v3)] [] g Q) : Rn xs xl 64 mm_OneSidedLaw_law 651 [some (.inr (.inr (-2))), some (.inr (.inr 1)), some (.inr (.inr 182)), some (.inl v3)] [] h Q := by
  have S : ∀ (r : Int) (g : LH), INV g → EQL g → Rn xs xl 64 mm_OneSidedLaw_law 660 [some (.inr (.inr (-2))), some (.inr (.inr 1)), some (.inr (.inr 182)), some (.inl v3)] [.inl r] g Q := by
    intro r g gI EG
    exact B_law_660 (RF_of gI.1) (by omega) ⟨by omega, 63, by decide, root_i TR_reach (as := [.inr (.inr 182), .inl (xs (v3 + 1).toNat)]) rfl (Nat.le_of_ble_eq_true rfl) gI (gAr_c (g_ref 182) (gAr_c (g_i (hxs _)) gAr_n)) rfl (Nat.le_of_ble_eq_true rfl) rfl rfl rfl (by decide +kernel) (by decide +kernel) (by decide +kernel) EG (fun r2 g2 i2 E2 => B_law_670 (RF_of i2.1) (by omega) (k g2 i2 E2))⟩
  exact B_law_651 (RF_of hI.1) (by omega) ⟨by omega, 63, by decide, root_i TC_reach (as := [.inr (.inr 1), .inl (xs (v3 + 1).toNat)]) rfl (Nat.le_of_ble_eq_true rfl) hI (gAr_c (g_ref 1) (gAr_c (g_i (hxs _)) gAr_n)) rfl (Nat.le_of_ble_eq_true rfl) rfl rfl rfl (by decide +kernel) (by decide +kernel) (by decide +kernel) hE (fun r g gI EG => S r g gI EG)⟩
theorem LW_14 {v3 : Int} (hxs : ∀ j, i32 (xs j)) (h0 : 0 ≤ v3) (h1 : v3 + 7 ≤ (xl : Int)) (hx : xl ≤ 3584) (hI : INV h) (hE : EQL h) (k : ∀ g, INV g → EQL g → Rn xs xl 64 mm_OneSidedLaw_law 1231 [some (.inr (.inr (-2))), some (.inr (.inr 1)), some (.inr (.inr 182)), some (.inl v3)] [] g Q) : Rn xs xl 64 mm_OneSidedLaw_law 674 [some (.inr (.inr (-2))), some (.inr (.inr 1)), some (.inr (.inr 182)), some (.inl v3)] [] h Q := by
  have S : ∀ (r : Int) (g : LH), INV g → EQL g → Rn xs xl 64 mm_OneSidedLaw_law 678 [some (.inr (.inr (-2))), some (.inr (.inr 1)), some (.inr (.inr 182)), some (.inl v3)] [.inl r] g Q := by
    intro r g gI EG
    exact B_law_678 (RF_of gI.1) (by omega) ⟨63, by decide, root_i TR_stuck (as := [.inr (.inr 182)]) rfl (Nat.le_of_ble_eq_true rfl) gI (gAr_c (g_ref 182) gAr_n) rfl (Nat.le_of_ble_eq_true rfl) rfl rfl rfl (by decide +kernel) (by decide +kernel) (by decide +kernel) EG (fun r2 g2 i2 E2 => B_law_683 (RF_of i2.1) (by omega) (k g2 i2 E2))⟩
  exact B_law_674 (RF_of hI.1) (by omega) ⟨63, by decide, root_i TC_stuck (as := [.inr (.inr 1)]) rfl (Nat.le_of_ble_eq_true rfl) hI (gAr_c (g_ref 1) gAr_n) rfl (Nat.le_of_ble_eq_true rfl) rfl rfl rfl (by decide +kernel) (by decide +kernel) (by decide +kernel) hE (fun r g gI EG => S r g gI EG)⟩
theorem LW_15 {v3 : Int} (hxs : ∀ j, i32 (xs j)) (h0 : 0 ≤ v3) (h1 : v3 + 7 ≤ (xl : Int)) (hx : xl ≤ 3584) (hI : INV h) (hE : EQL h) (k : ∀ g, INV g → EQL g → Rn xs xl 64 mm_OneSidedLaw_law 1231 [some (.inr (.inr (-2))), some (.inr (.inr 1)), some (.inr (.inr 182)), some (.inl v3)] [] g Q) : Rn xs xl 64 mm_OneSidedLaw_law 687 [some (.inr (.inr (-2))), some (.inr (.inr 1)), some (.inr (.inr 182)), some (.inl v3)] [] h Q := by
  have S : ∀ (r : Int) (g : LH), INV g → EQL g → Rn xs xl 64 mm_OneSidedLaw_law 706 [some (.inr (.inr (-2))), some (.inr (.inr 1)), some (.inr (.inr 182)), some (.inl v3)] [.inl r] g Q := by
    intro r g gI EG
    exact B_law_706 (RF_of gI.1) (by omega) ⟨by omega, by omega, by omega, 63, by decide, root_i TR_ring (as := [.inr (.inr 182), .inl (xs (v3 + 1).toNat), .inl (xs (v3 + 2).toNat), .inl (xs (v3 + 3).toNat)]) rfl (Nat.le_of_ble_eq_true rfl) gI (gAr_c (g_ref 182) (gAr_c (g_i (hxs _)) (gAr_c (g_i (hxs _)) (gAr_c (g_i (hxs _)) gAr_n)))) rfl (Nat.le_of_ble_eq_true rfl) rfl rfl rfl (by decide +kernel) (by decide +kernel) (by decide +kernel) EG (fun r2 g2 i2 E2 => B_law_726 (RF_of i2.1) (by omega) (k g2 i2 E2))⟩
  exact B_law_687 (RF_of hI.1) (by omega) ⟨by omega, by omega, by omega, 63, by decide, root_i TC_ring (as := [.inr (.inr 1), .inl (xs (v3 + 1).toNat), .inl (xs (v3 + 2).toNat), .inl (xs (v3 + 3).toNat)]) rfl (Nat.le_of_ble_eq_true rfl) hI (gAr_c (g_ref 1) (gAr_c (g_i (hxs _)) (gAr_c (g_i (hxs _)) (gAr_c (g_i (hxs _)) gAr_n)))) rfl (Nat.le_of_ble_eq_true rfl) rfl rfl rfl (by decide +kernel) (by decide +kernel) (by decide +kernel) hE (fun r g gI EG => S r g gI EG)⟩
theorem LW_16 {v3 : Int} (hxs : ∀ j, i32 (xs j)) (h0 : 0 ≤ v3) (h1 : v3 + 7 ≤ (xl : Int)) (hx : xl ≤ 3584) (hI : INV h) (hE : EQL h) (k : ∀ g, INV g → EQL g → Rn xs xl 64 mm_OneSidedLaw_law 1231 [some (.inr (.inr (-2))), some (.inr (.inr 1)), some (.inr (.inr 182)), some (.inl v3)] [] g Q) : Rn xs xl 64 mm_OneSidedLaw_law 730 [some (.inr (.inr (-2))), some (.inr (.inr 1)), some (.inr (.inr 182)), some (.inl v3)] [] h Q := by
  have S : ∀ (r : Int) (g : LH), INV g → EQL g → Rn xs xl 64 mm_OneSidedLaw_law 749 [some (.inr (.inr (-2))), some (.inr (.inr 1)), some (.inr (.inr 182)), some (.inl v3)] [.inl r] g Q := by
    intro r g gI EG
    exact B_law_749 (RF_of gI.1) (by omega) ⟨by omega, by omega, by omega, 63, by decide, root_i TR_homeless (as := [.inr (.inr 182), .inl (xs (v3 + 1).toNat), .inl (xs (v3 + 2).toNat), .inl (xs (v3 + 3).toNat)]) rfl (Nat.le_of_ble_eq_true rfl) gI (gAr_c (g_ref 182) (gAr_c (g_i (hxs _)) (gAr_c (g_i (hxs _)) (gAr_c (g_i (hxs _)) gAr_n)))) rfl (Nat.le_of_ble_eq_true rfl) rfl rfl rfl (by decide +kernel) (by decide +kernel) (by decide +kernel) EG (fun r2 g2 i2 E2 => B_law_769 (RF_of i2.1) (by omega) (k g2 i2 E2))⟩
  exact B_law_730 (RF_of hI.1) (by omega) ⟨by omega, by omega, by omega, 63, by decide, root_i TC_homeless (as := [.inr (.inr 1), .inl (xs (v3 + 1).toNat), .inl (xs (v3 + 2).toNat), .inl (xs (v3 + 3).toNat)]) rfl (Nat.le_of_ble_eq_true rfl) hI (gAr_c (g_ref 1) (gAr_c (g_i (hxs _)) (gAr_c (g_i (hxs _)) (gAr_c (g_i (hxs _)) gAr_n)))) rfl (Nat.le_of_ble_eq_true rfl) rfl rfl rfl (by decide +kernel) (by decide +kernel) (by decide +kernel) hE (fun r g gI EG => S r g gI EG)⟩
theorem LW_17 {v3 : Int} (hxs : ∀ j, i32 (xs j)) (h0 : 0 ≤ v3) (h1 : v3 + 7 ≤ (xl : Int)) (hx : xl ≤ 3584) (hI : INV h) (hE : EQL h) (k : ∀ g, INV g → EQL g → Rn xs xl 64 mm_OneSidedLaw_law 1231 [some (.inr (.inr (-2))), some (.inr (.inr 1)), some (.inr (.inr 182)), some (.inl v3)] [] g Q) : Rn xs xl 64 mm_OneSidedLaw_law 773 [some (.inr (.inr (-2))), some (.inr (.inr 1)), some (.inr (.inr 182)), some (.inl v3)] [] h Q := by
  have S : ∀ (r : Int) (g : LH), INV g → EQL g → Rn xs xl 64 mm_OneSidedLaw_law 787 [some (.inr (.inr (-2))), some (.inr (.inr 1)), some (.inr (.inr 182)), some (.inl v3)] [.inl r] g Q := by
    intro r g gI EG
    exact B_law_787 (RF_of gI.1) (by omega) ⟨by omega, by omega, 63, by decide, root_i TR_add (as := [.inr (.inr 182), .inl (xs (v3 + 1).toNat), .inl (xs (v3 + 2).toNat)]) rfl (Nat.le_of_ble_eq_true rfl) gI (gAr_c (g_ref 182) (gAr_c (g_i (hxs _)) (gAr_c (g_i (hxs _)) gAr_n))) rfl (Nat.le_of_ble_eq_true rfl) rfl rfl rfl (by decide +kernel) (by decide +kernel) (by decide +kernel) EG (fun r2 g2 i2 E2 => B_law_802 (RF_of i2.1) (by omega) (k g2 i2 E2))⟩
  exact B_law_773 (RF_of hI.1) (by omega) ⟨by omega, by omega, 63, by decide, root_i TC_add (as := [.inr (.inr 1), .inl (xs (v3 + 1).toNat), .inl (xs (v3 + 2).toNat)]) rfl (Nat.le_of_ble_eq_true rfl) hI (gAr_c (g_ref 1) (gAr_c (g_i (hxs _)) (gAr_c (g_i (hxs _)) gAr_n))) rfl (Nat.le_of_ble_eq_true rfl) rfl rfl rfl (by decide +kernel) (by decide +kernel) (by decide +kernel) hE (fun r g gI EG => S r g gI EG)⟩
theorem LW_18 {v3 : Int} (hxs : ∀ j, i32 (xs j)) (h0 : 0 ≤ v3) (h1 : v3 + 7 ≤ (xl : Int)) (hx : xl ≤ 3584) (hI : INV h) (hE : EQL h) (k : ∀ g, INV g → EQL g → Rn xs xl 64 mm_OneSidedLaw_law 1231 [some (.inr (.inr (-2))), some (.inr (.inr 1)), some (.inr (.inr 182)), some (.inl v3)] [] g Q) : Rn xs xl 64 mm_OneSidedLaw_law 806 [some (.inr (.inr (-2))), some (.inr (.inr 1)), some (.inr (.inr 182)), some (.inl v3)] [] h Q := by
  have S : ∀ (r : Int) (g : LH), INV g → EQL g → Rn xs xl 64 mm_OneSidedLaw_law 820 [some (.inr (.inr (-2))), some (.inr (.inr 1)), some (.inr (.inr 182)), some (.inl v3)] [.inl r] g Q := by
    intro r g gI EG
    exact B_law_820 (RF_of gI.1) (by omega) ⟨by omega, by omega, 63, by decide, root_i TR_turn (as := [.inr (.inr 182), .inl (xs (v3 + 1).toNat), .inl (xs (v3 + 2).toNat)]) rfl (Nat.le_of_ble_eq_true rfl) gI (gAr_c (g_ref 182) (gAr_c (g_i (hxs _)) (gAr_c (g_i (hxs _)) gAr_n))) rfl (Nat.le_of_ble_eq_true rfl) rfl rfl rfl (by decide +kernel) (by decide +kernel) (by decide +kernel) EG (fun r2 g2 i2 E2 => B_law_835 (RF_of i2.1) (by omega) (k g2 i2 E2))⟩
  exact B_law_806 (RF_of hI.1) (by omega) ⟨by omega, by omega, 63, by decide, root_i TC_turn (as := [.inr (.inr 1), .inl (xs (v3 + 1).toNat), .inl (xs (v3 + 2).toNat)]) rfl (Nat.le_of_ble_eq_true rfl) hI (gAr_c (g_ref 1) (gAr_c (g_i (hxs _)) (gAr_c (g_i (hxs _)) gAr_n))) rfl (Nat.le_of_ble_eq_true rfl) rfl rfl rfl (by decide +kernel) (by decide +kernel) (by decide +kernel) hE (fun r g gI EG => S r g gI EG)⟩
theorem LW_19 {v3 : Int} (hxs : ∀ j, i32 (xs j)) (h0 : 0 ≤ v3) (h1 : v3 + 7 ≤ (xl : Int)) (hx : xl ≤ 3584) (hI : INV h) (hE : EQL h) (k : ∀ g, INV g → EQL g → Rn xs xl 64 mm_OneSidedLaw_law 1231 [some (.inr (.inr (-2))), some (.inr (.inr 1)), some (.inr (.inr 182)), some (.inl v3)] [] g Q) : Rn xs xl 64 mm_OneSidedLaw_law 839 [some (.inr (.inr (-2))), some (.inr (.inr 1)), some (.inr (.inr 182)), some (.inl v3)] [] h Q := by
  have S : ∀ (r : Int) (g : LH), INV g → EQL g → Rn xs xl 64 mm_OneSidedLaw_law 863 [some (.inr (.inr (-2))), some (.inr (.inr 1)), some (.inr (.inr 182)), some (.inl v3)] [.inl r] g Q := by
    intro r g gI EG
    exact B_law_863 (RF_of gI.1) (by omega) ⟨by omega, by omega, by omega, by omega, 63, by decide, root_i TR_cut (as := [.inr (.inr 182), .inl (xs (v3 + 1).toNat), .inl (xs (v3 + 2).toNat), .inl (xs (v3 + 3).toNat), .inl (xs (v3 + 4).toNat)]) rfl (Nat.le_of_ble_eq_true rfl) gI (gAr_c (g_ref 182) (gAr_c (g_i (hxs _)) (gAr_c (g_i (hxs _)) (gAr_c (g_i (hxs _)) (gAr_c (g_i (hxs _)) gAr_n))))) rfl (Nat.le_of_ble_eq_true rfl) rfl rfl rfl (by decide +kernel) (by decide +kernel) (by decide +kernel) EG (fun r2 g2 i2 E2 => B_law_888 (RF_of i2.1) (by omega) (k g2 i2 E2))⟩
  exact B_law_839 (RF_of hI.1) (by omega) ⟨by omega, by omega, by omega, by omega, 63, by decide, root_i TC_cut (as := [.inr (.inr 1), .inl (xs (v3 + 1).toNat), .inl (xs (v3 + 2).toNat), .inl (xs (v3 + 3).toNat), .inl (xs (v3 + 4).toNat)]) rfl (Nat.le_of_ble_eq_true rfl) hI (gAr_c (g_ref 1) (gAr_c (g_i (hxs _)) (gAr_c (g_i (hxs _)) (gAr_c (g_i (hxs _)) (gAr_c (g_i (hxs _)) gAr_n))))) rfl (Nat.le_of_ble_eq_true rfl) rfl rfl rfl (by decide +kernel) (by decide +kernel) (by decide +kernel) hE (fun r g gI EG => S r g gI EG)⟩
theorem LW_20 {v3 : Int} (hxs : ∀ j, i32 (xs j)) (h0 : 0 ≤ v3) (h1 : v3 + 7 ≤ (xl : Int)) (hx : xl ≤ 3584) (hI : INV h) (hE : EQL h) (k : ∀ g, INV g → EQL g → Rn xs xl 64 mm_OneSidedLaw_law 1231 [some (.inr (.inr (-2))), some (.inr (.inr 1)), some (.inr (.inr 182)), some (.inl v3)] [] g Q) : Rn xs xl 64 mm_OneSidedLaw_law 892 [some (.inr (.inr (-2))), some (.inr (.inr 1)), some (.inr (.inr 182)), some (.inl v3)] [] h Q := by
  have S : ∀ (r : Int) (g : LH), INV g → EQL g → Rn xs xl 64 mm_OneSidedLaw_law 911 [some (.inr (.inr (-2))), some (.inr (.inr 1)), some (.inr (.inr 182)), some (.inl v3)] [.inl r] g Q := by
    intro r g gI EG
    exact B_law_911 (RF_of gI.1) (by omega) ⟨by omega, by omega, by omega, 63, by decide, D_crowd (by decide) gI (fun r2 g2 i2 f2 => B_law_931 (RF_of i2.1) (by omega) (k g2 i2 (EQL_fr gI EG (f2 2 0 (by decide) (by decide) (by decide) (by decide) (by decide) (by decide) (by decide) (by decide)) (f2 182 2 (by decide) (by decide) (by decide) (by decide) (by decide) (by decide) (by decide) (by decide)) (fun a i ha => by obtain ⟨y1, y2, y3, -⟩ := inK_p ha; exact f2 a i (by omega) (by omega) (by omega) (by omega) (by omega) (by omega) (by omega) (by omega)))))⟩
  exact B_law_892 (RF_of hI.1) (by omega) ⟨by omega, by omega, by omega, 63, by decide, E_crowd (by decide) hI (fun r g gI gf => S r g gI (EQL_fr hI hE (gf 2 0 (by decide) (by decide) (by decide) (by decide) (by decide) (by decide)) (gf 182 2 (by decide) (by decide) (by decide) (by decide) (by decide) (by decide)) (fun a i ha => by obtain ⟨y1, -⟩ := inK_p ha; exact gf a i (by omega) (by omega) (by omega) (by omega) (by omega) (by omega))))⟩
theorem LW_21 {v3 : Int} (hxs : ∀ j, i32 (xs j)) (h0 : 0 ≤ v3) (h1 : v3 + 7 ≤ (xl : Int)) (hx : xl ≤ 3584) (hI : INV h) (hE : EQL h) (k : ∀ g, INV g → EQL g → Rn xs xl 64 mm_OneSidedLaw_law 1231 [some (.inr (.inr (-2))), some (.inr (.inr 1)), some (.inr (.inr 182)), some (.inl v3)] [] g Q) : Rn xs xl 64 mm_OneSidedLaw_law 935 [some (.inr (.inr (-2))), some (.inr (.inr 1)), some (.inr (.inr 182)), some (.inl v3)] [] h Q := by
  have S : ∀ (r : Int) (g : LH), INV g → EQL g → Rn xs xl 64 mm_OneSidedLaw_law 962 [some (.inr (.inr (-2))), some (.inr (.inr 1)), some (.inr (.inr 182)), some (.inl v3)] [.inl r] g Q := by
    intro r g gI EG
    exact B_law_962 (RF_of gI.1) (by omega) ⟨by omega, by omega, by omega, fun _ => ⟨63, by decide, root_b TR_told (as := [.inr (.inr 182), .inl (xs (v3 + 1).toNat), .inl (xs (v3 + 2).toNat), .inl 0]) rfl (Nat.le_of_ble_eq_true rfl) gI (gAr_c (g_ref 182) (gAr_c (g_i (hxs _)) (gAr_c (g_i (hxs _)) (gAr_c g_z0 gAr_n)))) rfl (Nat.le_of_ble_eq_true rfl) rfl rfl rfl rfl (by decide +kernel) (by decide +kernel) (by decide +kernel) EG (fun r2 g2 i2 E2 => B_law_990 (RF_of i2.1) (by omega) (k g2 i2 E2))⟩, fun _ => ⟨63, by decide, root_b TR_told (as := [.inr (.inr 182), .inl (xs (v3 + 1).toNat), .inl (xs (v3 + 2).toNat), .inl 1]) rfl (Nat.le_of_ble_eq_true rfl) gI (gAr_c (g_ref 182) (gAr_c (g_i (hxs _)) (gAr_c (g_i (hxs _)) (gAr_c g_z1 gAr_n)))) rfl (Nat.le_of_ble_eq_true rfl) rfl rfl rfl rfl (by decide +kernel) (by decide +kernel) (by decide +kernel) EG (fun r2 g2 i2 E2 => B_law_990 (RF_of i2.1) (by omega) (k g2 i2 E2))⟩⟩
  exact B_law_935 (RF_of hI.1) (by omega) ⟨by omega, by omega, by omega, fun _ => ⟨63, by decide, root_b TC_told (as := [.inr (.inr 1), .inl (xs (v3 + 1).toNat), .inl (xs (v3 + 2).toNat), .inl 0]) rfl (Nat.le_of_ble_eq_true rfl) hI (gAr_c (g_ref 1) (gAr_c (g_i (hxs _)) (gAr_c (g_i (hxs _)) (gAr_c g_z0 gAr_n)))) rfl (Nat.le_of_ble_eq_true rfl) rfl rfl rfl rfl (by decide +kernel) (by decide +kernel) (by decide +kernel) hE (fun r g gI EG => S r g gI EG)⟩, fun _ => ⟨63, by decide, root_b TC_told (as := [.inr (.inr 1), .inl (xs (v3 + 1).toNat), .inl (xs (v3 + 2).toNat), .inl 1]) rfl (Nat.le_of_ble_eq_true rfl) hI (gAr_c (g_ref 1) (gAr_c (g_i (hxs _)) (gAr_c (g_i (hxs _)) (gAr_c g_z1 gAr_n)))) rfl (Nat.le_of_ble_eq_true rfl) rfl rfl rfl rfl (by decide +kernel) (by decide +kernel) (by decide +kernel) hE (fun r g gI EG => S r g gI EG)⟩⟩
theorem LW_22 {v3 : Int} (hxs : ∀ j, i32 (xs j)) (h0 : 0 ≤ v3) (h1 : v3 + 7 ≤ (xl : Int)) (hx : xl ≤ 3584) (hI : INV h) (hE : EQL h) (k : ∀ g, INV g → EQL g → Rn xs xl 64 mm_OneSidedLaw_law 1231 [some (.inr (.inr (-2))), some (.inr (.inr 1)), some (.inr (.inr 182)), some (.inl v3)] [] g Q) : Rn xs xl 64 mm_OneSidedLaw_law 994 [some (.inr (.inr (-2))), some (.inr (.inr 1)), some (.inr (.inr 182)), some (.inl v3)] [] h Q := by
  have S : ∀ (r : Int) (g : LH), INV g → EQL g → Rn xs xl 64 mm_OneSidedLaw_law 1003 [some (.inr (.inr (-2))), some (.inr (.inr 1)), some (.inr (.inr 182)), some (.inl v3)] [.inl r] g Q := by
    intro r g gI EG
    exact B_law_1003 (RF_of gI.1) (by omega) ⟨by omega, 63, by decide, root_i TR_found (as := [.inr (.inr 182), .inl (xs (v3 + 1).toNat)]) rfl (Nat.le_of_ble_eq_true rfl) gI (gAr_c (g_ref 182) (gAr_c (g_i (hxs _)) gAr_n)) rfl (Nat.le_of_ble_eq_true rfl) rfl rfl rfl (by decide +kernel) (by decide +kernel) (by decide +kernel) EG (fun r2 g2 i2 E2 => B_law_1013 (RF_of i2.1) (by omega) (k g2 i2 E2))⟩
  exact B_law_994 (RF_of hI.1) (by omega) ⟨by omega, 63, by decide, root_i TC_found (as := [.inr (.inr 1), .inl (xs (v3 + 1).toNat)]) rfl (Nat.le_of_ble_eq_true rfl) hI (gAr_c (g_ref 1) (gAr_c (g_i (hxs _)) gAr_n)) rfl (Nat.le_of_ble_eq_true rfl) rfl rfl rfl (by decide +kernel) (by decide +kernel) (by decide +kernel) hE (fun r g gI EG => S r g gI EG)⟩
theorem LW_23 {v3 : Int} (hxs : ∀ j, i32 (xs j)) (h0 : 0 ≤ v3) (h1 : v3 + 7 ≤ (xl : Int)) (hx : xl ≤ 3584) (hI : INV h) (hE : EQL h) (k : ∀ g, INV g → EQL g → Rn xs xl 64 mm_OneSidedLaw_law 1231 [some (.inr (.inr (-2))), some (.inr (.inr 1)), some (.inr (.inr 182)), some (.inl v3)] [] g Q) : Rn xs xl 64 mm_OneSidedLaw_law 1017 [some (.inr (.inr (-2))), some (.inr (.inr 1)), some (.inr (.inr 182)), some (.inl v3)] [] h Q := by
  have S : ∀ (r : Int) (g : LH), INV g → EQL g → Rn xs xl 64 mm_OneSidedLaw_law 1036 [some (.inr (.inr (-2))), some (.inr (.inr 1)), some (.inr (.inr 182)), some (.inl v3)] [.inl r] g Q := by
    intro r g gI EG
    exact B_law_1036 (RF_of gI.1) (by omega) ⟨by omega, by omega, by omega, 63, by decide, root_rests (by decide) gI EG (hxs _) (hxs _) (hxs _) (fun r2 g2 i2 E2 => B_law_1056 (RF_of i2.1) (by omega) (k g2 i2 E2))⟩
  exact B_law_1017 (RF_of hI.1) (by omega) ⟨by omega, by omega, by omega, 63, by decide, root_i TC_rests (as := [.inr (.inr 1), .inl (xs (v3 + 1).toNat), .inl (xs (v3 + 2).toNat), .inl (xs (v3 + 3).toNat)]) rfl (Nat.le_of_ble_eq_true rfl) hI (gAr_c (g_ref 1) (gAr_c (g_i (hxs _)) (gAr_c (g_i (hxs _)) (gAr_c (g_i (hxs _)) gAr_n)))) rfl (Nat.le_of_ble_eq_true rfl) rfl rfl rfl (by decide +kernel) (by decide +kernel) (by decide +kernel) hE (fun r g gI EG => S r g gI EG)⟩
theorem LW_24 {v3 : Int} (hxs : ∀ j, i32 (xs j)) (h0 : 0 ≤ v3) (h1 : v3 + 7 ≤ (xl : Int)) (hx : xl ≤ 3584) (hI : INV h) (hE : EQL h) (k : ∀ g, INV g → EQL g → Rn xs xl 64 mm_OneSidedLaw_law 1231 [some (.inr (.inr (-2))), some (.inr (.inr 1)), some (.inr (.inr 182)), some (.inl v3)] [] g Q) : Rn xs xl 64 mm_OneSidedLaw_law 1060 [some (.inr (.inr (-2))), some (.inr (.inr 1)), some (.inr (.inr 182)), some (.inl v3)] [] h Q := by
  have S : ∀ (r : Int) (g : LH), INV g → EQL g → Rn xs xl 64 mm_OneSidedLaw_law 1074 [some (.inr (.inr (-2))), some (.inr (.inr 1)), some (.inr (.inr 182)), some (.inl v3)] [.inl r] g Q := by
    intro r g gI EG
    exact B_law_1074 (RF_of gI.1) (by omega) ⟨by omega, by omega, 63, by decide, root_i TR_chase (as := [.inr (.inr 182), .inl (xs (v3 + 1).toNat), .inl (xs (v3 + 2).toNat)]) rfl (Nat.le_of_ble_eq_true rfl) gI (gAr_c (g_ref 182) (gAr_c (g_i (hxs _)) (gAr_c (g_i (hxs _)) gAr_n))) rfl (Nat.le_of_ble_eq_true rfl) rfl rfl rfl (by decide +kernel) (by decide +kernel) (by decide +kernel) EG (fun r2 g2 i2 E2 => B_law_1089 (RF_of i2.1) (by omega) (k g2 i2 E2))⟩
  exact B_law_1060 (RF_of hI.1) (by omega) ⟨by omega, by omega, 63, by decide, root_i TC_chase (as := [.inr (.inr 1), .inl (xs (v3 + 1).toNat), .inl (xs (v3 + 2).toNat)]) rfl (Nat.le_of_ble_eq_true rfl) hI (gAr_c (g_ref 1) (gAr_c (g_i (hxs _)) (gAr_c (g_i (hxs _)) gAr_n))) rfl (Nat.le_of_ble_eq_true rfl) rfl rfl rfl (by decide +kernel) (by decide +kernel) (by decide +kernel) hE (fun r g gI EG => S r g gI EG)⟩
theorem LW_25 {v3 : Int} (hxs : ∀ j, i32 (xs j)) (h0 : 0 ≤ v3) (h1 : v3 + 7 ≤ (xl : Int)) (hx : xl ≤ 3584) (hI : INV h) (hE : EQL h) (k : ∀ g, INV g → EQL g → Rn xs xl 64 mm_OneSidedLaw_law 1231 [some (.inr (.inr (-2))), some (.inr (.inr 1)), some (.inr (.inr 182)), some (.inl v3)] [] g Q) : Rn xs xl 64 mm_OneSidedLaw_law 1093 [some (.inr (.inr (-2))), some (.inr (.inr 1)), some (.inr (.inr 182)), some (.inl v3)] [] h Q := by
  have S : ∀ (r : Int) (g : LH), INV g → EQL g → Rn xs xl 64 mm_OneSidedLaw_law 1102 [some (.inr (.inr (-2))), some (.inr (.inr 1)), some (.inr (.inr 182)), some (.inl v3)] [.inl r] g Q := by
    intro r g gI EG
    exact B_law_1102 (RF_of gI.1) (by omega) ⟨by omega, 63, by decide, D_run (by decide) gI (fun r2 g2 i2 f2 => B_law_1112 (RF_of i2.1) (by omega) (k g2 i2 (EQL_fr gI EG ((f2 2 0 (by decide) (by decide) (by decide) (by decide) (by decide) (by decide)).trans (rdw_ne (by decide))) ((f2 182 2 (by decide) (by decide) (by decide) (by decide) (by decide) (by decide)).trans (rdw_nei (by decide))) (fun a i ha => by obtain ⟨y1, y2, y3, -⟩ := inK_p ha; exact (f2 a i (by omega) (by omega) (by omega) (by omega) (fun z => by omega) (by omega)).trans (by rw [rd_wr, if_neg (by omega)])))))⟩
  exact B_law_1093 (RF_of hI.1) (by omega) ⟨by omega, 63, by decide, root_i TC_run (as := [.inr (.inr 1), .inl (xs (v3 + 1).toNat)]) rfl (Nat.le_of_ble_eq_true rfl) hI (gAr_c (g_ref 1) (gAr_c (g_i (hxs _)) gAr_n)) rfl (Nat.le_of_ble_eq_true rfl) rfl rfl rfl (by decide +kernel) (by decide +kernel) (by decide +kernel) hE (fun r g gI EG => S r g gI EG)⟩
theorem LW_26 {v3 : Int} (hxs : ∀ j, i32 (xs j)) (h0 : 0 ≤ v3) (h1 : v3 + 7 ≤ (xl : Int)) (hx : xl ≤ 3584) (hI : INV h) (hE : EQL h) (k : ∀ g, INV g → EQL g → Rn xs xl 64 mm_OneSidedLaw_law 1231 [some (.inr (.inr (-2))), some (.inr (.inr 1)), some (.inr (.inr 182)), some (.inl v3)] [] g Q) : Rn xs xl 64 mm_OneSidedLaw_law 1116 [some (.inr (.inr (-2))), some (.inr (.inr 1)), some (.inr (.inr 182)), some (.inl v3)] [] h Q := by
  have S : ∀ (r : Int) (g : LH), INV g → EQL g → Rn xs xl 64 mm_OneSidedLaw_law 1135 [some (.inr (.inr (-2))), some (.inr (.inr 1)), some (.inr (.inr 182)), some (.inl v3)] [.inl r] g Q := by
    intro r g gI EG
    exact B_law_1135 (RF_of gI.1) (by omega) ⟨by omega, by omega, by omega, 63, by decide, root_i TR_years (as := [.inr (.inr 182), .inl (xs (v3 + 1).toNat), .inl (xs (v3 + 2).toNat), .inl (xs (v3 + 3).toNat)]) rfl (Nat.le_of_ble_eq_true rfl) gI (gAr_c (g_ref 182) (gAr_c (g_i (hxs _)) (gAr_c (g_i (hxs _)) (gAr_c (g_i (hxs _)) gAr_n)))) rfl (Nat.le_of_ble_eq_true rfl) rfl rfl rfl (by decide +kernel) (by decide +kernel) (by decide +kernel) EG (fun r2 g2 i2 E2 => B_law_1155 (RF_of i2.1) (by omega) (k g2 i2 E2))⟩
  exact B_law_1116 (RF_of hI.1) (by omega) ⟨by omega, by omega, by omega, 63, by decide, root_i TC_years (as := [.inr (.inr 1), .inl (xs (v3 + 1).toNat), .inl (xs (v3 + 2).toNat), .inl (xs (v3 + 3).toNat)]) rfl (Nat.le_of_ble_eq_true rfl) hI (gAr_c (g_ref 1) (gAr_c (g_i (hxs _)) (gAr_c (g_i (hxs _)) (gAr_c (g_i (hxs _)) gAr_n)))) rfl (Nat.le_of_ble_eq_true rfl) rfl rfl rfl (by decide +kernel) (by decide +kernel) (by decide +kernel) hE (fun r g gI EG => S r g gI EG)⟩
theorem LW_27 {v3 : Int} (hxs : ∀ j, i32 (xs j)) (h0 : 0 ≤ v3) (h1 : v3 + 7 ≤ (xl : Int)) (hx : xl ≤ 3584) (hI : INV h) (hE : EQL h) (k : ∀ g, INV g → EQL g → Rn xs xl 64 mm_OneSidedLaw_law 1231 [some (.inr (.inr (-2))), some (.inr (.inr 1)), some (.inr (.inr 182)), some (.inl v3)] [] g Q) : Rn xs xl 64 mm_OneSidedLaw_law 1159 [some (.inr (.inr (-2))), some (.inr (.inr 1)), some (.inr (.inr 182)), some (.inl v3)] [] h Q := by
  exact B_law_1159 (RF_of hI.1) (by omega) ⟨by omega, by omega, fun c => ⟨63, by decide, E_markS (by decide) hI hE (hxs _) g_z0 (fun r g gI gj => B_law_1181 (RF_of gI.1) (by omega) ⟨by omega, by omega, fun _ => ⟨63, by decide, G_markS (by decide) hI hE gI gj (fun g2 i2 E2 => B_law_1204 (RF_of i2.1) (by omega) (k g2 i2 E2))⟩, fun z => absurd c z⟩)⟩, fun c => ⟨63, by decide, E_markS (by decide) hI hE (hxs _) g_z1 (fun r g gI gj => B_law_1181 (RF_of gI.1) (by omega) ⟨by omega, by omega, fun z => absurd z c, fun _ => ⟨63, by decide, G_markS (by decide) hI hE gI gj (fun g2 i2 E2 => B_law_1204 (RF_of i2.1) (by omega) (k g2 i2 E2))⟩⟩)⟩⟩
theorem LW_28 {v3 : Int} (hxs : ∀ j, i32 (xs j)) (h0 : 0 ≤ v3) (h1 : v3 + 7 ≤ (xl : Int)) (hx : xl ≤ 3584) (hI : INV h) (hE : EQL h) (k : ∀ g, INV g → EQL g → Rn xs xl 64 mm_OneSidedLaw_law 1231 [some (.inr (.inr (-2))), some (.inr (.inr 1)), some (.inr (.inr 182)), some (.inl v3)] [] g Q) : Rn xs xl 64 mm_OneSidedLaw_law 1208 [some (.inr (.inr (-2))), some (.inr (.inr 1)), some (.inr (.inr 182)), some (.inl v3)] [] h Q := by
  have S : ∀ (r : Int) (g : LH), INV g → EQL g → Rn xs xl 64 mm_OneSidedLaw_law 1217 [some (.inr (.inr (-2))), some (.inr (.inr 1)), some (.inr (.inr 182)), some (.inl v3)] [.inl r] g Q := by
    intro r g gI EG
    exact B_law_1217 (RF_of gI.1) (by omega) ⟨by omega, 63, by decide, root_i TR_count (as := [.inr (.inr 182), .inl (xs (v3 + 1).toNat)]) rfl (Nat.le_of_ble_eq_true rfl) gI (gAr_c (g_ref 182) (gAr_c (g_i (hxs _)) gAr_n)) rfl (Nat.le_of_ble_eq_true rfl) rfl rfl rfl (by decide +kernel) (by decide +kernel) (by decide +kernel) EG (fun r2 g2 i2 E2 => B_law_1227 (RF_of i2.1) (by omega) (k g2 i2 E2))⟩
  exact B_law_1208 (RF_of hI.1) (by omega) ⟨by omega, 63, by decide, root_i TC_count (as := [.inr (.inr 1), .inl (xs (v3 + 1).toNat)]) rfl (Nat.le_of_ble_eq_true rfl) hI (gAr_c (g_ref 1) (gAr_c (g_i (hxs _)) gAr_n)) rfl (Nat.le_of_ble_eq_true rfl) rfl rfl rfl (by decide +kernel) (by decide +kernel) (by decide +kernel) hE (fun r g gI EG => S r g gI EG)⟩
theorem law_loop (hxs : ∀ j, i32 (xs j)) (hx : xl ≤ 3584) (kq : ∀ g, INV g → Q (some (.inl 1)) g) : ∀ (m : Nat) (v3 : Int) (h : LH), 0 ≤ v3 → v3 ≤ (xl : Int) → ((xl : Int) - v3).toNat ≤ m → INV h → EQL h → Rn xs xl 64 mm_OneSidedLaw_law 18 [some (.inr (.inr (-2))), some (.inr (.inr 1)), some (.inr (.inr 182)), some (.inl v3)] [] h Q := by
  intro m
  induction m with
  | zero =>
    intro v3 h h0 h1 hm hI hE
    exact B_law_18 (RF_of hI.1) (by omega) ⟨by omega, fun _ => kq h hI, fun z => absurd z (by omega)⟩
  | succ m ih =>
    intro v3 h h0 h1 hm hI hE
    refine B_law_18 (RF_of hI.1) (by omega) ⟨by omega, fun _ => kq h hI, fun z => ?_⟩
    have z7 : v3 + 7 ≤ (xl : Int) := by omega
    have K : ∀ g, INV g → EQL g → Rn xs xl 64 mm_OneSidedLaw_law 1231 [some (.inr (.inr (-2))), some (.inr (.inr 1)), some (.inr (.inr 182)), some (.inl v3)] [] g Q := fun g gI gE => B_law_1231 (RF_of gI.1) (by omega) (ih (v3 + 7) g (by omega) (by omega) (by omega) gI gE)
    exact ⟨by omega, fun _ => LW_0 hxs h0 z7 hx hI hE K, fun _ => LW_1 hxs h0 z7 hx hI hE K, fun _ => LW_2 hxs h0 z7 hx hI hE K, fun _ => LW_3 hxs h0 z7 hx hI hE K, fun _ => LW_4 hxs h0 z7 hx hI hE K, fun _ => LW_5 hxs h0 z7 hx hI hE K, fun _ => LW_6 hxs h0 z7 hx hI hE K, fun _ => LW_7 hxs h0 z7 hx hI hE K, fun _ => LW_8 hxs h0 z7 hx hI hE K, fun _ => LW_9 hxs h0 z7 hx hI hE K, fun _ => LW_10 hxs h0 z7 hx hI hE K, fun _ => LW_11 hxs h0 z7 hx hI hE K, fun _ => LW_12 hxs h0 z7 hx hI hE K, fun _ => LW_13 hxs h0 z7 hx hI hE K, fun _ => LW_14 hxs h0 z7 hx hI hE K, fun _ => LW_15 hxs h0 z7 hx hI hE K, fun _ => LW_16 hxs h0 z7 hx hI hE K, fun _ => LW_17 hxs h0 z7 hx hI hE K, fun _ => LW_18 hxs h0 z7 hx hI hE K, fun _ => LW_19 hxs h0 z7 hx hI hE K, fun _ => LW_20 hxs h0 z7 hx hI hE K, fun _ => LW_21 hxs h0 z7 hx hI hE K, fun _ => LW_22 hxs h0 z7 hx hI hE K, fun _ => LW_23 hxs h0 z7 hx hI hE K, fun _ => LW_24 hxs h0 z7 hx hI hE K, fun _ => LW_25 hxs h0 z7 hx hI hE K, fun _ => LW_26 hxs h0 z7 hx hI hE K, fun _ => LW_27 hxs h0 z7 hx hI hE K, fun _ => LW_28 hxs h0 z7 hx hI hE K, fun _ => K h hI hE⟩
end LA
end
section
/-! LM, part 9d: the first heap; the law's run from its entry -/
def gVb (a : AV) (v : LV) : Bool := match v with
  | .inl x => a.1 == 0 && decide (-2147483648 ≤ x) && decide (x ≤ 2147483647) && decide (a.2.1 ≤ x) && decide (x ≤ a.2.2.1) && decide ((x - a.2.1) % ((a.2.2.2 : Nat) : Int) = 0)
  | .inr (.inl x) => a.1 == 1 && decide (-9223372036854775808 ≤ x) && decide (x ≤ 9223372036854775807) && decide (a.2.1 ≤ x) && decide (x ≤ a.2.2.1) && decide ((x - a.2.1) % ((a.2.2.2 : Nat) : Int) = 0)
  | .inr (.inr x) => a.1 == 2 && decide (a.2.1 ≤ x) && decide (x ≤ a.2.2.1) && decide ((x - a.2.1) % ((a.2.2.2 : Nat) : Int) = 0)
theorem gVb_ok {a : AV} {v : LV} (h : gVb a v = true) : gV a v := by
  rcases v with x | x | x
  · simp only [gVb, Bool.and_eq_true, decide_eq_true_eq, beq_iff_eq] at h
    obtain ⟨⟨⟨⟨⟨h1, h2⟩, h3⟩, h4⟩, h5⟩, h6⟩ := h
    exact ⟨h1, ⟨h2, h3⟩, h4, h5, Int.dvd_of_emod_eq_zero h6⟩
  · simp only [gVb, Bool.and_eq_true, decide_eq_true_eq, beq_iff_eq] at h
    obtain ⟨⟨⟨⟨⟨h1, h2⟩, h3⟩, h4⟩, h5⟩, h6⟩ := h
    exact ⟨h1, ⟨h2, h3⟩, h4, h5, Int.dvd_of_emod_eq_zero h6⟩
  · simp only [gVb, Bool.and_eq_true, decide_eq_true_eq, beq_iff_eq] at h
    obtain ⟨⟨⟨h1, h4⟩, h5⟩, h6⟩ := h
    exact ⟨h1, h4, h5, Int.dvd_of_emod_eq_zero h6⟩
theorem rd_mem : ∀ (h : LH) (a i : Int), (a, i, rd h a i) ∈ h ∨ (rd h a i = 0 ∧ ∀ v, (a, i, v) ∉ h)
  | [], a, i => Or.inr ⟨rfl, fun v q => by cases q⟩
  | (b, j, v) :: t, a, i => by
    by_cases c : b = a ∧ j = i
    · obtain ⟨rfl, rfl⟩ := c
      left
      show (b, j, if b = b ∧ j = j then v else rd t b j) ∈ _
      rw [if_pos ⟨rfl, rfl⟩]
      exact List.mem_cons_self
    · have e : rd ((b, j, v) :: t) a i = rd t a i := if_neg c
      rw [e]
      rcases rd_mem t a i with q | ⟨q1, q2⟩
      · exact Or.inl (List.mem_cons_of_mem _ q)
      · refine Or.inr ⟨q1, fun w hw => ?_⟩
        rcases List.mem_cons.mp hw with z | z
        · cases z
          exact c ⟨rfl, rfl⟩
        · exact q2 w z
theorem rd_none {h : LH} {a i : Int} (hn : ∀ e ∈ h, ¬ (e.1 = a ∧ e.2.1 = i)) : rd h a i = 0 := by
  rcases rd_mem h a i with q | q
  · exact absurd ⟨rfl, rfl⟩ (hn _ q)
  · exact q.1
def chkZ (h : LH) (a : Nat) : Bool :=
  if (lay a).1 = 1 ∨ (lay a).1 = 2 ∨ (lay a).1 = 3 ∨ (lay a).1 = 4 then (match RGL[a]? with
    | some L => decide (0 < L.length) && L.all (fun av => gVb av (mkv (if (lay a).1 = 2 then 1 else 0) 0))
    | none => false)
  else (List.range (lay a).2.2).all (fun i => gVb (hav a i) (mkv (lkd a i) 0) || h.any (fun e => e.1 == (a : Int) && e.2.1 == (i : Int)))
def chkR (h : LH) : Bool := h.all (fun e => gVb (hav e.1 e.2.1) (mkv (lkd e.1 e.2.1) e.2.2)) && (List.range (NC + 1)).all (chkZ h)
theorem chkR_ok {h : LH} (hc : chkR h = true) : RNG h := by
  unfold chkR at hc
  rw [Bool.and_eq_true, List.all_eq_true, List.all_eq_true] at hc
  obtain ⟨c1, c2⟩ := hc
  intro a i hv
  obtain ⟨v1, v2, v3, v4⟩ := hv
  unfold hval
  rcases rd_mem h a i with q | ⟨q1, q2⟩
  · exact gVb_ok (c1 _ q)
  · rw [q1]
    have z := c2 a.toNat (List.mem_range.mpr (by omega))
    have ea : ((a.toNat : Nat) : Int) = a := Int.toNat_of_nonneg (by omega)
    unfold chkZ at z
    by_cases k : (lay a.toNat).1 = 1 ∨ (lay a.toNat).1 = 2 ∨ (lay a.toNat).1 = 3 ∨ (lay a.toNat).1 = 4
    · rw [if_pos k] at z
      split at z
      · next L hL =>
        rw [Bool.and_eq_true, decide_eq_true_eq, List.all_eq_true] at z
        have e1 : hav a i = L.getD (i.toNat % L.length) top0 := by
          unfold hav
          rw [hL]
        have lt : i.toNat % L.length < L.length := Nat.mod_lt _ z.1
        have e2 : L.getD (i.toNat % L.length) top0 ∈ L := by
          rw [List.getD_eq_getElem?_getD, List.getElem?_eq_getElem lt]
          exact List.getElem_mem lt
        have e3 : lkd a i = if (lay a.toNat).1 = 2 then 1 else 0 := by
          rcases k with k | k | k | k
          · rw [lkd_1 k, k]; rfl
          · rw [lkd_2 k, k]; rfl
          · rw [lkd_3 k, k]; rfl
          · rw [lkd_4 k, k]; rfl
        rw [e1, e3]
        exact gVb_ok (z.2 _ e2)
      · cases z
    · rw [if_neg k, List.all_eq_true] at z
      have y := z i.toNat (List.mem_range.mpr (by omega))
      rw [ea, Int.toNat_of_nonneg v3, Bool.or_eq_true] at y
      rcases y with y | y
      · exact gVb_ok y
      · rw [List.any_eq_true] at y
        obtain ⟨e, e1, e2⟩ := y
        rw [Bool.and_eq_true, beq_iff_eq, beq_iff_eq] at e2
        obtain ⟨x, y2, w⟩ := e
        obtain ⟨rfl, rfl⟩ := e2
        exact absurd e1 (q2 w)
theorem rng0 : chkR hc_556 = true := by decide +kernel
theorem noE0 : (hc_556.all (fun e => !(e.1 == 64) && !(e.1 == 72) && !(e.1 == 107) && !(e.1 == 115) && !(e.1 == 123) && !(e.1 == 131) && !(e.1 == 184) && !(e.1 == 200) && (!(e.1 == 195) || e.2.1 == 0))) = true := by decide +kernel
theorem val0 : rd hc_556 188 3 = -1 ∧ rd hc_556 188 1 = 0 ∧ rd hc_556 188 2 = 0 ∧ rd hc_556 2 0 = rd hc_556 182 2 := ⟨by decide +kernel, by decide +kernel, by decide +kernel, by decide +kernel⟩
theorem inv0 : INV hc_556 := by
  have n := List.all_eq_true.mp noE0
  obtain ⟨v1, v2, v3, -⟩ := val0
  have c : ∀ a, (a = 64 ∨ a = 72 ∨ a = 107 ∨ a = 115 ∨ a = 123 ∨ a = 131 ∨ a = 184 ∨ a = 200) → ∀ i, rd hc_556 a i = 0 := by
    intro a ha i
    refine rd_none (fun e he q => ?_)
    have x := n e he
    simp only [Bool.and_eq_true, Bool.not_eq_true', beq_eq_false_iff_ne] at x
    omega
  have d : ∀ i, i ≠ 0 → rd hc_556 195 i = 0 := by
    intro i hi
    refine rd_none (fun e he q => ?_)
    have x := n e he
    simp only [Bool.and_eq_true, Bool.not_eq_true', beq_eq_false_iff_ne, Bool.or_eq_true, beq_iff_eq] at x
    omega
  refine ⟨chkR_ok rng0, ⟨?_, ?_, ?_, ?_, ?_, ?_, ?_, ?_⟩, ?_, ?_, ?_, ?_⟩
  · intro i _; rw [c 64 (by omega)]; omega
  · intro i _; rw [c 72 (by omega)]; omega
  · intro i _; rw [c 107 (by omega)]; omega
  · intro i _; rw [c 115 (by omega)]; omega
  · intro i _; rw [c 123 (by omega)]; omega
  · intro i _; rw [c 131 (by omega)]; omega
  · intro k k0 k1 _; rw [d _ (by omega)]; omega
  · intro m m0 m1 k k0 k1 _; rw [c 200 (by omega)]; omega
  · intro q; rw [v1] at q; omega
  · exact c 184 (by omega) 1000
  · refine ⟨fun d d0 d1 d2 => ?_, fun p p0 p1 p2 => ?_⟩
    · rw [v2] at d2; omega
    · rw [v3] at p2; omega
  · refine ⟨fun p p0 p1 p2 => ?_, fun m m0 m1 _ p p0 p1 p2 => ?_, fun j j0 j1 _ p p0 p1 p2 => ?_⟩ <;> (rw [v3] at p2; omega)
theorem mkr_chk : (∀ m : Nat, m < 4 → rd hc_556 75 (m : Int) = 102 + 8 * (m : Int) ∧ rd hc_556 199 (m : Int) = 0) ∧ rd hc_556 1 6 = 0 := ⟨by decide +kernel, by decide +kernel⟩
theorem mkr0 : MKR hc_556 := by
  obtain ⟨c1, c2⟩ := mkr_chk
  refine ⟨fun m h0 h1 => ?_, by rw [c2]; decide, fun m h0 h1 => ?_⟩
  · have y := (c1 m.toNat (by omega)).1
    rw [show ((m.toNat : Nat) : Int) = m by omega] at y
    exact y
  · have y := (c1 m.toNat (by omega)).2
    rw [show ((m.toNat : Nat) : Int) = m by omega] at y
    have z := mbit_0 m.toNat (by omega)
    rw [show ((m.toNat : Nat) : Int) = m by omega] at z
    rw [y, c2, z]
theorem scr_chk : rd hc_556 1 1 = 5 ∧ rd hc_556 5 0 = rd hc_556 188 0 ∧ rd hc_556 5 2 = 0 ∧ rd hc_556 5 4 = 0 ∧ rd hc_556 5 6 = 0 ∧ rd hc_556 182 28 = -1 ∧ rd hc_556 182 29 = -1 ∧ rd hc_556 60 0 = rd hc_556 198 0 ∧ rd hc_556 60 1 = rd hc_556 198 1 ∧ rd hc_556 60 3 = 0 ∧ rd hc_556 1 8 = 0 ∧ rd hc_556 1 9 = 0 ∧ rd hc_556 182 25 = 0 := ⟨by decide +kernel, by decide +kernel, by decide +kernel, by decide +kernel, by decide +kernel, by decide +kernel, by decide +kernel, by decide +kernel, by decide +kernel, by decide +kernel, by decide +kernel, by decide +kernel, by decide +kernel⟩
theorem scr_chk2 : (∀ d : Nat, d < 14 → rd hc_556 62 (d : Int) = 0 ∧ rd hc_556 198 ((d : Int) + 20) = 0) ∧ (∀ i : Nat, i < 16 → rd hc_556 76 (i : Int) = 134 + 3 * (i : Int)) := ⟨by decide +kernel, by decide +kernel⟩
theorem noE1 : (hc_556.all (fun e => !(e.1 == 10) && !(e.1 == 11))) = true := by decide +kernel
theorem scr0 : SCR hc_556 := by
  obtain ⟨s1, s2, s3, s4, s5, s6, s7, s8, s9, sa, sb, sc, sd⟩ := scr_chk
  obtain ⟨-, v2, v3, -⟩ := val0
  have n := List.all_eq_true.mp noE1
  have z : ∀ a, (a = 10 ∨ a = 11) → ∀ i, rd hc_556 a i = 0 := by
    intro a ha i
    refine rd_none (fun e he q => ?_)
    have x := n e he
    simp only [Bool.and_eq_true, Bool.not_eq_true', beq_eq_false_iff_ne] at x
    omega
  have st : ∀ s hr, stl hc_556 5 [] hc_556 s hr := fun s hr => by
    refine ⟨fun j j0 j1 => ?_, fun j j0 j1 => ?_⟩
    · show bitZ (rd hc_556 10 (24 * s + hr)) j ↔ (j < rd hc_556 5 2 ∧ _)
      rw [z 10 (Or.inl rfl), s3]
      exact ⟨fun y => absurd y bit_zero, fun y => by omega⟩
    · show bitZ (rd hc_556 11 (24 * s + hr)) j ↔ (j < rd hc_556 5 2 ∧ _)
      rw [z 11 (Or.inr rfl), s3]
      exact ⟨fun y => absurd y bit_zero, fun y => by omega⟩
  refine ⟨?_, ⟨[], ?_, ?_⟩, s6, s7, ⟨s8, s9, fun p p0 p1 => by omega, fun d d0 d1 => ?_, fun p p0 p1 => by rw [sa]; exact bit_zero⟩, ?_, fun m h0 h1 hm => ?_, fun i i0 i1 => ?_⟩
  · unfold QFR
    rw [s1]
    exact ⟨s2, s3.trans v2.symm, s4.trans v3.symm, fun i j hi _ => by omega, fun i j hi _ => by omega, fun _ => by rw [val0.1]; decide, fun y => by omega, by omega⟩
  · rw [s1]
    exact ⟨s5, fun i hi => absurd hi (Nat.not_lt_zero i), Nat.zero_le _, trivial, fun y => absurd y (by decide), fun c hc => absurd hc List.not_mem_nil⟩
  · rw [s1]
    exact fun s hr _ _ _ _ => st s hr
  · have y := scr_chk2.1 d.toNat (by omega)
    rw [Int.toNat_of_nonneg d0] at y
    rw [show (0 : Int) + d + 20 = d + 20 by omega, y.2]
    exact ⟨y.1, by decide, by decide⟩
  · unfold UN
    rw [sb, sc]
    exact ⟨by decide, by decide, sd, fun k k0 k1 => by omega⟩
  · have y := (mkr_chk.1 m.toNat (by omega)).2
    rw [show ((m.toNat : Nat) : Int) = m by omega] at y
    exact absurd y hm
  · have y := scr_chk2.2 i.toNat (by omega)
    rw [Int.toNat_of_nonneg i0] at y
    exact y
theorem eql0 : EQL hc_556 := ⟨val0.2.2.2, fun i i0 i1 => by rw [show rd hc_556 2 0 = 0 by decide +kernel] at i1; omega, pt0, rfl, rfl, by decide +kernel, mkr0, scr0⟩
theorem gl_0 : lmGoZ 9 2 64 mm_OneSidedLaw_law 0 [some (.inr (.inr (-2))), none, none, none] [] 0 [] = some (4, [some (.inr (.inr (-2))), none, none, none], [.inr (.inr 1), .inr (.inr 1)], 1, []) := goOk_ok (by decide +kernel)
theorem gl_7 : lmGoZ 9 3 64 mm_OneSidedLaw_law 7 [some (.inr (.inr (-2))), none, none, none] [.inr (.inr 1)] 181 hc_302 = some (12, [some (.inr (.inr (-2))), some (.inr (.inr 1)), none, none], [.inr (.inr 182), .inr (.inr 182)], 182, hc_302) := goOk_ok (by decide +kernel)
theorem gl_15 : lmGoZ 9 3 64 mm_OneSidedLaw_law 15 [some (.inr (.inr (-2))), some (.inr (.inr 1)), none, none] [.inr (.inr 182)] 212 hc_556 = some (18, [some (.inr (.inr (-2))), some (.inr (.inr 1)), some (.inr (.inr 182)), some (.inl 0)], [], 212, hc_556) := goOk_ok (by decide +kernel)
theorem dl_4 : decode mm_OneSidedLaw_law.2.1 4 = .ok (.invokespecial 9, 3) := by decide +kernel
theorem dl_12 : decode mm_OneSidedLaw_law.2.1 12 = .ok (.invokespecial 12, 3) := by decide +kernel
theorem kl_4 : lmK mm_OneSidedLaw_law.2.2.2.2.1 1 (.invokespecial 9) [.inr (.inr 1), .inr (.inr 1)] = some (0, [.inr (.inr 1)], [.inr (.inr 1)]) := callOk_ok (by decide +kernel)
theorem kl_12 : lmK mm_OneSidedLaw_law.2.2.2.2.1 182 (.invokespecial 12) [.inr (.inr 182), .inr (.inr 182)] = some (157, [.inr (.inr 182)], [.inr (.inr 182)]) := callOk_ok (by decide +kernel)
theorem run_law {xs : Nat → Int} {xl : Nat} (hxs : ∀ j, i32 (xs j)) (hx : xl ≤ 3584) : ∃ (f : Nat) (h' : LH), lmRun xs xl f 64 mm_OneSidedLaw_law 0 [some (.inr (.inr (-2))), none, none, none] [] 0 [] = some (some (.inl 1), 212, h') := by
  obtain ⟨f, r, h', q1, q2⟩ := law_loop (Q := fun r _ => r = some (.inl 1)) hxs hx (fun _ _ => rfl) xl 0 hc_556 (by omega) (by omega) (by omega) inv0 eql0
  subst q2
  have g : ∃ f, lmRun xs xl f 64 mm_OneSidedLaw_law 0 [some (.inr (.inr (-2))), none, none, none] [] 0 [] = some (some (.inl 1), 212, h') := by
    refine lmGoZ_ok _ _ _ _ _ _ _ _ _ _ _ _ _ _ gl_0 ?_
    refine run_call (d := 63) (r := none) (n' := 181) (h' := hc_302) (M' := mm_OneSided_init) dl_4 rfl rfl kl_4 rfl (by obtain ⟨f, hf⟩ := run_ini (xs := xs) (xl := xl); exact ⟨f, lmRun_le f f 8 63 _ _ _ _ _ _ _ (Nat.le_refl _) (by decide) hf⟩) ?_
    refine lmGoZ_ok _ _ _ _ _ _ _ _ _ _ _ _ _ _ gl_7 ?_
    refine run_call (d := 63) (r := none) (n' := 212) (h' := hc_556) (M' := mm_init) dl_12 rfl rfl kl_12 rfl (by obtain ⟨f, hf⟩ := run_mod (xs := xs) (xl := xl); exact ⟨f, lmRun_le f f 8 63 _ _ _ _ _ _ _ (Nat.le_refl _) (by decide) hf⟩) ?_
    refine lmGoZ_ok _ _ _ _ _ _ _ _ _ _ _ _ _ _ gl_15 ?_
    exact ⟨f, q1⟩
  obtain ⟨f2, hf2⟩ := g
  exact ⟨f2, h', hf2⟩
end
