section
/-! errand, part z1: the way, told once for both -/
/-- door d, as soon as it lets one by in state q from an hour on, is a step of a way with the fewest doors; one goes through in hour x -/
def nxD (K : KEY) (S : Int → Int) (b p till : Int) (F : Int → Int) (hour q d x : Int) : Prop := frst K S b p hour till q d x ∧ F (20 * (x + 1) + tr K S b p x q d) + 1 = F (20 * hour + q)
/-- the doors of the way -/
def wayP (K : KEY) (S : Int → Int) (b p till : Int) (F : Int → Int) : Nat → Int → Int → List Int → Prop
  | 0, _, _, l => l = []
  | n + 1, hour, q, l => ∃ d x l', l = d :: l' ∧ (0 ≤ d ∧ d < K.1 1) ∧ nxD K S b p till F hour q d x ∧ (∀ d' x', 0 ≤ d' → d' < d → ¬ nxD K S b p till F hour q d' x') ∧ wayP K S b p till F n (x + 1) (tr K S b p x q d) l'
/-- what one's way is, with the hour at its end -/
def errW (K : KEY) (S : Int → Int) (b p till : Int) (l : List Int) : Prop := ((till < 0 ∨ k0F S b p = K.1 (4 * p + 117) + 10) ∧ l = []) ∨ ((0 ≤ till ∧ k0F S b p ≠ K.1 (4 * p + 117) + 10) ∧ (S b + S (b + p + 14) ≤ till ∧ till ≤ 23) ∧ ∃ F, FOK K S b p till (S b + S (b + p + 14)) F ∧ wayP K S b p till F (F (20 * (S b + S (b + p + 14)) + k0F S b p)).toNat (S b + S (b + p + 14)) (k0F S b p) l)
/-- the door at a place of a way -/
def liA : List Int → Nat → Int
  | [], _ => 0
  | a :: _, 0 => a
  | _ :: l, n + 1 => liA l n
theorem liA_1 : ∀ (l r : List Int) (i : Nat), i < l.length → liA (l ++ r) i = liA l i
  | [], _, _, h => absurd h (Nat.not_lt_zero _)
  | a :: l, r, 0, _ => rfl
  | a :: l, r, i + 1, h => liA_1 l r i (Nat.lt_of_succ_lt_succ h)
theorem liA_2 : ∀ (l : List Int) (d : Int), liA (l ++ [d]) l.length = d
  | [], _ => rfl
  | a :: l, d => liA_2 l d
theorem liL (l : List Int) (d : Int) : (((l ++ [d]).length : Nat) : Int) = (l.length : Int) + 1 := by
  rw [List.length_append]
  rfl
section ZA
variable {K : KEY} {S : Int → Int} {b p till lo hour q d x x' hr : Int} {F F' : Int → Int} {l l' : List Int}
theorem frst_one (h : frst K S b p hour till q d x) (g : frst K S b p hour till q d x') : x = x' := by
  have a : ¬ x < x' := fun c => by
    have := g.2.2.2 x h.1 c
    have := h.2.2.1
    omega
  have c : ¬ x' < x := fun c => by
    have := h.2.2.2 x' g.1 c
    have := g.2.2.1
    omega
  omega
theorem wayP_one : ∀ (n : Nat) (hour q : Int) (l l' : List Int), wayP K S b p till F n hour q l → wayP K S b p till F n hour q l' → l = l'
  | 0, _, _, l, l', h, g => by
    have h : l = [] := h
    have g : l' = [] := g
    rw [h, g]
  | n + 1, hour, q, l, l', h, g => by
    obtain ⟨d, x, r, e, d0, dx, dn, w⟩ := h
    obtain ⟨d', x', r', e', d0', dx', dn', w'⟩ := g
    have a : ¬ d < d' := fun c => dn' d x d0.1 c dx
    have c : ¬ d' < d := fun c => dn d' x' d0'.1 c dx'
    have ed : d = d' := by omega
    subst ed
    have exx := frst_one dx.1 dx'.1
    subst exx
    rw [e, e', wayP_one n (x + 1) _ r r' w w']
theorem FOK_one (kb : KB K p) (f : FOK K S b p till lo F) (g : FOK K S b p till lo F') (lo0 : 0 ≤ lo) (t1 : till ≤ 23) : ∀ (n : Nat) (hr q : Int), lo ≤ hr → hr + n = till + 1 → 0 ≤ q → q ≤ 19 → q % 10 < K.1 0 → F (20 * hr + q) = F' (20 * hr + q)
  | 0, hr, q, h0, h1, q0, q1, _ => by
    rw [show hr = till + 1 by omega, f.1 q q0 q1, g.1 q q0 q1]
  | n + 1, hr, q, h0, h1, q0, q1, qr => by
    obtain ⟨-, f2, f3, f4⟩ := f.2 hr q h0 (by omega) q0 q1
    obtain ⟨-, g2, g3, g4⟩ := g.2 hr q h0 (by omega) q0 q1
    have e0 := FOK_one kb f g lo0 t1 n (hr + 1) q (by omega) (by omega) q0 q1 qr
    have ed : ∀ d, 0 ≤ d → d < K.1 1 → 0 ≤ tr K S b p hr q d → F (20 * (hr + 1) + tr K S b p hr q d) = F' (20 * (hr + 1) + tr K S b p hr q d) := fun d d0 d1 d2 => by
      have t := tr_ok (S := S) (b := b) (hr := hr) kb ⟨q0, q1⟩ ⟨d0, d1⟩ (by omega)
      exact FOK_one kb f g lo0 t1 n (hr + 1) _ (by omega) (by omega) d2 t.2.1 (t.2.2 d2)
    have le1 : F (20 * hr + q) ≤ F' (20 * hr + q) := by
      rcases g4 with z | ⟨d, d0, d1, d2, z⟩
      · omega
      · have := f3 qr d d0 d1 d2
        have := ed d d0 d1 d2
        omega
    have le2 : F' (20 * hr + q) ≤ F (20 * hr + q) := by
      rcases f4 with z | ⟨d, d0, d1, d2, z⟩
      · omega
      · have := g3 qr d d0 d1 d2
        have := ed d d0 d1 d2
        omega
    omega
theorem FOK_eq (kb : KB K p) (f : FOK K S b p till lo F) (g : FOK K S b p till lo F') (lo0 : 0 ≤ lo) (t1 : till ≤ 23) (h0 : lo ≤ hr) (h1 : hr ≤ till + 1) (q0 : 0 ≤ q) (q1 : q ≤ 19) (qr : q % 10 < K.1 0) : F (20 * hr + q) = F' (20 * hr + q) :=
  FOK_one kb f g lo0 t1 (till + 1 - hr).toNat hr q h0 (by omega) q0 q1 qr
theorem nxD_congr (kb : KB K p) (f : FOK K S b p till lo F) (g : FOK K S b p till lo F') (lo0 : 0 ≤ lo) (t1 : till ≤ 23) (h0 : lo ≤ hour) (h1 : hour ≤ till + 1) (q0 : 0 ≤ q) (q1 : q ≤ 19) (qr : q % 10 < K.1 0) (d0 : 0 ≤ d) (d1 : d < K.1 1) : nxD K S b p till F hour q d x ↔ nxD K S b p till F' hour q d x := by
  unfold nxD
  constructor
  · rintro ⟨z1, z2⟩
    have t := tr_ok (S := S) (b := b) (hr := x) kb ⟨q0, q1⟩ ⟨d0, d1⟩ (by have := z1.1; have := z1.2.1; omega)
    have e1 := FOK_eq kb f g lo0 t1 (hr := x + 1) (q := tr K S b p x q d) (by have := z1.1; omega) (by have := z1.2.1; omega) z1.2.2.1 t.2.1 (t.2.2 z1.2.2.1)
    have e2 := FOK_eq kb f g lo0 t1 h0 h1 q0 q1 qr
    exact ⟨z1, by omega⟩
  · rintro ⟨z1, z2⟩
    have t := tr_ok (S := S) (b := b) (hr := x) kb ⟨q0, q1⟩ ⟨d0, d1⟩ (by have := z1.1; have := z1.2.1; omega)
    have e1 := FOK_eq kb f g lo0 t1 (hr := x + 1) (q := tr K S b p x q d) (by have := z1.1; omega) (by have := z1.2.1; omega) z1.2.2.1 t.2.1 (t.2.2 z1.2.2.1)
    have e2 := FOK_eq kb f g lo0 t1 h0 h1 q0 q1 qr
    exact ⟨z1, by omega⟩
theorem wayP_congr (kb : KB K p) (f : FOK K S b p till lo F) (g : FOK K S b p till lo F') (lo0 : 0 ≤ lo) (t1 : till ≤ 23) : ∀ (n : Nat) (hour q : Int) (l : List Int), lo ≤ hour → hour ≤ till + 1 → 0 ≤ q → q ≤ 19 → q % 10 < K.1 0 → wayP K S b p till F n hour q l → wayP K S b p till F' n hour q l
  | 0, _, _, _, _, _, _, _, _, h => h
  | n + 1, hour, q, l, h0, h1, q0, q1, qr, h => by
    obtain ⟨d, x, r, e, d0, dx, dn, w⟩ := h
    have t := tr_ok (S := S) (b := b) (hr := x) kb ⟨q0, q1⟩ d0 (by have := dx.1.1; have := dx.1.2.1; omega)
    exact ⟨d, x, r, e, d0, (nxD_congr kb f g lo0 t1 h0 h1 q0 q1 qr d0.1 d0.2).mp dx, fun d' x' c0 c1 z => dn d' x' c0 c1 ((nxD_congr kb f g lo0 t1 h0 h1 q0 q1 qr c0 (by omega)).mpr z), wayP_congr kb f g lo0 t1 n (x + 1) _ r (by have := dx.1.1; omega) (by have := dx.1.2.1; omega) dx.1.2.2.1 t.2.1 (t.2.2 dx.1.2.2.1) w⟩
theorem k0F_in (sb : SB S b p) : 0 ≤ k0F S b p ∧ k0F S b p ≤ 19 ∧ k0F S b p % 10 = S (b + p + 2) := by
  obtain ⟨-, -, -, s3⟩ := sb
  unfold k0F
  split <;> omega
theorem errW_one (kb : KB K p) (sb : SB S b p) (hro : S (b + p + 2) < K.1 0) (h : errW K S b p till l) (g : errW K S b p till l') : l = l' := by
  obtain ⟨q0, q1, q2⟩ := k0F_in sb
  have s0 := sb.1
  have s1 := sb.2.1
  rcases h with ⟨h1, h2⟩ | ⟨⟨h1, h2⟩, ⟨h3, h4⟩, F, h5, h6⟩
  · rcases g with ⟨g1, g2⟩ | ⟨⟨g1, g2⟩, _⟩
    · rw [h2, g2]
    · rcases h1 with z | z
      · omega
      · exact absurd z g2
  · rcases g with ⟨g1, g2⟩ | ⟨⟨g1, g2⟩, _, F', g5, g6⟩
    · rcases g1 with z | z
      · omega
      · exact absurd z h2
    · have e := FOK_eq kb h5 g5 (by omega) h4 (hr := S b + S (b + p + 14)) (q := k0F S b p) (by omega) (by omega) q0 q1 (by omega)
      have w := wayP_congr kb h5 g5 (by omega) h4 _ _ _ _ (by omega) (by omega) q0 q1 (by omega) h6
      rw [e] at w
      exact wayP_one _ _ _ _ _ w g6
theorem frst_ex (hx : 0 ≤ tr K S b p x q d) (x0 : hour ≤ x) (x1 : x ≤ till) : ∃ f, frst K S b p hour till q d f ∧ f ≤ x := by
  have fnd : ∀ (m : Nat), hour + m ≤ x + 1 → (∀ y, hour ≤ y → y < hour + m → tr K S b p y q d < 0) ∨ ∃ f, frst K S b p hour till q d f ∧ f ≤ x := by
    intro m
    induction m with
    | zero => exact fun _ => Or.inl (fun y y0 y1 => by omega)
    | succ m im =>
      intro hm
      rcases im (by omega) with z | z
      · by_cases c : 0 ≤ tr K S b p (hour + m) q d
        · exact Or.inr ⟨hour + m, ⟨by omega, by omega, c, fun y y0 y1 => z y y0 y1⟩, by omega⟩
        · refine Or.inl (fun y y0 y1 => ?_)
          by_cases hy : y = hour + m
          · rw [hy]; omega
          · exact z y y0 (by omega)
      · exact Or.inr z
  rcases fnd (x + 1 - hour).toNat (by omega) with z | z
  · have := z x x0 (by omega)
    omega
  · exact z
/-- the way goes on -/
theorem ex_next (kb : KB K p) (f : FOK K S b p till lo F) (lo0 : 0 ≤ lo) (t1 : till ≤ 23) (h0 : lo ≤ hour) (h1 : hour ≤ till + 1) (q0 : 0 ≤ q) (q1 : q ≤ 19) (qr : q % 10 < K.1 0) (p0 : 0 < F (20 * hour + q)) (p1 : F (20 * hour + q) < 1000000) : ∃ d x, (0 ≤ d ∧ d < K.1 1) ∧ nxD K S b p till F hour q d x := by
  obtain ⟨X, d, x0, x1, d0, d1, d2, d3⟩ := F_next f ⟨q0, q1⟩ (till + 1 - hour).toNat hour h0 (by omega) p0 p1
  obtain ⟨x, fx, le⟩ := frst_ex d2 x0 x1
  have f0 := fx.1
  have f1' := fx.2.1
  have f2 := fx.2.2.1
  have same := tr_hour (S := S) (b := b) (hr := X) (hr' := x) kb ⟨q0, q1⟩ ⟨d0, d1⟩ (by omega) (by omega) d2 f2
  have t := tr_ok (S := S) (b := b) (hr := X) kb ⟨q0, q1⟩ ⟨d0, d1⟩ (by omega)
  have m1 := F_mono f (q := tr K S b p X q d) ⟨d2, t.2.1⟩ (X - x).toNat (x + 1) (by omega) (by omega)
  rw [show x + 1 + (((X - x).toNat : Nat) : Int) = X + 1 by omega] at m1
  have m2 := F_mono f (q := q) ⟨q0, q1⟩ (x - hour).toNat hour h0 (by omega)
  rw [show hour + (((x - hour).toNat : Nat) : Int) = x by omega] at m2
  have m3 := (f.2 x q (by omega) f1' q0 q1).2.2.1 qr d d0 d1 f2
  rw [same] at m3
  refine ⟨d, x, ⟨d0, d1⟩, fx, ?_⟩
  rw [same]
  omega
end ZA
end
section
/-! errand, part z2: the class's fewest doors from each hour on -/
def ciN (hr r δ : Int) : Int := 20 * hr + 2 * r + δ
def dnN (b er δ : Int) : Int := if b = er then 1 else δ
def cvN (v : Int) : Int := if v = 1000 then 1000000 else v
/-- the class's table, laid as the reference lays its own -/
def nFN (N : Int → Int) (i : Int) : Int := cvN (N (ciN (i / 20) (i % 20 % 10) (i % 20 / 10)))
def lsN (till hr v : Int) : Prop := v = 1000 ∨ (0 ≤ v ∧ v ≤ till + 1 - hr)
def minN (m a b : Int) : Prop := m ≤ a ∧ m ≤ b ∧ (m = a ∨ m = b)
/-- a row of the table, by the doors Ed seen so far -/
def rowN (N : Int → Int) (till hr er : Int) (Ed : Int → Int → Prop) : Prop := ∀ r δ, 0 ≤ r → r ≤ 9 → (δ = 0 ∨ δ = 1) → lsN till hr (N (ciN hr r δ)) ∧ N (ciN hr r δ) ≤ N (ciN (hr + 1) r δ) ∧ (∀ b, Ed r b → N (ciN hr r δ) ≤ N (ciN (hr + 1) b (dnN b er δ)) + 1) ∧ (N (ciN hr r δ) = N (ciN (hr + 1) r δ) ∨ ∃ b, Ed r b ∧ N (ciN hr r δ) = N (ciN (hr + 1) b (dnN b er δ)) + 1)
/-- the row behind the last hour -/
def endN (N : Int → Int) (till hm : Int) : Prop := ∀ r δ, 0 ≤ r → r ≤ 9 → (δ = 0 ∨ δ = 1) → N (ciN (till + 1) r δ) = if r = hm ∧ δ = 1 then 0 else 1000
/-- a row that the next one may be built upon -/
def nxtN (N : Int → Int) (till hr : Int) : Prop := ∀ r δ, 0 ≤ r → r ≤ 9 → (δ = 0 ∨ δ = 1) → lsN till hr (N (ciN hr r δ))
theorem dnN_01 {b er δ : Int} (h : δ = 0 ∨ δ = 1) : dnN b er δ = 0 ∨ dnN b er δ = 1 := by
  unfold dnN
  split
  · exact Or.inr rfl
  · exact h
section ZB
variable {xs : Nat → Int} {xl e : Nat} {h g : LH} {Q : Option LV → LH → Prop} {K : KEY} {S : Int → Int} {L : List Int} {N N' : Int → Int} {Ed Ed' : Int → Int → Prop} {q p P b d s sh er hm till hr at' first last r δ a c v2 v3 v4 v5 : Int}
theorem F_lessenNeed (hq : q = 5 ∨ q = 32) (hp : q + 21 ≤ p ∧ p ≤ q + 26) (hF : RF h) (h2 : 0 ≤ v2 ∧ v2 ≤ 23) (h3 : 0 ≤ v3 ∧ v3 ≤ 9) (h4 : 0 ≤ v4 ∧ v4 ≤ 9) (hb : ∀ δ, (δ = 0 ∨ δ = 1) → 0 ≤ rd h 79 (ciN (v2 + 1) v4 δ) ∧ rd h 79 (ciN (v2 + 1) v4 δ) ≤ 1000)
    (k : ∀ g, RF g → (∀ a i, a ≠ 79 → rd g a i = rd h a i) → (∀ i, i ≠ ciN v2 v3 0 → i ≠ ciN v2 v3 1 → rd g 79 i = rd h 79 i) → (∀ δ, (δ = 0 ∨ δ = 1) → minN (rd g 79 (ciN v2 v3 δ)) (rd h 79 (ciN v2 v3 δ)) (rd h 79 (ciN (v2 + 1) v4 (dnN v4 (rd h p 3) δ)) + 1)) → Q none g) : Rn xs xl e mm_Plans_lessenNeed 0 [some (.inr (.inr 77)), some (.inr (.inr p)), some (.inl v2), some (.inl v3), some (.inl v4), none, none, none, none] [] h Q := by
  have w79 : ∀ g i v, RF g → RF (wr g 79 i v) := fun g i v gF => RF_wn (hav_nr (by decide +kernel) i) gF
  have p79 : p ≠ 79 := by omega
  -- one of both
  have step : ∀ (u : LH) (v5 : Int) (o6 o7 o8 : Option LV), (v5 = 0 ∨ v5 = 1) → RF u → (∀ a i, a ≠ 79 → rd u a i = rd h a i) → (∀ i, i ≠ ciN v2 v3 0 → rd u 79 i = rd h 79 i) → (v5 = 0 → rd u 79 (ciN v2 v3 0) = rd h 79 (ciN v2 v3 0)) → (∀ m o6 o7 o8, minN m (rd h 79 (ciN v2 v3 v5)) (rd h 79 (ciN (v2 + 1) v4 (dnN v4 (rd h p 3) v5)) + 1) → Rn xs xl e mm_Plans_lessenNeed 3 [some (.inr (.inr 77)), some (.inr (.inr p)), some (.inl v2), some (.inl v3), some (.inl v4), some (.inl (v5 + 1)), o6, o7, o8] [] (wr u 79 (ciN v2 v3 v5) m) Q) → Rn xs xl e mm_Plans_lessenNeed 3 [some (.inr (.inr 77)), some (.inr (.inr p)), some (.inl v2), some (.inl v3), some (.inl v4), some (.inl v5), o6, o7, o8] [] u Q := by
    intro u v5 o6 o7 o8 h5 uF uf un u0 next
    have ep : rd u p 3 = rd h p 3 := uf p 3 p79
    have e1 : rd u 79 (ciN v2 v3 v5) = rd h 79 (ciN v2 v3 v5) := by
      rcases h5 with rfl | rfl
      · exact u0 rfl
      · exact un _ (by unfold ciN; omega)
    have e2 : ∀ δ, (δ = 0 ∨ δ = 1) → rd u 79 (ciN (v2 + 1) v4 δ) = rd h 79 (ciN (v2 + 1) v4 δ) := fun δ h => un _ (by unfold ciN; omega)
    have i1 : ciN v2 v3 v5 = 20 * v2 + 2 * v3 + v5 := rfl
    have i2 : ∀ δ, ciN (v2 + 1) v4 δ = 20 * v2 + 2 * v4 + δ + 20 := fun δ => by unfold ciN; omega
    have b5 := hb v5 h5
    have b1 := hb 1 (Or.inr rfl)
    have x5 := e2 v5 h5
    have x1 := e2 1 (Or.inr rfl)
    unfold minN at next
    refine B_Plans_lessenNeed_3 hq hp uF h2 h3 h4 (by omega) ⟨fun z => by omega, fun _ => ⟨fun z => ⟨by omega, ?_, fun m hm => ?_⟩, fun z => ⟨?_, fun m hm => ?_⟩⟩⟩
    · rw [← i2 v5, x5]
      omega
    · rw [ep] at z
      have dn : dnN v4 (rd h p 3) v5 = v5 := by
        unfold dnN
        rw [if_neg z]
      rw [← i1, ← i2 v5, e1, x5] at hm
      have := next m (some (.inl v5)) (some (.inl (20 * v2 + 2 * v3 + v5))) (some (.inl (20 * v2 + 2 * v4 + v5 + 20))) (by rw [dn]; exact hm)
      exact this
    · rw [show 20 * v2 + 2 * v4 + 21 = ciN (v2 + 1) v4 1 by unfold ciN; omega, x1]
      omega
    · rw [ep] at z
      have dn : dnN v4 (rd h p 3) v5 = 1 := by
        unfold dnN
        rw [if_pos z]
      rw [← i1, show 20 * v2 + 2 * v4 + 21 = ciN (v2 + 1) v4 1 by unfold ciN; omega, e1, x1] at hm
      have := next m (some (.inl 1)) (some (.inl (20 * v2 + 2 * v3 + v5))) (some (.inl (20 * v2 + 2 * v4 + 21))) (by rw [dn]; exact hm)
      exact this
  refine B_Plans_lessenNeed_0 hq hp hF (step h 0 none none none (Or.inl rfl) hF (fun _ _ _ => rfl) (fun _ _ => rfl) (fun _ => rfl) (fun m0 o6 o7 o8 hm0 => ?_))
  refine step (wr h 79 (ciN v2 v3 0) m0) (0 + 1) o6 o7 o8 (Or.inr rfl) (w79 _ _ _ hF) (fun a i n => rdw_ne (fun z => n z.symm)) (fun i n => rdw_nei (fun z => n z.symm)) (fun z => absurd z (by decide)) (fun m1 o6 o7 o8 hm1 => ?_)
  have gF := w79 _ (ciN v2 v3 (0 + 1)) m1 (w79 h (ciN v2 v3 0) m0 hF)
  have n01 : ciN v2 v3 (0 + 1) ≠ ciN v2 v3 0 := by
    unfold ciN
    omega
  refine B_Plans_lessenNeed_3 hq hp gF h2 h3 h4 (by omega) ⟨fun _ => k _ gF (fun a i n => ?_) (fun i n0 n1 => ?_) (fun δ h => ?_), fun z => by omega⟩
  · rw [rdw_ne (fun z => n z.symm), rdw_ne (fun z => n z.symm)]
  · have n1' : ciN v2 v3 (0 + 1) ≠ i := fun z => n1 z.symm
    rw [rdw_nei n1', rdw_nei (fun z => n0 z.symm)]
  · rcases h with rfl | rfl
    · rw [rdw_nei n01, rdw_eq]
      exact hm0
    · rw [show ciN v2 v3 1 = ciN v2 v3 (0 + 1) from rfl, rdw_eq]
      exact hm1
/-- one door more -/
theorem rowN_step (ht : till ≤ 23) (h1 : 0 ≤ hr) (ha : 0 ≤ a ∧ a ≤ 9) (hc : 0 ≤ c ∧ c ≤ 9) (nx : nxtN N till (hr + 1)) (ro : rowN N till hr er Ed) (ev : ∀ i, i ≠ ciN hr a 0 → i ≠ ciN hr a 1 → N' i = N i) (em : ∀ δ, (δ = 0 ∨ δ = 1) → minN (N' (ciN hr a δ)) (N (ciN hr a δ)) (N (ciN (hr + 1) c (dnN c er δ)) + 1)) (hE : ∀ r b, Ed' r b ↔ Ed r b ∨ (r = a ∧ b = c)) (hEd : ∀ r b, Ed' r b → 0 ≤ b ∧ b ≤ 9) : rowN N' till hr er Ed' := by
  intro r δ r0 r1 hδ
  have up : ∀ r δ, 0 ≤ r → r ≤ 9 → (δ = 0 ∨ δ = 1) → N' (ciN (hr + 1) r δ) = N (ciN (hr + 1) r δ) := fun r δ r0 r1 hδ => ev _ (by unfold ciN; omega) (by unfold ciN; omega)
  have upD : ∀ b, Ed' r b → N' (ciN (hr + 1) b (dnN b er δ)) = N (ciN (hr + 1) b (dnN b er δ)) := fun b y => up b _ (hEd r b y).1 (hEd r b y).2 (dnN_01 hδ)
  have es : r ≠ a → N' (ciN hr r δ) = N (ciN hr r δ) := fun z => ev _ (by unfold ciN; omega) (by unfold ciN; omega)
  obtain ⟨o1, o2, o3, o4⟩ := ro r δ r0 r1 hδ
  rw [up r δ r0 r1 hδ]
  by_cases z : r = a
  · subst z
    obtain ⟨m1, m2, m3⟩ := em δ hδ
    have ln := nx c (dnN c er δ) hc.1 hc.2 (dnN_01 hδ)
    have cE : Ed' r c := (hE r c).mpr (Or.inr ⟨rfl, rfl⟩)
    have small : lsN till hr (N' (ciN hr r δ)) := by
      clear o3 o4 es up upD cE
      generalize N' (ciN hr r δ) = m at *
      unfold lsN at o1 ln ⊢
      omega
    generalize N' (ciN hr r δ) = m at *
    refine ⟨small, Int.le_trans m1 o2, fun b y => ?_, ?_⟩
    · rw [upD b y]
      rcases (hE r b).mp y with w | ⟨-, w⟩
      · exact Int.le_trans m1 (o3 b w)
      · rw [w]
        exact m2
    · rcases m3 with w | w
      · rw [w]
        rcases o4 with w2 | ⟨b, w2, w3⟩
        · exact Or.inl w2
        · have y : Ed' r b := (hE r b).mpr (Or.inl w2)
          exact Or.inr ⟨b, y, by rw [upD b y]; exact w3⟩
      · exact Or.inr ⟨c, cE, by rw [upD c cE]; exact w⟩
  · rw [es z]
    refine ⟨o1, o2, fun b y => ?_, ?_⟩
    · rw [upD b y]
      rcases (hE r b).mp y with w | w
      · exact o3 b w
      · exact absurd w.1 z
    · rcases o4 with w | ⟨b, w2, w3⟩
      · exact Or.inl w
      · have y : Ed' r b := (hE r b).mpr (Or.inl w2)
        exact Or.inr ⟨b, y, by rw [upD b y]; exact w3⟩
theorem rowN_congr (ev : ∀ i, N' i = N i) (hE : ∀ r b, Ed' r b ↔ Ed r b) (ro : rowN N till hr er Ed) : rowN N' till hr er Ed' := by
  intro r δ r0 r1 hδ
  obtain ⟨o1, o2, o3, o4⟩ := ro r δ r0 r1 hδ
  rw [ev, ev]
  refine ⟨o1, o2, fun b y => ?_, ?_⟩
  · rw [ev]
    exact o3 b ((hE r b).mp y)
  · rcases o4 with w | ⟨b, w2, w3⟩
    · exact Or.inl w
    · exact Or.inr ⟨b, (hE r b).mpr w2, by rw [ev]; exact w3⟩
/-- by door d one comes from room a into room b -/
theorem dor_edge (hc : CXq h K q L) (hK : KR K) (hs : 0 ≤ s ∧ s ≤ 3) (hh : 0 ≤ hr ∧ hr ≤ 23) (d0 : 0 ≤ d) (d1 : d < K.1 1) (a0 : 0 ≤ a) (a1 : a ≤ 9) (b0 : 0 ≤ b) : ((bitZ (zand (rd h (q + 5) (24 * s + hr)) (zxor sh (-1))) d ∧ a = K.1 (8 * d + 5) ∧ b = K.1 (8 * d + 6)) ∨ (bitZ (zand (rd h (q + 6) (24 * s + hr)) (zxor sh (-1))) d ∧ a = K.1 (8 * d + 6) ∧ b = K.1 (8 * d + 5))) ↔ LF K d s a hr sh 0 = b := by
  have x := ent_edg (v1 := sh) (R := zshl 1 a) hc hK hs hh b0 d0 d1
  obtain ⟨r2, r3, -⟩ := hK.2.2.2.1 d d0 d1
  have k0 := hK.1
  unfold entD at x
  rw [bit_shl a0 (by omega) r2.1 (by omega), bit_shl a0 (by omega) r3.1 (by omega)] at x
  constructor
  · intro z
    obtain ⟨a', c0, c1, c2, c3⟩ := x.mp (z.elim (fun y => Or.inl ⟨y.1, y.2.1.symm, y.2.2⟩) (fun y => Or.inr ⟨y.1, y.2.1.symm, y.2.2⟩))
    rw [bit_shl a0 (by omega) c0 (by omega)] at c2
    rw [← c2]
    exact c3
  · intro z
    rcases x.mpr ⟨a, a0, a1, (bit_shl a0 (by omega) a0 (by omega)).mpr rfl, z⟩ with y | y
    · exact Or.inl ⟨y.1, y.2.1.symm, y.2.2⟩
    · exact Or.inr ⟨y.1, y.2.1.symm, y.2.2⟩
end ZB
end
section
/-! errand, part z3: the class fills its table -/
/-- through some door below D one comes in hour hr from room r into room b -/
def edD (K : KEY) (sh s hr D r b : Int) : Prop := 0 ≤ b ∧ 0 ≤ r ∧ r ≤ 9 ∧ ∃ d, 0 ≤ d ∧ d < D ∧ LF K d s r hr sh 0 = b
section ZC
variable {xs : Nat → Int} {xl e : Nat} {h g : LH} {Q : Option LV → LH → Prop} {K : KEY} {L : List Int} {N N' : Int → Int} {Ed Ed' : Int → Int → Prop} {q p P b d s sh er hm till hr x D first last r δ a c : Int}
theorem rowN_fr (x0 : 0 ≤ x) (ev : ∀ i, 20 * x ≤ i → N' i = N i) (hE : ∀ r b, Ed r b → 0 ≤ b) (ro : rowN N till x er Ed) : rowN N' till x er Ed := by
  intro r δ r0 r1 hδ
  obtain ⟨o1, o2, o3, o4⟩ := ro r δ r0 r1 hδ
  have up : ∀ b, 0 ≤ b → N' (ciN (x + 1) b (dnN b er δ)) = N (ciN (x + 1) b (dnN b er δ)) := fun b b0 => ev _ (by have := dnN_01 (b := b) (er := er) hδ; unfold ciN; omega)
  rw [ev (ciN x r δ) (by unfold ciN; omega), ev (ciN (x + 1) r δ) (by unfold ciN; omega)]
  refine ⟨o1, o2, fun b y => ?_, ?_⟩
  · rw [up b (hE r b y)]
    exact o3 b y
  · rcases o4 with w | ⟨b, w2, w3⟩
    · exact Or.inl w
    · exact Or.inr ⟨b, w2, by rw [up b (hE r b w2)]; exact w3⟩
theorem endN_fr (t0 : 0 ≤ till) (ev : ∀ i, 20 * (till + 1) ≤ i → N' i = N i) (hn : endN N till hm) : endN N' till hm := fun r δ r0 r1 hδ => by
  rw [ev _ (by unfold ciN; omega)]
  exact hn r δ r0 r1 hδ
theorem nxt_end (hn : endN N till hm) : nxtN N till (till + 1) := fun r δ r0 r1 hδ => by
  unfold lsN
  rw [hn r δ r0 r1 hδ]
  split <;> omega
theorem nxt_row (ro : rowN N till x er Ed) : nxtN N till x := fun r δ r0 r1 hδ => (ro r δ r0 r1 hδ).1
theorem F_fillNeed (he : 2 ≤ e) (hc : CXq h K q L) (hK : KR K) (hp : 0 ≤ p ∧ p < K.1 2) (hf : 0 ≤ first ∧ first ≤ 24) (hl : 0 ≤ last ∧ last ≤ 23)
    (k : ∀ g, RF g → (∀ a i, a ≠ 79 → rd g a i = rd h a i) → endN (rd g 79) last (K.1 (4 * p + 117)) → (∀ x, first ≤ x → x ≤ last → rowN (rd g 79) last x (K.1 (4 * p + 118)) (edD K sh (K.1 (4 * p + 116)) x (K.1 1))) → Q none g) : Rn xs xl e mm_Plans_fillNeed 0 [some (.inr (.inr 77)), some (.inr (.inr q)), some (.inr (.inr (q + 21 + p))), some (.inl sh), some (.inl first), some (.inl last), none, none, none, none, none, none] [] h Q := by
  obtain ⟨hF, hP, hq, -, ⟨-, c2, -⟩, -⟩ := id hc
  have k1 := hK.2.1
  have k2 := hK.2.2.1
  obtain ⟨f1, f2, f3, f4⟩ := CXq_p hc hp.1 hp.2
  obtain ⟨s0, h0, e0, -⟩ := hK.2.2.2.2 p hp.1 hp.2
  have k0 := hK.1
  have hPc : q + 21 ≤ q + 21 + p ∧ q + 21 + p ≤ q + 26 := by omega
  generalize K.1 (4 * p + 116) = s at *
  generalize K.1 (4 * p + 117) = hm at *
  generalize K.1 (4 * p + 118) = er at *
  have w79 : ∀ g i v, RF g → RF (wr g 79 i v) := fun g i v gF => RF_wn (hav_nr (by decide +kernel) i) gF
  have cx : ∀ g, RF g → (∀ a i, a ≠ 79 → rd g a i = rd h a i) → CXq g K q L := fun g gF gf => CXq_fr hc hK gF (fun a i ha => gf a i (by omega))
  have eD0 : ∀ {x D r b}, edD K sh s x D r b → 0 ≤ b := fun z => z.1
  have eD9 : ∀ {x D r b}, 0 ≤ x → x ≤ 23 → D ≤ K.1 1 → edD K sh s x D r b → 0 ≤ b ∧ b ≤ 9 := fun {x D r b} x0 x1 hD z => by
    obtain ⟨b0, r0, r1, d, d0, d1, y⟩ := z
    obtain ⟨t2, t3, -⟩ := hK.2.2.2.1 d d0 (by omega)
    rcases (dor_edge (h := h) (sh := sh) (b := b) hc hK s0 ⟨x0, x1⟩ d0 (by omega) r0 r1 b0).mpr y with y | y
    · omega
    · omega
  -- the rows, the last one first
  have rows : ∀ (fuel : Nat) (g : LH) (v6 v7 : Int) (o8 o9 o10 o11 : Option LV), v7 + 1 ≤ fuel → -1 ≤ v7 → v7 ≤ last → RF g → (∀ a i, a ≠ 79 → rd g a i = rd h a i) → endN (rd g 79) last hm → (∀ x, v7 < x → first ≤ x → x ≤ last → rowN (rd g 79) last x er (edD K sh s x (K.1 1))) → Rn xs xl e mm_Plans_fillNeed 59 [some (.inr (.inr 77)), some (.inr (.inr q)), some (.inr (.inr (q + 21 + p))), some (.inl sh), some (.inl first), some (.inl last), some (.inl v6), some (.inl v7), o8, o9, o10, o11] [] g Q := by
    intro fuel
    have stop : ∀ (g : LH) (v7 : Int), v7 < first → RF g → (∀ a i, a ≠ 79 → rd g a i = rd h a i) → endN (rd g 79) last hm → (∀ x, v7 < x → first ≤ x → x ≤ last → rowN (rd g 79) last x er (edD K sh s x (K.1 1))) → Q none g := fun g v7 c gF gf ge gr => k g gF gf ge (fun x x0 x1 => gr x (by omega) x0 x1)
    induction fuel with
    | zero =>
      intro g v6 v7 o8 o9 o10 o11 hn a0 a1 gF gf ge gr
      exact B_Plans_fillNeed_59 hq hPc gF (by omega) (by omega) ⟨fun c => stop g v7 c gF gf ge gr, fun c => by omega⟩
    | succ fuel ih =>
      intro g v6 v7 o8 o9 o10 o11 hn a0 a1 gF gf ge gr
      refine B_Plans_fillNeed_59 hq hPc gF (by omega) (by omega) ⟨fun c => stop g v7 c gF gf ge gr, fun c => ?_⟩
      have x0 : 0 ≤ v7 := by omega
      have cp : ∀ x y, rd (cpyL g 79 (20 * v7 + 20) 79 (20 * v7) 20 ++ g) x y = if x = 79 ∧ 20 * v7 ≤ y ∧ y < 20 * v7 + ((20 : Nat) : Int) then rd g 79 (20 * v7 + 20 + (y - 20 * v7)) else rd g x y := fun x y => rd_cpy g 79 (20 * v7 + 20) 79 (20 * v7) x y 20
      generalize cpyL g 79 (20 * v7 + 20) 79 (20 * v7) 20 ++ g = u at *
      have ug : ∀ a i, a ≠ 79 → rd u a i = rd g a i := fun a i n => by
        rw [cp, if_neg (fun z => n z.1)]
      have uh : ∀ a i, a ≠ 79 → rd u a i = rd h a i := fun a i n => (ug a i n).trans (gf a i n)
      have uF : RF u := RF_row (b := 79) (hav_nr (by decide +kernel)) gF ug
      have uN : ∀ i, 20 * (v7 + 1) ≤ i → rd u 79 i = rd g 79 i := fun i hi => by
        rw [cp, if_neg (by omega)]
      have ue : endN (rd u 79) last hm := endN_fr hl.1 (fun i hi => uN i (by omega)) ge
      have ur : ∀ x, v7 < x → first ≤ x → x ≤ last → rowN (rd u 79) last x er (edD K sh s x (K.1 1)) := fun x z1 z2 z3 => rowN_fr (by omega) (fun i hi => uN i (by omega)) (fun _ _ z => eD0 z) (gr x z1 z2 z3)
      have unx : nxtN (rd u 79) last (v7 + 1) := by
        by_cases z : v7 = last
        · rw [z]
          exact nxt_end ue
        · exact nxt_row (ur (v7 + 1) (by omega) (by omega) (by omega))
      have u0 : rowN (rd u 79) last v7 er (edD K sh s v7 0) := fun r δ r0 r1 hδ => by
        have ee : rd u 79 (ciN v7 r δ) = rd u 79 (ciN (v7 + 1) r δ) := by
          rw [cp, if_pos (by unfold ciN; omega), uN _ (by unfold ciN; omega), show 20 * v7 + 20 + (ciN v7 r δ - 20 * v7) = ciN (v7 + 1) r δ by unfold ciN; omega]
        have := unx r δ r0 r1 hδ
        rw [ee]
        refine ⟨?_, Int.le_refl _, fun b z => ?_, Or.inl rfl⟩
        · unfold lsN at this ⊢
          omega
        · obtain ⟨-, -, -, d, d0, d1, -⟩ := z
          omega
      have uc := cx u uF uh
      have uf1 : rd u (q + 21 + p) 1 = s := (uh _ _ (by omega)).trans f1
      refine B_Plans_fillNeed_91 hq hPc uF (by omega) (by omega) ⟨fun z => by omega, fun _ => ?_⟩
      rw [uf1]
      refine ⟨by omega, by omega, by omega, by omega, by omega, by omega, ?_⟩
      rw [uh (q + 5) _ (by omega), uh (q + 6) _ (by omega)]
      have de : ∀ {d a b : Int}, 0 ≤ d → d < K.1 1 → 0 ≤ a → a ≤ 9 → 0 ≤ b → (((bitZ (zand (rd h (q + 5) (24 * s + v7)) (zxor sh (-1))) d ∧ a = K.1 (8 * d + 5) ∧ b = K.1 (8 * d + 6)) ∨ (bitZ (zand (rd h (q + 6) (24 * s + v7)) (zxor sh (-1))) d ∧ a = K.1 (8 * d + 6) ∧ b = K.1 (8 * d + 5))) ↔ LF K d s a v7 sh 0 = b) := fun d0 d1 a0 a1 b0 => dor_edge hc hK s0 ⟨x0, by omega⟩ d0 d1 a0 a1 b0
      generalize zand (rd h (q + 5) (24 * s + v7)) (zxor sh (-1)) = A at *
      generalize zand (rd h (q + 6) (24 * s + v7)) (zxor sh (-1)) = B at *
      -- door by door
      have doors : ∀ (m : Nat) (w : LH) (D : Int) (o11 : Option LV), K.1 1 - D ≤ m → 0 ≤ D → D ≤ K.1 1 → RF w → (∀ a i, a ≠ 79 → rd w a i = rd h a i) → (∀ i, 20 * (v7 + 1) ≤ i → rd w 79 i = rd u 79 i) → rowN (rd w 79) last v7 er (edD K sh s v7 D) → Rn xs xl e mm_Plans_fillNeed 120 [some (.inr (.inr 77)), some (.inr (.inr q)), some (.inr (.inr (q + 21 + p))), some (.inl sh), some (.inl first), some (.inl last), some (.inl v6), some (.inl v7), some (.inl A), some (.inl B), some (.inl D), o11] [] w Q := by
        intro m
        have out : ∀ (w : LH) (D : Int) (o8 o9 o10 o11 : Option LV), K.1 1 ≤ D → D ≤ K.1 1 → RF w → (∀ a i, a ≠ 79 → rd w a i = rd h a i) → (∀ i, 20 * (v7 + 1) ≤ i → rd w 79 i = rd u 79 i) → rowN (rd w 79) last v7 er (edD K sh s v7 D) → Rn xs xl e mm_Plans_fillNeed 59 [some (.inr (.inr 77)), some (.inr (.inr q)), some (.inr (.inr (q + 21 + p))), some (.inl sh), some (.inl first), some (.inl last), some (.inl v6), some (.inl (v7 - 1)), o8, o9, o10, o11] [] w Q := fun w D o8 o9 o10 o11 c0 c1 wF wf wn wr' => by
          rw [show D = K.1 1 by omega] at wr'
          refine ih w v6 (v7 - 1) o8 o9 o10 o11 (by omega) (by omega) (by omega) wF wf (endN_fr hl.1 (fun i hi => wn i (by omega)) ue) (fun x z1 z2 z3 => ?_)
          by_cases z : x = v7
          · rw [z]
            exact wr'
          · exact rowN_fr (by omega) (fun i hi => wn i (by omega)) (fun _ _ z => eD0 z) (ur x (by omega) z2 z3)
        induction m with
        | zero =>
          intro w D o11 hm' d0 d1 wF wf wn wr'
          have wc := cx w wF wf
          have w2 : rd w q 2 = K.1 1 := wc.2.2.2.2.1.2.1
          exact B_Plans_fillNeed_120 hq hPc wF wc.2.1 (by omega) (by omega) ⟨fun _ => out w D _ _ _ _ (by omega) d1 wF wf wn wr', fun z => by omega⟩
        | succ m jh =>
          intro w D o11 hm' d0 d1 wF wf wn wr'
          have wc := cx w wF wf
          have w2 : rd w q 2 = K.1 1 := wc.2.2.2.2.1.2.1
          refine B_Plans_fillNeed_120 hq hPc wF wc.2.1 (by omega) (by omega) ⟨fun _ => out w D _ _ _ _ (by omega) d1 wF wf wn wr', fun z => ⟨by omega, ?_⟩⟩
          have dl : D < K.1 1 := by omega
          obtain ⟨t2, t3, -⟩ := hK.2.2.2.1 D d0 dl
          obtain ⟨g2, g3, -⟩ := CXq_d hc d0 dl
          have de' := fun {a b : Int} (a0 : 0 ≤ a) (a1 : a ≤ 9) (b0 : 0 ≤ b) => de (d := D) (a := a) (b := b) d0 dl a0 a1 b0
          have wnx : ∀ {w' : LH}, (∀ i, 20 * (v7 + 1) ≤ i → rd w' 79 i = rd u 79 i) → nxtN (rd w' 79) last (v7 + 1) := fun e r δ r0 r1 hδ => by
            rw [e _ (by unfold ciN; omega)]
            exact unx r δ r0 r1 hδ
          have bnd : ∀ {w' : LH}, (∀ i, 20 * (v7 + 1) ≤ i → rd w' 79 i = rd u 79 i) → ∀ c, 0 ≤ c → c ≤ 9 → ∀ δ, (δ = 0 ∨ δ = 1) → 0 ≤ rd w' 79 (ciN (v7 + 1) c δ) ∧ rd w' 79 (ciN (v7 + 1) c δ) ≤ 1000 := fun e c c0 c1 δ hδ => by
            have := wnx e c δ c0 c1 hδ
            unfold lsN at this
            omega
          have keepU : ∀ {w' : LH} {a : Int}, 0 ≤ a → a ≤ 9 → (∀ i, i ≠ ciN v7 a 0 → i ≠ ciN v7 a 1 → rd w' 79 i = rd w 79 i) → (∀ i, 20 * (v7 + 1) ≤ i → rd w' 79 i = rd u 79 i) := fun a0 a1 e i hi => (e i (by unfold ciN; omega) (by unfold ciN; omega)).trans (wn i hi)
          -- back through the door
          have s165 : ∀ (y : LH), RF y → (∀ a i, a ≠ 79 → rd y a i = rd h a i) → (∀ i, 20 * (v7 + 1) ≤ i → rd y 79 i = rd u 79 i) → rowN (rd y 79) last v7 er (fun r b => edD K sh s v7 D r b ∨ (bitZ A D ∧ r = K.1 (8 * D + 5) ∧ b = K.1 (8 * D + 6))) → Rn xs xl e mm_Plans_fillNeed 165 [some (.inr (.inr 77)), some (.inr (.inr q)), some (.inr (.inr (q + 21 + p))), some (.inl sh), some (.inl first), some (.inl last), some (.inl v6), some (.inl v7), some (.inl A), some (.inl B), some (.inl D), some (.inr (.inr (q + 7 + D)))] [] y Q := by
            intro y yF yf yn yr
            have y2 : rd y (q + 7 + D) 2 = K.1 (8 * D + 5) := (yf _ _ (by omega)).trans g2
            have y3 : rd y (q + 7 + D) 3 = K.1 (8 * D + 6) := (yf _ _ (by omega)).trans g3
            have full : ∀ r b, edD K sh s v7 (D + 1) r b ↔ (edD K sh s v7 D r b ∨ (bitZ A D ∧ r = K.1 (8 * D + 5) ∧ b = K.1 (8 * D + 6))) ∨ (bitZ B D ∧ r = K.1 (8 * D + 6) ∧ b = K.1 (8 * D + 5)) := fun r b => by
              unfold edD
              constructor
              · rintro ⟨b0, r0, r1, d, c0, c1, z⟩
                by_cases t : d = D
                · rw [t] at z
                  rcases (de' r0 r1 b0).mpr z with z | z
                  · exact Or.inl (Or.inr z)
                  · exact Or.inr z
                · exact Or.inl (Or.inl ⟨b0, r0, r1, d, c0, by omega, z⟩)
              · rintro ((⟨b0, r0, r1, d, c0, c1, z⟩ | z) | z)
                · exact ⟨b0, r0, r1, d, c0, by omega, z⟩
                · exact ⟨by omega, by omega, by omega, D, d0, by omega, (de' (by omega) (by omega) (by omega)).mp (Or.inl z)⟩
                · exact ⟨by omega, by omega, by omega, D, d0, by omega, (de' (by omega) (by omega) (by omega)).mp (Or.inr z)⟩
            refine B_Plans_fillNeed_165 hq hPc yF (by omega) (by omega) ⟨fun z => B_Plans_fillNeed_192 hq hPc yF (by omega) (by omega) (jh y (D + 1) _ (by omega) (by omega) (by omega) yF yf yn (rowN_congr (fun _ => rfl) (fun r b => ?_) yr)), fun z => ⟨1, by omega, ?_⟩⟩
            · rw [full]
              exact ⟨fun t => t.elim (fun t => t) (fun t => absurd t.1 (bitZ_n.mpr z)), Or.inl⟩
            · have bD : bitZ B D := Classical.byContradiction (fun t => z (bitZ_n.mp t))
              rw [y2, y3]
              have ye : rd y (q + 21 + p) 3 = er := (yf _ _ (by omega)).trans f3
              refine F_lessenNeed hq hPc yF (by omega) (by omega) (by omega) (bnd yn _ (by omega) (by omega)) (fun v vF vf vn vm => ?_)
              rw [ye] at vm
              have vh : ∀ a i, a ≠ 79 → rd v a i = rd h a i := fun a i n => (vf a i n).trans (yf a i n)
              have vU : ∀ i, 20 * (v7 + 1) ≤ i → rd v 79 i = rd u 79 i := fun i hi => (vn i (by unfold ciN; omega) (by unfold ciN; omega)).trans (yn i hi)
              exact B_Plans_fillNeed_192 hq hPc vF (by omega) (by omega) (jh v (D + 1) _ (by omega) (by omega) (by omega) vF vh vU (rowN_step (a := K.1 (8 * D + 6)) (c := K.1 (8 * D + 5)) (N := rd y 79) (by omega) x0 (by omega) (by omega) (wnx yn) yr vn vm (fun r b => by rw [full]; exact or_congr Iff.rfl ⟨fun t => t.2, fun t => ⟨bD, t⟩⟩) (fun r b t => eD9 x0 (by omega) (by omega) t)))
          refine ⟨fun z => s165 w wF wf wn (rowN_congr (fun _ => rfl) (fun r b => ⟨fun t => t.elim (fun t => t) (fun t => absurd t.1 (bitZ_n.mpr z)), Or.inl⟩) wr'), fun z => ⟨1, by omega, ?_⟩⟩
          have bA : bitZ A D := Classical.byContradiction (fun t => z (bitZ_n.mp t))
          rw [(wf (q + 7 + D) 2 (by omega)).trans g2, (wf (q + 7 + D) 3 (by omega)).trans g3]
          have we : rd w (q + 21 + p) 3 = er := (wf _ _ (by omega)).trans f3
          refine F_lessenNeed hq hPc wF (by omega) (by omega) (by omega) (bnd wn _ (by omega) (by omega)) (fun v vF vf vn vm => ?_)
          rw [we] at vm
          have vh : ∀ a i, a ≠ 79 → rd v a i = rd h a i := fun a i n => (vf a i n).trans (wf a i n)
          have vU : ∀ i, 20 * (v7 + 1) ≤ i → rd v 79 i = rd u 79 i := fun i hi => (vn i (by unfold ciN; omega) (by unfold ciN; omega)).trans (wn i hi)
          exact s165 v vF vh vU (rowN_step (a := K.1 (8 * D + 5)) (c := K.1 (8 * D + 6)) (N := rd w 79) (by omega) x0 (by omega) (by omega) (wnx wn) wr' vn vm (fun r b => or_congr Iff.rfl ⟨fun t => t.2, fun t => ⟨bA, t⟩⟩) (fun r b t => t.elim (fun t => eD9 x0 (by omega) (by omega) t) (fun t => by omega)))
      exact doors (K.1 1).toNat u 0 _ (by omega) (by omega) (by omega) uF uh (fun _ _ => rfl) u0
  -- the row behind the last
  have init : ∀ (fuel : Nat) (g : LH) (v7 : Int), 20 - v7 ≤ fuel → 0 ≤ v7 → v7 ≤ 20 → RF g → (∀ a i, a ≠ 79 → rd g a i = rd h a i) → (∀ j, 0 ≤ j → j < v7 → rd g 79 (20 * last + 20 + j) = if j = 2 * hm + 1 then 0 else 1000) → Rn xs xl e mm_Plans_fillNeed 12 [some (.inr (.inr 77)), some (.inr (.inr q)), some (.inr (.inr (q + 21 + p))), some (.inl sh), some (.inl first), some (.inl last), some (.inl (20 * last + 20)), some (.inl v7), none, none, none, none] [] g Q := by
    intro fuel
    have stop : ∀ (g : LH) (v7 : Int), 20 ≤ v7 → RF g → (∀ a i, a ≠ 79 → rd g a i = rd h a i) → (∀ j, 0 ≤ j → j < v7 → rd g 79 (20 * last + 20 + j) = if j = 2 * hm + 1 then 0 else 1000) → Rn xs xl e mm_Plans_fillNeed 59 [some (.inr (.inr 77)), some (.inr (.inr q)), some (.inr (.inr (q + 21 + p))), some (.inl sh), some (.inl first), some (.inl last), some (.inl (20 * last + 20)), some (.inl last), none, none, none, none] [] g Q := fun g v7 c gF gf gj =>
      rows 24 g _ last _ _ _ _ (by omega) (by omega) (by omega) gF gf (fun r δ r0 r1 hδ => by
        rw [show ciN (last + 1) r δ = 20 * last + 20 + (2 * r + δ) by unfold ciN; omega, gj _ (by omega) (by omega)]
        by_cases z : r = hm ∧ δ = 1
        · rw [if_pos z, if_pos (by omega)]
        · rw [if_neg z, if_neg (by omega)]) (fun x z1 z2 z3 => by omega)
    induction fuel with
    | zero =>
      intro g v7 hn a0 a1 gF gf gj
      exact B_Plans_fillNeed_12 hq hPc gF (by omega) (by omega) (by omega) ⟨fun c => stop g v7 c gF gf gj, fun c => by omega⟩
    | succ fuel ih =>
      intro g v7 hn a0 a1 gF gf gj
      have g2 : rd g (q + 21 + p) 2 = hm := (gf _ _ (by omega)).trans f2
      have put : ∀ v, v7 < 20 → v = (if v7 = 2 * hm + 1 then 0 else 1000) → Rn xs xl e mm_Plans_fillNeed 12 [some (.inr (.inr 77)), some (.inr (.inr q)), some (.inr (.inr (q + 21 + p))), some (.inl sh), some (.inl first), some (.inl last), some (.inl (20 * last + 20)), some (.inl (v7 + 1)), none, none, none, none] [] (wr g 79 (20 * last + 20 + v7) v) Q := fun v c hv => by
        refine ih _ (v7 + 1) (by omega) (by omega) (by omega) (w79 _ _ _ gF) (fun a i n => ?_) (fun j j0 j1 => ?_)
        · rw [rdw_ne (fun z => n z.symm)]
          exact gf a i n
        · by_cases z : j = v7
          · rw [z, rdw_eq]
            exact hv
          · rw [rdw_nei (by omega)]
            exact gj j j0 (by omega)
      refine B_Plans_fillNeed_12 hq hPc gF (by omega) (by omega) (by omega) ⟨fun c => stop g v7 c gF gf gj, fun c => ?_⟩
      rw [g2]
      exact ⟨by omega, by omega, fun z => ⟨by omega, put 1000 c (by rw [if_neg z])⟩, fun z => ⟨by omega, put 0 c (by rw [if_pos z])⟩⟩
  exact B_Plans_fillNeed_0 hq hPc hF (by omega) (init 20 h 0 (by omega) (by omega) (by omega) hF (fun _ _ _ => rfl) (fun j j0 j1 => by omega))
end ZC
end
section
/-! errand, part z4: the class's way -/
/-- places of the table between two hours -/
def bndN (N : Int → Int) (lo till : Int) : Prop := ∀ x r δ, lo ≤ x → x ≤ till + 1 → 0 ≤ r → r ≤ 9 → (δ = 0 ∨ δ = 1) → N (ciN x r δ) = 1000 ∨ (0 ≤ N (ciN x r δ) ∧ N (ciN x r δ) ≤ 25)
section ZD
variable {xs : Nat → Int} {xl e : Nat} {h g : LH} {Q : Option LV → LH → Prop} {K : KEY} {S : Int → Int} {L : List Int} {N : Int → Int} {q p b d s sh er hm till hr lo hour z x a sc : Int}
theorem nFN_at (h0 : 0 ≤ z) (h1 : z ≤ 19) : nFN N (20 * x + z) = cvN (N (ciN x (z % 10) (z / 10))) := by
  unfold nFN
  rw [show (20 * x + z) / 20 = x by omega, show (20 * x + z) % 20 = z by omega]
theorem cvN_lt (h : x = 1000 ∨ (0 ≤ x ∧ x ≤ 25)) : (cvN x = 1000000 ∧ x = 1000) ∨ (cvN x = x ∧ 0 ≤ x ∧ x ≤ 25) := by
  unfold cvN
  split <;> omega
theorem LF_v (hc : CXq h K q L) (hK : KR K) (hs : 0 ≤ s ∧ s ≤ 3) (hh : 0 ≤ hr ∧ hr ≤ 23) (d0 : 0 ≤ d) (d1 : d < K.1 1) (a0 : 0 ≤ a) (a1 : a ≤ 9) : LF K d s a hr sh 0 = -1 ∨ (0 ≤ LF K d s a hr sh 0 ∧ ((a = K.1 (8 * d + 5) ∧ LF K d s a hr sh 0 = K.1 (8 * d + 6)) ∨ (a = K.1 (8 * d + 6) ∧ LF K d s a hr sh 0 = K.1 (8 * d + 5)))) := by
  obtain ⟨e2, e3, -⟩ := CXq_d hc d0 d1
  obtain ⟨t2, t3, -⟩ := hK.2.2.2.1 d d0 d1
  rw [hc.2.2.2.2.2.2.2.2 d s a hr sh d0 d1 hs.1 hs.2 a0 a1 hh.1 hh.2]
  unfold inF
  by_cases c : rd h (q + 7 + d) 2 = a ∧ wAh (rd h (q + 7 + d)) L s hr (rd h (q + 7 + d) 8) 0 ∧ ¬ bitZ sh d
  · rw [if_pos c]
    exact Or.inr ⟨by omega, Or.inl ⟨by rw [← e2]; exact c.1.symm, e3⟩⟩
  · rw [if_neg c]
    by_cases c2 : rd h (q + 7 + d) 3 = a ∧ wBk (rd h (q + 7 + d)) L s hr (rd h (q + 7 + d) 8) 0 ∧ ¬ bitZ sh d
    · rw [if_pos c2]
      exact Or.inr ⟨by omega, Or.inr ⟨by rw [← e3]; exact c2.1.symm, e2⟩⟩
    · rw [if_neg c2]
      exact Or.inl rfl
theorem tr_lf (hx : x < 24) : (tr K S b p x z d < 0 ↔ LF K d (K.1 (4 * p + 116)) (z % 10) x (S (b + 1)) 0 < 0) ∧ (0 ≤ LF K d (K.1 (4 * p + 116)) (z % 10) x (S (b + 1)) 0 → tr K S b p x z d = LF K d (K.1 (4 * p + 116)) (z % 10) x (S (b + 1)) 0 + (if 10 ≤ z ∨ LF K d (K.1 (4 * p + 116)) (z % 10) x (S (b + 1)) 0 = K.1 (4 * p + 118) then 10 else 0)) := by
  unfold tr NW
  rw [if_pos hx]
  generalize LF K d (K.1 (4 * p + 116)) (z % 10) x (S (b + 1)) 0 = v
  by_cases c : v < 0
  · rw [if_pos c]
    exact ⟨by omega, fun y => by omega⟩
  · rw [if_neg c]
    refine ⟨⟨fun y => ?_, fun y => absurd y c⟩, fun _ => rfl⟩
    split at y <;> omega
theorem F_hourThrough (he : 2 ≤ e) (hc : CXq h K q L) (hK : KR K) (hp : 0 ≤ p ∧ p < K.1 2) (d0 : 0 ≤ d) (d1 : d < K.1 1) (hh : 0 ≤ hour ∧ hour ≤ 24) (ht : 0 ≤ till ∧ till ≤ 23) (z0 : 0 ≤ z ∧ z ≤ 19) (w3 : rd h 77 3 = hour) (w4 : rd h 77 4 = 2 * (z % 10) + z / 10) (k : ∀ r, ((r = -1 ∧ ∀ x, ¬ frst K S b p hour till z d x) ∨ (0 ≤ r ∧ frst K S b p hour till z d r)) → Q (some (.inl r)) h) : Rn xs xl e mm_Plans_hourThrough 0 [some (.inr (.inr 77)), some (.inr (.inr q)), some (.inl (K.1 (4 * p + 116))), some (.inl (S (b + 1))), some (.inl d), some (.inl till), none] [] h Q := by
  obtain ⟨hF, hP, hq, -, ⟨-, c2, -⟩, -, -, st, lf⟩ := id hc
  have k1 := hK.2.1
  obtain ⟨s0, -, -, -⟩ := hK.2.2.2.2 p hp.1 hp.2
  obtain ⟨-, -, e5, -⟩ := CXq_d hc d0 d1
  obtain ⟨-, -, t5, -⟩ := hK.2.2.2.1 d d0 d1
  have loop : ∀ (fuel : Nat) (v6 : Int), till + 1 - v6 ≤ fuel → hour ≤ v6 → v6 ≤ 24 → (∀ y, hour ≤ y → y < v6 → y ≤ till → tr K S b p y z d < 0) → Rn xs xl e mm_Plans_hourThrough 6 [some (.inr (.inr 77)), some (.inr (.inr q)), some (.inl (K.1 (4 * p + 116))), some (.inl (S (b + 1))), some (.inl d), some (.inl till), some (.inl v6)] [] h Q := by
    intro fuel
    have stop : ∀ v6 : Int, till < v6 → (∀ y, hour ≤ y → y < v6 → y ≤ till → tr K S b p y z d < 0) → Q (some (.inl (-1))) h := fun v6 c no => k (-1) (Or.inl ⟨rfl, fun x f => by
      have := no x f.1 (by have := f.2.1; omega) f.2.1
      have := f.2.2.1
      omega⟩)
    induction fuel with
    | zero =>
      intro v6 hn a0 a1 no
      exact B_Plans_hourThrough_6 hq hF (by omega) (by omega) ⟨fun c => stop v6 c no, fun c => by omega⟩
    | succ fuel ih =>
      intro v6 hn a0 a1 no
      refine B_Plans_hourThrough_6 hq hF (by omega) (by omega) ⟨fun c => stop v6 c no, fun c => ⟨by omega, 1, by omega, ?_⟩⟩
      rw [w4, show (2 * (z % 10) + z / 10) / 2 = z % 10 by omega]
      obtain ⟨u1, u2⟩ := tr_lf (K := K) (S := S) (b := b) (p := p) (d := d) (z := z) (x := v6) (by omega)
      have lv := LF_v (s := K.1 (4 * p + 116)) (sh := S (b + 1)) (a := z % 10) (hr := v6) hc hK s0 (by omega) d0 d1 (by omega) (by omega)
      have el := lf d (K.1 (4 * p + 116)) (z % 10) v6 (S (b + 1)) d0 d1 s0.1 s0.2 (by omega) (by omega) (by omega) (by omega)
      refine F_into (Nat.le_refl 1) hq (by omega) (by omega) s0 (by omega) hF hP (by omega) st ?_
      rw [← el]
      refine B_Plans_hourThrough_29 hq hF (by omega) ⟨fun y => ih (v6 + 1) (by omega) (by omega) (by omega) (fun y' y0 y1 y2 => ?_), fun y => k v6 (Or.inr ⟨by omega, a0, c, ?_, fun y' y0 y1 => no y' y0 y1 (by omega)⟩)⟩
      · by_cases t : y' = v6
        · rw [t]
          exact u1.mpr (by omega)
        · exact no y' y0 (by omega) y2
      · have := mt u1.mp (by omega)
        omega
  refine B_Plans_hourThrough_0 hq hF ?_
  rw [w3]
  exact loop 25 hour (by omega) (by omega) (by omega) (fun y y0 y1 _ => by omega)
theorem F_stateThrough (hc : CXq h K q L) (hK : KR K) (hp : 0 ≤ p ∧ p < K.1 2) (d0 : 0 ≤ d) (d1 : d < K.1 1) (hx : 0 ≤ x ∧ x ≤ 23) (z0 : 0 ≤ z ∧ z ≤ 19) (w4 : rd h 77 4 = 2 * (z % 10) + z / 10) (hz : 0 ≤ tr K S b p x z d) (k : Q (some (.inl (2 * (tr K S b p x z d % 10) + tr K S b p x z d / 10))) h) : Rn xs xl e mm_Plans_stateThrough 0 [some (.inr (.inr 77)), some (.inr (.inr q)), some (.inl (K.1 (4 * p + 118))), some (.inl d), none, none] [] h Q := by
  obtain ⟨hF, hP, hq, -⟩ := id hc
  have k1 := hK.2.1
  have k0 := hK.1
  obtain ⟨s0, -, -, -⟩ := hK.2.2.2.2 p hp.1 hp.2
  obtain ⟨e2, e3, -⟩ := CXq_d hc d0 d1
  obtain ⟨t2, t3, -⟩ := hK.2.2.2.1 d d0 d1
  obtain ⟨u1, u2⟩ := tr_lf (K := K) (S := S) (b := b) (p := p) (d := d) (z := z) (x := x) (by omega)
  have lv := LF_v (s := K.1 (4 * p + 116)) (sh := S (b + 1)) (a := z % 10) (hr := x) hc hK s0 hx d0 d1 (by omega) (by omega)
  generalize LF K d (K.1 (4 * p + 116)) (z % 10) x (S (b + 1)) 0 = v at *
  have v0 : 0 ≤ v := by
    have := mt u1.mpr (by omega)
    omega
  have et := u2 v0
  have room : (2 * (z % 10) + z / 10) / 2 = z % 10 := by omega
  have flag : (2 * (z % 10) + z / 10) % 2 = z / 10 := by omega
  -- by the room behind the door
  have fin : ∀ w : Int, w = v → (w ≠ K.1 (4 * p + 118) → Q (some (.inl (2 * w + z / 10))) h) ∧ (w = K.1 (4 * p + 118) → Q (some (.inl (2 * w + 1))) h) := fun w hw => by
    rw [hw]
    refine ⟨fun y => ?_, fun y => ?_⟩
    · by_cases c : 10 ≤ z
      · rw [if_pos (Or.inl c)] at et
        rw [et, show 2 * ((v + 10) % 10) + (v + 10) / 10 = 2 * v + z / 10 by omega] at k
        exact k
      · rw [if_neg (fun t => t.elim c y)] at et
        rw [et, show 2 * ((v + 0) % 10) + (v + 0) / 10 = 2 * v + z / 10 by omega] at k
        exact k
    · rw [if_pos (Or.inr y)] at et
      rw [et, show 2 * ((v + 10) % 10) + (v + 10) / 10 = 2 * v + 1 by omega] at k
      exact k
  refine B_Plans_stateThrough_0 hq hF hP (by omega) ⟨by omega, ?_⟩
  rw [w4, room, flag, e2, e3]
  refine ⟨fun c => ⟨by omega, fun y => ⟨by omega, by omega, (fin _ (by omega)).1 y⟩, fun y => ⟨by omega, (fin _ (by omega)).2 y⟩⟩, fun c => ⟨by omega, fun y => ⟨by omega, by omega, (fin _ (by omega)).1 y⟩, fun y => ⟨by omega, (fin _ (by omega)).2 y⟩⟩⟩
theorem F_nextDoor (he : 3 ≤ e) (hc : CXq h K q L) (hK : KR K) (kb : KB K p) (hp : 0 ≤ p ∧ p < K.1 2) (lo0 : 0 ≤ lo) (hh : lo ≤ hour ∧ hour ≤ till + 1) (ht : 0 ≤ till ∧ till ≤ 23) (z0 : 0 ≤ z ∧ z ≤ 19) (zr : z % 10 < K.1 0) (w3 : rd h 77 3 = hour) (w4 : rd h 77 4 = 2 * (z % 10) + z / 10) (bn : bndN (rd h 79) lo till) (fk : FOK K S b p till lo (nFN (rd h 79))) (f0 : 0 < nFN (rd h 79) (20 * hour + z)) (f1 : nFN (rd h 79) (20 * hour + z) < 1000000) (k : ∀ d x, 0 ≤ d → d < K.1 1 → nxD K S b p till (nFN (rd h 79)) hour z d x → (∀ d' x', 0 ≤ d' → d' < d → ¬ nxD K S b p till (nFN (rd h 79)) hour z d' x') → Q (some (.inl d)) h) : Rn xs xl e mm_Plans_nextDoor 0 [some (.inr (.inr 77)), some (.inr (.inr q)), some (.inr (.inr (q + 21 + p))), some (.inl (S (b + 1))), some (.inl till), none, none, none] [] h Q := by
  obtain ⟨hF, hP, hq, -, ⟨-, c2, -⟩, -⟩ := id hc
  have k1 := hK.2.1
  have k2 := hK.2.2.1
  obtain ⟨g1, -, g3, -⟩ := CXq_p hc hp.1 hp.2
  have hPc : q + 21 ≤ q + 21 + p ∧ q + 21 + p ≤ q + 26 := by omega
  obtain ⟨D, X, ⟨D0, D1⟩, DX⟩ := ex_next kb fk lo0 ht.2 hh.1 hh.2 z0.1 z0.2 zr f0 f1
  have now := cvN_lt (bn hour (z % 10) (z / 10) hh.1 hh.2 (by omega) (by omega) (by omega))
  have en := nFN_at (N := rd h 79) (x := hour) z0.1 z0.2
  have i1 : ciN hour (z % 10) (z / 10) = 20 * hour + (2 * (z % 10) + z / 10) := by
    unfold ciN
    omega
  have loop : ∀ (fuel : Nat) (v5 : Int) (o6 o7 : Option LV), D + 1 - v5 ≤ fuel → 0 ≤ v5 → v5 ≤ D → (∀ d' x', 0 ≤ d' → d' < v5 → ¬ nxD K S b p till (nFN (rd h 79)) hour z d' x') → Rn xs xl e mm_Plans_nextDoor 3 [some (.inr (.inr 77)), some (.inr (.inr q)), some (.inr (.inr (q + 21 + p))), some (.inl (S (b + 1))), some (.inl till), some (.inl v5), o6, o7] [] h Q := by
    intro fuel
    induction fuel with
    | zero => intro v5 o6 o7 hn a0 a1 no; omega
    | succ fuel ih =>
      intro v5 o6 o7 hn a0 a1 no
      refine B_Plans_nextDoor_3 hq hPc hF (by omega) (by omega) ⟨fun c => by omega, fun c => ⟨2, by omega, ?_⟩⟩
      rw [g1]
      have more : (∀ x', ¬ nxD K S b p till (nFN (rd h 79)) hour z v5 x') → ∀ (y6 : Int) (o7 : Option LV), Rn xs xl e mm_Plans_nextDoor 90 [some (.inr (.inr 77)), some (.inr (.inr q)), some (.inr (.inr (q + 21 + p))), some (.inl (S (b + 1))), some (.inl till), some (.inl v5), some (.inl y6), o7] [] h Q := fun nn y6 o7 => by
        have vD : v5 ≠ D := fun e => nn X (by rw [e]; exact DX)
        exact B_Plans_nextDoor_90 hq hPc hF (by omega) (ih (v5 + 1) _ _ (by omega) (by omega) (by omega) (fun d' x' c0 c1 => by
          by_cases t' : d' = v5
          · rw [t']
            exact nn x'
          · exact no d' x' c0 (by omega)))
      refine F_hourThrough (S := S) (b := b) (z := z) (Nat.le_refl 2) hc hK hp a0 (by omega) (by omega) ht z0 w3 w4 (fun r hr => B_Plans_nextDoor_26 hq hPc hF (by omega) ⟨fun y => ?_, fun y => ?_⟩)
      · rcases hr with ⟨y', _⟩ | ⟨r0, fr⟩
        · exact absurd y' y
        · have r1 := fr.2.1
          have t := tr_ok (S := S) (b := b) (hr := r) kb z0 ⟨a0, by omega⟩ (by omega)
          have tz := fr.2.2.1
          have hr0 := fr.1
          refine ⟨by omega, by omega, 0, by omega, ?_⟩
          rw [g3]
          refine F_stateThrough (S := S) (b := b) (x := r) hc hK hp a0 (by omega) (by omega) z0 w4 tz ?_
          have then' := cvN_lt (bn (r + 1) (tr K S b p r z v5 % 10) (tr K S b p r z v5 / 10) (by omega) (by omega) (by omega) (by omega) (by omega))
          have et := nFN_at (N := rd h 79) (x := r + 1) (z := tr K S b p r z v5) tz t.2.1
          have i2 : ciN (r + 1) (tr K S b p r z v5 % 10) (tr K S b p r z v5 / 10) = 20 * r + 20 + (2 * (tr K S b p r z v5 % 10) + tr K S b p r z v5 / 10) := by
            unfold ciN
            omega
          rw [i1] at now en
          rw [i2] at then' et
          refine B_Plans_nextDoor_55 hq hPc hF (by omega) (by omega) ⟨by omega, by omega, ?_⟩
          rw [w3, w4]
          refine ⟨by omega, by omega, by omega, by omega, fun c => more (fun x' n => ?_) _ _, fun c => k v5 r a0 (by omega) ⟨fr, by omega⟩ no⟩
          have e1 := frst_one n.1 fr
          rw [e1] at n
          have := n.2
          omega
      · rcases hr with ⟨_, nf⟩ | ⟨r0, _⟩
        · exact more (fun x' n => nf x' n.1) _ _
        · omega
  exact B_Plans_nextDoor_0 hq hPc hF (loop 15 0 none none (by omega) (by omega) (by omega) (fun d' x' c0 c1 => by omega))
theorem FOK_N (hc : CXq h K q L) (hK : KR K) (hp : 0 ≤ p ∧ p < K.1 2) (lo0 : 0 ≤ lo) (ht : 0 ≤ till ∧ till ≤ 23) (en : endN N till (K.1 (4 * p + 117))) (ro : ∀ x, lo ≤ x → x ≤ till → rowN N till x (K.1 (4 * p + 118)) (edD K (S (b + 1)) (K.1 (4 * p + 116)) x (K.1 1))) : FOK K S b p till lo (nFN N) ∧ bndN N lo till := by
  have k0 := hK.1
  obtain ⟨s0, h0, e0, -⟩ := hK.2.2.2.2 p hp.1 hp.2
  have bn : bndN N lo till := fun x r δ x0 x1 r0 r1 hδ => by
    by_cases c : x = till + 1
    · rw [c, en r δ r0 r1 hδ]
      split <;> omega
    · have := (ro x x0 (by omega) r δ r0 r1 hδ).1
      unfold lsN at this
      omega
  refine ⟨⟨fun k k0' k1 => ?_, fun hr z z1 z2 z3 z4 => ?_⟩, bn⟩
  · rw [nFN_at k0' k1, en _ _ (by omega) (by omega) (by omega)]
    by_cases c : k = K.1 (4 * p + 117) + 10
    · rw [if_pos c, if_pos (by omega)]
      rfl
    · rw [if_neg c, if_neg (by omega)]
      rfl
  · obtain ⟨o1, o2, o3, o4⟩ := ro hr z1 z2 (z % 10) (z / 10) (by omega) (by omega) (by omega)
    have b1 := cvN_lt (bn hr (z % 10) (z / 10) z1 (by omega) (by omega) (by omega) (by omega))
    have b2 := cvN_lt (bn (hr + 1) (z % 10) (z / 10) (by omega) (by omega) (by omega) (by omega) (by omega))
    have e1 := nFN_at (N := N) (x := hr) z3 z4
    have e2 := nFN_at (N := N) (x := hr + 1) z3 z4
    -- a door's other side
    have side : ∀ d, 0 ≤ d → d < K.1 1 → 0 ≤ LF K d (K.1 (4 * p + 116)) (z % 10) hr (S (b + 1)) 0 → 0 ≤ tr K S b p hr z d ∧ nFN N (20 * (hr + 1) + tr K S b p hr z d) = cvN (N (ciN (hr + 1) (LF K d (K.1 (4 * p + 116)) (z % 10) hr (S (b + 1)) 0) (dnN (LF K d (K.1 (4 * p + 116)) (z % 10) hr (S (b + 1)) 0) (K.1 (4 * p + 118)) (z / 10)))) ∧ LF K d (K.1 (4 * p + 116)) (z % 10) hr (S (b + 1)) 0 ≤ 9 := fun d d0 d1 v0 => by
      obtain ⟨-, u2⟩ := tr_lf (K := K) (S := S) (b := b) (p := p) (d := d) (z := z) (x := hr) (by omega)
      have et := u2 v0
      obtain ⟨t2, t3, -⟩ := hK.2.2.2.1 d d0 d1
      have lv := LF_v (s := K.1 (4 * p + 116)) (sh := S (b + 1)) (a := z % 10) (hr := hr) hc hK s0 (by omega) d0 d1 (by omega) (by omega)
      generalize LF K d (K.1 (4 * p + 116)) (z % 10) hr (S (b + 1)) 0 = v at *
      have v9 : v ≤ 9 := by omega
      have dn : tr K S b p hr z d = v + 10 * dnN v (K.1 (4 * p + 118)) (z / 10) ∧ (dnN v (K.1 (4 * p + 118)) (z / 10) = 0 ∨ dnN v (K.1 (4 * p + 118)) (z / 10) = 1) := by
        rw [et]
        unfold dnN
        by_cases c : v = K.1 (4 * p + 118)
        · rw [if_pos (Or.inr c), if_pos c]
          omega
        · rw [if_neg c]
          by_cases c2 : 10 ≤ z
          · rw [if_pos (Or.inl c2)]
            omega
          · rw [if_neg (fun t => t.elim c2 c)]
            omega
      obtain ⟨dn1, dn2⟩ := dn
      refine ⟨by omega, ?_, v9⟩
      rw [nFN_at (by omega) (by omega), show tr K S b p hr z d % 10 = v by omega, show tr K S b p hr z d / 10 = dnN v (K.1 (4 * p + 118)) (z / 10) by omega]
    refine ⟨by omega, by omega, fun zr d d0 d1 d2 => ?_, ?_⟩
    · have v0 : 0 ≤ LF K d (K.1 (4 * p + 116)) (z % 10) hr (S (b + 1)) 0 := by
        have u1 := (tr_lf (K := K) (S := S) (b := b) (p := p) (d := d) (z := z) (x := hr) (by omega)).1
        have := mt u1.mpr (by omega)
        omega
      obtain ⟨-, w2, w3⟩ := side d d0 d1 v0
      have o := o3 _ (⟨v0, by omega, by omega, d, d0, d1, rfl⟩)
      have b3 := cvN_lt (bn (hr + 1) (LF K d (K.1 (4 * p + 116)) (z % 10) hr (S (b + 1)) 0) (dnN (LF K d (K.1 (4 * p + 116)) (z % 10) hr (S (b + 1)) 0) (K.1 (4 * p + 118)) (z / 10)) (by omega) (by omega) v0 w3 (dnN_01 (by omega)))
      omega
    · rcases o4 with o | ⟨v, ⟨v0, -, -, d, d0, d1, lv⟩, o⟩
      · exact Or.inl (by omega)
      · rw [← lv] at v0 o
        obtain ⟨w1, w2, w3⟩ := side d d0 d1 v0
        have b3 := cvN_lt (bn (hr + 1) (LF K d (K.1 (4 * p + 116)) (z % 10) hr (S (b + 1)) 0) (dnN (LF K d (K.1 (4 * p + 116)) (z % 10) hr (S (b + 1)) 0) (K.1 (4 * p + 118)) (z / 10)) (by omega) (by omega) v0 w3 (dnN_01 (by omega)))
        exact Or.inr ⟨d, d0, d1, w1, by omega⟩
theorem F_findWay (he : 5 ≤ e) (hc : CXq h K q L) (hK : KR K) (kb : KB K p) (sb : SB S b p) (hro : S (b + p + 2) < K.1 0) (hsc : scn sc) (hc0 : 60 ≤ sc) (hp : 0 ≤ p ∧ p < K.1 2) (sv : SV h sc S b p) (k : ∀ g l till, RF g → (∀ a i, a ≠ 78 → a ≠ 79 → ¬ (a = 77 ∧ (i = 0 ∨ i = 3 ∨ i = 4)) → rd g a i = rd h a i) → FHr K S b p (zshl 1 (K.1 (4 * p + 117) + 10)) till → errW K S b p till l → rd g 77 0 = (l.length : Int) → (l.length : Int) ≤ 24 → (∀ i : Nat, i < l.length → rd g 78 (i : Int) = liA l i) → Q none g) : Rn xs xl e mm_Plans_findWay 0 [some (.inr (.inr 77)), some (.inr (.inr q)), some (.inr (.inr sc)), some (.inl p), none, none, none, none, none] [] h Q := by
  obtain ⟨hF, -, hq, -⟩ := id hc
  have k2 := hK.2.2.1
  obtain ⟨s0', h0', -, -⟩ := hK.2.2.2.2 p hp.1 hp.2
  have k0 := hK.1
  have scN : sc ≠ 77 ∧ sc ≠ 78 ∧ sc ≠ 79 ∧ sc + 1 ≠ 77 ∧ sc + 1 ≠ 78 ∧ sc + 1 ≠ 79 := by
    unfold scn at hsc
    omega
  have hPc : q + 21 ≤ q + 21 + p ∧ q + 21 + p ≤ q + 26 := by omega
  obtain ⟨z0, z1, z2⟩ := k0F_in sb
  obtain ⟨s0, s1, s2, s3⟩ := id sb
  have n77 : ∀ i : Int, (i = 0 ∨ i = 3 ∨ i = 4) → (hav 77 i).1 ≠ 2 := fun i hi => by rcases hi with rfl | rfl | rfl <;> decide +kernel
  have w77 : ∀ g i v, (i = 0 ∨ i = 3 ∨ i = 4) → RF g → RF (wr g 77 i v) := fun g i v hi gF => RF_wn (n77 i hi) gF
  have w78 : ∀ g i v, RF g → RF (wr g 78 i v) := fun g i v gF => RF_wn (hav_nr (by decide +kernel) i) gF
  have cx : ∀ g, RF g → (∀ a i, a ≠ 78 → a ≠ 79 → ¬ (a = 77 ∧ (i = 0 ∨ i = 3 ∨ i = 4)) → rd g a i = rd h a i) → CXq g K q L := fun g gF gf => CXq_fr hc hK gF (fun a i ha => gf a i (by omega) (by omega) (by omega))
  have svg : ∀ g, (∀ a i, a ≠ 78 → a ≠ 79 → ¬ (a = 77 ∧ (i = 0 ∨ i = 3 ∨ i = 4)) → rd g a i = rd h a i) → SV g sc S b p := fun g gf => by
    unfold SV
    rw [gf sc 0 (by omega) (by omega) (by omega), gf sc 1 (by omega) (by omega) (by omega), gf (sc + 1) p (by omega) (by omega) (by omega), gf sc 2 (by omega) (by omega) (by omega), gf sc 3 (by omega) (by omega) (by omega)]
    exact sv
  have f1 : ∀ a i, a ≠ 78 → a ≠ 79 → ¬ (a = 77 ∧ (i = 0 ∨ i = 3 ∨ i = 4)) → rd (wr h 77 0 0) a i = rd h a i := fun a i _ _ n => by rw [rd_wr, if_neg (by omega)]
  have F1 := w77 h 0 0 (Or.inl rfl) hF
  have c1 := cx _ F1 f1
  have ez : 2 * S (b + p + 2) + S (b + p + 8) = 2 * (k0F S b p % 10) + k0F S b p / 10 := by
    rw [z2]
    unfold k0F
    split <;> omega
  refine B_Plans_findWay_0 hq hsc hc0 hF (by omega) ⟨3, by omega, F_homeHour (Nat.le_refl 3) c1 hK kb sb hsc hc0 hp (svg _ f1) (fun till ht => B_Plans_findWay_12 hq hsc hc0 F1 (by omega) (by omega) ?_)⟩
  obtain ⟨v1, v2, v3, v4, v5⟩ := svg _ f1
  rw [v1, v4]
  refine ⟨by omega, ?_⟩
  have f2 : ∀ a i, a ≠ 78 → a ≠ 79 → ¬ (a = 77 ∧ (i = 0 ∨ i = 3 ∨ i = 4)) → rd (wr (wr h 77 0 0) 77 3 (S b + S (b + p + 14))) a i = rd h a i := fun a i m1 m2 n => by
    rw [rd_wr, if_neg (by omega)]
    exact f1 a i m1 m2 n
  have F2 := w77 _ 3 (S b + S (b + p + 14)) (Or.inr (Or.inl rfl)) F1
  have e3 : rd (wr (wr h 77 0 0) 77 3 (S b + S (b + p + 14))) 77 3 = S b + S (b + p + 14) := rdw_eq
  have e0 : rd (wr (wr h 77 0 0) 77 3 (S b + S (b + p + 14))) 77 0 = 0 := by rw [rdw_nei (by decide), rdw_eq]
  generalize wr (wr h 77 0 0) 77 3 (S b + S (b + p + 14)) = g at *
  have gc := cx g F2 f2
  have neg := FHr_neg sb ht
  have zb : ∀ j, 0 ≤ j → j ≤ 19 → (bitZ (zshl 1 (K.1 (4 * p + 117) + 10)) j ↔ j = K.1 (4 * p + 117) + 10) := fun j j0 j1 => bit_shl (by omega) (by omega) j0 (by omega)
  -- no way, or none needed
  have nil : (till < 0 ∨ k0F S b p = K.1 (4 * p + 117) + 10) → Q none g := fun c => k g [] till F2 f2 ht (Or.inl ⟨c, rfl⟩) e0 (by decide) (fun i hi => absurd hi (Nat.not_lt_zero i))
  have far : k0F S b p ≠ K.1 (4 * p + 117) + 10 → 0 ≤ till → S b + S (b + p + 14) ≤ till ∧ till ≤ 23 ∧ Rch K S b p (till + 1 - (S b + S (b + p + 14))).toNat (S b + S (b + p + 14)) (k0F S b p) (K.1 (4 * p + 117) + 10) := fun c t0 => by
    rcases ht with ⟨y, _⟩ | ⟨_, ⟨y, _⟩ | ⟨y1, y2, ⟨j, j0, j1, j2, j3⟩, _⟩⟩
    · exact absurd ((zb _ z0 z1).mp y) c
    · omega
    · rw [(zb j j0 j1).mp j2] at j3
      exact ⟨y1, by omega, j3⟩
  refine B_Plans_findWay_23 hq hsc hc0 F2 gc.2.1 (by omega) ⟨fun c => nil (Or.inl (by omega)), fun c => ⟨fun c2 => nil (Or.inr (Classical.byContradiction (fun n => by have := (far n (by omega)).2.1; omega))), fun c2 => ⟨fun c3 => ⟨2, by omega, ?_⟩, fun c3 => nil (Or.inr (Classical.byContradiction (fun n => by have := (far n (by omega)).1; omega)))⟩⟩⟩
  have t0 : 0 ≤ till := by omega
  rw [e3] at c3 ⊢
  rw [(svg g f2).2.1]
  refine F_fillNeed (Nat.le_refl 2) gc hK hp ⟨by omega, by omega⟩ ⟨t0, by omega⟩ (fun u uF uf ue ur => ?_)
  obtain ⟨fk, bn⟩ := FOK_N (S := S) (b := b) (lo := S b + S (b + p + 14)) gc hK hp (by omega) ⟨t0, by omega⟩ ue (fun x x0 x1 => ur x x0 x1)
  have f3 : ∀ a i, a ≠ 78 → a ≠ 79 → ¬ (a = 77 ∧ (i = 0 ∨ i = 3 ∨ i = 4)) → rd u a i = rd h a i := fun a i m1 m2 n => (uf a i m2).trans (f2 a i m1 m2 n)
  have u3 : rd u 77 3 = S b + S (b + p + 14) := (uf 77 3 (by decide)).trans e3
  have u0 : rd u 77 0 = 0 := (uf 77 0 (by decide)).trans e0
  obtain ⟨x1, x2, x3, x4, x5⟩ := svg u f3
  have i1 : ciN (S b + S (b + p + 14)) (k0F S b p % 10) (k0F S b p / 10) = 20 * (S b + S (b + p + 14)) + (2 * (k0F S b p % 10) + k0F S b p / 10) := by
    unfold ciN
    omega
  have now := cvN_lt (bn (S b + S (b + p + 14)) (k0F S b p % 10) (k0F S b p / 10) (by omega) (by omega) (by omega) (by omega) (by omega))
  have en := nFN_at (N := rd u 79) (x := S b + S (b + p + 14)) z0 z1
  rw [i1] at now en
  have few : nFN (rd u 79) (20 * (S b + S (b + p + 14)) + k0F S b p) ≤ 24 := by
    by_cases c : k0F S b p = K.1 (4 * p + 117) + 10
    · have := F_goal kb rfl fk (hr := S b + S (b + p + 14)) (by omega) (by omega)
      rw [c, this]
      decide
    · have := F_fin kb rfl fk (by omega) (by omega) (till + 1 - (S b + S (b + p + 14))).toNat (S b + S (b + p + 14)) (k0F S b p) z0 z1 (by omega) (by omega) (by omega) (far c t0).2.2
      omega
  refine B_Plans_findWay_71 hq hsc hc0 hPc uF (by omega) ?_
  rw [x3, x5, u3, ez]
  refine ⟨by omega, by omega, by omega, by omega, by omega, ?_⟩
  have eD : rd u 79 (20 * (S b + S (b + p + 14)) + (2 * (k0F S b p % 10) + k0F S b p / 10)) = nFN (rd u 79) (20 * (S b + S (b + p + 14)) + k0F S b p) := by omega
  rw [eD]
  have goal0 : k0F S b p = K.1 (4 * p + 117) + 10 → nFN (rd u 79) (20 * (S b + S (b + p + 14)) + k0F S b p) = 0 := fun c => by
    have := F_goal kb rfl fk (hr := S b + S (b + p + 14)) (by omega) (by omega)
    rw [c, this]
  have eW : ∀ l, wayP K S b p till (nFN (rd u 79)) (nFN (rd u 79) (20 * (S b + S (b + p + 14)) + k0F S b p)).toNat (S b + S (b + p + 14)) (k0F S b p) l → errW K S b p till l := fun l w => by
    by_cases c : k0F S b p = K.1 (4 * p + 117) + 10
    · rw [goal0 c] at w
      exact Or.inl ⟨Or.inr c, w⟩
    · exact Or.inr ⟨⟨t0, c⟩, ⟨c3, by omega⟩, _, fk, w⟩
  have pos : 0 ≤ nFN (rd u 79) (20 * (S b + S (b + p + 14)) + k0F S b p) := by omega
  generalize eD2 : nFN (rd u 79) (20 * (S b + S (b + p + 14)) + k0F S b p) = D at *
  generalize k0F S b p = q0 at *
  generalize eh : S b + S (b + p + 14) = h0 at *
  -- door by door
  have way : ∀ (n : Nat) (v : LH) (hour z : Int) (acc : List Int) (o8 : Option LV), nFN (rd u 79) (20 * hour + z) = n → h0 ≤ hour → hour ≤ till + 1 → 0 ≤ z → z ≤ 19 → z % 10 < K.1 0 → RF v → (∀ a i, a ≠ 78 → a ≠ 79 → ¬ (a = 77 ∧ (i = 0 ∨ i = 3 ∨ i = 4)) → rd v a i = rd h a i) → rd v 79 = rd u 79 → rd v 77 3 = hour → rd v 77 4 = 2 * (z % 10) + z / 10 → rd v 77 0 = (acc.length : Int) → (acc.length : Int) + n = D → (∀ i : Nat, i < acc.length → rd v 78 (i : Int) = liA acc i) → (∀ rest, wayP K S b p till (nFN (rd u 79)) n hour z rest → wayP K S b p till (nFN (rd u 79)) D.toNat h0 q0 (acc ++ rest)) → Rn xs xl e mm_Plans_findWay 114 [some (.inr (.inr 77)), some (.inr (.inr q)), some (.inr (.inr sc)), some (.inl p), some (.inl till), some (.inr (.inr (q + 21 + p))), some (.inl D), some (.inl (acc.length : Int)), o8] [] v Q := by
    intro n
    induction n with
    | zero =>
      intro v hour z acc o8 hn a0 a1 b0 b1 br vF vf v79 v3 v4 v0 vl vi vw
      have w := vw [] rfl
      rw [List.append_nil] at w
      exact B_Plans_findWay_114 hq hsc hc0 hPc vF (by omega) ⟨fun _ => k v acc till vF vf ht (eW acc w) v0 (by omega) vi, fun c => by omega⟩
    | succ n ih =>
      intro v hour z acc o8 hn a0 a1 b0 b1 br vF vf v79 v3 v4 v0 vl vi vw
      refine B_Plans_findWay_114 hq hsc hc0 hPc vF (by omega) ⟨fun c => by omega, fun c => ⟨fun c2 => by omega, fun c2 => ⟨3, by omega, ?_⟩⟩⟩
      rw [(svg v vf).2.1]
      refine F_nextDoor (S := S) (b := b) (lo := h0) (hour := hour) (z := z) (Nat.le_refl 3) (cx v vF vf) hK kb hp (by omega) ⟨a0, a1⟩ ⟨t0, by omega⟩ ⟨b0, b1⟩ br v3 v4 (by rw [v79]; exact bn) (by rw [v79]; exact fk) (by rw [v79, hn]; omega) (by rw [v79, hn]; omega) (fun d x d0 d1 dx dn => ?_)
      rw [v79] at dx dn
      have x0 := dx.1.1
      have x1 := dx.1.2.1
      have xt := dx.1.2.2.1
      have tk := tr_ok (S := S) (b := b) (hr := x) kb ⟨b0, b1⟩ ⟨d0, d1⟩ (by omega)
      refine B_Plans_findWay_141 hq hsc hc0 hPc vF (by omega) ⟨fun _ => ?_, fun c => by omega⟩
      rw [v0]
      refine ⟨by omega, by omega, ?_⟩
      have wF : RF (wr (wr v 78 (acc.length : Int) d) 77 0 ((acc.length : Int) + 1)) := w77 _ 0 _ (Or.inl rfl) (w78 _ _ _ vF)
      have wf : ∀ a i, a ≠ 78 → a ≠ 79 → ¬ (a = 77 ∧ (i = 0 ∨ i = 3 ∨ i = 4)) → rd (wr (wr v 78 (acc.length : Int) d) 77 0 ((acc.length : Int) + 1)) a i = rd h a i := fun a i m1 m2 m3 => by
        rw [rd_wr, if_neg (by omega), rdw_ne (fun y => m1 y.symm)]
        exact vf a i m1 m2 m3
      have w79 : rd (wr (wr v 78 (acc.length : Int) d) 77 0 ((acc.length : Int) + 1)) 79 = rd u 79 := by
        rw [← v79]
        exact funext (fun i => by rw [rdw_ne (by decide), rdw_ne (by decide)])
      have w3 : rd (wr (wr v 78 (acc.length : Int) d) 77 0 ((acc.length : Int) + 1)) 77 3 = hour := by
        rw [rdw_nei (by decide), rdw_ne (by decide)]
        exact v3
      have w4 : rd (wr (wr v 78 (acc.length : Int) d) 77 0 ((acc.length : Int) + 1)) 77 4 = 2 * (z % 10) + z / 10 := by
        rw [rdw_nei (by decide), rdw_ne (by decide)]
        exact v4
      have w0 : rd (wr (wr v 78 (acc.length : Int) d) 77 0 ((acc.length : Int) + 1)) 77 0 = (acc.length : Int) + 1 := rdw_eq
      have wi : ∀ i : Nat, i < (acc ++ [d]).length → rd (wr (wr v 78 (acc.length : Int) d) 77 0 ((acc.length : Int) + 1)) 78 (i : Int) = liA (acc ++ [d]) i := fun i hi => by
        have el := liL acc d
        rw [rdw_ne (by decide)]
        by_cases c : i = acc.length
        · rw [c, rdw_eq, liA_2]
        · rw [rdw_nei (by omega), liA_1 _ _ _ (by omega)]
          exact vi i (by omega)
      generalize wr (wr v 78 (acc.length : Int) d) 77 0 ((acc.length : Int) + 1) = w at *
      have wc := cx w wF wf
      obtain ⟨p1, -, p3, -⟩ := CXq_p wc hp.1 hp.2
      refine B_Plans_findWay_171 hq hsc hc0 hPc wF (by omega) ⟨2, by omega, ?_⟩
      rw [p1, (svg w wf).2.1]
      refine F_hourThrough (S := S) (b := b) (hour := hour) (z := z) (Nat.le_refl 2) wc hK hp d0 d1 (by omega) ⟨t0, by omega⟩ ⟨b0, b1⟩ w3 w4 (fun r hr => ?_)
      have er : r = x := by
        rcases hr with ⟨_, no⟩ | ⟨_, fr⟩
        · exact absurd dx.1 (no x)
        · exact frst_one fr dx.1
      rw [er]
      refine B_Plans_findWay_190 hq hsc hc0 hPc wF (by omega) ⟨by omega, ?_⟩
      have yF := w77 w 3 (x + 1) (Or.inr (Or.inl rfl)) wF
      have yf : ∀ a i, a ≠ 78 → a ≠ 79 → ¬ (a = 77 ∧ (i = 0 ∨ i = 3 ∨ i = 4)) → rd (wr w 77 3 (x + 1)) a i = rd h a i := fun a i m1 m2 m3 => by
        rw [rd_wr, if_neg (by omega)]
        exact wf a i m1 m2 m3
      have yc := cx _ yF yf
      obtain ⟨-, -, p3', -⟩ := CXq_p yc hp.1 hp.2
      refine B_Plans_findWay_195 hq hsc hc0 hPc yF (by omega) ⟨0, by omega, ?_⟩
      rw [p3']
      refine F_stateThrough (S := S) (b := b) (x := x) (z := z) yc hK hp d0 d1 (by omega) ⟨b0, b1⟩ (by rw [rdw_nei (by decide)]; exact w4) xt (B_Plans_findWay_208 hq hsc hc0 hPc yF (by omega) ?_)
      have tF := w77 _ 4 (2 * (tr K S b p x z d % 10) + tr K S b p x z d / 10) (Or.inr (Or.inr rfl)) yF
      have := ih (wr (wr w 77 3 (x + 1)) 77 4 (2 * (tr K S b p x z d % 10) + tr K S b p x z d / 10)) (x + 1) (tr K S b p x z d) (acc ++ [d]) (some (.inl d)) (by have := dx.2; omega) (by omega) (by omega) xt tk.2.1 (tk.2.2 xt) tF (fun a i m1 m2 m3 => by
        rw [rd_wr, if_neg (by omega)]
        exact yf a i m1 m2 m3) (by
        rw [← w79]
        exact funext (fun i => by rw [rdw_ne (by decide), rdw_ne (by decide)])) (by rw [rdw_nei (by decide), rdw_eq]) rdw_eq (by rw [rdw_nei (by decide), rdw_nei (by decide), w0, liL]) (by rw [liL]; omega) (fun i hi => by
        rw [rdw_ne (by decide), rdw_ne (by decide)]
        exact wi i hi) (fun rest hr => by
        rw [List.append_assoc]
        exact vw (d :: rest) ⟨d, x, rest, rfl, ⟨d0, d1⟩, dx, dn, hr⟩)
      rw [liL] at this
      exact this
  have := way D.toNat (wr u 77 4 (2 * (q0 % 10) + q0 / 10)) h0 q0 [] none (by omega) (Int.le_refl _) (by omega) z0 z1 (by omega) (w77 _ _ _ (Or.inr (Or.inr rfl)) uF) (fun a i m1 m2 m3 => by
    rw [rd_wr, if_neg (by omega)]
    exact f3 a i m1 m2 m3) (funext (fun i => rdw_ne (by decide))) (by rw [rdw_nei (by decide)]; exact u3) rdw_eq (by rw [rdw_nei (by decide)]; exact u0) (by show (0 : Int) + _ = _; omega) (fun i hi => absurd hi (Nat.not_lt_zero i)) (fun rest hr => hr)
  exact this
end ZD
end
section
/-! errand, part z5: the reference's way; both roots -/
section ZE
variable {xs : Nat → Int} {xl e : Nat} {h g : LH} {Q : Option LV → LH → Prop} {K : KEY} {S : Int → Int} {b p r v1 v2 : Int}
theorem G_findWayX (he : 8 ≤ e) (w : WC K S h) (b0 : b % 70 = 0) (hb : 0 ≤ b ∧ b ≤ 1540) (hp : 0 ≤ p ∧ p ≤ 5) (hro : S (b + p + 2) < K.1 0) (k : ∀ r h' l, WC K S h' → frW h h' → FHr K S b p (zshl 1 (K.1 (4 * p + 117) + 10)) r → errW K S b p r l → rd h' 182 34 = (l.length : Int) → (∀ i : Nat, i < l.length → rd h' 202 (i : Int) = liA l i) → Q (some (.inl r)) h') : Rn xs xl e mm_findWay 0 [some (.inr (.inr 182)), some (.inl b), some (.inl p), none, none, none, none, none] [] h Q := by
  have kb := KB_of w hp
  have sb := SB_of w b0 hb hp
  obtain ⟨z0, z1, z2⟩ := k0F_in sb
  obtain ⟨s0, s1, s2, s3⟩ := id sb
  have kd := kb.1
  have kr := kb.2.1
  have kh := kb.2.2.2.1
  refine B_findWay_0 (RF_of w.1.1) hb hp ⟨7, by omega, G_errandHourX (Nat.le_refl 7) w b0 hb hp (fun till g gw gf ht => ?_)⟩
  have e2 : rd g 198 (b + p + 2) = S (b + p + 2) := by rw [gw.2.2]
  have e8 : rd g 198 (b + p + 8) = S (b + p + 8) := by rw [gw.2.2]
  have e7 : rd g 188 (4 * p + 117) = K.1 (4 * p + 117) := by rw [← gw.2.1]; rfl
  have w1 := WC_fld (j := 34) (v := 0) (by omega) gw (wF_wayMany gw.1 (by omega) (by omega))
  have f1 : frW h (wr g 182 34 0) := by
    intro a i n1 n2 n3 n4 n5
    rw [rd_wr, if_neg (by rintro ⟨rfl, rfl⟩; exact n5 ⟨rfl, Or.inl rfl⟩)]
    exact gf a i n1 n2
  have neg := FHr_neg sb ht
  have zb : ∀ j, 0 ≤ j → j ≤ 19 → (bitZ (zshl 1 (K.1 (4 * p + 117) + 10)) j ↔ j = K.1 (4 * p + 117) + 10) := fun j j0 j1 => bit_shl (by omega) (by omega) j0 (by omega)
  have nil : (till < 0 ∨ k0F S b p = K.1 (4 * p + 117) + 10) → Q (some (.inl till)) (wr g 182 34 0) := fun c => k till _ [] w1 f1 ht (Or.inl ⟨c, rfl⟩) rdw_eq (fun i hi => absurd hi (Nat.not_lt_zero i))
  have go : ∀ q0 : Int, k0F S b p = q0 → 0 ≤ till → q0 ≠ K.1 (4 * p + 117) + 10 → ∃ c, c < e ∧ Rn xs xl c mm_findFewest 0 [some (.inr (.inr 182)), some (.inl b), some (.inl p), some (.inl till), none, none, none, none, none, none, none] [] (wr g 182 34 0) (fun r h' => Rn xs xl e mm_findWay 73 [some (.inr (.inr 182)), some (.inl b), some (.inl p), some (.inl till), some (.inl q0), none, none, none] (r.toList ++ []) h' Q) := by
    intro q0 hq0 t0 hne
    obtain ⟨y1, y2, y3⟩ : S b + S (b + p + 14) ≤ till ∧ till ≤ 23 ∧ Rch K S b p (till + 1 - (S b + S (b + p + 14))).toNat (S b + S (b + p + 14)) q0 (K.1 (4 * p + 117) + 10) := by
      rcases ht with ⟨y, _⟩ | ⟨_, ⟨y, _⟩ | ⟨y1, y2, ⟨j, j0, j1, j2, j3⟩, _⟩⟩
      · exact absurd (hq0.symm.trans ((zb _ z0 z1).mp y)) hne
      · omega
      · rw [(zb j j0 j1).mp j2, hq0] at j3
        exact ⟨y1, by omega, j3⟩
    rw [hq0] at z0 z1 z2
    refine ⟨5, by omega, D_findFewest (by omega) w1 b0 hb hp (by omega) (fun u uw uf ul ug => ?_)⟩
    have fk : FOK K S b p till (S b + S (b + p + 14)) (rd u 201) := ⟨ul, fun hr q h0 h1 q0 q1 => ug hr q (by omega) h1 q0 q1⟩
    have u34 : rd u 182 34 = 0 := (uf 182 34 (by decide) (by decide) (by decide)).trans rdw_eq
    have u0 : rd u 198 b = S b := by rw [uw.2.2]
    have u14 : rd u 198 (b + p + 14) = S (b + p + 14) := by rw [uw.2.2]
    have fin := F_fin kb rfl fk (by omega) y2 (till + 1 - (S b + S (b + p + 14))).toNat (S b + S (b + p + 14)) q0 z0 z1 (by omega) (by omega) (by omega) y3
    have r0 := F_rng fk (q := q0) (hr := S b + S (b + p + 14)) ⟨z0, z1⟩ (by omega) (by omega)
    refine B_findWay_73 (RF_of uw.1.1) hb hp ⟨by omega, ?_⟩
    rw [u0, u14]
    have eW : ∀ l, wayP K S b p till (rd u 201) (rd u 201 (20 * (S b + S (b + p + 14)) + q0)).toNat (S b + S (b + p + 14)) q0 l → errW K S b p till l := fun l w => Or.inr ⟨⟨t0, fun c => hne (hq0.symm.trans c)⟩, ⟨y1, y2⟩, rd u 201, fk, by rw [hq0]; exact w⟩
    have few : rd u 201 (20 * (S b + S (b + p + 14)) + q0) ≤ 24 := by omega
    have h00 : 0 ≤ S b + S (b + p + 14) := by omega
    have hSb : S b ≤ S b + S (b + p + 14) := by omega
    have eD : rd u 201 (20 * (S b + S (b + p + 14)) + q0) = rd u 201 (20 * (S b + S (b + p + 14)) + q0) := rfl
    generalize eDD : rd u 201 (20 * (S b + S (b + p + 14)) + q0) = D at *
    generalize S b + S (b + p + 14) = h0 at *
    clear eD
    have way : ∀ (n : Nat) (v : LH) (q hour : Int) (acc : List Int) (o6 o7 : Option LV), rd u 201 (20 * hour + q) = n → 0 ≤ q → q ≤ 19 → q % 10 < K.1 0 → h0 ≤ hour → hour ≤ till + 1 → WC K S v → frW h v → (∀ i, rd v 201 i = rd u 201 i) → rd v 182 34 = (acc.length : Int) → (acc.length : Int) + n = D → (∀ i : Nat, i < acc.length → rd v 202 (i : Int) = liA acc i) → (∀ rest, wayP K S b p till (rd u 201) n hour q rest → wayP K S b p till (rd u 201) D.toNat h0 q0 (acc ++ rest)) → Rn xs xl e mm_findWay 95 [some (.inr (.inr 182)), some (.inl b), some (.inl p), some (.inl till), some (.inl q), some (.inl hour), o6, o7] [] v Q := by
      intro n
      induction n with
      | zero =>
        intro v q hour acc o6 o7 hn q0' q1 q2 h0' h1 vw vf ve vm vl vi vc
        have eq := F_zero kb rfl fk h00 y2 ⟨q0', q1⟩ (till + 1 - hour).toNat hour h0' (by omega) hn
        have ev := ve (20 * hour + q)
        have e7v : rd v 188 (4 * p + 117) = K.1 (4 * p + 117) := by rw [← vw.2.1]; rfl
        have wl := vc [] rfl
        rw [List.append_nil] at wl
        exact B_findWay_95 (RF_of vw.1.1) hb hp ⟨q0', q1⟩ (by omega) (by omega) ⟨by omega, fun c => by omega, fun _ => ⟨fun _ => k till v acc vw vf ht (eW acc wl) vm vi, fun c => by omega⟩⟩
      | succ n ih =>
        intro v q hour acc o6 o7 hn q0' q1 q2 h0' h1 vw vf ve vm vl vi vc
        have ev := ve (20 * hour + q)
        have e7v : rd v 188 (4 * p + 117) = K.1 (4 * p + 117) := by rw [← vw.2.1]; rfl
        have qg : q ≠ K.1 (4 * p + 117) + 10 := by
          intro z
          have := F_goal kb z fk h0' h1
          omega
        obtain ⟨d, X, ⟨d0, d1⟩, dX⟩ := ex_next kb fk h00 y2 h0' h1 q0' q1 q2 (by omega) (by omega)
        have dl : ∀ (m : Nat) (y : LH) (door : Int), d - door ≤ m → 0 ≤ door → door ≤ d → WC K S y → frW h y → (∀ i, rd y 201 i = rd u 201 i) → (rd y 182 34 = rd v 182 34 ∧ ∀ i, rd y 202 i = rd v 202 i) → (∀ d' x', 0 ≤ d' → d' < door → ¬ nxD K S b p till (rd u 201) hour q d' x') → Rn xs xl e mm_findWay 145 [some (.inr (.inr 182)), some (.inl b), some (.inl p), some (.inl till), some (.inl q), some (.inl hour), some (.inl (n : Int)), some (.inl door)] [] y Q := by
          intro m
          have step : ∀ (y : LH) (door : Int), 0 ≤ door → door ≤ d → WC K S y → frW h y → (∀ i, rd y 201 i = rd u 201 i) → (rd y 182 34 = rd v 182 34 ∧ ∀ i, rd y 202 i = rd v 202 i) → (∀ d' x', 0 ≤ d' → d' < door → ¬ nxD K S b p till (rd u 201) hour q d' x') → (∀ y' : LH, door ≠ d → WC K S y' → frW h y' → (∀ i, rd y' 201 i = rd u 201 i) → (rd y' 182 34 = rd v 182 34 ∧ ∀ i, rd y' 202 i = rd v 202 i) → (∀ d' x', 0 ≤ d' → d' < door + 1 → ¬ nxD K S b p till (rd u 201) hour q d' x') → Rn xs xl e mm_findWay 145 [some (.inr (.inr 182)), some (.inl b), some (.inl p), some (.inl till), some (.inl q), some (.inl hour), some (.inl (n : Int)), some (.inl (door + 1))] [] y' Q) → Rn xs xl e mm_findWay 145 [some (.inr (.inr 182)), some (.inl b), some (.inl p), some (.inl till), some (.inl q), some (.inl hour), some (.inl (n : Int)), some (.inl door)] [] y Q := by
            intro y door dr0 dr1 yw yf ye ym yn more
            refine B_findWay_145 (RF_of yw.1.1) hb hp ⟨5, by omega, D_isNext (by omega) yw hb hp ⟨q0', q1⟩ ⟨dr0, by omega⟩ (by omega) (by omega) (fun y' z yw' yf' fz ez n35 n36 => ?_) (fun y' yw' yf' no => ?_)⟩
            · have fz1 := fz.1
              have fz2 := fz.2.1
              have t := tr_ok (S := S) (b := b) (hr := z) kb ⟨q0', q1⟩ ⟨dr0, by omega⟩ (by omega)
              have ym' : rd y' 182 34 = (acc.length : Int) := ((yf' 182 34 (by decide) (by decide) (by omega)).trans ym.1).trans vm
              have y2' : ∀ i, rd y' 202 i = rd v 202 i := fun i => (yf' 202 i (by decide) (by decide) (by omega)).trans (ym.2 i)
              have fwy : frW h y' := fun a i n1 n2 n3 n4 n5 => (yf' a i n1 n2 (fun c => n5 ⟨c.1, by omega⟩)).trans (yf a i n1 n2 n3 n4 n5)
              have i1 : INV (wr y' 202 (rd y' 182 34) door) := wA_wayDoors yw'.1 (by omega) (by omega) (by omega)
              have wv : WC K S (wr y' 202 (rd y' 182 34) door) := by
                refine ⟨i1, ?_, ?_⟩
                · rw [← yw'.2.1]
                  exact key_frs (fun a i _ _ => rdw_ne (by omega)) (fun i _ _ => rdw_ne (by decide))
                · rw [← yw'.2.2]
                  exact funext (fun i => rdw_ne (by decide))
              have w3 := WC_fld (j := 34) (v := rd y' 182 34 + 1) (by omega) wv (wF_wayMany wv.1 (by omega) (by omega))
              refine B_findWay_160_1 (RF_of yw'.1.1) hb hp ⟨by omega, by omega, ?_⟩
              rw [n35, n36]
              rw [ye] at ez
              have nx : nxD K S b p till (rd u 201) hour q door z := ⟨fz, by omega⟩
              refine ih _ _ (z + 1) (acc ++ [door]) _ _ (by rw [ez]) fz.2.2.1 t.2.1 (t.2.2 fz.2.2.1) (by omega) (by omega) w3 (fun a i n1 n2 n3 n4 n5 => ?_) (fun i => ?_) ?_ (by rw [liL]; omega) (fun i hi => ?_) (fun rest hr => ?_)
              · rw [rd_wr, if_neg (by rintro ⟨rfl, rfl⟩; exact n5 ⟨rfl, Or.inl rfl⟩), rdw_ne (fun c => n4 c.symm)]
                exact fwy a i n1 n2 n3 n4 n5
              · rw [rdw_ne (by decide), rdw_ne (by decide), yf' 201 i (by decide) (by decide) (by omega)]
                exact ye i
              · rw [rdw_eq, ym', liL]
              · have el := liL acc door
                rw [rdw_ne (by decide), ym']
                by_cases c : i = acc.length
                · rw [c, rdw_eq, liA_2]
                · rw [rdw_nei (by omega), y2', liA_1 _ _ _ (by omega)]
                  exact vi i (by omega)
              · rw [List.append_assoc]
                exact vc (door :: rest) ⟨door, z, rest, rfl, ⟨dr0, by omega⟩, nx, yn, hr⟩
            · have ym' : rd y' 182 34 = rd v 182 34 := (yf' 182 34 (by decide) (by decide) (by omega)).trans ym.1
              have y2' : ∀ i, rd y' 202 i = rd v 202 i := fun i => (yf' 202 i (by decide) (by decide) (by omega)).trans (ym.2 i)
              have fwy : frW h y' := fun a i n1 n2 n3 n4 n5 => (yf' a i n1 n2 (fun c => n5 ⟨c.1, by omega⟩)).trans (yf a i n1 n2 n3 n4 n5)
              have ye' : ∀ i, rd y' 201 i = rd u 201 i := fun i => (yf' 201 i (by decide) (by decide) (by omega)).trans (ye i)
              have nn : ∀ x', ¬ nxD K S b p till (rd u 201) hour q door x' := fun x' nx => by
                have := no x' nx.1
                rw [ye] at this
                have := nx.2
                omega
              have ne : door ≠ d := fun c => nn X (by rw [c]; exact dX)
              exact B_findWay_160_0 (RF_of yw'.1.1) hb hp (by omega) (more y' ne yw' fwy ye' ⟨ym', y2'⟩ (fun d' x' c0 c1 => by
                by_cases t' : d' = door
                · rw [t']
                  exact nn x'
                · exact yn d' x' c0 (by omega)))
          induction m with
          | zero => exact fun y door hm dr0 dr1 yw yf ye ym yn => step y door dr0 dr1 yw yf ye ym yn (fun y' ne _ _ _ _ _ => by omega)
          | succ m im => exact fun y door hm dr0 dr1 yw yf ye ym yn => step y door dr0 dr1 yw yf ye ym yn (fun y' ne yw' yf' ye' ym' yn' => im y' (door + 1) (by omega) (by omega) (by omega) yw' yf' ye' ym' yn')
        have en : rd v 201 (20 * hour + q) - 1 = (n : Int) := by omega
        refine B_findWay_95 (RF_of vw.1.1) hb hp ⟨q0', q1⟩ (by omega) (by omega) ⟨by omega, fun _ => ⟨by omega, ?_⟩, fun c => by omega⟩
        rw [en]
        exact dl d.toNat v 0 (by omega) (by omega) (by omega) vw vf ve ⟨rfl, fun _ => rfl⟩ (fun d' x' c0 c1 => by omega)
    exact way D.toNat u q0 h0 [] none none (by omega) z0 z1 (by omega) (Int.le_refl _) (by omega) uw (fun a i n1 n2 n3 n4 n5 => by
      rw [uf a i n1 n2 n3]
      exact f1 a i n1 n2 n3 n4 n5) (fun _ => rfl) u34 (by show (0 : Int) + _ = _; omega) (fun i hi => absurd hi (Nat.not_lt_zero i)) (fun rest hr => hr)
  refine B_findWay_6 (RF_of gw.1.1) hb hp (by omega) ⟨fun c => ?_, fun c => ?_⟩
  · rw [e8] at c
    rw [e2, e7]
    have ek : k0F S b p = S (b + p + 2) := by
      unfold k0F
      rw [if_neg c]
    exact ⟨by omega, fun t => nil (Or.inl t), fun t => ⟨by omega, fun t2 => go _ ek t t2, fun t2 => nil (Or.inr (ek.trans t2))⟩⟩
  · rw [e8] at c
    rw [e2, e7]
    have ek : k0F S b p = S (b + p + 2) + 10 := by
      unfold k0F
      rw [if_pos c]
    exact ⟨by omega, fun t => nil (Or.inl t), fun t => ⟨by omega, fun t2 => go _ ek t t2, fun t2 => nil (Or.inr (ek.trans t2))⟩⟩
def frPl (h g : LH) : Prop := ∀ a i, a ≠ 78 → a ≠ 79 → ¬ (a = 77 ∧ (i = 0 ∨ i = 3 ∨ i = 4)) → rd g a i = rd h a i
def errC (h : LH) (p w : Int) : Prop := (0 ≤ p ∧ p < rd h 188 2) ∧ -1 ≤ w
/-- what errand answers, by hour and way -/
def errA (K : KEY) (S : Int → Int) (p w r : Int) : Prop := ∃ till, FHr K S 0 p (zshl 1 (K.1 (4 * p + 117) + 10)) till ∧ ((till < 0 ∧ r = -2) ∨ (0 ≤ till ∧ ((w = -1 ∧ r = till) ∨ (w = 0 ∧ ((till ≤ K.1 (4 * p + 119) ∧ r = 1) ∨ (K.1 (4 * p + 119) < till ∧ r = 0))) ∨ (1 ≤ w ∧ ∃ l, errW K S 0 p till l ∧ ((w ≤ (l.length : Int) ∧ r = liA l (w - 1).toNat) ∨ ((l.length : Int) < w ∧ r = -2))))))
def errJ (v1 v2 : Int) (h g : LH) (r : Int) : Prop := frPl h g ∧ ((¬ errC h v1 v2 ∧ r = -2) ∨ (errC h v1 v2 ∧ errA (key h) (rd h 198) v1 v2 r))
theorem E_errandS (he : 8 ≤ e) (hI : INV h) (hE : EQL h) (h1 : i32 v1) (h2 : i32 v2) (k : ∀ r g, INV g → errJ v1 v2 h g r → Q (some (.inl r)) g) : Rn xs xl e mm_OneSided_errand 0 [some (.inr (.inr 1)), some (.inl v1), some (.inl v2), none] [] h Q := by
  obtain ⟨L, hc⟩ := CXq_of hI hE
  have hK := KR_of hI
  have hq : rd h 1 1 = 5 ∨ rd h 1 1 = 32 := rQf hI.1
  obtain ⟨hF, hP, -, -, ⟨-, -, c4⟩, -⟩ := id hc
  have c4' : rd h (rd h 1 1) 4 = rd h 188 2 := c4
  have n2 := rq_people hI.1
  have k5 := hE.2.2.2.2.2.2.2.2.2.2.2.1
  have w : WC (key h) (rd h 198) h := ⟨hI, rfl, rfl⟩
  have A : Rn xs xl e mm_OneSided_errand 0 [some (.inr (.inr 1)), some (.inl v1), some (.inl v2), none] [] h (fun r g => ∃ x, r = some (.inl x) ∧ errJ v1 v2 h g x) := by
    have no : ¬ errC h v1 v2 → ∃ x, (some (.inl (-2)) : Option LV) = some (.inl x) ∧ errJ v1 v2 h h x := fun z => ⟨-2, rfl, fun _ _ _ _ _ => rfl, Or.inl ⟨z, rfl⟩⟩
    refine B_OneSided_errand_0 hq rfl hF hP (by omega) ⟨fun c => no (fun z => by have := z.1; omega), fun a1 => ⟨fun c => no (fun z => by have := z.1; omega), fun a2 => ⟨fun a3 => ⟨3, by omega, ?_⟩, fun c => no (fun z => by have := z.2; omega)⟩⟩⟩
    have p2 : v1 < rd h 188 2 := by omega
    have kb := KB_of w (p := v1) (by omega)
    have sb := SB_of w (b := 0) (p := v1) (by decide) (by decide) (by omega)
    have sv := SV_of k5 a1 p2
    have yc : errC h v1 v2 := ⟨⟨a1, p2⟩, a3⟩
    have hro : rd h 198 (0 + v1 + 2) < (key h).1 0 := by
      have := (INVw hI).1 v1 a1 (by omega) p2
      rw [show 0 + 2 + v1 = 0 + v1 + 2 by omega] at this
      exact this
    refine F_homeHour (Nat.le_refl 3) hc hK kb sb scn_60 (by decide) ⟨a1, p2⟩ sv (fun till ht => ?_)
    have neg := FHr_neg sb ht
    have e4 : rd h (rd h 1 1 + 21 + v1) 4 = (key h).1 (4 * v1 + 119) := (CXq_p hc a1 p2).2.2.2
    refine B_OneSided_errand_35 hq rfl hF hP (by omega) ⟨fun b1 => ⟨fun b2 => ⟨fun b3 => ⟨5, by omega, ?_⟩, fun b3 => ?_⟩, fun b2 => ⟨till, rfl, fun _ _ _ _ _ => rfl, Or.inr ⟨yc, till, ht, Or.inr ⟨by omega, Or.inl ⟨b2, rfl⟩⟩⟩⟩⟩, fun b1 => ⟨-2, rfl, fun _ _ _ _ _ => rfl, Or.inr ⟨yc, till, ht, Or.inl ⟨by omega, rfl⟩⟩⟩⟩
    · refine F_findWay (Nat.le_refl 5) hc hK kb sb hro scn_60 (by decide) ⟨a1, p2⟩ sv (fun g l till' gF gf ht' ew el le li => ?_)
      rw [FHr_one sb ht' ht] at ew
      refine B_OneSided_errand_96 gF ⟨by omega, h2.2⟩ ⟨fun c => ⟨-2, rfl, gf, Or.inr ⟨yc, till, ht, Or.inr ⟨by omega, Or.inr (Or.inr ⟨by omega, l, ew, Or.inr ⟨by omega, rfl⟩⟩)⟩⟩⟩, fun c => ⟨by omega, _, rfl, gf, Or.inr ⟨yc, till, ht, Or.inr ⟨by omega, Or.inr (Or.inr ⟨by omega, l, ew, Or.inl ⟨by omega, ?_⟩⟩)⟩⟩⟩⟩
      have := li (v2 - 1).toNat (by omega)
      rw [Int.toNat_of_nonneg (by omega)] at this
      exact this
    · rw [e4]
      exact ⟨fun c => ⟨0, rfl, fun _ _ _ _ _ => rfl, Or.inr ⟨yc, till, ht, Or.inr ⟨by omega, Or.inr (Or.inl ⟨b3, Or.inr ⟨c, rfl⟩⟩)⟩⟩⟩, fun c => ⟨1, rfl, fun _ _ _ _ _ => rfl, Or.inr ⟨yc, till, ht, Or.inr ⟨by omega, Or.inr (Or.inl ⟨b3, Or.inl ⟨c, rfl⟩⟩)⟩⟩⟩⟩
  have B : Rn xs xl e mm_OneSided_errand 0 [some (.inr (.inr 1)), some (.inl v1), some (.inl v2), none] [] h (fun r g => INV g) := use_sm TC_errand (as := [.inr (.inr 1), .inl v1, .inl v2]) rfl (Nat.le_trans (Nat.le_of_ble_eq_true rfl) he) hI (gAr_c (g_ref 1) (gAr_c (g_i h1) (gAr_c (g_i h2) gAr_n))) rfl (Nat.le_of_ble_eq_true rfl) rfl (fun r g gI gf gq => gI)
  refine (A.and B).mono (fun r g z => ?_)
  obtain ⟨⟨x, rfl, a⟩, b⟩ := z
  exact k x g b a
theorem G_errandS (he : 9 ≤ e) (hI : INV h) (hE : EQL h) (gI : INV g) (hj : errJ v1 v2 h g r) (k : ∀ g', INV g' → EQL g' → Q (some (.inl r)) g') : Rn xs xl e mm_errand 0 [some (.inr (.inr 182)), some (.inl v1), some (.inl v2), none] [] g Q := by
  obtain ⟨sm, hc⟩ := hj
  have EG : EQL g := EQL_fr hI hE (sm 2 0 (by decide) (by decide) (by decide)) (sm 182 2 (by decide) (by decide) (by decide)) (fun a i ha => by
    obtain ⟨y1, -⟩ := inK_p ha
    exact sm a i (by omega) (by omega) (by omega))
  have ek : key g = key h := key_frs (fun a i a0 a1 => sm a i (by omega) (by omega) (by omega)) (fun i _ _ => sm 182 i (by decide) (by decide) (by omega))
  have e8 : rd g 198 = rd h 198 := funext (fun i => sm 198 i (by decide) (by decide) (by omega))
  have n2 := rq_people gI.1
  have eC : errC g v1 v2 ↔ errC h v1 v2 := by
    unfold errC
    rw [sm 188 2 (by decide) (by decide) (by decide)]
  rw [← eC, ← ek, ← e8] at hc
  have no : ¬ errC g v1 v2 → Q (some (.inl (-2))) (wr g 182 0 0) := fun z => by
    obtain ⟨i1, e1⟩ := thr gI EG
    rcases hc with ⟨_, rfl⟩ | ⟨c, _⟩
    · exact k _ i1 e1
    · exact absurd c z
  refine B_errand_0 (RF_of gI.1) (by omega) ⟨fun c => no (fun z => by have := z.1; omega), fun a1 => ⟨fun c => no (fun z => by have := z.1; omega), fun a2 => ⟨fun c => no (fun z => by have := z.2; omega), fun a3 => ⟨8, by omega, ?_⟩⟩⟩⟩
  have w := WC_thr gI
  have sb := SB_of w (b := 0) (p := v1) (by decide) (by decide) (by omega)
  have kb := KB_of w (p := v1) (by omega)
  have hro : rd g 198 (0 + v1 + 2) < (key g).1 0 := by
    have := (INVw gI).1 v1 a1 (by omega) a2
    rw [show 0 + 2 + v1 = 0 + v1 + 2 by omega] at this
    exact this
  rcases hc with ⟨z, _⟩ | ⟨_, till, ht, ha⟩
  · exact absurd ⟨⟨a1, a2⟩, a3⟩ z
  have neg := FHr_neg sb ht
  refine G_findWayX (Nat.le_refl 8) w (by decide) (by decide) (by omega) hro (fun r' u l uw uf ht' ew el li => ?_)
  rw [FHr_one sb ht' ht] at ew ⊢
  have uk : ∀ x, x = r → Q (some (.inl x)) u := fun x ex => by
    rw [ex]
    refine k u uw.1 (EQL_fr gI EG ?_ ?_ (fun a i ha' => ?_))
    · exact (uf 2 0 (by decide) (by decide) (by decide) (by decide) (by decide)).trans (rdw_ne (by decide))
    · exact (uf 182 2 (by decide) (by decide) (by decide) (by decide) (by decide)).trans (rdw_nei (by decide))
    · obtain ⟨y1, y2, -⟩ := inK_p ha'
      exact (uf a i (by omega) (by omega) (by omega) (by omega) (by omega)).trans (by rw [rd_wr, if_neg (by omega)])
  have m := rF_wayMany uw.1.1
  have e9 : rd u 188 (4 * v1 + 119) = (key g).1 (4 * v1 + 119) := by
    have := uw.2.1
    rw [show rd u 188 (4 * v1 + 119) = (key u).1 (4 * v1 + 119) from rfl, this]
  refine B_errand_24 (RF_of uw.1.1) (by omega) ⟨fun c => uk (-2) ?_, fun c => ⟨fun c2 => ⟨fun c3 => ⟨fun c4 => ⟨by omega, by omega, uk _ ?_⟩, fun c4 => ⟨by omega, by omega, by omega, by omega, fun c5 => uk 0 ?_, fun c5 => uk 1 ?_⟩⟩, fun c3 => uk till ?_⟩, fun c2 => uk (-2) ?_⟩⟩
  · rcases ha with ⟨_, y⟩ | ⟨y, _⟩
    · exact y.symm
    · omega
  · rcases ha with ⟨y, _⟩ | ⟨_, ⟨y, _⟩ | ⟨y, _⟩ | ⟨y, l', ew', ⟨_, z⟩ | ⟨z, _⟩⟩⟩
    · omega
    · omega
    · omega
    · have elq := errW_one kb sb hro ew ew'
      rw [← elq] at z
      have := li (v2 - 1).toNat (by omega)
      rw [Int.toNat_of_nonneg (by omega)] at this
      exact this.trans z.symm
    · have elq := errW_one kb sb hro ew ew'
      rw [← elq] at z
      omega
  · rcases ha with ⟨y, _⟩ | ⟨_, ⟨y, _⟩ | ⟨_, ⟨z, _⟩ | ⟨_, z⟩⟩ | ⟨y, _⟩⟩
    · omega
    · omega
    · omega
    · exact z.symm
    · omega
  · rcases ha with ⟨y, _⟩ | ⟨_, ⟨y, _⟩ | ⟨_, ⟨_, z⟩ | ⟨z, _⟩⟩ | ⟨y, _⟩⟩
    · omega
    · omega
    · exact z.symm
    · omega
    · omega
  · rcases ha with ⟨y, _⟩ | ⟨_, ⟨_, z⟩ | ⟨y, _⟩ | ⟨y, _⟩⟩
    · omega
    · exact z.symm
    · omega
    · omega
  · rcases ha with ⟨_, y⟩ | ⟨_, ⟨y, _⟩ | ⟨y, _⟩ | ⟨y, l', ew', ⟨z, _⟩ | ⟨_, z⟩⟩⟩
    · exact y.symm
    · omega
    · omega
    · have elq := errW_one kb sb hro ew ew'
      rw [← elq] at z
      omega
    · exact z.symm
end ZE
end
section
/-! turn, part v1: into which room the reference's door leads, with some doors turned -/
noncomputable def inTu (f : Int → Int) (L : List Int) (s room hr sh tt d : Int) : Int :=
  @ite Int (f 2 = room ∧ wAh f L s hr (f 8) tt ∧ ¬ bitZ sh d) (Classical.propDecidable _) (f 3) (@ite Int (f 3 = room ∧ wBk f L s hr (f 8) tt ∧ ¬ bitZ sh d) (Classical.propDecidable _) (f 2) (-1))
section VA
variable {xs : Nat → Int} {xl e : Nat} {h : LH} {Q : Option LV → LH → Prop} {d s room hr sh tt tu : Int} {L : List Int} {f : Int → Int}
theorem inT_1 (n : ¬ lbk f hr tt) (r : room = f 2) : (lets f L s hr (f 8) (f 3) → ¬ bitZ sh d → inTu f L s room hr sh tt d = f 3) ∧ (¬ (lets f L s hr (f 8) (f 3) ∧ ¬ bitZ sh d) → inTu f L s room hr sh tt d = -1) := by
  unfold inTu wAh wBk
  refine ⟨fun a b => by rw [if_pos ⟨r.symm, ⟨Or.inr n, a⟩, b⟩], fun a => ?_⟩
  rw [if_neg (fun z => a ⟨z.2.1.2, z.2.2⟩), if_neg (fun z => a ⟨?_, z.2.2⟩)]
  have e : f 3 = f 2 := z.1.trans r
  rw [e]
  exact z.2.1.2
theorem inT_2 (n : ¬ lbk f hr tt) (r : room ≠ f 2) (t : s = 3 ∧ room = f 3) : (lets f L s hr (f 8) (f 2) → ¬ bitZ sh d → inTu f L s room hr sh tt d = f 2) ∧ (¬ (lets f L s hr (f 8) (f 2) ∧ ¬ bitZ sh d) → inTu f L s room hr sh tt d = -1) := by
  unfold inTu wAh wBk
  refine ⟨fun a b => by rw [if_neg (fun z => r z.1.symm), if_pos ⟨t.2.symm, ⟨Or.inl t.1, a⟩, b⟩], fun a => ?_⟩
  rw [if_neg (fun z => r z.1.symm), if_neg (fun z => a ⟨z.2.1.2, z.2.2⟩)]
theorem inT_3 (n : ¬ lbk f hr tt) (r : room ≠ f 2) (t : ¬ (s = 3 ∧ room = f 3)) : inTu f L s room hr sh tt d = -1 := by
  unfold inTu wAh wBk
  rw [if_neg (fun z => r z.1.symm), if_neg (fun z => ?_)]
  rcases z.2.1.1 with y | y
  · exact t ⟨y, z.1.symm⟩
  · exact n y
theorem inT_4 (n : lbk f hr tt) (r : room = f 3) : (lets f L s hr (f 8) (f 2) → ¬ bitZ sh d → inTu f L s room hr sh tt d = f 2) ∧ (¬ (lets f L s hr (f 8) (f 2) ∧ ¬ bitZ sh d) → inTu f L s room hr sh tt d = -1) := by
  unfold inTu wAh wBk
  refine ⟨fun a b => ?_, fun a => ?_⟩
  · by_cases z : f 2 = room ∧ ((s = 3 ∨ ¬ lbk f hr tt) ∧ lets f L s hr (f 8) (f 3)) ∧ ¬ bitZ sh d
    · rw [if_pos z, z.1, r]
    · rw [if_neg z, if_pos ⟨r.symm, ⟨Or.inr n, a⟩, b⟩]
  · rw [if_neg (fun z => a ⟨?_, z.2.2⟩), if_neg (fun z => a ⟨z.2.1.2, z.2.2⟩)]
    have e : f 2 = f 3 := z.1.trans r
    rw [e]
    exact z.2.1.2
theorem inT_5 (n : lbk f hr tt) (r : room ≠ f 3) (t : s = 3 ∧ room = f 2) : (lets f L s hr (f 8) (f 3) → ¬ bitZ sh d → inTu f L s room hr sh tt d = f 3) ∧ (¬ (lets f L s hr (f 8) (f 3) ∧ ¬ bitZ sh d) → inTu f L s room hr sh tt d = -1) := by
  unfold inTu wAh wBk
  refine ⟨fun a b => by rw [if_pos ⟨t.2.symm, ⟨Or.inl t.1, a⟩, b⟩], fun a => ?_⟩
  rw [if_neg (fun z => a ⟨z.2.1.2, z.2.2⟩), if_neg (fun z => r z.1.symm)]
theorem inT_6 (n : lbk f hr tt) (r : room ≠ f 3) (t : ¬ (s = 3 ∧ room = f 2)) : inTu f L s room hr sh tt d = -1 := by
  unfold inTu wAh wBk
  rw [if_neg (fun z => ?_), if_neg (fun z => r z.1.symm)]
  rcases z.2.1.1 with y | y
  · exact t ⟨y, z.1.symm⟩
  · exact y n
theorem G_leadsToT (t01 : tt = 0 ∨ tt = 1) (ht : zand (zshr tu d) 1 = tt) (he : 3 ≤ e) (hd : 0 ≤ d ∧ d ≤ 13) (hF : RF h) (hf : ∀ j : Nat, j < 8 → f ((j : Int) + 1) = rd h 188 (8 * d + 4 + (j : Int))) (h2 : 0 ≤ f 2 ∧ f 2 ≤ 9) (h3 : 0 ≤ f 3 ∧ f 3 ≤ 9) (h6 : -1 ≤ f 6) (p1 : d ≠ rd h 182 28) (p2 : d ≠ rd h 182 29)
    (l0 : L.length = 0 → rd h 188 3 < 0) (l1 : 0 < L.length → rd h 188 3 = 0 ∧ rd h 189 (L.length : Int) = 0 ∧ ∀ i : Nat, i < L.length → rd h 189 i = cdO (L.getD i 0) ∧ rd h 190 i = cdA (L.getD i 0)) (l3 : L.length ≤ 1000) (hO : hOk 32 L 0) (hE : 0 < L.length → hEnd L 0 = 1) (hr' : ∀ c ∈ L, cdR c)
    (k : ∀ h', Q (some (.inl (inTu f L s room hr sh tt d))) h') : Rn xs xl e mm_leadsTo 0 [some (.inr (.inr 182)), some (.inl d), some (.inl s), some (.inl room), some (.inl hr), some (.inl sh), some (.inl tu), none, none, none, none, none] [] h Q := by
  have F1 : f 1 = rd h 188 (8 * d + 4) := (hf 0 (by decide)).trans (by rw [show 8 * d + 4 + ((0 : Nat) : Int) = 8 * d + 4 by omega])
  have F2 : f 2 = rd h 188 (8 * d + 5) := (hf 1 (by decide)).trans (by rw [show 8 * d + 4 + ((1 : Nat) : Int) = 8 * d + 5 by omega])
  have F3 : f 3 = rd h 188 (8 * d + 6) := (hf 2 (by decide)).trans (by rw [show 8 * d + 4 + ((2 : Nat) : Int) = 8 * d + 6 by omega])
  have F4 : f 4 = rd h 188 (8 * d + 7) := (hf 3 (by decide)).trans (by rw [show 8 * d + 4 + ((3 : Nat) : Int) = 8 * d + 7 by omega])
  have F5 : f 5 = rd h 188 (8 * d + 8) := (hf 4 (by decide)).trans (by rw [show 8 * d + 4 + ((4 : Nat) : Int) = 8 * d + 8 by omega])
  have F6 : f 6 = rd h 188 (8 * d + 9) := (hf 5 (by decide)).trans (by rw [show 8 * d + 4 + ((5 : Nat) : Int) = 8 * d + 9 by omega])
  have F8 : f 8 = rd h 188 (8 * d + 11) := (hf 7 (by decide)).trans (by rw [show 8 * d + 4 + ((7 : Nat) : Int) = 8 * d + 11 by omega])
  clear hf
  have tail : ∀ (w v8 v9 it : Int), it ≤ 9 → (0 ≤ it → lets f L s hr (f 8) it → ¬ bitZ sh d → inTu f L s room hr sh tt d = it) → (¬ (0 ≤ it ∧ lets f L s hr (f 8) it ∧ ¬ bitZ sh d) → inTu f L s room hr sh tt d = -1) → Rn xs xl e mm_leadsTo 119 [some (.inr (.inr 182)), some (.inl d), some (.inl s), some (.inl room), some (.inl hr), some (.inl sh), some (.inl tu), some (.inl w), some (.inl v8), some (.inl v9), none, none] [.inl it] h Q := by
    intro w v8 v9 it i9 Hy Hn
    by_cases c : 0 ≤ it ∧ rd h 188 (8 * d + 7) ≤ hr ∧ hr < rd h 188 (8 * d + 8) ∧ rd h 188 (8 * d + 4) ≠ 3 ∧ zand (zshr sh d) 1 ≠ 1 ∧ (rd h 188 (8 * d + 9) < 0 ∨ rd h 188 (8 * d + 9) = s ∨ s = 3)
    · have law : ∀ v, v = lawW (fcs hr s (f 8) it) L → (v = 0 → inTu f L s room hr sh tt d = -1) ∧ (v ≠ 0 → inTu f L s room hr sh tt d = it) := fun v hv => ⟨fun z => Hn (fun y => y.2.1.2.2.2.2 (hv.symm.trans z)), fun z => Hy c.1 ⟨by omega, by omega, by omega, by omega, fun y => z (hv.trans y)⟩ c.2.2.2.2.1⟩
      have next : Rn xs xl e mm_leadsTo 196 [some (.inr (.inr 182)), some (.inl d), some (.inl s), some (.inl room), some (.inl hr), some (.inl sh), some (.inl tu), some (.inl w), some (.inl v8), some (.inl v9), some (.inl it), none] [.inl 1] h Q := by
        refine B_leadsTo_196_1 hF (by omega) ⟨fun _ => ⟨fun _ => ⟨by omega, by omega, by omega, by omega, fun q => ?_, fun q => ?_⟩, fun q => absurd q p2⟩, fun q => absurd q p1⟩
        · have z : L.length = 0 := by
            rcases Nat.eq_zero_or_pos L.length with z | z
            · exact z
            · have := (l1 z).1; omega
          have := (law (lawW (fcs hr s (f 8) it) L) rfl).2 (by unfold lawW; rw [if_pos z]; decide)
          rw [← this]
          exact k _
        · have z : 0 < L.length := by
            rcases Nat.eq_zero_or_pos L.length with z | z
            · have := l0 z; omega
            · exact z
          obtain ⟨z3, za, zb⟩ := l1 z
          rw [z3]
          have fr : ∀ a i, a ≠ 196 → rd (wr (wr (wr (wr h 196 0 hr) 196 1 s) 196 2 (rd h 188 (8 * d + 11))) 196 3 it) a i = rd h a i := fun a i n => by rw [rdw_ne (fun q => n q.symm), rdw_ne (fun q => n q.symm), rdw_ne (fun q => n q.symm), rdw_ne (fun q => n q.symm)]
          have h196 : ∀ i, (hav 196 i).1 ≠ 2 := fun i => hav_nr (by decide +kernel) i
          refine ⟨1, by omega, G_worthAt (L := L) (f := fcs hr s (f 8) it) (by omega) (RF_wn (h196 _) (RF_wn (h196 _) (RF_wn (h196 _) (RF_wn (h196 _) hF)))) ((fr _ _ (by decide)).trans za) (fun i hi => ?_) (fun j j0 j1 => ?_) l3 z hO (hE z) hr' (fun h' hF' ff => B_leadsTo_258 hF' ⟨fun y => ?_, fun y => ?_⟩)⟩
          · rw [fr _ _ (by decide), fr _ _ (by decide)]
            exact zb i hi
          · rcases (show j = 0 ∨ j = 1 ∨ j = 2 ∨ j = 3 by omega) with rfl | rfl | rfl | rfl
            · rw [rdw_nei (by decide), rdw_nei (by decide), rdw_nei (by decide), rdw_eq]
              rfl
            · rw [rdw_nei (by decide), rdw_nei (by decide), rdw_eq]
              rfl
            · rw [rdw_nei (by decide), rdw_eq, F8]
              rfl
            · rw [rdw_eq]
              rfl
          · rw [← (law _ rfl).1 y]
            exact k _
          · have := (law _ rfl).2 y
            rw [← this]
            exact k _
      clear law Hy Hn k l0 l1
      refine B_leadsTo_119 hF (by omega) ?_
      (repeat' (first | apply And.intro | intro _)) <;> (first | exact next | omega | (exfalso; omega))
    · have K := Hn (fun y => c ⟨y.1, by have := y.2.1.2.1; omega, by have := y.2.1.2.2.1; omega, by have := y.2.1.1; omega, y.2.2, by have := y.2.1.2.2.2.1; omega⟩)
      have next : Rn xs xl e mm_leadsTo 196 [some (.inr (.inr 182)), some (.inl d), some (.inl s), some (.inl room), some (.inl hr), some (.inl sh), some (.inl tu), some (.inl w), some (.inl v8), some (.inl v9), some (.inl it), none] [.inl 0] h Q := B_leadsTo_196_0 hF (by rw [← K]; exact k _)
      clear Hy Hn k l0 l1
      refine B_leadsTo_119 hF (by omega) ?_
      (repeat' (first | apply And.intro | intro _)) <;> (first | exact next | omega | (exfalso; omega))
  clear k l0 l1
  have t55 : ∀ w : Int, (w = 0 ∨ w = 1) → (w = 1 ↔ lbk f hr tt) → Rn xs xl e mm_leadsTo 55 [some (.inr (.inr 182)), some (.inl d), some (.inl s), some (.inl room), some (.inl hr), some (.inl sh), some (.inl tu), none, none, none, none, none] [.inl w] h Q := by
    intro w w01 hw
    rcases w01 with rfl | rfl
    · have n : ¬ lbk f hr tt := fun z => absurd (hw.mpr z) (by decide)
      by_cases c1 : room = f 2
      · have T := tail 0 (f 2) (f 3) (f 3) h3.2 (fun _ a b => (inT_1 n c1).1 a b) (fun a => (inT_1 n c1).2 (fun z => a ⟨h3.1, z⟩))
        clear tail
        rw [F2, F3] at T
        refine B_leadsTo_55 hF (by omega) ?_
        (repeat' (first | apply And.intro | intro _)) <;> (first | exact T | omega | (exfalso; omega))
      · by_cases c2 : s = 3 ∧ room = f 3
        · have T := tail 0 (f 2) (f 3) (f 2) h2.2 (fun _ a b => (inT_2 n c1 c2).1 a b) (fun a => (inT_2 n c1 c2).2 (fun z => a ⟨h2.1, z⟩))
          clear tail
          rw [F2, F3] at T
          refine B_leadsTo_55 hF (by omega) ?_
          (repeat' (first | apply And.intro | intro _)) <;> (first | exact T | omega | (exfalso; omega))
        · have T := tail 0 (f 2) (f 3) (-1) (by decide) (fun a => absurd a (by decide)) (fun _ => inT_3 n c1 c2)
          clear tail
          rw [F2, F3] at T
          refine B_leadsTo_55 hF (by omega) ?_
          (repeat' (first | apply And.intro | intro _)) <;> (first | exact T | omega | (exfalso; omega))
    · have n : lbk f hr tt := hw.mp rfl
      by_cases c1 : room = f 3
      · have T := tail 1 (f 3) (f 2) (f 2) h2.2 (fun _ a b => (inT_4 n c1).1 a b) (fun a => (inT_4 n c1).2 (fun z => a ⟨h2.1, z⟩))
        clear tail
        rw [F2, F3] at T
        refine B_leadsTo_55 hF (by omega) ?_
        (repeat' (first | apply And.intro | intro _)) <;> (first | exact T | omega | (exfalso; omega))
      · by_cases c2 : s = 3 ∧ room = f 2
        · have T := tail 1 (f 3) (f 2) (f 3) h3.2 (fun _ a b => (inT_5 n c1 c2).1 a b) (fun a => (inT_5 n c1 c2).2 (fun z => a ⟨h3.1, z⟩))
          clear tail
          rw [F2, F3] at T
          refine B_leadsTo_55 hF (by omega) ?_
          (repeat' (first | apply And.intro | intro _)) <;> (first | exact T | omega | (exfalso; omega))
        · have T := tail 1 (f 3) (f 2) (-1) (by decide) (fun a => absurd a (by decide)) (fun _ => inT_6 n c1 c2)
          clear tail
          rw [F2, F3] at T
          refine B_leadsTo_55 hF (by omega) ?_
          (repeat' (first | apply And.intro | intro _)) <;> (first | exact T | omega | (exfalso; omega))
  clear tail
  by_cases c : lbk f hr tt
  · have T := t55 1 (Or.inr rfl) ⟨fun _ => c, fun _ => rfl⟩
    clear t55
    unfold lbk at c
    rw [F1] at c
    clear F1 F2 F3 F4 F5 F6 F8 hr'
    refine B_leadsTo_0 hF (by omega) ?_
    (repeat' (first | apply And.intro | intro _)) <;> (first | exact T | omega | (exfalso; omega))
  · have T := t55 0 (Or.inl rfl) ⟨fun z => absurd z (by decide), fun z => absurd z c⟩
    clear t55
    unfold lbk at c
    rw [F1] at c
    clear F1 F2 F3 F4 F5 F6 F8 hr'
    refine B_leadsTo_0 hF (by omega) ?_
    (repeat' (first | apply And.intro | intro _)) <;> (first | exact T | omega | (exfalso; omega))
theorem LF_inT (hI : INV h) (hd : 0 ≤ d ∧ d ≤ 13) (hs : 0 ≤ s ∧ s ≤ 3) (hro : 0 ≤ room ∧ room ≤ 9) (hhr : 0 ≤ hr ∧ hr ≤ 25) (hf : ∀ j : Nat, j < 8 → f ((j : Int) + 1) = rd h 188 (8 * d + 4 + (j : Int))) (h2 : 0 ≤ f 2 ∧ f 2 ≤ 9) (h3 : 0 ≤ f 3 ∧ f 3 ≤ 9) (h6 : -1 ≤ f 6) (p1 : rd h 182 28 = -1) (p2 : rd h 182 29 = -1) (hl : LRQ h L) : LF (key h) d s room hr sh tu = inTu f L s room hr sh (zand (zshr tu d) 1) d := by
  obtain ⟨l0, l1, l3, hO, hE, hr'⟩ := hl
  have a := (LF_ok (key h) sh tu hd hs hro hhr).2.2.2 (fun _ => 0) 0 3 h (fun r _ => r = some (.inl (LF (key h) d s room hr sh tu))) (by decide) hI rfl (fun _ _ _ => rfl)
  have b := G_leadsToT (xs := fun _ => 0) (xl := 0) (e := 3) (s := s) (room := room) (hr := hr) (sh := sh) (tu := tu) (tt := zand (zshr tu d) 1) (Q := fun r _ => r = some (.inl (inTu f L s room hr sh (zand (zshr tu d) 1) d))) (bitZ_01 tu d) rfl (by decide) hd (RF_of hI.1) hf h2 h3 h6 (by omega) (by omega) l0 l1 l3 hO hE hr' (fun _ => rfl)
  obtain ⟨_, r, _, _, e1, e2⟩ := a.and b
  rw [e1] at e2
  injection e2 with e3
  injection e3 with e4
/-- where every door leads, whichever are turned -/
def TLF (h : LH) (K : KEY) (q : Int) (L : List Int) : Prop := ∀ d s a hr sh tu, 0 ≤ d → d < K.1 1 → 0 ≤ s → s ≤ 3 → 0 ≤ a → a ≤ 9 → 0 ≤ hr → hr ≤ 23 → LF K d s a hr sh tu = inTu (rd h (q + 7 + d)) L s a hr sh (zand (zshr tu d) 1) d
theorem CXq_ofT (hI : INV h) (hE : EQL h) : ∃ L, CXq h (key h) (rd h 1 1) L ∧ LWQ h (rd h 1 1) L ∧ TLF h (key h) (rd h 1 1) L := by
  obtain ⟨-, -, hP, -, -, -, -, ⟨k1, ⟨L, l1, l2⟩, p28, p29, -⟩⟩ := id hE
  have hq : rd h 1 1 = 5 ∨ rd h 1 1 = 32 := rQf hI.1
  have lr := LRQ_of hI k1 l1
  refine ⟨L, ⟨RF_of hI.1, hP, hq, rfl, ⟨k1.1, k1.2.1, k1.2.2.1⟩, fun d d0 d1 j hj => fdD k1 rfl d0 d1 j hj, fun p p0 p1 j hj => fdP k1 rfl p0 p1 j hj, l2, fun d s a hr sh d0 d1 s0 s1 a0 a1 h0 h1 => ?_⟩, l1, fun d s a hr sh tu d0 d1 s0 s1 a0 a1 h0 h1 => ?_⟩
  · have d1' : d < rd h 188 1 := d1
    have nd := rq_doors hI.1
    have fd := fdD (v1 := d) k1 rfl d0 d1'
    have f2 : rd h (rd h 1 1 + 7 + d) 2 = rd h 188 (8 * d + 4 + 1) := fd 1 (by decide)
    have f3 : rd h (rd h 1 1 + 7 + d) 3 = rd h 188 (8 * d + 4 + 2) := fd 2 (by decide)
    have f6 : rd h (rd h 1 1 + 7 + d) 6 = rd h 188 (8 * d + 4 + 5) := fd 5 (by decide)
    have r2 := rq_d1 hI.1 (i := 8 * d + 4 + 1) (d := d) (by omega) d0 (by omega)
    have r3 := rq_d2 hI.1 (i := 8 * d + 4 + 2) (d := d) (by omega) d0 (by omega)
    have r6 := rq_d5 hI.1 (i := 8 * d + 4 + 5) (d := d) (by omega) d0 (by omega)
    exact LF_in hI ⟨d0, by omega⟩ ⟨s0, s1⟩ ⟨a0, a1⟩ ⟨h0, by omega⟩ fd (by omega) (by omega) (by omega) p28 p29 lr
  · have d1' : d < rd h 188 1 := d1
    have nd := rq_doors hI.1
    have fd := fdD (v1 := d) k1 rfl d0 d1'
    have f2 : rd h (rd h 1 1 + 7 + d) 2 = rd h 188 (8 * d + 4 + 1) := fd 1 (by decide)
    have f3 : rd h (rd h 1 1 + 7 + d) 3 = rd h 188 (8 * d + 4 + 2) := fd 2 (by decide)
    have f6 : rd h (rd h 1 1 + 7 + d) 6 = rd h 188 (8 * d + 4 + 5) := fd 5 (by decide)
    have r2 := rq_d1 hI.1 (i := 8 * d + 4 + 1) (d := d) (by omega) d0 (by omega)
    have r3 := rq_d2 hI.1 (i := 8 * d + 4 + 2) (d := d) (by omega) d0 (by omega)
    have r6 := rq_d5 hI.1 (i := 8 * d + 4 + 5) (d := d) (by omega) d0 (by omega)
    exact LF_inT hI ⟨d0, by omega⟩ ⟨s0, s1⟩ ⟨a0, a1⟩ ⟨h0, by omega⟩ fd (by omega) (by omega) (by omega) p28 p29 lr
end VA
end
section
/-! cut, part c1: how many bits -/
def pcP (x : Int) : Nat → Int
  | 0 => 0
  | n + 1 => pcP x n + zand (zshr x (n : Int)) 1
def bc1 (v : Int) : Int := w32 (v - (zand (zushr v 1) 1431655765))
def bc2 (v : Int) : Int := w32 ((zand v 858993459) + (zand (zushr v 2) 858993459))
def bc3 (v : Int) : Int := zand (w32 (v + (zushr v 4))) 252645135
def bc4 (v : Int) : Int := w32 (v + (zushr v 8))
def bc5 (v : Int) : Int := w32 (v + (zushr v 16))
def bcZ (v : Int) : Int := zand (bc5 (bc4 (bc3 (bc2 (bc1 v))))) 63
/-- both ways of counting are alike for the 1024 numbers from 1024 j on -/
def bcB (j : Nat) : Bool := (List.range 32).all (fun a => (List.range 32).all (fun b => decide (bcZ ((1024 * j + 32 * a + b : Nat) : Int) = pcP ((1024 * j + 32 * a + b : Nat) : Int) 14)))
theorem bc_0 : bcB 0 = true := by decide +kernel
theorem bc_1 : bcB 1 = true := by decide +kernel
theorem bc_2 : bcB 2 = true := by decide +kernel
theorem bc_3 : bcB 3 = true := by decide +kernel
theorem bc_4 : bcB 4 = true := by decide +kernel
theorem bc_5 : bcB 5 = true := by decide +kernel
theorem bc_6 : bcB 6 = true := by decide +kernel
theorem bc_7 : bcB 7 = true := by decide +kernel
theorem bc_8 : bcB 8 = true := by decide +kernel
theorem bc_9 : bcB 9 = true := by decide +kernel
theorem bc_10 : bcB 10 = true := by decide +kernel
theorem bc_11 : bcB 11 = true := by decide +kernel
theorem bc_12 : bcB 12 = true := by decide +kernel
theorem bc_13 : bcB 13 = true := by decide +kernel
theorem bc_14 : bcB 14 = true := by decide +kernel
theorem bc_15 : bcB 15 = true := by decide +kernel
theorem bc_all : ∀ j : Nat, j < 16 → bcB j = true
  | 0, _ => bc_0
  | 1, _ => bc_1
  | 2, _ => bc_2
  | 3, _ => bc_3
  | 4, _ => bc_4
  | 5, _ => bc_5
  | 6, _ => bc_6
  | 7, _ => bc_7
  | 8, _ => bc_8
  | 9, _ => bc_9
  | 10, _ => bc_10
  | 11, _ => bc_11
  | 12, _ => bc_12
  | 13, _ => bc_13
  | 14, _ => bc_14
  | 15, _ => bc_15
  | n + 16, h => absurd h (by omega)
theorem bc_ok {x : Int} (h0 : 0 ≤ x) (h1 : x < 16384) : bcZ x = pcP x 14 := by
  have e : x = ((1024 * (x.toNat / 1024) + 32 * (x.toNat % 1024 / 32) + x.toNat % 32 : Nat) : Int) := by omega
  have h2 : bcB (x.toNat / 1024) = true := bc_all _ (by omega)
  unfold bcB at h2
  have h3 : (List.range 32).all (fun b => decide (bcZ ((1024 * (x.toNat / 1024) + 32 * (x.toNat % 1024 / 32) + b : Nat) : Int) = pcP ((1024 * (x.toNat / 1024) + 32 * (x.toNat % 1024 / 32) + b : Nat) : Int) 14)) = true := List.all_eq_true.mp h2 (x.toNat % 1024 / 32) (List.mem_range.mpr (by omega))
  have h4 : decide (bcZ ((1024 * (x.toNat / 1024) + 32 * (x.toNat % 1024 / 32) + x.toNat % 32 : Nat) : Int) = pcP ((1024 * (x.toNat / 1024) + 32 * (x.toNat % 1024 / 32) + x.toNat % 32 : Nat) : Int) 14) = true := List.all_eq_true.mp h3 (x.toNat % 32) (List.mem_range.mpr (by omega))
  have h5 := of_decide_eq_true h4
  rw [← e] at h5
  exact h5
section CA
variable {xs : Nat → Int} {xl e : Nat} {h g : LH} {Q : Option LV → LH → Prop} {r s x : Int}
theorem pcP_in (x : Int) (n : Nat) : 0 ≤ pcP x n ∧ pcP x n ≤ n := by
  induction n with
  | zero => exact ⟨Int.le_refl _, Int.le_refl _⟩
  | succ n ih =>
    have b := bitZ_01 x (n : Int)
    show 0 ≤ pcP x n + zand (zshr x (n : Int)) 1 ∧ pcP x n + zand (zshr x (n : Int)) 1 ≤ ((n + 1 : Nat) : Int)
    omega
theorem pcP_le (h : ∀ k, 0 ≤ k → k < 32 → bitZ r k → bitZ s k) : ∀ n : Nat, n ≤ 32 → pcP r n ≤ pcP s n
  | 0, _ => Int.le_refl _
  | n + 1, hn => by
    have ih := pcP_le h n (by omega)
    have b := bit_le (h (n : Int) (by omega) (by omega))
    show pcP r n + zand (zshr r (n : Int)) 1 ≤ pcP s n + zand (zshr s (n : Int)) 1
    omega
theorem pcP_lt (h : ∀ k, 0 ≤ k → k < 32 → bitZ r k → bitZ s k) {k : Int} (k0 : 0 ≤ k) (hr : ¬ bitZ r k) (hs : bitZ s k) : ∀ n : Nat, n ≤ 32 → k < n → pcP r n < pcP s n
  | 0, _, c => by omega
  | n + 1, hn, c => by
    have b := bit_le (h (n : Int) (by omega) (by omega))
    show pcP r n + zand (zshr r (n : Int)) 1 < pcP s n + zand (zshr s (n : Int)) 1
    by_cases z : k = (n : Int)
    · have ih := pcP_le h n (by omega)
      have z1 := bitZ_n.mp hr
      have y1 : zand (zshr s k) 1 = 1 := hs
      rw [z] at z1 y1
      omega
    · have ih := pcP_lt h k0 hr hs n (by omega) (by omega)
      omega
theorem pcP_st (k0 : 0 ≤ r) : pcP x (r + 1).toNat = pcP x r.toNat + zand (zshr x r) 1 := by
  rw [show (r + 1).toNat = r.toNat + 1 by omega]
  show pcP x r.toNat + zand (zshr x (r.toNat : Int)) 1 = _
  rw [Int.toNat_of_nonneg k0]
theorem bit_hi (h0 : 0 ≤ x) (h1 : x < 16384) {k : Int} (k0 : 0 ≤ k) (k1 : k < 32) (hb : bitZ x k) : k < 14 := by
  refine Classical.byContradiction (fun n => ?_)
  rw [bitZ_iff k0 k1] at hb
  have e1 : (Int32.ofInt x).toBitVec.toNat = x.toNat := ofI h0 (by unfold i32; omega)
  have e2 : (Int32.ofInt x).toBitVec.getLsbD k.toNat = x.toNat.testBit k.toNat := by
    rw [← e1]
    rfl
  have e3 : (2 : Nat) ^ 14 ≤ 2 ^ k.toNat := Nat.pow_le_pow_right (by decide) (by omega)
  have e4 : x.toNat.testBit k.toNat = false := Nat.testBit_lt_two_pow (Nat.lt_of_lt_of_le (by omega) e3)
  rw [e2, e4] at hb
  exact absurd hb (by decide)
theorem F_bitCount (hF : RF h) (h0 : 0 ≤ x) (h1 : x < 16384) (k : Q (some (.inl (pcP x 14))) h) : Rn xs xl e mm_java_lang_Integer_bitCount 0 [some (.inl x)] [] h Q := by
  rw [← bc_ok h0 h1] at k
  exact B_bitCount_0 hF (B_bitCount_10 hF (B_bitCount_24 hF (B_bitCount_34 hF (B_bitCount_41 hF (B_bitCount_48 hF k)))))
theorem G_bits (hF : RF h) (k : Q (some (.inl (pcP x 14))) h) : Rn xs xl e mm_bits 0 [some (.inl x), none, none] [] h Q := by
  have loop : ∀ (m : Nat) (v2 : Int), 14 - v2 ≤ m → 0 ≤ v2 → v2 ≤ 14 → Rn xs xl e mm_bits 4 [some (.inl x), some (.inl (pcP x v2.toNat)), some (.inl v2)] [] h Q := by
    intro m
    have stop : ∀ v2 : Int, 14 ≤ v2 → v2 ≤ 14 → Q (some (.inl (pcP x v2.toNat))) h := fun v2 a c => by
      rw [show v2 = 14 by omega]
      exact k
    induction m with
    | zero =>
      intro v2 hm a0 a1
      have i := pcP_in x v2.toNat
      exact B_bits_4 hF (by omega) (by omega) ⟨fun c => stop v2 c a1, fun c => by omega⟩
    | succ m ih =>
      intro v2 hm a0 a1
      have i := pcP_in x v2.toNat
      have b := bitZ_01 x v2
      refine B_bits_4 hF (by omega) (by omega) ⟨fun c => stop v2 c a1, fun c => ⟨by omega, ?_⟩⟩
      rw [← pcP_st a0]
      exact ih (v2 + 1) (by omega) (by omega) (by omega)
  exact B_bits_0 hF (loop 14 0 (by omega) (by omega) (by omega))
end CA
end
section
/-! cut, part c2: the least set of doors -/
/-- of the sets below n that hold, one with the fewest bits, among those the least number -/
noncomputable def bst (P : Int → Prop) : Nat → Int
  | 0 => -1
  | n + 1 => @ite Int ((bst P n < 0 ∨ pcP (n : Int) 14 < pcP (bst P n) 14) ∧ P (n : Int)) (Classical.propDecidable _) (n : Int) (bst P n)
def cutP (K : KEY) (s hr sh a b x : Int) : Prop := ¬ Rc K s hr (zor sh x) a b
def fwB (x : Int) : Int := if x < 0 then 15 else pcP x 14
theorem shl_14 : ∀ n : Nat, n ≤ 14 → 1 ≤ zshl 1 (n : Int) ∧ zshl 1 (n : Int) ≤ 16384 := by decide +kernel
section CB
variable {xs : Nat → Int} {xl e : Nat} {h g u : LH} {Q : Option LV → LH → Prop} {P : Int → Prop} {K : KEY} {L : List Int} {q s hr sh a b r x v1 v2 v3 v4 A A' B B' A0 B0 : Int}
theorem bst_yes {n : Nat} (c : bst P n < 0 ∨ pcP (n : Int) 14 < pcP (bst P n) 14) (p : P (n : Int)) : bst P (n + 1) = n := by
  show @ite Int _ (Classical.propDecidable _) _ _ = _
  rw [if_pos ⟨c, p⟩]
theorem bst_no {n : Nat} (c : ¬ ((bst P n < 0 ∨ pcP (n : Int) 14 < pcP (bst P n) 14) ∧ P (n : Int))) : bst P (n + 1) = bst P n := by
  show @ite Int _ (Classical.propDecidable _) _ _ = _
  rw [if_neg c]
theorem bst_in (n : Nat) : -1 ≤ bst P n ∧ bst P n < n := by
  induction n with
  | zero => exact ⟨Int.le_refl _, by show (-1 : Int) < 0; omega⟩
  | succ n ih =>
    by_cases c : (bst P n < 0 ∨ pcP (n : Int) 14 < pcP (bst P n) 14) ∧ P (n : Int)
    · rw [bst_yes c.1 c.2]
      omega
    · rw [bst_no c]
      omega
theorem bst_best (n : Nat) : ∀ x : Int, 0 ≤ x → x < n → P x → 0 ≤ bst P n ∧ pcP (bst P n) 14 ≤ pcP x 14 := by
  induction n with
  | zero => intro x x0 x1; omega
  | succ n ih =>
    intro x x0 x1 px
    by_cases c : (bst P n < 0 ∨ pcP (n : Int) 14 < pcP (bst P n) 14) ∧ P (n : Int)
    · rw [bst_yes c.1 c.2]
      refine ⟨by omega, ?_⟩
      by_cases z : x = n
      · rw [z]
        exact Int.le_refl _
      · have i := ih x x0 (by omega) px
        rcases c.1 with c1 | c1 <;> omega
    · rw [bst_no c]
      by_cases z : x = n
      · rw [z] at px ⊢
        have n1 : ¬ (bst P n < 0 ∨ pcP (n : Int) 14 < pcP (bst P n) 14) := fun y => c ⟨y, px⟩
        omega
      · exact ih x x0 (by omega) px
theorem EE_bits (hK : KR K) (ha : ∀ d, 0 ≤ d → d < 32 → (bitZ A d ↔ bitZ A' d)) (hb : ∀ d, 0 ≤ d → d < 32 → (bitZ B d ↔ bitZ B' d)) : EE K A B a b ↔ EE K A' B' a b := by
  have k1 := hK.2.1
  constructor
  · rintro ⟨d, d0, d1, y⟩
    rw [ha d d0 (by omega), hb d d0 (by omega)] at y
    exact ⟨d, d0, d1, y⟩
  · rintro ⟨d, d0, d1, y⟩
    rw [← ha d d0 (by omega), ← hb d d0 (by omega)] at y
    exact ⟨d, d0, d1, y⟩
theorem set_bits {d : Int} (d0 : 0 ≤ d) (d1 : d < 32) : bitZ (zand (zand A (zxor sh (-1))) (zxor x (-1))) d ↔ bitZ (zand A (zxor (zor sh x) (-1))) d := by
  rw [bit_and d0 d1, bit_and d0 d1, bit_and d0 d1, bit_not d0 d1, bit_not d0 d1, bit_not d0 d1, bit_or d0 d1]
  exact ⟨fun ⟨⟨p, q⟩, r⟩ => ⟨p, fun z => z.elim q r⟩, fun ⟨p, q⟩ => ⟨⟨p, fun z => q (Or.inl z)⟩, fun z => q (Or.inr z)⟩⟩
theorem EE_set (hc : CXq h K q L) (hK : KR K) (hs : 0 ≤ s ∧ s ≤ 3) (hh : 0 ≤ hr ∧ hr ≤ 23) : Rea (EE K (zand (zand (rd h (q + 5) (24 * s + hr)) (zxor sh (-1))) (zxor x (-1))) (zand (zand (rd h (q + 6) (24 * s + hr)) (zxor sh (-1))) (zxor x (-1)))) a b ↔ Rc K s hr (zor sh x) a b :=
  Rea_iff (fun _ _ => (EE_bits hK (fun _ d0 d1 => set_bits d0 d1) (fun _ d0 d1 => set_bits d0 d1)).trans (EE_eL hc hK hs hh))
theorem drop_bits {d : Int} (d0 : 0 ≤ d) (d1 : d < 32) (y : bitZ A d → bitZ B d) : bitZ (zand A (zxor x (-1))) d ↔ bitZ (zand A (zxor (zand x B) (-1))) d := by
  rw [bit_and d0 d1, bit_and d0 d1, bit_not d0 d1, bit_not d0 d1, bit_and d0 d1]
  exact ⟨fun ⟨p, q⟩ => ⟨p, fun z => q z.1⟩, fun ⟨p, q⟩ => ⟨p, fun z => q ⟨z, y p⟩⟩⟩
theorem cut_drop (hc : CXq h K q L) (hK : KR K) (hs : 0 ≤ s ∧ s ≤ 3) (hh : 0 ≤ hr ∧ hr ≤ 23) : cutP K s hr sh a b (zand x (zor (zand (rd h (q + 5) (24 * s + hr)) (zxor sh (-1))) (zand (rd h (q + 6) (24 * s + hr)) (zxor sh (-1))))) ↔ cutP K s hr sh a b x := by
  unfold cutP
  rw [← EE_set hc hK hs hh, ← EE_set hc hK hs hh]
  exact not_congr (Rea_iff (fun _ _ => (EE_bits hK (fun _ d0 d1 => drop_bits d0 d1 (fun z => by rw [bit_or d0 d1]; exact Or.inl z)) (fun _ d0 d1 => drop_bits d0 d1 (fun z => by rw [bit_or d0 d1]; exact Or.inr z))).symm))
/-- a set with a useless door is never the best -/
theorem bst_skip (hp : P (zand x B) ↔ P x) (h0 : 0 ≤ x) (h1 : x < 16384) (hu : zand x (zxor B (-1)) ≠ 0) : bst P (x + 1).toNat = bst P x.toNat := by
  obtain ⟨k, k0, k1, kx, kb⟩ := zand_ne.mp hu
  rw [bit_not k0 k1] at kb
  have k14 := bit_hi h0 h1 k0 k1 kx
  have le := zand_l (b := B) h0 (show i32 x by unfold i32; omega)
  have nk : ¬ bitZ (zand x B) k := fun z => by
    rw [bit_and k0 k1] at z
    exact kb z.2
  have ne : zand x B ≠ x := fun z => by
    rw [z] at nk
    exact nk kx
  have lt := pcP_lt (r := zand x B) (s := x) (fun j j0 j1 z => by rw [bit_and j0 j1] at z; exact z.1) k0 nk kx 14 (by decide) (by omega)
  have ex : ((x.toNat : Nat) : Int) = x := Int.toNat_of_nonneg h0
  rw [show (x + 1).toNat = x.toNat + 1 by omega]
  refine bst_no ?_
  rw [ex]
  rintro ⟨c, p⟩
  have i := bst_best (P := P) x.toNat (zand x B) le.1 (by omega) (hp.mpr p)
  omega
theorem F_doorsToShut (he : 2 ≤ e) (hc : CXq h K q L) (hK : KR K) (hs : 0 ≤ s ∧ s ≤ 3) (hh : 0 ≤ hr ∧ hr ≤ 23) (h3 : 0 ≤ v3 ∧ v3 ≤ 9) (h4 : 0 ≤ v4 ∧ v4 ≤ 9) (k : Q (some (.inl (bst (cutP K s hr sh v3 v4) (zshl 1 (K.1 1)).toNat))) h) : Rn xs xl e mm_Web_doorsToShut 0 [some (.inr (.inr q)), some (.inl (zand (rd h (q + 5) (24 * s + hr)) (zxor sh (-1)))), some (.inl (zand (rd h (q + 6) (24 * s + hr)) (zxor sh (-1)))), some (.inl v3), some (.inl v4), none, none, none, none, none] [] h Q := by
  obtain ⟨hF, -, hq, -, ⟨-, c2, -⟩, -⟩ := id hc
  have k1 := hK.2.1
  have N := shl_14 (K.1 1).toNat (by omega)
  rw [Int.toNat_of_nonneg k1.1] at N
  generalize eN : zshl 1 (K.1 1) = n at N k
  have nx : zshl 1 (rd h q 2) = n := by rw [c2, eN]
  have es : ∀ {x : Int}, Rea (EE K (zand (zand (rd h (q + 5) (24 * s + hr)) (zxor sh (-1))) (zxor x (-1))) (zand (zand (rd h (q + 6) (24 * s + hr)) (zxor sh (-1))) (zxor x (-1)))) v3 v4 ↔ Rc K s hr (zor sh x) v3 v4 := EE_set hc hK hs hh
  have dr : ∀ {x : Int}, cutP K s hr sh v3 v4 (zand x (zor (zand (rd h (q + 5) (24 * s + hr)) (zxor sh (-1))) (zand (rd h (q + 6) (24 * s + hr)) (zxor sh (-1))))) ↔ cutP K s hr sh v3 v4 x := cut_drop hc hK hs hh
  generalize zand (rd h (q + 5) (24 * s + hr)) (zxor sh (-1)) = A at *
  generalize zand (rd h (q + 6) (24 * s + hr)) (zxor sh (-1)) = B at *
  have loop : ∀ (m : Nat) (v8 : Int) (o9 : Option LV), n - v8 ≤ m → 0 ≤ v8 → v8 ≤ n → Rn xs xl e mm_Web_doorsToShut 17 [some (.inr (.inr q)), some (.inl A), some (.inl B), some (.inl v3), some (.inl v4), some (.inl (zxor (zor A B) (-1))), some (.inl (bst (cutP K s hr sh v3 v4) v8.toNat)), some (.inl (fwB (bst (cutP K s hr sh v3 v4) v8.toNat))), some (.inl v8), o9] [] h Q := by
    intro m
    have stop : ∀ v8 : Int, n ≤ v8 → v8 ≤ n → Q (some (.inl (bst (cutP K s hr sh v3 v4) v8.toNat))) h := fun v8 a c => by
      rw [show v8 = n by omega]
      exact k
    induction m with
    | zero =>
      intro v8 o9 hm a0 a1
      exact B_Web_doorsToShut_17 hq hF (by omega) ⟨fun c => stop v8 (by omega) a1, fun c => by omega⟩
    | succ m ih =>
      intro v8 o9 hm a0 a1
      refine B_Web_doorsToShut_17 hq hF (by omega) ⟨fun c => stop v8 (by omega) a1, fun c => ?_⟩
      have lt : v8 < n := by omega
      have ex : ((v8.toNat : Nat) : Int) = v8 := Int.toNat_of_nonneg a0
      have en : (v8 + 1).toNat = v8.toNat + 1 := by omega
      have bi := bst_in (P := cutP K s hr sh v3 v4) v8.toNat
      have s89 : ∀ (y : Int) (o : Option LV), bst (cutP K s hr sh v3 v4) (v8 + 1).toNat = y → Rn xs xl e mm_Web_doorsToShut 89 [some (.inr (.inr q)), some (.inl A), some (.inl B), some (.inl v3), some (.inl v4), some (.inl (zxor (zor A B) (-1))), some (.inl y), some (.inl (fwB y)), some (.inl v8), o] [] h Q := fun y o ey => by
        have := ih (v8 + 1) o (by omega) (by omega) (by omega)
        rw [ey] at this
        exact B_Web_doorsToShut_89 hq hF (by omega) this
      refine ⟨fun z => s89 _ o9 (bst_skip dr a0 (by omega) z), fun z => ⟨0, by omega, F_bitCount hF a0 (by omega) ?_⟩⟩
      have pi := pcP_in v8 14
      refine B_Web_doorsToShut_41 hq hF (by omega) ⟨fun w => ⟨1, by omega, F_roomsFrom (Nat.le_refl 1) hc hK h3 (fun r ri rb => ?_)⟩, fun w => s89 _ o9 ?_⟩
      · have rv := (rb v4 h4.1 (by omega)).trans es
        have b01 := bitZ_01 r v4
        refine B_Web_doorsToShut_66 hq hF (by omega) ⟨fun y => s89 _ (some (.inl r)) ?_, fun y => ⟨0, by omega, F_bitCount hF a0 (by omega) (B_Web_doorsToShut_87 hq hF (by omega) ?_)⟩⟩
        · have y1 : bitZ r v4 := by
            show zand (zshr r v4) 1 = 1
            omega
          rw [en]
          refine bst_no ?_
          rw [ex]
          exact fun t => t.2 (rv.mp y1)
        · have y1 : ¬ bitZ r v4 := bitZ_n.mpr y
          have cp : cutP K s hr sh v3 v4 v8 := fun t => y1 (rv.mpr t)
          have ev : bst (cutP K s hr sh v3 v4) (v8 + 1).toNat = v8 := by
            rw [en, bst_yes ?_ (by rw [ex]; exact cp)]
            · exact ex
            · rw [ex]
              unfold fwB at w
              split at w
              · rename_i t
                exact Or.inl t
              · exact Or.inr w
          have := s89 v8 (some (.inl r)) ev
          unfold fwB at this
          rw [if_neg (by omega)] at this
          exact this
      · rw [en]
        refine bst_no ?_
        rw [ex]
        rintro ⟨t, -⟩
        unfold fwB at w
        split at w <;> omega
  exact B_Web_doorsToShut_0 hq hF (loop n.toNat 0 none (by omega) (by omega) (by omega))
def cutC (h : LH) (a b s hr : Int) : Prop := (0 ≤ a ∧ a < rd h 188 0) ∧ (0 ≤ b ∧ b < rd h 188 0) ∧ a ≠ b ∧ (0 ≤ s ∧ s ≤ 3) ∧ 0 ≤ hr ∧ hr ≤ 23
def cutJ (v1 v2 v3 v4 : Int) (h g : LH) (r : Int) : Prop := samP h g ∧ ((¬ cutC h v1 v2 v3 v4 ∧ r = -1) ∨ (cutC h v1 v2 v3 v4 ∧ r = bst (cutP (key h) v3 v4 (rd h 198 1) v1 v2) (zshl 1 (rd h 188 1)).toNat))
theorem E_cutS (he : 8 ≤ e) (hI : INV h) (hE : EQL h) (h1 : i32 v1) (h2 : i32 v2) (h3 : i32 v3) (h4 : i32 v4) (k : ∀ r g, INV g → cutJ v1 v2 v3 v4 h g r → Q (some (.inl r)) g) : Rn xs xl e mm_OneSided_cut 0 [some (.inr (.inr 1)), some (.inl v1), some (.inl v2), some (.inl v3), some (.inl v4)] [] h Q := by
  obtain ⟨L, hc⟩ := CXq_of hI hE
  have hK := KR_of hI
  have hq : rd h 1 1 = 5 ∨ rd h 1 1 = 32 := rQf hI.1
  obtain ⟨-, -, -, -, ⟨c0, -, -⟩, -⟩ := id hc
  have c0' : rd h (rd h 1 1) 0 = rd h 188 0 := c0
  have n0 := rq_rooms hI.1
  have k5 := hE.2.2.2.2.2.2.2.2.2.2.2.1
  have e1 : rd h 60 1 = rd h 198 1 := k5.2.1
  have no : ¬ cutC h v1 v2 v3 v4 → Q (some (.inl (-1))) h := fun z => k (-1) h hI ⟨fun _ _ => rfl, Or.inl ⟨z, rfl⟩⟩
  refine B_OneSided_cut_0 hq rfl (RF_of hI.1) (by omega) ⟨fun c => no (fun z => by have := z.1; omega), fun a1 => ⟨fun c => no (fun z => by have := z.1; omega), fun a2 => ⟨fun c => no (fun z => by have := z.2.1; omega), fun a3 => ⟨fun c => no (fun z => by have := z.2.1; omega), fun a4 => ⟨fun c => no (fun z => z.2.2.1 c), fun a5 => ⟨fun c => no (fun z => by have := z.2.2.2.1; omega), fun a6 => ⟨fun c => no (fun z => by have := z.2.2.2.1; omega), fun a7 => ⟨fun c => no (fun z => by have := z.2.2.2.2; omega), fun a8 => ⟨fun c => no (fun z => by have := z.2.2.2.2; omega), fun a9 => ⟨by omega, by omega, by omega, by omega, by omega, by omega, 2, by omega, ?_⟩⟩⟩⟩⟩⟩⟩⟩⟩⟩
  rw [e1]
  exact F_doorsToShut (Nat.le_refl 2) hc hK (by omega) (by omega) (by omega) (by omega) (B_OneSided_cut_56 (RF_of hI.1) (k _ h hI ⟨fun _ _ => rfl, Or.inr ⟨⟨⟨a1, by omega⟩, ⟨a3, by omega⟩, a5, ⟨a6, by omega⟩, a8, by omega⟩, rfl⟩⟩))
theorem G_cutS (he : 8 ≤ e) (hI : INV h) (hE : EQL h) (gI : INV g) (hj : cutJ v1 v2 v3 v4 h g r) (k : ∀ g', INV g' → EQL g' → Q (some (.inl r)) g') : Rn xs xl e mm_cut 0 [some (.inr (.inr 182)), some (.inl v1), some (.inl v2), some (.inl v3), some (.inl v4), none, none] [] g Q := by
  obtain ⟨sm, hc⟩ := hj
  have EG := EQL_sam hI hE sm
  have ek := key_sam sm
  have hK := KR_of gI
  have n0 := rq_rooms gI.1
  have n1 := rq_doors gI.1
  have eC : cutC g v1 v2 v3 v4 ↔ cutC h v1 v2 v3 v4 := by
    unfold cutC
    rw [sm 188 0]
  rw [← eC, ← ek, ← sm 198 1, ← sm 188 1] at hc
  have no : ¬ cutC g v1 v2 v3 v4 → Q (some (.inl (-1))) (wr g 182 0 0) := fun z => by
    obtain ⟨i1, e1⟩ := thr gI EG
    rcases hc with ⟨_, rfl⟩ | ⟨c, _⟩
    · exact k _ i1 e1
    · exact absurd c z
  refine B_cut_0 (RF_of gI.1) (by omega) ⟨fun c => no (fun z => by have := z.1; omega), fun a1 => ⟨fun c => no (fun z => by have := z.1; omega), fun a2 => ⟨fun c => no (fun z => by have := z.2.1; omega), fun a3 => ⟨fun c => no (fun z => by have := z.2.1; omega), fun a4 => ⟨fun c => no (fun z => z.2.2.1 c), fun a5 => ⟨fun c => no (fun z => by have := z.2.2.2.1; omega), fun a6 => ⟨fun c => no (fun z => by have := z.2.2.2.1; omega), fun a7 => ⟨fun c => no (fun z => by have := z.2.2.2.2; omega), fun a8 => ⟨fun c => no (fun z => by have := z.2.2.2.2; omega), fun a9 => ?_⟩⟩⟩⟩⟩⟩⟩⟩⟩
  obtain ⟨tI, tK, -⟩ := WC_thr gI
  have er : r = bst (cutP (key g) v3 v4 (rd g 198 1) v1 v2) (zshl 1 (rd g 188 1)).toNat := by
    rcases hc with ⟨z, _⟩ | ⟨_, z⟩
    · exact absurd ⟨⟨a1, a2⟩, ⟨a3, a4⟩, a5, ⟨a6, a7⟩, a8, a9⟩ z
    · exact z
  have N := shl_14 (rd g 188 1).toNat (by omega)
  rw [Int.toNat_of_nonneg n1.1] at N
  generalize eN : zshl 1 (rd g 188 1) = n at N er
  generalize eP : cutP (key g) v3 v4 (rd g 198 1) v1 v2 = P at er
  have loop : ∀ (m : Nat) (u : LH) (v6 : Int), n - v6 ≤ m → 0 ≤ v6 → v6 ≤ n → INV u → frI (wr g 182 0 0) u → Rn xs xl e mm_cut 44 [some (.inr (.inr 182)), some (.inl v1), some (.inl v2), some (.inl v3), some (.inl v4), some (.inl (bst P v6.toNat)), some (.inl v6)] [] u Q := by
    intro m
    have stop : ∀ (u : LH) (v6 : Int), n ≤ v6 → v6 ≤ n → INV u → frI (wr g 182 0 0) u → Q (some (.inl (bst P v6.toNat))) u := fun u v6 a c uI uf => by
      rw [show v6 = n by omega, ← er]
      exact k u uI (EQL_I gI EG (fun a i m1 m2 m3 m4 => (uf a i m1 m2 m3).trans (by rw [rd_wr, if_neg (by omega)])))
    have f1 : ∀ u, frI (wr g 182 0 0) u → zshl 1 (rd u 188 1) = n := fun u uf => by
      rw [uf 188 1 (by decide) (by decide) (by decide), rdw_ne (by decide)]
      exact eN
    induction m with
    | zero =>
      intro u v6 hm b0 b1 uI uf
      have f := f1 u uf
      exact B_cut_44 (RF_of uI.1) (by omega) (by omega) ⟨fun c => stop u v6 (by omega) b1 uI uf, fun c => by omega⟩
    | succ m ih =>
      intro u v6 hm b0 b1 uI uf
      have f := f1 u uf
      have bi := bst_in (P := P) v6.toNat
      have ex : ((v6.toNat : Nat) : Int) = v6 := Int.toNat_of_nonneg b0
      have en : (v6 + 1).toNat = v6.toNat + 1 := by omega
      have s111 : ∀ (w : LH) (y : Int), v6 < n → INV w → frI (wr g 182 0 0) w → bst P (v6 + 1).toNat = y → Rn xs xl e mm_cut 111 [some (.inr (.inr 182)), some (.inl v1), some (.inl v2), some (.inl v3), some (.inl v4), some (.inl y), some (.inl v6)] [] w Q := fun w y c wI wf ey => by
        have := ih w (v6 + 1) (by omega) (by omega) (by omega) wI wf
        rw [ey] at this
        exact B_cut_111 (RF_of wI.1) (by omega) this
      have s73 : v6 < n → (bst P v6.toNat < 0 ∨ pcP v6 14 < pcP (bst P v6.toNat) 14) → Rn xs xl e mm_cut 73 [some (.inr (.inr 182)), some (.inl v1), some (.inl v2), some (.inl v3), some (.inl v4), some (.inl (bst P v6.toNat)), some (.inl v6)] [] u Q := fun c t => by
        have uK : key u = key g := uf.key.trans tK
        refine B_cut_73 (RF_of uI.1) (by omega) ⟨4, by omega, ?_⟩
        have e8 : rd u 198 1 = rd g 198 1 := by
          rw [uf 198 1 (by decide) (by decide) (by decide), rdw_ne (by decide)]
        rw [e8]
        refine G_laysInto (Nat.le_refl 4) uI uK ⟨a6, a7⟩ ⟨a8, a9⟩ (fun w wI wf wl => ?_)
        have wK : key w = key g := wf.key.trans uK
        have wf' := uf.trans wf
        refine B_cut_90 (RF_of wI.1) (by omega) ⟨1, by omega, G_closure (Nat.le_refl 1) wI wK (by omega) (fun y y0 y1 yb => ?_)⟩
        have rv : bitZ y v2 ↔ Rc (key g) v3 v4 (zor (rd g 198 1) v6) v1 v2 := (yb v2 a3 (by omega)).trans (Rea_iff (fun _ _ => eR_eL wl hK ⟨a6, a7⟩ ⟨a8, a9⟩))
        have pv : P v6 ↔ ¬ bitZ y v2 := by
          rw [← eP, rv]
          exact Iff.rfl
        refine B_cut_95 (RF_of wI.1) (by omega) (by omega) ⟨fun z => s111 w v6 c wI wf' ?_, fun z => s111 w _ c wI wf' ?_⟩
        · rw [en, bst_yes (by rw [ex]; exact t) (by rw [ex]; exact pv.mpr z)]
          exact ex
        · rw [en]
          refine bst_no ?_
          rw [ex]
          exact fun s => pv.mp s.2 z
      refine B_cut_44 (RF_of uI.1) (by omega) (by omega) ⟨fun c => stop u v6 (by omega) b1 uI uf, fun c => ⟨fun z => s73 (by omega) (Or.inl z), fun z => ⟨0, by omega, G_bits (RF_of uI.1) (B_cut_65 (RF_of uI.1) (by omega) ⟨0, by omega, G_bits (RF_of uI.1) (B_cut_70 (RF_of uI.1) (by omega) ⟨fun w => s111 u _ (by omega) uI uf ?_, fun w => s73 (by omega) (Or.inr w)⟩)⟩)⟩⟩⟩
      rw [en]
      refine bst_no ?_
      rw [ex]
      rintro ⟨t, -⟩
      omega
  exact loop n.toNat _ 0 (by omega) (by omega) (by omega) tI (frI.refl _)
end CB
end
