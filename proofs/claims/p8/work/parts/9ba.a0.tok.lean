/-! p3, part a0: signs into tokens, as numbers -/
def isWs (c : Int) : Bool := decide (c = 10) || decide (c = 32)
def isLt (c : Int) : Bool := decide (97 ≤ c) && decide (c ≤ 122)
def isDg (c : Int) : Bool := decide (48 ≤ c) && decide (c ≤ 57)
def isSn (c : Int) : Bool := decide (c = 40) || decide (c = 41) || decide (c = 59) || decide (c = 61) || decide (c = 60) || decide (c = 43) || decide (c = 45) || decide (c = 42)
theorem isWs_iff {c : Int} : isWs c = true ↔ c = 10 ∨ c = 32 := by simp [isWs]
theorem isLt_iff {c : Int} : isLt c = true ↔ 97 ≤ c ∧ c ≤ 122 := by simp [isLt]
theorem isDg_iff {c : Int} : isDg c = true ↔ 48 ≤ c ∧ c ≤ 57 := by simp [isDg]
section TK
variable (T : Int → Int) (n : Int)
/-- on while a test holds -/
def fw1 (P : Int → Bool) : Nat → Int → Int
  | 0, p => p
  | f + 1, p => if p < n ∧ P (T p) = true then fw1 P f (p + 1) else p
def fw (P : Int → Bool) (p : Int) : Int := fw1 T n P 1001 p
end TK
section TL
variable {T : Int → Int} {n : Int} {P : Int → Bool}
theorem fw1_ok : ∀ (f : Nat) (p : Int), n - p < f → p ≤ fw1 T n P f p ∧ (∀ r, p ≤ r → r < fw1 T n P f p → r < n ∧ P (T r) = true) ∧ ¬ (fw1 T n P f p < n ∧ P (T (fw1 T n P f p)) = true)
  | 0, p, h => ⟨Int.le_refl _, fun r h1 h2 => by unfold fw1 at h2; omega, fun q => by unfold fw1 at q; omega⟩
  | f + 1, p, h => by
    unfold fw1
    by_cases c : p < n ∧ P (T p) = true
    · rw [if_pos c]
      obtain ⟨h1, h2, h3⟩ := fw1_ok f (p + 1) (by omega)
      refine ⟨by omega, fun r r1 r2 => ?_, h3⟩
      by_cases e : r = p
      · rw [e]; exact c
      · exact h2 r (by omega) r2
    · rw [if_neg c]
      exact ⟨Int.le_refl _, fun r r1 r2 => by omega, c⟩
theorem fw_ok {p : Int} (h0 : 0 ≤ p) (h1 : n ≤ 1000) : p ≤ fw T n P p ∧ (∀ r, p ≤ r → r < fw T n P p → r < n ∧ P (T r) = true) ∧ ¬ (fw T n P p < n ∧ P (T (fw T n P p)) = true) := fw1_ok 1001 p (by omega)
theorem fw_eq {p q : Int} (h0 : 0 ≤ p) (h1 : n ≤ 1000) (hq : p ≤ q) (ha : ∀ r, p ≤ r → r < q → r < n ∧ P (T r) = true) (hn : ¬ (q < n ∧ P (T q) = true)) : fw T n P p = q := by
  obtain ⟨a1, a2, a3⟩ := fw_ok (T := T) (n := n) (P := P) h0 h1
  rcases Int.lt_trichotomy (fw T n P p) q with c | c | c
  · exact absurd (ha _ a1 c) a3
  · exact c
  · exact absurd (a2 _ hq c) hn
theorem fw_le {p : Int} (h0 : 0 ≤ p) (h1 : n ≤ 1000) (hp : p ≤ n) : fw T n P p ≤ n := by
  obtain ⟨a1, a2, a3⟩ := fw_ok (T := T) (n := n) (P := P) h0 h1
  rcases Int.lt_or_le n (fw T n P p) with c | c
  · have := a2 n hp c
    omega
  · exact c
end TL
section TM
variable (T : Int → Int) (n : Int)
/-- behind a token that is looked for from p on -/
def nx (p : Int) : Int := if n ≤ fw T n isWs p then fw T n isWs p else if isLt (T (fw T n isWs p)) = true then fw T n isLt (fw T n isWs p) else if isDg (T (fw T n isWs p)) = true then fw T n isDg (fw T n isWs p) else fw T n isWs p + 1
def tS_ : Nat → Int
  | 0 => 0
  | k + 1 => nx T n (tS_ k)
def tP (k : Nat) : Int := fw T n isWs (tS_ T n k)
/-- what a token is: 0 the end, 1 a word, 2 a number, 3 a sign, 4 nothing -/
def tO (k : Nat) : Int := if n ≤ tP T n k then 0 else if isLt (T (tP T n k)) = true then (if 8 < tS_ T n (k + 1) - tP T n k then 4 else 1) else if isDg (T (tP T n k)) = true then (if 4 < tS_ T n (k + 1) - tP T n k then 4 else 2) else if isSn (T (tP T n k)) = true then 3 else 4
/-- letters as digits from 1 on -/
def enc (b : Int) (p : Int) : Nat → Int
  | 0 => 0
  | m + 1 => b * enc b p m + (T (p + m) - 96)
def num (p : Int) : Nat → Int
  | 0 => 0
  | m + 1 => 10 * num p m + T (p + m) - 48
def tN (k : Nat) : Nat := (tS_ T n (k + 1) - tP T n k).toNat
end TM
section TN
variable {T : Int → Int} {n : Int}
theorem nx_ok {p : Int} (h0 : 0 ≤ p) (h1 : n ≤ 1000) (hp : p ≤ n) : fw T n isWs p ≤ nx T n p ∧ nx T n p ≤ n ∧ (fw T n isWs p < n → fw T n isWs p < nx T n p) := by
  have a := fw_ok (T := T) (n := n) (P := isWs) h0 h1
  have al := fw_le (T := T) (P := isWs) h0 h1 hp
  unfold nx
  by_cases c : n ≤ fw T n isWs p
  · rw [if_pos c]; exact ⟨Int.le_refl _, al, fun q => by omega⟩
  · rw [if_neg c]
    by_cases c2 : isLt (T (fw T n isWs p)) = true
    · rw [if_pos c2]
      have b := fw_ok (T := T) (n := n) (P := isLt) (p := fw T n isWs p) (by omega) h1
      have bl := fw_le (T := T) (P := isLt) (p := fw T n isWs p) (by omega) h1 al
      refine ⟨b.1, bl, fun q => ?_⟩
      rcases Int.lt_or_le (fw T n isWs p) (fw T n isLt (fw T n isWs p)) with z | z
      · exact z
      · rw [show fw T n isLt (fw T n isWs p) = fw T n isWs p by omega] at b
        exact absurd ⟨q, c2⟩ b.2.2
    · rw [if_neg c2]
      by_cases c3 : isDg (T (fw T n isWs p)) = true
      · rw [if_pos c3]
        have b := fw_ok (T := T) (n := n) (P := isDg) (p := fw T n isWs p) (by omega) h1
        have bl := fw_le (T := T) (P := isDg) (p := fw T n isWs p) (by omega) h1 al
        refine ⟨b.1, bl, fun q => ?_⟩
        rcases Int.lt_or_le (fw T n isWs p) (fw T n isDg (fw T n isWs p)) with z | z
        · exact z
        · rw [show fw T n isDg (fw T n isWs p) = fw T n isWs p by omega] at b
          exact absurd ⟨q, c3⟩ b.2.2
      · rw [if_neg c3]
        exact ⟨by omega, by omega, fun _ => by omega⟩
theorem tS_in (h1 : n ≤ 1000) (h2 : 0 ≤ n) : ∀ k, 0 ≤ tS_ T n k ∧ tS_ T n k ≤ n
  | 0 => ⟨Int.le_refl _, h2⟩
  | k + 1 => by
    have ih := tS_in h1 h2 k
    have a := fw_ok (T := T) (n := n) (P := isWs) ih.1 h1
    have q := nx_ok (T := T) ih.1 h1 ih.2
    show 0 ≤ nx T n (tS_ T n k) ∧ nx T n (tS_ T n k) ≤ n
    omega
theorem tP_in (h1 : n ≤ 1000) (h2 : 0 ≤ n) (k : Nat) : tS_ T n k ≤ tP T n k ∧ tP T n k ≤ n ∧ tP T n k ≤ tS_ T n (k + 1) ∧ (tP T n k < n → tP T n k < tS_ T n (k + 1)) := by
  have s := tS_in (T := T) h1 h2 k
  have a := fw_ok (T := T) (n := n) (P := isWs) s.1 h1
  have al := fw_le (T := T) (P := isWs) s.1 h1 s.2
  have q := nx_ok (T := T) s.1 h1 s.2
  exact ⟨a.1, al, q.1, q.2.2⟩
/-- places rise: token k lies at place k at least, or it is the end -/
theorem tP_ge (h1 : n ≤ 1000) (h2 : 0 ≤ n) : ∀ k : Nat, (k : Int) ≤ tS_ T n k ∨ n ≤ tP T n k
  | 0 => Or.inl (Int.le_refl _)
  | k + 1 => by
    have p := tP_in (T := T) h1 h2 k
    have p' := tP_in (T := T) h1 h2 (k + 1)
    rcases tP_ge h1 h2 k with q | q
    · rcases Int.lt_or_le (tP T n k) n with z | z
      · left; omega
      · right; omega
    · right; omega
theorem tO_0 {k : Nat} : tO T n k = 0 ↔ n ≤ tP T n k := by
  unfold tO
  split
  · next c => exact ⟨fun _ => c, fun _ => rfl⟩
  · next c =>
    refine ⟨fun q => ?_, fun q => absurd q c⟩
    split at q
    · split at q <;> omega
    · split at q
      · split at q <;> omega
      · split at q <;> omega
theorem tO_end (h1 : n ≤ 1000) (h2 : 0 ≤ n) {k : Nat} (hk : 1000 ≤ k) : tO T n k = 0 := by
  rw [tO_0]
  have p := tP_in (T := T) h1 h2 k
  rcases tP_ge (T := T) h1 h2 k with q | q <;> omega
theorem tO_lt (h1 : n ≤ 1000) (h2 : 0 ≤ n) {k : Nat} (hk : tO T n k ≠ 0) : k < 1000 := by
  rcases Nat.lt_or_ge k 1000 with c | c
  · exact c
  · exact absurd (tO_end h1 h2 c) hk
theorem tO_in (k : Nat) : 0 ≤ tO T n k ∧ tO T n k ≤ 4 := by
  unfold tO
  split
  · omega
  · split
    · split <;> omega
    · split
      · split <;> omega
      · split <;> omega
end TN
/-- two bases tell the same words apart -/
theorem enc_pos {T : Int → Int} {b p : Int} (hb : 27 ≤ b) : ∀ m : Nat, (∀ r : Int, p ≤ r → r < p + m → 97 ≤ T r ∧ T r ≤ 122) → 0 ≤ enc T b p m ∧ (0 < m → 0 < enc T b p m)
  | 0, _ => ⟨Int.le_refl _, fun h => absurd h (by omega)⟩
  | m + 1, h => by
    have ih := enc_pos hb m (fun r r1 r2 => h r r1 (by omega))
    have hd := h (p + m) (by omega) (by omega)
    have : 0 ≤ b * enc T b p m := Int.mul_nonneg (by omega) ih.1
    show 0 ≤ b * enc T b p m + (T (p + m) - 96) ∧ (0 < m + 1 → 0 < b * enc T b p m + (T (p + m) - 96))
    omega
theorem dig_inj {b x y u v : Int} (hb : 27 ≤ b) (hu : 1 ≤ u ∧ u ≤ 26) (hv : 1 ≤ v ∧ v ≤ 26) (h : b * x + u = b * y + v) : x = y ∧ u = v := by
  have e : u = v := by
    have h1 : (b * x + u) % b = (b * y + v) % b := by rw [h]
    rw [Int.add_comm, Int.add_mul_emod_self_left, Int.add_comm (b * y), Int.add_mul_emod_self_left, Int.emod_eq_of_lt (by omega) (by omega), Int.emod_eq_of_lt (by omega) (by omega)] at h1
    exact h1
  refine ⟨?_, e⟩
  have h2 : b * x = b * y := by omega
  exact Int.eq_of_mul_eq_mul_left (by omega) h2
theorem enc_same {T U : Int → Int} {p q : Int} {b c : Int} (hb : 27 ≤ b) (hc : 27 ≤ c) : ∀ (m k : Nat), (∀ r : Int, p ≤ r → r < p + m → 97 ≤ T r ∧ T r ≤ 122) → (∀ r : Int, q ≤ r → r < q + k → 97 ≤ U r ∧ U r ≤ 122) → enc T b p m = enc U b q k → enc T c p m = enc U c q k
  | 0, 0, _, _, _ => rfl
  | 0, k + 1, _, hU, h => by
    have := (enc_pos (T := U) (p := q) hb (k + 1) hU).2 (by omega)
    rw [← h] at this
    exact absurd this (by show ¬ (0 : Int) < 0; omega)
  | m + 1, 0, hT, _, h => by
    have := (enc_pos (T := T) (p := p) hb (m + 1) hT).2 (by omega)
    rw [h] at this
    exact absurd this (by show ¬ (0 : Int) < 0; omega)
  | m + 1, k + 1, hT, hU, h => by
    have dT := hT (p + m) (by omega) (by omega)
    have dU := hU (q + k) (by omega) (by omega)
    have h' : b * enc T b p m + (T (p + m) - 96) = b * enc U b q k + (U (q + k) - 96) := h
    obtain ⟨e1, e2⟩ := dig_inj hb (by omega) (by omega) h'
    have ih := enc_same hb hc m k (fun r r1 r2 => hT r r1 (by omega)) (fun r r1 r2 => hU r r1 (by omega)) e1
    show c * enc T c p m + (T (p + m) - 96) = c * enc U c q k + (U (q + k) - 96)
    rw [ih, e2]
theorem enc_iff {T U : Int → Int} {p q : Int} {m k : Nat} (hT : ∀ r : Int, p ≤ r → r < p + m → 97 ≤ T r ∧ T r ≤ 122) (hU : ∀ r : Int, q ≤ r → r < q + k → 97 ≤ U r ∧ U r ≤ 122) : enc T 32 p m = enc U 32 q k ↔ enc T 37 p m = enc U 37 q k :=
  ⟨enc_same (by decide) (by decide) m k hT hU, enc_same (by decide) (by decide) m k hT hU⟩
theorem enc_bd {T : Int → Int} {p : Int} : ∀ m : Nat, m ≤ 8 → (∀ r : Int, p ≤ r → r < p + m → 97 ≤ T r ∧ T r ≤ 122) → 0 ≤ enc T 32 p m ∧ enc T 32 p m < 32 ^ m ∧ 0 ≤ enc T 37 p m ∧ enc T 37 p m < 37 ^ m
  | 0, _, _ => ⟨Int.le_refl _, by show (0 : Int) < 32 ^ 0; decide, Int.le_refl _, by show (0 : Int) < 37 ^ 0; decide⟩
  | m + 1, hm, h => by
    obtain ⟨i1, i2, i3, i4⟩ := enc_bd m (by omega) (fun r r1 r2 => h r r1 (by omega))
    have d := h (p + m) (by omega) (by omega)
    show 0 ≤ 32 * enc T 32 p m + (T (p + m) - 96) ∧ 32 * enc T 32 p m + (T (p + m) - 96) < 32 ^ (m + 1) ∧ 0 ≤ 37 * enc T 37 p m + (T (p + m) - 96) ∧ 37 * enc T 37 p m + (T (p + m) - 96) < 37 ^ (m + 1)
    have e1 : (32 : Int) ^ (m + 1) = 32 * 32 ^ m := by rw [Int.pow_succ, Int.mul_comm]
    have e2 : (37 : Int) ^ (m + 1) = 37 * 37 ^ m := by rw [Int.pow_succ, Int.mul_comm]
    rw [e1, e2]
    omega
