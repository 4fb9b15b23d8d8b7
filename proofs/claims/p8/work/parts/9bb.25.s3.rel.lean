/-! the scene, part s3: a scene of the class and a block of the reference are alike -/
/-- bit p of x is v -/
def bt (x p v : Int) : Prop := (v = 0 ∧ ¬ bitZ x p) ∨ (v = 1 ∧ bitZ x p)
def SR (h : LH) (sc b : Int) : Prop := rd h sc 0 = rd h 198 b ∧ rd h sc 1 = rd h 198 (b + 1) ∧ (∀ p, 0 ≤ p → p < rd h 188 2 → rd h (sc + 1) p = rd h 198 (b + p + 2) ∧ bt (rd h sc 3) p (rd h 198 (b + p + 8)) ∧ bt (rd h sc 2) p (rd h 198 (b + p + 14))) ∧ (∀ d, 0 ≤ d → d < 14 → rd h (sc + 2) d = rd h 198 (b + d + 20) ∧ 0 ≤ rd h 198 (b + d + 20) ∧ rd h 198 (b + d + 20) ≤ 9) ∧ ∀ p, rd h 188 2 ≤ p → p < 32 → ¬ bitZ (rd h sc 3) p
section SC3
variable {h g k : LH} {sc b p d q : Int} {L : List Int}
theorem bt_1 {x v : Int} (hb : bt x p v) : v ≠ 1 ↔ ¬ bitZ x p := by
  unfold bt at hb
  constructor
  · intro a c
    rcases hb with z | z
    · exact z.2 c
    · exact a z.1
  · intro a c
    rcases hb with z | z
    · omega
    · exact a z.2
/-- the class keeps its scene apart from what the reference writes, and the other way about -/
theorem SR_fr (hs : SR h sc b) (f1 : ∀ a i, (a = sc ∨ a = sc + 1 ∨ a = sc + 2) → rd g a i = rd h a i) (f2 : ∀ i, b ≤ i → i < b + 34 → rd g 198 i = rd h 198 i) (f3 : rd g 188 2 = rd h 188 2) (hp : 0 ≤ rd h 188 2 ∧ rd h 188 2 ≤ 6) : SR g sc b := by
  obtain ⟨s1, s2, s3, s4, s5⟩ := hs
  refine ⟨?_, ?_, fun p p0 p1 => ?_, fun d d0 d1 => ?_, fun p p0 p1 => ?_⟩
  · rw [f1 _ _ (Or.inl rfl), f2 b (by omega) (by omega)]; exact s1
  · rw [f1 _ _ (Or.inl rfl), f2 (b + 1) (by omega) (by omega)]; exact s2
  · rw [f3] at p1
    rw [f1 _ _ (Or.inr (Or.inl rfl)), f1 sc _ (Or.inl rfl), f1 sc _ (Or.inl rfl), f2 _ (by omega) (by omega), f2 _ (by omega) (by omega), f2 _ (by omega) (by omega)]
    exact s3 p p0 p1
  · rw [f1 _ _ (Or.inr (Or.inr rfl)), f2 _ (by omega) (by omega)]
    exact s4 d d0 d1
  · rw [f3] at p0
    rw [f1 sc _ (Or.inl rfl)]
    exact s5 p p0 p1
theorem go_same (hs : SR h sc b) (hI : INV h) (hd : 0 ≤ d ∧ d < rd h 188 1) (hp : 0 ≤ p ∧ p < rd h 188 2) (hd' : rd h 188 1 ≤ 14) (fd : ∀ j : Nat, j < 8 → rd h (q + 7 + d) ((j : Int) + 1) = rd h 188 (8 * d + 4 + (j : Int))) (fp : rd h (q + 21 + p) 1 = rd h 188 (4 * p + 116)) (hs3 : 0 ≤ rd h 188 (4 * p + 116) ∧ rd h 188 (4 * p + 116) ≤ 3) (hro : 0 ≤ rd h 198 (b + p + 2) ∧ rd h 198 (b + p + 2) ≤ 9) (hhr : 0 ≤ rd h 198 b ∧ rd h 198 b ≤ 24) (h2 : 0 ≤ rd h (q + 7 + d) 2 ∧ rd h (q + 7 + d) 2 ≤ 9) (h3 : 0 ≤ rd h (q + 7 + d) 3 ∧ rd h (q + 7 + d) 3 ≤ 9) (h6 : -1 ≤ rd h (q + 7 + d) 6) (p1 : rd h 182 28 = -1) (p2 : rd h 182 29 = -1) (hl : LRQ h L) : tryF h q sc L p d = goF h b p d := by
  obtain ⟨s1, s2, s3, s4, s5⟩ := hs
  obtain ⟨a1, -, a3⟩ := s3 p hp.1 hp.2
  have f7 : rd h (q + 7 + d) 7 = rd h 188 (8 * d + 10) := (fd 6 (by decide)).trans (by rw [show 8 * d + 4 + ((6 : Nat) : Int) = 8 * d + 10 by omega])
  unfold tryF goF NW
  rw [s1, s2, (s4 d hd.1 (by omega)).1, a1, fp, f7]
  have b3 := bt_1 a3
  by_cases c : rd h 198 (b + p + 14) ≠ 1 ∧ rd h 198 (b + d + 20) < rd h 188 (8 * d + 10)
  · rw [if_pos c]
    by_cases c2 : rd h 198 b < 24
    · rw [if_pos c2, if_pos ⟨c2, b3.mp c.1, c.2⟩]
      exact (LF_in hI (by omega) hs3 hro (by omega) fd h2 h3 h6 p1 p2 hl).symm
    · rw [if_neg c2, if_neg (fun z => c2 z.1)]
  · rw [if_neg c, if_neg (fun z => c ⟨b3.mpr z.2.1, z.2.2⟩)]
end SC3
