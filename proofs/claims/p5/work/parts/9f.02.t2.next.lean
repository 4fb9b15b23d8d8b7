/-! plans, part t2: rooms one hour on -/
/-- through door d, by the bits A ahead and B back, one comes out of the rooms R into room b -/
def entD (K : KEY) (A B R b d : Int) : Prop := (bitZ A d ∧ bitZ R (K.1 (8 * d + 5)) ∧ b = K.1 (8 * d + 6)) ∨ (bitZ B d ∧ bitZ R (K.1 (8 * d + 6)) ∧ b = K.1 (8 * d + 5))
/-- in hour hr one comes from room a into room b -/
def edg (K : KEY) (sh s hr a b : Int) : Prop := ∃ d, 0 ≤ d ∧ d < K.1 1 ∧ LF K d s a hr sh 0 = b
theorem ex_lt {P : Int → Prop} {n : Int} (n0 : 0 ≤ n) : (∃ d, 0 ≤ d ∧ d < n + 1 ∧ P d) ↔ (∃ d, 0 ≤ d ∧ d < n ∧ P d) ∨ P n := by
  constructor
  · rintro ⟨d, d0, d1, hp⟩
    by_cases z : d = n
    · subst z; exact Or.inr hp
    · exact Or.inl ⟨d, d0, by omega, hp⟩
  · rintro (⟨d, d0, d1, hp⟩ | hp)
    · exact ⟨d, d0, by omega, hp⟩
    · exact ⟨n, n0, by omega, hp⟩
section PL2
variable {xs : Nat → Int} {xl e : Nat} {h g : LH} {Q : Option LV → LH → Prop} {K : KEY} {q d s hr a b A B R sc v1 v2 v3 v4 : Int} {L : List Int}
theorem CXq_d (hc : CXq h K q L) (d0 : 0 ≤ d) (d1 : d < K.1 1) : rd h (q + 7 + d) 2 = K.1 (8 * d + 5) ∧ rd h (q + 7 + d) 3 = K.1 (8 * d + 6) ∧ rd h (q + 7 + d) 5 = K.1 (8 * d + 8) ∧ rd h (q + 7 + d) 7 = K.1 (8 * d + 10) ∧ rd h (q + 7 + d) 8 = K.1 (8 * d + 11) := by
  have f := hc.2.2.2.2.2.1 d d0 d1
  exact ⟨(f 1 (by decide)).trans (by rw [show 8 * d + 4 + ((1 : Nat) : Int) = 8 * d + 5 by omega]), (f 2 (by decide)).trans (by rw [show 8 * d + 4 + ((2 : Nat) : Int) = 8 * d + 6 by omega]), (f 4 (by decide)).trans (by rw [show 8 * d + 4 + ((4 : Nat) : Int) = 8 * d + 8 by omega]), (f 6 (by decide)).trans (by rw [show 8 * d + 4 + ((6 : Nat) : Int) = 8 * d + 10 by omega]), (f 7 (by decide)).trans (by rw [show 8 * d + 4 + ((7 : Nat) : Int) = 8 * d + 11 by omega])⟩
theorem CXq_p {p : Int} (hc : CXq h K q L) (p0 : 0 ≤ p) (p1 : p < K.1 2) : rd h (q + 21 + p) 1 = K.1 (4 * p + 116) ∧ rd h (q + 21 + p) 2 = K.1 (4 * p + 117) ∧ rd h (q + 21 + p) 3 = K.1 (4 * p + 118) ∧ rd h (q + 21 + p) 4 = K.1 (4 * p + 119) := by
  have f := hc.2.2.2.2.2.2.1 p p0 p1
  exact ⟨(f 0 (by decide)).trans (by rw [show 116 + 4 * p + ((0 : Nat) : Int) = 4 * p + 116 by omega]), (f 1 (by decide)).trans (by rw [show 116 + 4 * p + ((1 : Nat) : Int) = 4 * p + 117 by omega]), (f 2 (by decide)).trans (by rw [show 116 + 4 * p + ((2 : Nat) : Int) = 4 * p + 118 by omega]), (f 3 (by decide)).trans (by rw [show 116 + 4 * p + ((3 : Nat) : Int) = 4 * p + 119 by omega])⟩
theorem F_entered (hc : CXq h K q L) (hK : KR K) (k : ∀ r, i32 r → (∀ b, 0 ≤ b → b < 32 → (bitZ r b ↔ ∃ d, 0 ≤ d ∧ d < K.1 1 ∧ entD K v1 v2 v3 b d)) → Q (some (.inl r)) h) : Rn xs xl e mm_Quarter_entered 0 [some (.inr (.inr q)), some (.inl v1), some (.inl v2), some (.inl v3), none, none, none] [] h Q := by
  obtain ⟨hF, hP, hq, -, ⟨-, n2, -⟩, -⟩ := id hc
  obtain ⟨k0, n1, -, kd, -⟩ := hK
  have l6 : ∀ (n : Nat) (v4 v5 : Int) (o : Option LV), K.1 1 - v5 ≤ n → 0 ≤ v5 → v5 ≤ K.1 1 → i32 v4 → (∀ b, 0 ≤ b → b < 32 → (bitZ v4 b ↔ ∃ d, 0 ≤ d ∧ d < v5 ∧ entD K v1 v2 v3 b d)) → Rn xs xl e mm_Quarter_entered 6 [some (.inr (.inr q)), some (.inl v1), some (.inl v2), some (.inl v3), some (.inl v4), some (.inl v5), o] [] h Q := by
    intro n
    induction n with
    | zero =>
      intro v4 v5 o hn a0 a1 vi vb
      refine B_Quarter_entered_6 hq hF hP ⟨a0, by omega⟩ ⟨fun _ => k v4 vi (fun b b0 b1 => ?_), fun c => by omega⟩
      rw [show K.1 1 = v5 by omega]
      exact vb b b0 b1
    | succ n ih =>
      intro v4 v5 o hn a0 a1 vi vb
      refine B_Quarter_entered_6 hq hF hP ⟨a0, by omega⟩ ⟨fun c => k v4 vi (fun b b0 b1 => ?_), fun c => ?_⟩
      · rw [show K.1 1 = v5 by omega]
        exact vb b b0 b1
      · have v1d : v5 < K.1 1 := by omega
        obtain ⟨e2, e3, -⟩ := CXq_d hc a0 v1d
        obtain ⟨r2, r3, -⟩ := kd v5 a0 v1d
        have s57 : ∀ w, i32 w → (∀ b, 0 ≤ b → b < 32 → (bitZ w b ↔ (∃ d, 0 ≤ d ∧ d < v5 ∧ entD K v1 v2 v3 b d) ∨ (bitZ v1 v5 ∧ bitZ v3 (K.1 (8 * v5 + 5)) ∧ b = K.1 (8 * v5 + 6)))) → Rn xs xl e mm_Quarter_entered 57 [some (.inr (.inr q)), some (.inl v1), some (.inl v2), some (.inl v3), some (.inl w), some (.inl v5), some (.inr (.inr (q + 7 + v5)))] [] h Q := by
          intro w wi wb
          have go : (¬ (bitZ v2 v5 ∧ bitZ v3 (K.1 (8 * v5 + 6)))) → Rn xs xl e mm_Quarter_entered 6 [some (.inr (.inr q)), some (.inl v1), some (.inl v2), some (.inl v3), some (.inl w), some (.inl (v5 + 1)), some (.inr (.inr (q + 7 + v5)))] [] h Q := fun nz => ih w (v5 + 1) _ (by omega) (by omega) (by omega) wi (fun b b0 b1 => by
            rw [wb b b0 b1, ex_lt a0]
            unfold entD
            exact ⟨fun y => y.elim Or.inl (fun y => Or.inr (Or.inl y)), fun y => y.elim Or.inl (fun y => y.elim Or.inr (fun y => absurd ⟨y.1, y.2.1⟩ nz))⟩)
          refine B_Quarter_entered_57 hq hF ⟨a0, by omega⟩ ⟨fun z => go (fun y => bitZ_n.mpr z y.1), fun z => ⟨fun y => ?_, fun y => ?_⟩⟩
          · rw [e3] at y
            exact go (fun x => bitZ_n.mpr y x.2)
          · rw [e3] at y
            rw [e2]
            have bz : bitZ v2 v5 := Classical.byContradiction (fun n => z (bitZ_n.mp n))
            have by' : bitZ v3 (K.1 (8 * v5 + 6)) := Classical.byContradiction (fun n => y (bitZ_n.mp n))
            refine ih _ (v5 + 1) _ (by omega) (by omega) (by omega) (zor_i _ _) (fun b b0 b1 => ?_)
            rw [bit_or b0 b1, bit_shl (by omega) (by omega) b0 b1, wb b b0 b1, ex_lt a0]
            unfold entD
            exact ⟨fun y => y.elim (fun y => y.elim Or.inl (fun y => Or.inr (Or.inl y))) (fun y => Or.inr (Or.inr ⟨bz, by', y⟩)), fun y => y.elim (fun y => Or.inl (Or.inl y)) (fun y => y.elim (fun y => Or.inl (Or.inr y)) (fun y => Or.inr y.2.2))⟩
        have go : (¬ (bitZ v1 v5 ∧ bitZ v3 (K.1 (8 * v5 + 5)))) → Rn xs xl e mm_Quarter_entered 57 [some (.inr (.inr q)), some (.inl v1), some (.inl v2), some (.inl v3), some (.inl v4), some (.inl v5), some (.inr (.inr (q + 7 + v5)))] [] h Q := fun nz => s57 v4 vi (fun b b0 b1 => by
          rw [vb b b0 b1]
          exact ⟨Or.inl, fun y => y.elim (fun y => y) (fun y => absurd ⟨y.1, y.2.1⟩ nz)⟩)
        refine ⟨by omega, fun z => go (fun y => bitZ_n.mpr z y.1), fun z => ⟨fun y => ?_, fun y => ?_⟩⟩
        · rw [e2] at y
          exact go (fun x => bitZ_n.mpr y x.2)
        · rw [e2] at y
          rw [e3]
          have bz : bitZ v1 v5 := Classical.byContradiction (fun n => z (bitZ_n.mp n))
          have by' : bitZ v3 (K.1 (8 * v5 + 5)) := Classical.byContradiction (fun n => y (bitZ_n.mp n))
          refine s57 _ (zor_i _ _) (fun b b0 b1 => ?_)
          rw [bit_or b0 b1, bit_shl (by omega) (by omega) b0 b1, vb b b0 b1]
          exact ⟨fun y => y.elim Or.inl (fun y => Or.inr ⟨bz, by', y⟩), fun y => y.elim Or.inl (fun y => Or.inr y.2.2)⟩
  exact B_Quarter_entered_0 hq hF (l6 (K.1 1).toNat 0 0 none (by omega) (by omega) (by omega) z32 (fun b b0 b1 => ⟨fun y => absurd y bit_zero, fun ⟨d, d0, d1, _⟩ => by omega⟩))
/-- the doors that let by, as bits -/
theorem CXq_ah (hc : CXq h K q L) (hK : KR K) (hs : 0 ≤ s ∧ s ≤ 3) (hh : 0 ≤ hr ∧ hr ≤ 23) (d0 : 0 ≤ d) (d1 : d < K.1 1) : (bitZ (zand (rd h (q + 5) (24 * s + hr)) (zxor v1 (-1))) d ↔ wAh (rd h (q + 7 + d)) L s hr (rd h (q + 7 + d) 8) 0 ∧ ¬ bitZ v1 d) ∧ (bitZ (zand (rd h (q + 6) (24 * s + hr)) (zxor v1 (-1))) d ↔ wBk (rd h (q + 7 + d)) L s hr (rd h (q + 7 + d) 8) 0 ∧ ¬ bitZ v1 d) := by
  obtain ⟨-, -, -, -, ⟨-, n2, -⟩, -, -, st, -⟩ := hc
  have n1 := hK.2.1
  obtain ⟨s1, s2⟩ := st s hr hs.1 hs.2 hh.1 hh.2
  have a := s1 d d0 (by omega)
  have b := s2 d d0 (by omega)
  have d1' : d < rd h q 2 := by omega
  constructor
  · rw [bit_and d0 (by omega), bit_not d0 (by omega), a]
    exact ⟨fun y => ⟨y.1.2, y.2⟩, fun y => ⟨⟨d1', y.1⟩, y.2⟩⟩
  · rw [bit_and d0 (by omega), bit_not d0 (by omega), b]
    exact ⟨fun y => ⟨y.1.2, y.2⟩, fun y => ⟨⟨d1', y.1⟩, y.2⟩⟩
theorem ent_edg (hc : CXq h K q L) (hK : KR K) (hs : 0 ≤ s ∧ s ≤ 3) (hh : 0 ≤ hr ∧ hr ≤ 23) (b0 : 0 ≤ b) (d0 : 0 ≤ d) (d1 : d < K.1 1) : entD K (zand (rd h (q + 5) (24 * s + hr)) (zxor v1 (-1))) (zand (rd h (q + 6) (24 * s + hr)) (zxor v1 (-1))) R b d ↔ ∃ a, 0 ≤ a ∧ a ≤ 9 ∧ bitZ R a ∧ LF K d s a hr v1 0 = b := by
  obtain ⟨bA, bB⟩ := CXq_ah (v1 := v1) hc hK hs hh d0 d1
  obtain ⟨e2, e3, -⟩ := CXq_d hc d0 d1
  obtain ⟨k0, n1, -, kd, -⟩ := hK
  obtain ⟨r2, r3, -⟩ := kd d d0 d1
  have lf := hc.2.2.2.2.2.2.2.2
  unfold entD
  rw [bA, bB, ← e2, ← e3]
  rw [← e2] at r2
  rw [← e3] at r3
  constructor
  · rintro (⟨x, y, rfl⟩ | ⟨x, y, rfl⟩)
    · refine ⟨_, r2.1, by omega, y, ?_⟩
      rw [lf d s _ hr v1 d0 d1 hs.1 hs.2 r2.1 (by omega) hh.1 hh.2]
      unfold inF
      rw [if_pos ⟨rfl, x⟩]
    · refine ⟨_, r3.1, by omega, y, ?_⟩
      rw [lf d s _ hr v1 d0 d1 hs.1 hs.2 r3.1 (by omega) hh.1 hh.2]
      unfold inF
      by_cases c : rd h (q + 7 + d) 2 = rd h (q + 7 + d) 3 ∧ wAh (rd h (q + 7 + d)) L s hr (rd h (q + 7 + d) 8) 0 ∧ ¬ bitZ v1 d
      · rw [if_pos c]
        exact c.1.symm
      · rw [if_neg c, if_pos ⟨rfl, x⟩]
  · rintro ⟨a, a0, a1, ra, ee⟩
    rw [lf d s a hr v1 d0 d1 hs.1 hs.2 a0 a1 hh.1 hh.2] at ee
    unfold inF at ee
    by_cases c : rd h (q + 7 + d) 2 = a ∧ wAh (rd h (q + 7 + d)) L s hr (rd h (q + 7 + d) 8) 0 ∧ ¬ bitZ v1 d
    · rw [if_pos c] at ee
      exact Or.inl ⟨c.2, by rw [c.1]; exact ra, ee.symm⟩
    · rw [if_neg c] at ee
      by_cases c2 : rd h (q + 7 + d) 3 = a ∧ wBk (rd h (q + 7 + d)) L s hr (rd h (q + 7 + d) 8) 0 ∧ ¬ bitZ v1 d
      · rw [if_pos c2] at ee
        exact Or.inr ⟨c2.2, by rw [c2.1]; exact ra, ee.symm⟩
      · rw [if_neg c2] at ee
        omega
theorem ent_all (hc : CXq h K q L) (hK : KR K) (hs : 0 ≤ s ∧ s ≤ 3) (hh : 0 ≤ hr ∧ hr ≤ 23) (b0 : 0 ≤ b) : (∃ d, 0 ≤ d ∧ d < K.1 1 ∧ entD K (zand (rd h (q + 5) (24 * s + hr)) (zxor v1 (-1))) (zand (rd h (q + 6) (24 * s + hr)) (zxor v1 (-1))) R b d) ↔ ∃ a, 0 ≤ a ∧ a ≤ 9 ∧ bitZ R a ∧ edg K v1 s hr a b := by
  constructor
  · rintro ⟨d, d0, d1, x⟩
    obtain ⟨a, a0, a1, ra, ee⟩ := (ent_edg hc hK hs hh b0 d0 d1).mp x
    exact ⟨a, a0, a1, ra, d, d0, d1, ee⟩
  · rintro ⟨a, a0, a1, ra, d, d0, d1, ee⟩
    exact ⟨d, d0, d1, (ent_edg hc hK hs hh b0 d0 d1).mpr ⟨a, a0, a1, ra, ee⟩⟩
theorem F_nextRooms (he : 1 ≤ e) (hc : CXq h K q L) (hK : KR K) (hsc : scn sc) (hc0 : 60 ≤ sc) (hs : 0 ≤ v2 ∧ v2 ≤ 3) (hh : 0 ≤ v3 ∧ v3 ≤ 23) (k : ∀ r, i32 r → (∀ b, 0 ≤ b → b < 32 → (bitZ r b ↔ ∃ a, 0 ≤ a ∧ a ≤ 9 ∧ bitZ v4 a ∧ edg K (rd h sc 1) v2 v3 a b)) → Q (some (.inl r)) h) : Rn xs xl e mm_Plans_nextRooms 0 [some (.inr (.inr q)), some (.inr (.inr sc)), some (.inl v2), some (.inl v3), some (.inl v4), none, none] [] h Q := by
  obtain ⟨hF, -, hq, -⟩ := id hc
  refine B_Plans_nextRooms_0 hq hsc hc0 hF ⟨0, by omega, B_Quarter_aheadIn_0 hq hF hs (by omega) ⟨fun c => by omega, fun _ => ⟨by omega, ?_⟩⟩⟩
  refine B_Plans_nextRooms_10 hq hsc hc0 hF ⟨0, by omega, B_Quarter_backIn_0 hq hF hs (by omega) ⟨fun c => by omega, fun _ => ⟨by omega, ?_⟩⟩⟩
  refine B_Plans_nextRooms_22 hq hsc hc0 hF ⟨0, by omega, F_entered hc hK (fun r ri rb => B_Plans_nextRooms_34 hq hsc hc0 hF (k r ri (fun b b0 b1 => ?_)))⟩
  rw [rb b b0 b1]
  exact ent_all hc hK hs hh b0
end PL2
