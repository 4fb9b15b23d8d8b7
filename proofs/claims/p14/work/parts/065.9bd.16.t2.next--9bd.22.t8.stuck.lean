section
/-! plans, part t2: rooms one hour on -/
/-- through door d, by the bits A ahead and B back, one comes out of the rooms R into room b -/
def entD (K : KEY) (A B R b d : Int) : Prop := (bitZ A d ∧ bitZ R (K.1 (8 * d + 5)) ∧ b = K.1 (8 * d + 6)) ∨ (bitZ B d ∧ bitZ R (K.1 (8 * d + 6)) ∧ b = K.1 (8 * d + 5))
/-- in hour hr one comes from room a into room b -/
def edg (K : KEY) (sh s hr a b : Int) : Prop := ∃ d, 0 ≤ d ∧ d < K.1 1 ∧ LF K d s a hr sh 0 = b
theorem ex_lt {P : Int → Prop} {n : Int} (n0 : 0 ≤ n) : (∃ d, 0 ≤ d ∧ d < n + 1 ∧ P d) ↔ (∃ d, 0 ≤ d ∧ d < n ∧ P d) ∨ P n := by
  constructor
  · rintro ⟨d, d0, d1, hp⟩
    by_cases z : d = n
    · subst z; exact Or.inr hp
    · exact Or.inl ⟨d, d0, by omega, hp⟩
  · rintro (⟨d, d0, d1, hp⟩ | hp)
    · exact ⟨d, d0, by omega, hp⟩
    · exact ⟨n, n0, by omega, hp⟩
section PL2
variable {xs : Nat → Int} {xl e : Nat} {h g : LH} {Q : Option LV → LH → Prop} {K : KEY} {q d s hr a b A B R sc v1 v2 v3 v4 : Int} {L : List Int}
theorem CXq_d (hc : CXq h K q L) (d0 : 0 ≤ d) (d1 : d < K.1 1) : rd h (q + 7 + d) 2 = K.1 (8 * d + 5) ∧ rd h (q + 7 + d) 3 = K.1 (8 * d + 6) ∧ rd h (q + 7 + d) 5 = K.1 (8 * d + 8) ∧ rd h (q + 7 + d) 7 = K.1 (8 * d + 10) ∧ rd h (q + 7 + d) 8 = K.1 (8 * d + 11) := by
  have f := hc.2.2.2.2.2.1 d d0 d1
  exact ⟨(f 1 (by decide)).trans (by rw [show 8 * d + 4 + ((1 : Nat) : Int) = 8 * d + 5 by omega]), (f 2 (by decide)).trans (by rw [show 8 * d + 4 + ((2 : Nat) : Int) = 8 * d + 6 by omega]), (f 4 (by decide)).trans (by rw [show 8 * d + 4 + ((4 : Nat) : Int) = 8 * d + 8 by omega]), (f 6 (by decide)).trans (by rw [show 8 * d + 4 + ((6 : Nat) : Int) = 8 * d + 10 by omega]), (f 7 (by decide)).trans (by rw [show 8 * d + 4 + ((7 : Nat) : Int) = 8 * d + 11 by omega])⟩
theorem CXq_p {p : Int} (hc : CXq h K q L) (p0 : 0 ≤ p) (p1 : p < K.1 2) : rd h (q + 21 + p) 1 = K.1 (4 * p + 116) ∧ rd h (q + 21 + p) 2 = K.1 (4 * p + 117) ∧ rd h (q + 21 + p) 3 = K.1 (4 * p + 118) ∧ rd h (q + 21 + p) 4 = K.1 (4 * p + 119) := by
  have f := hc.2.2.2.2.2.2.1 p p0 p1
  exact ⟨(f 0 (by decide)).trans (by rw [show 116 + 4 * p + ((0 : Nat) : Int) = 4 * p + 116 by omega]), (f 1 (by decide)).trans (by rw [show 116 + 4 * p + ((1 : Nat) : Int) = 4 * p + 117 by omega]), (f 2 (by decide)).trans (by rw [show 116 + 4 * p + ((2 : Nat) : Int) = 4 * p + 118 by omega]), (f 3 (by decide)).trans (by rw [show 116 + 4 * p + ((3 : Nat) : Int) = 4 * p + 119 by omega])⟩
theorem F_entered (hc : CXq h K q L) (hK : KR K) (k : ∀ r, i32 r → (∀ b, 0 ≤ b → b < 32 → (bitZ r b ↔ ∃ d, 0 ≤ d ∧ d < K.1 1 ∧ entD K v1 v2 v3 b d)) → Q (some (.inl r)) h) : Rn xs xl e mm_Quarter_entered 0 [some (.inr (.inr q)), some (.inl v1), some (.inl v2), some (.inl v3), none, none, none] [] h Q := by
  obtain ⟨hF, hP, hq, -, ⟨-, n2, -⟩, -⟩ := id hc
  obtain ⟨k0, n1, -, kd, -⟩ := hK
  have l6 : ∀ (n : Nat) (v4 v5 : Int) (o : Option LV), K.1 1 - v5 ≤ n → 0 ≤ v5 → v5 ≤ K.1 1 → i32 v4 → (∀ b, 0 ≤ b → b < 32 → (bitZ v4 b ↔ ∃ d, 0 ≤ d ∧ d < v5 ∧ entD K v1 v2 v3 b d)) → Rn xs xl e mm_Quarter_entered 6 [some (.inr (.inr q)), some (.inl v1), some (.inl v2), some (.inl v3), some (.inl v4), some (.inl v5), o] [] h Q := by
    intro n
    induction n with
    | zero =>
      intro v4 v5 o hn a0 a1 vi vb
      refine B_Quarter_entered_6 hq hF hP ⟨a0, by omega⟩ ⟨fun _ => k v4 vi (fun b b0 b1 => ?_), fun c => by omega⟩
      rw [show K.1 1 = v5 by omega]
      exact vb b b0 b1
    | succ n ih =>
      intro v4 v5 o hn a0 a1 vi vb
      refine B_Quarter_entered_6 hq hF hP ⟨a0, by omega⟩ ⟨fun c => k v4 vi (fun b b0 b1 => ?_), fun c => ?_⟩
      · rw [show K.1 1 = v5 by omega]
        exact vb b b0 b1
      · have v1d : v5 < K.1 1 := by omega
        obtain ⟨e2, e3, -⟩ := CXq_d hc a0 v1d
        obtain ⟨r2, r3, -⟩ := kd v5 a0 v1d
        have s57 : ∀ w, i32 w → (∀ b, 0 ≤ b → b < 32 → (bitZ w b ↔ (∃ d, 0 ≤ d ∧ d < v5 ∧ entD K v1 v2 v3 b d) ∨ (bitZ v1 v5 ∧ bitZ v3 (K.1 (8 * v5 + 5)) ∧ b = K.1 (8 * v5 + 6)))) → Rn xs xl e mm_Quarter_entered 57 [some (.inr (.inr q)), some (.inl v1), some (.inl v2), some (.inl v3), some (.inl w), some (.inl v5), some (.inr (.inr (q + 7 + v5)))] [] h Q := by
          intro w wi wb
          have go : (¬ (bitZ v2 v5 ∧ bitZ v3 (K.1 (8 * v5 + 6)))) → Rn xs xl e mm_Quarter_entered 6 [some (.inr (.inr q)), some (.inl v1), some (.inl v2), some (.inl v3), some (.inl w), some (.inl (v5 + 1)), some (.inr (.inr (q + 7 + v5)))] [] h Q := fun nz => ih w (v5 + 1) _ (by omega) (by omega) (by omega) wi (fun b b0 b1 => by
            rw [wb b b0 b1, ex_lt a0]
            unfold entD
            exact ⟨fun y => y.elim Or.inl (fun y => Or.inr (Or.inl y)), fun y => y.elim Or.inl (fun y => y.elim Or.inr (fun y => absurd ⟨y.1, y.2.1⟩ nz))⟩)
          refine B_Quarter_entered_57 hq hF ⟨a0, by omega⟩ ⟨fun z => go (fun y => bitZ_n.mpr z y.1), fun z => ⟨fun y => ?_, fun y => ?_⟩⟩
          · rw [e3] at y
            exact go (fun x => bitZ_n.mpr y x.2)
          · rw [e3] at y
            rw [e2]
            have bz : bitZ v2 v5 := Classical.byContradiction (fun n => z (bitZ_n.mp n))
            have by' : bitZ v3 (K.1 (8 * v5 + 6)) := Classical.byContradiction (fun n => y (bitZ_n.mp n))
            refine ih _ (v5 + 1) _ (by omega) (by omega) (by omega) (zor_i _ _) (fun b b0 b1 => ?_)
            rw [bit_or b0 b1, bit_shl (by omega) (by omega) b0 b1, wb b b0 b1, ex_lt a0]
            unfold entD
            exact ⟨fun y => y.elim (fun y => y.elim Or.inl (fun y => Or.inr (Or.inl y))) (fun y => Or.inr (Or.inr ⟨bz, by', y⟩)), fun y => y.elim (fun y => Or.inl (Or.inl y)) (fun y => y.elim (fun y => Or.inl (Or.inr y)) (fun y => Or.inr y.2.2))⟩
        have go : (¬ (bitZ v1 v5 ∧ bitZ v3 (K.1 (8 * v5 + 5)))) → Rn xs xl e mm_Quarter_entered 57 [some (.inr (.inr q)), some (.inl v1), some (.inl v2), some (.inl v3), some (.inl v4), some (.inl v5), some (.inr (.inr (q + 7 + v5)))] [] h Q := fun nz => s57 v4 vi (fun b b0 b1 => by
          rw [vb b b0 b1]
          exact ⟨Or.inl, fun y => y.elim (fun y => y) (fun y => absurd ⟨y.1, y.2.1⟩ nz)⟩)
        refine ⟨by omega, fun z => go (fun y => bitZ_n.mpr z y.1), fun z => ⟨fun y => ?_, fun y => ?_⟩⟩
        · rw [e2] at y
          exact go (fun x => bitZ_n.mpr y x.2)
        · rw [e2] at y
          rw [e3]
          have bz : bitZ v1 v5 := Classical.byContradiction (fun n => z (bitZ_n.mp n))
          have by' : bitZ v3 (K.1 (8 * v5 + 5)) := Classical.byContradiction (fun n => y (bitZ_n.mp n))
          refine s57 _ (zor_i _ _) (fun b b0 b1 => ?_)
          rw [bit_or b0 b1, bit_shl (by omega) (by omega) b0 b1, vb b b0 b1]
          exact ⟨fun y => y.elim Or.inl (fun y => Or.inr ⟨bz, by', y⟩), fun y => y.elim Or.inl (fun y => Or.inr y.2.2)⟩
  exact B_Quarter_entered_0 hq hF (l6 (K.1 1).toNat 0 0 none (by omega) (by omega) (by omega) z32 (fun b b0 b1 => ⟨fun y => absurd y bit_zero, fun ⟨d, d0, d1, _⟩ => by omega⟩))
/-- the doors that let by, as bits -/
theorem CXq_ah (hc : CXq h K q L) (hK : KR K) (hs : 0 ≤ s ∧ s ≤ 3) (hh : 0 ≤ hr ∧ hr ≤ 23) (d0 : 0 ≤ d) (d1 : d < K.1 1) : (bitZ (zand (rd h (q + 5) (24 * s + hr)) (zxor v1 (-1))) d ↔ wAh (rd h (q + 7 + d)) L s hr (rd h (q + 7 + d) 8) 0 ∧ ¬ bitZ v1 d) ∧ (bitZ (zand (rd h (q + 6) (24 * s + hr)) (zxor v1 (-1))) d ↔ wBk (rd h (q + 7 + d)) L s hr (rd h (q + 7 + d) 8) 0 ∧ ¬ bitZ v1 d) := by
  obtain ⟨-, -, -, -, ⟨-, n2, -⟩, -, -, st, -⟩ := hc
  have n1 := hK.2.1
  obtain ⟨s1, s2⟩ := st s hr hs.1 hs.2 hh.1 hh.2
  have a := s1 d d0 (by omega)
  have b := s2 d d0 (by omega)
  have d1' : d < rd h q 2 := by omega
  constructor
  · rw [bit_and d0 (by omega), bit_not d0 (by omega), a]
    exact ⟨fun y => ⟨y.1.2, y.2⟩, fun y => ⟨⟨d1', y.1⟩, y.2⟩⟩
  · rw [bit_and d0 (by omega), bit_not d0 (by omega), b]
    exact ⟨fun y => ⟨y.1.2, y.2⟩, fun y => ⟨⟨d1', y.1⟩, y.2⟩⟩
theorem ent_edg (hc : CXq h K q L) (hK : KR K) (hs : 0 ≤ s ∧ s ≤ 3) (hh : 0 ≤ hr ∧ hr ≤ 23) (b0 : 0 ≤ b) (d0 : 0 ≤ d) (d1 : d < K.1 1) : entD K (zand (rd h (q + 5) (24 * s + hr)) (zxor v1 (-1))) (zand (rd h (q + 6) (24 * s + hr)) (zxor v1 (-1))) R b d ↔ ∃ a, 0 ≤ a ∧ a ≤ 9 ∧ bitZ R a ∧ LF K d s a hr v1 0 = b := by
  obtain ⟨bA, bB⟩ := CXq_ah (v1 := v1) hc hK hs hh d0 d1
  obtain ⟨e2, e3, -⟩ := CXq_d hc d0 d1
  obtain ⟨k0, n1, -, kd, -⟩ := hK
  obtain ⟨r2, r3, -⟩ := kd d d0 d1
  have lf := hc.2.2.2.2.2.2.2.2
  unfold entD
  rw [bA, bB, ← e2, ← e3]
  rw [← e2] at r2
  rw [← e3] at r3
  constructor
  · rintro (⟨x, y, rfl⟩ | ⟨x, y, rfl⟩)
    · refine ⟨_, r2.1, by omega, y, ?_⟩
      rw [lf d s _ hr v1 d0 d1 hs.1 hs.2 r2.1 (by omega) hh.1 hh.2]
      unfold inF
      rw [if_pos ⟨rfl, x⟩]
    · refine ⟨_, r3.1, by omega, y, ?_⟩
      rw [lf d s _ hr v1 d0 d1 hs.1 hs.2 r3.1 (by omega) hh.1 hh.2]
      unfold inF
      by_cases c : rd h (q + 7 + d) 2 = rd h (q + 7 + d) 3 ∧ wAh (rd h (q + 7 + d)) L s hr (rd h (q + 7 + d) 8) 0 ∧ ¬ bitZ v1 d
      · rw [if_pos c]
        exact c.1.symm
      · rw [if_neg c, if_pos ⟨rfl, x⟩]
  · rintro ⟨a, a0, a1, ra, ee⟩
    rw [lf d s a hr v1 d0 d1 hs.1 hs.2 a0 a1 hh.1 hh.2] at ee
    unfold inF at ee
    by_cases c : rd h (q + 7 + d) 2 = a ∧ wAh (rd h (q + 7 + d)) L s hr (rd h (q + 7 + d) 8) 0 ∧ ¬ bitZ v1 d
    · rw [if_pos c] at ee
      exact Or.inl ⟨c.2, by rw [c.1]; exact ra, ee.symm⟩
    · rw [if_neg c] at ee
      by_cases c2 : rd h (q + 7 + d) 3 = a ∧ wBk (rd h (q + 7 + d)) L s hr (rd h (q + 7 + d) 8) 0 ∧ ¬ bitZ v1 d
      · rw [if_pos c2] at ee
        exact Or.inr ⟨c2.2, by rw [c2.1]; exact ra, ee.symm⟩
      · rw [if_neg c2] at ee
        omega
theorem ent_all (hc : CXq h K q L) (hK : KR K) (hs : 0 ≤ s ∧ s ≤ 3) (hh : 0 ≤ hr ∧ hr ≤ 23) (b0 : 0 ≤ b) : (∃ d, 0 ≤ d ∧ d < K.1 1 ∧ entD K (zand (rd h (q + 5) (24 * s + hr)) (zxor v1 (-1))) (zand (rd h (q + 6) (24 * s + hr)) (zxor v1 (-1))) R b d) ↔ ∃ a, 0 ≤ a ∧ a ≤ 9 ∧ bitZ R a ∧ edg K v1 s hr a b := by
  constructor
  · rintro ⟨d, d0, d1, x⟩
    obtain ⟨a, a0, a1, ra, ee⟩ := (ent_edg hc hK hs hh b0 d0 d1).mp x
    exact ⟨a, a0, a1, ra, d, d0, d1, ee⟩
  · rintro ⟨a, a0, a1, ra, d, d0, d1, ee⟩
    exact ⟨d, d0, d1, (ent_edg hc hK hs hh b0 d0 d1).mpr ⟨a, a0, a1, ra, ee⟩⟩
theorem F_nextRooms (he : 1 ≤ e) (hc : CXq h K q L) (hK : KR K) (hsc : scn sc) (hc0 : 60 ≤ sc) (hs : 0 ≤ v2 ∧ v2 ≤ 3) (hh : 0 ≤ v3 ∧ v3 ≤ 23) (k : ∀ r, i32 r → (∀ b, 0 ≤ b → b < 32 → (bitZ r b ↔ ∃ a, 0 ≤ a ∧ a ≤ 9 ∧ bitZ v4 a ∧ edg K (rd h sc 1) v2 v3 a b)) → Q (some (.inl r)) h) : Rn xs xl e mm_Plans_nextRooms 0 [some (.inr (.inr q)), some (.inr (.inr sc)), some (.inl v2), some (.inl v3), some (.inl v4), none, none] [] h Q := by
  obtain ⟨hF, -, hq, -⟩ := id hc
  refine B_Plans_nextRooms_0 hq hsc hc0 hF ⟨0, by omega, B_Quarter_aheadIn_0 hq hF hs (by omega) ⟨fun c => by omega, fun _ => ⟨by omega, ?_⟩⟩⟩
  refine B_Plans_nextRooms_10 hq hsc hc0 hF ⟨0, by omega, B_Quarter_backIn_0 hq hF hs (by omega) ⟨fun c => by omega, fun _ => ⟨by omega, ?_⟩⟩⟩
  refine B_Plans_nextRooms_22 hq hsc hc0 hF ⟨0, by omega, F_entered hc hK (fun r ri rb => B_Plans_nextRooms_34 hq hsc hc0 hF (k r ri (fun b b0 b1 => ?_)))⟩
  rw [rb b b0 b1]
  exact ent_all hc hK hs hh b0
end PL2
end
section
/-! plans, part t3: the reference's stepOf, both ways; reached in so many hours -/
section PL3
variable {xs : Nat → Int} {xl e : Nat} {h : LH} {Q : Option LV → LH → Prop} {K : KEY} {S : Int → Int} {b p : Int}
/-- one hour on -/
def stp (K : KEY) (S : Int → Int) (b p hr : Int) (X : Int → Prop) (j : Int) : Prop := X j ∨ ∃ q d, 0 ≤ q ∧ q ≤ 19 ∧ 0 ≤ d ∧ d < K.1 1 ∧ X q ∧ 0 ≤ tr K S b p hr q d ∧ tr K S b p hr q d = j
theorem G_stepOfX {set hr : Int} (he : 5 ≤ e) (w : WC K S h) (hb : 0 ≤ b ∧ b ≤ 1540) (hp : 0 ≤ p ∧ p ≤ 5) (hhr : 0 ≤ hr ∧ hr ≤ 24) (hs0 : i32 set) (k : ∀ r h', WC K S h' → frL h h' → i32 r → (∀ j, 0 ≤ j → j < 32 → (bitZ r j ↔ stp K S b p hr (bitZ set) j)) → Q (some (.inl r)) h') : Rn xs xl e mm_stepOf 0 [some (.inr (.inr 182)), some (.inl b), some (.inl p), some (.inl set), some (.inl hr), none, none, none, none, none] [] h Q := by
  obtain ⟨kb1, kb0, kbs, kbh, kbe, -⟩ := KB_of w hp
  -- after the states below q, and the doors below d of q
  have inner : ∀ (n : Nat) (g : LH) (nx q d : Int) (o8 o9 : Option LV), K.1 1 - d ≤ n → 0 ≤ q → q ≤ 19 → 0 ≤ d → d ≤ K.1 1 → WC K S g → frL h g → i32 nx → (∀ j, 0 ≤ j → j < 32 → (bitZ nx j ↔ bitZ set j ∨ (∃ q', 0 ≤ q' ∧ q' < q ∧ ∃ d', 0 ≤ d' ∧ d' < K.1 1 ∧ bitZ set q' ∧ 0 ≤ tr K S b p hr q' d' ∧ tr K S b p hr q' d' = j) ∨ ∃ d', 0 ≤ d' ∧ d' < d ∧ bitZ set q ∧ 0 ≤ tr K S b p hr q d' ∧ tr K S b p hr q d' = j)) → (∀ g nx o7 o8 o9, WC K S g → frL h g → i32 nx → (∀ j, 0 ≤ j → j < 32 → (bitZ nx j ↔ bitZ set j ∨ (∃ q', 0 ≤ q' ∧ q' < q + 1 ∧ ∃ d', 0 ≤ d' ∧ d' < K.1 1 ∧ bitZ set q' ∧ 0 ≤ tr K S b p hr q' d' ∧ tr K S b p hr q' d' = j))) → Rn xs xl e mm_stepOf 6 [some (.inr (.inr 182)), some (.inl b), some (.inl p), some (.inl set), some (.inl hr), some (.inl nx), some (.inl (q + 1)), o7, o8, o9] [] g Q) → Rn xs xl e mm_stepOf 16 [some (.inr (.inr 182)), some (.inl b), some (.inl p), some (.inl set), some (.inl hr), some (.inl nx), some (.inl q), some (.inl d), o8, o9] [] g Q := by
    intro n
    induction n with
    | zero =>
      intro g nx q d o8 o9 hn q0 q1 d0 d1 gw gf ni gi cont
      have dn : d = K.1 1 := by omega
      have e1 : rd g 188 1 = K.1 1 := by have := gw.2.1; unfold key at this; rw [← this]
      refine B_stepOf_16 (RF_of gw.1.1) hb hp ⟨q0, q1⟩ ⟨d0, by omega⟩ (by omega) ⟨fun _ => cont g nx _ o8 o9 gw gf ni (fun j j0 j1 => ?_), fun c => by omega⟩
      rw [gi j j0 j1, ex_lt q0, dn]
    | succ n ih =>
      intro g nx q d o8 o9 hn q0 q1 d0 d1 gw gf ni gi cont
      have e1 : rd g 188 1 = K.1 1 := by have := gw.2.1; unfold key at this; rw [← this]
      refine B_stepOf_16 (RF_of gw.1.1) hb hp ⟨q0, q1⟩ ⟨d0, by omega⟩ (by omega) ⟨fun c => cont g nx _ o8 o9 gw gf ni (fun j j0 j1 => ?_), fun c => ⟨fun z => cont g nx _ o8 o9 gw gf ni (fun j j0 j1 => ?_), fun z => ⟨4, by omega, ?_⟩⟩⟩
      · have dn : d = K.1 1 := by omega
        rw [gi j j0 j1, ex_lt q0, dn]
      · rw [gi j j0 j1, ex_lt q0]
        have nz : ¬ bitZ set q := z
        exact ⟨fun y => y.elim Or.inl (fun y => y.elim (fun y => Or.inr (Or.inl y)) (fun ⟨_, _, _, s, _⟩ => absurd s nz)), fun y => y.elim Or.inl (fun y => y.elim (fun y => Or.inr (Or.inl y)) (fun ⟨_, _, _, s, _⟩ => absurd s nz))⟩
      · have es : rd g 188 (4 * p + 116) = K.1 (4 * p + 116) := by have := gw.2.1; unfold key at this; rw [← this]
        have ee : rd g 188 (4 * p + 118) = K.1 (4 * p + 118) := by have := gw.2.1; unfold key at this; rw [← this]
        have dK : d < K.1 1 := by omega
        rw [es]
        refine D_leadsNow (by omega) gw hb (by omega) (by omega) (by omega) (by omega) (fun u uw uf => ?_)
        have nk := NW_ok K (S (b + 1)) (s := K.1 (4 * p + 116)) (d := d) (room := q % 10) (hr := hr) (by omega) (by omega) (by omega) (by omega)
        have et : tr K S b p hr q d = if NW K (S (b + 1)) (K.1 (4 * p + 116)) d (q % 10) hr < 0 then -1 else NW K (S (b + 1)) (K.1 (4 * p + 116)) d (q % 10) hr + (if 10 ≤ q ∨ NW K (S (b + 1)) (K.1 (4 * p + 116)) d (q % 10) hr = K.1 (4 * p + 118) then 10 else 0) := rfl
        have ue : rd u 188 (4 * p + 118) = K.1 (4 * p + 118) := by have := uw.2.1; unfold key at this; rw [← this]
        have fu : frL h u := fun a i n1 n2 => (uf a i n1 n2).trans (gf a i n1 n2)
        have nk1 := nk.1
        clear nk
        generalize NW K (S (b + 1)) (K.1 (4 * p + 116)) d (q % 10) hr = v at *
        have bs : bitZ set q := z
        have next : ∀ (nx' : Int) (o8 o9 : Option LV), i32 nx' → (∀ j, 0 ≤ j → j < 32 → (bitZ nx' j ↔ bitZ nx j ∨ (0 ≤ tr K S b p hr q d ∧ tr K S b p hr q d = j))) → Rn xs xl e mm_stepOf 16 [some (.inr (.inr 182)), some (.inl b), some (.inl p), some (.inl set), some (.inl hr), some (.inl nx'), some (.inl q), some (.inl (d + 1)), o8, o9] [] u Q := by
          intro nx' o8 o9 ni' hb'
          refine ih u nx' q (d + 1) o8 o9 (by omega) q0 q1 (by omega) (by omega) uw fu ni' (fun j j0 j1 => ?_) cont
          rw [hb' j j0 j1, gi j j0 j1, ex_lt d0]
          constructor
          · rintro ((y | y | y) | y)
            · exact Or.inl y
            · exact Or.inr (Or.inl y)
            · exact Or.inr (Or.inr (Or.inl y))
            · exact Or.inr (Or.inr (Or.inr ⟨bs, y⟩))
          · rintro (y | y | y | y)
            · exact Or.inl (Or.inl y)
            · exact Or.inl (Or.inr (Or.inl y))
            · exact Or.inl (Or.inr (Or.inr y))
            · exact Or.inr y.2
        have put : ∀ (m : Int) (o8 o9 : Option LV), 0 ≤ m → m ≤ 19 → tr K S b p hr q d = m → Rn xs xl e mm_stepOf 16 [some (.inr (.inr 182)), some (.inl b), some (.inl p), some (.inl set), some (.inl hr), some (.inl (zor nx (zshl 1 m))), some (.inl q), some (.inl (d + 1)), o8, o9] [] u Q := fun m o8 o9 m0 m1 em => next _ o8 o9 (zor_i _ _) (fun j j0 j1 => by
          rw [bit_or j0 j1, bit_shl m0 (by omega) j0 j1, em]
          exact ⟨fun y => y.elim Or.inl (fun y => Or.inr ⟨m0, y.symm⟩), fun y => y.elim Or.inl (fun y => Or.inr y.2.symm)⟩)
        have non : ∀ (o8 o9 : Option LV), tr K S b p hr q d = -1 → Rn xs xl e mm_stepOf 16 [some (.inr (.inr 182)), some (.inl b), some (.inl p), some (.inl set), some (.inl hr), some (.inl (zor nx 0)), some (.inl q), some (.inl (d + 1)), o8, o9] [] u Q := fun o8 o9 em => next _ o8 o9 (zor_i _ _) (fun j j0 j1 => by
          rw [bit_or j0 j1, em]
          exact ⟨fun y => y.elim Or.inl (fun y => absurd y bit_zero), fun y => y.elim Or.inl (fun y => absurd y.1 (by decide))⟩)
        refine B_stepOf_54 (RF_of uw.1.1) hb hp ⟨q0, q1⟩ ⟨d0, by omega⟩ nk1 (by omega) ⟨fun c10 => ⟨fun v0 => put _ _ _ (by omega) (by omega) ?_, fun v0 => non _ _ ?_⟩, fun c10 => ⟨fun ne => ⟨fun v0 => put _ _ _ v0 (by omega) ?_, fun v0 => non _ _ ?_⟩, fun eq => ⟨fun v0 => put _ _ _ (by omega) (by omega) ?_, fun v0 => non _ _ ?_⟩⟩⟩
        · rw [et, if_neg (by omega), if_pos (Or.inl c10)]
        · rw [et, if_pos v0]
        · rw [ue] at ne
          rw [et, if_neg (by omega), if_neg (by omega), Int.add_zero]
        · rw [et, if_pos v0]
        · rw [ue] at eq
          rw [et, if_neg (by omega), if_pos (Or.inr eq)]
        · rw [et, if_pos v0]
  have outer : ∀ (n : Nat) (g : LH) (nx q : Int) (o7 o8 o9 : Option LV), 20 - q ≤ n → 0 ≤ q → q ≤ 20 → WC K S g → frL h g → i32 nx → (∀ j, 0 ≤ j → j < 32 → (bitZ nx j ↔ bitZ set j ∨ (∃ q', 0 ≤ q' ∧ q' < q ∧ ∃ d', 0 ≤ d' ∧ d' < K.1 1 ∧ bitZ set q' ∧ 0 ≤ tr K S b p hr q' d' ∧ tr K S b p hr q' d' = j))) → Rn xs xl e mm_stepOf 6 [some (.inr (.inr 182)), some (.inl b), some (.inl p), some (.inl set), some (.inl hr), some (.inl nx), some (.inl q), o7, o8, o9] [] g Q := by
    intro n
    have stop : ∀ (g : LH) (nx q : Int), q = 20 → WC K S g → frL h g → i32 nx → (∀ j, 0 ≤ j → j < 32 → (bitZ nx j ↔ bitZ set j ∨ (∃ q', 0 ≤ q' ∧ q' < q ∧ ∃ d', 0 ≤ d' ∧ d' < K.1 1 ∧ bitZ set q' ∧ 0 ≤ tr K S b p hr q' d' ∧ tr K S b p hr q' d' = j))) → Q (some (.inl nx)) g := by
      intro g nx q hq gw gf ni gi
      refine k nx g gw gf ni (fun j j0 j1 => ?_)
      rw [gi j j0 j1, hq]
      unfold stp
      exact ⟨fun y => y.elim Or.inl (fun ⟨q', a, c, d', x⟩ => Or.inr ⟨q', d', a, by omega, x⟩), fun y => y.elim Or.inl (fun ⟨q', d', a, c, x⟩ => Or.inr ⟨q', a, by omega, d', x⟩)⟩
    induction n with
    | zero =>
      intro g nx q o7 o8 o9 hn q0 q1 gw gf ni gi
      exact B_stepOf_6 (RF_of gw.1.1) hb hp ⟨q0, q1⟩ ⟨fun _ => stop g nx q (by omega) gw gf ni gi, fun c => by omega⟩
    | succ n ih =>
      intro g nx q o7 o8 o9 hn q0 q1 gw gf ni gi
      refine B_stepOf_6 (RF_of gw.1.1) hb hp ⟨q0, q1⟩ ⟨fun c => stop g nx q (by omega) gw gf ni gi, fun c => ?_⟩
      refine inner (K.1 1).toNat g nx q 0 o8 o9 (by omega) q0 (by omega) (by omega) (by omega) gw gf ni (fun j j0 j1 => ?_) (fun g nx o7 o8 o9 gw gf ni gi => ih g nx (q + 1) o7 o8 o9 (by omega) (by omega) (by omega) gw gf ni gi)
      rw [gi j j0 j1]
      exact ⟨fun y => y.elim Or.inl (fun y => Or.inr (Or.inl y)), fun y => y.elim Or.inl (fun y => y.elim Or.inr (fun ⟨d', a, c, _⟩ => by omega))⟩
  refine B_stepOf_0 (RF_of w.1.1) hb hp (outer 20 h set 0 none none none (by omega) (by omega) (by omega) w (fun _ _ _ _ => rfl) hs0 (fun j j0 j1 => ⟨Or.inl, fun y => y.elim (fun y => y) (fun ⟨q', a, c, _⟩ => by omega)⟩))
end PL3
end
section
/-! plans, part t4: the first hour in which something holds -/
def fsH (f : Int) (P : Int → Prop) (r : Int) : Prop := (r = -1 ∧ ∀ x, f ≤ x → x < 24 → ¬ P x) ∨ (f ≤ r ∧ r < 24 ∧ P r ∧ ∀ x, f ≤ x → x < r → ¬ P x)
theorem fsH_one {f r r' : Int} {P P' : Int → Prop} (hf : 0 ≤ f) (hp : ∀ x, f ≤ x → x < 24 → (P x ↔ P' x)) (h : fsH f P r) (h' : fsH f P' r') : r = r' := by
  rcases h with ⟨rfl, n⟩ | ⟨a, b, c, d⟩
  · rcases h' with ⟨rfl, n'⟩ | ⟨a', b', c', d'⟩
    · rfl
    · exact absurd ((hp r' a' b').mpr c') (n r' a' b')
  · rcases h' with ⟨rfl, n'⟩ | ⟨a', b', c', d'⟩
    · exact absurd ((hp r a b).mp c) (n' r a b)
    · by_cases z : r < r'
      · exact absurd ((hp r a b).mp c) (d' r a z)
      · by_cases y : r' < r
        · exact absurd ((hp r' a' b').mpr c') (d r' a' y)
        · omega
section PL4
variable {xs : Nat → Int} {xl e : Nat} {h : LH} {Q : Option LV → LH → Prop} {K : KEY} {S : Int → Int} {b p : Int}
theorem Rch_last : ∀ {n : Nat} {hr k0 j : Int}, Rch K S b p (n + 1) hr k0 j → ∃ k, Rch K S b p n hr k0 k ∧ (k = j ∨ ∃ d, 0 ≤ d ∧ d < K.1 1 ∧ 0 ≤ tr K S b p (hr + n) k d ∧ tr K S b p (hr + n) k d = j)
  | 0, hr, k0, j, h => by
    refine ⟨k0, rfl, ?_⟩
    rw [show hr + ((0 : Nat) : Int) = hr by omega]
    rcases h with q | ⟨d, d0, d1, d2, d3⟩
    · exact Or.inl q
    · exact Or.inr ⟨d, d0, d1, d2, d3⟩
  | n + 1, hr, k0, j, h => by
    have e : hr + ((n + 1 : Nat) : Int) = hr + 1 + (n : Int) := by omega
    rw [e]
    rcases h with q | ⟨d, d0, d1, d2, d3⟩
    · obtain ⟨k, k1, k2⟩ := Rch_last q
      exact ⟨k, Or.inl k1, k2⟩
    · obtain ⟨k, k1, k2⟩ := Rch_last d3
      exact ⟨k, Or.inr ⟨d, d0, d1, d2, k1⟩, k2⟩
theorem Rch_in (kb : KB K p) : ∀ {n : Nat} {hr k0 j : Int}, 0 ≤ hr → hr + n ≤ 26 → 0 ≤ k0 → k0 ≤ 19 → Rch K S b p n hr k0 j → 0 ≤ j ∧ j ≤ 19
  | 0, hr, k0, j, h0, h1, a, c, h => by
    have h : k0 = j := h
    omega
  | n + 1, hr, k0, j, h0, h1, a, c, h => by
    rcases h with q | ⟨d, d0, d1, d2, d3⟩
    · exact Rch_in kb (by omega) (by omega) a c q
    · have t := tr_ok (S := S) (b := b) (hr := hr) kb ⟨a, c⟩ ⟨d0, d1⟩ (by omega)
      exact Rch_in kb (by omega) (by omega) d2 t.2.1 d3
/-- one hour more -/
theorem Rch_stp (kb : KB K p) {n : Nat} {hr k0 j : Int} (h0 : 0 ≤ hr) (h1 : hr + n ≤ 25) (a : 0 ≤ k0) (c : k0 ≤ 19) : Rch K S b p (n + 1) hr k0 j ↔ stp K S b p (hr + n) (fun j => Rch K S b p n hr k0 j) j := by
  unfold stp
  constructor
  · intro h
    obtain ⟨k, k1, k2⟩ := Rch_last h
    rcases k2 with rfl | ⟨d, d0, d1, d2, d3⟩
    · exact Or.inl k1
    · have i := Rch_in kb h0 (by omega) a c k1
      exact Or.inr ⟨k, d, i.1, i.2, d0, d1, k1, d2, d3⟩
  · rintro (y | ⟨k, d, i0, i1, d0, d1, k1, d2, d3⟩)
    · exact Rch_snoc y (Or.inl rfl)
    · exact Rch_snoc k1 (Or.inr ⟨d, d0, d1, d2, d3⟩)
theorem stp_congr {hr j : Int} {X Y : Int → Prop} (h : ∀ j, 0 ≤ j → j < 32 → (X j ↔ Y j)) (j0 : 0 ≤ j) (j1 : j < 32) : stp K S b p hr X j ↔ stp K S b p hr Y j := by
  unfold stp
  rw [h j j0 j1]
  constructor
  · rintro (y | ⟨k, d, i0, i1, d0, d1, k1, x⟩)
    · exact Or.inl y
    · exact Or.inr ⟨k, d, i0, i1, d0, d1, (h k i0 (by omega)).mp k1, x⟩
  · rintro (y | ⟨k, d, i0, i1, d0, d1, k1, x⟩)
    · exact Or.inl y
    · exact Or.inr ⟨k, d, i0, i1, d0, d1, (h k i0 (by omega)).mpr k1, x⟩
/-- what firstHour answers, asked for the states m -/
def FHr (K : KEY) (S : Int → Int) (b p m r : Int) : Prop := (bitZ m (k0F S b p) ∧ r = S b) ∨ (¬ bitZ m (k0F S b p) ∧ fsH (S b + S (b + p + 14)) (fun x => ∃ j, 0 ≤ j ∧ j ≤ 19 ∧ bitZ m j ∧ Rch K S b p (x + 1 - (S b + S (b + p + 14))).toNat (S b + S (b + p + 14)) (k0F S b p) j) r)
theorem G_firstHourX {m : Int} (he : 6 ≤ e) (w : WC K S h) (b0 : b % 70 = 0) (hb : 0 ≤ b ∧ b ≤ 1540) (hp : 0 ≤ p ∧ p ≤ 5) (k : ∀ r h', WC K S h' → frL h h' → FHr K S b p m r → Q (some (.inl r)) h') : Rn xs xl e mm_firstHour 0 [some (.inr (.inr 182)), some (.inl b), some (.inl p), some (.inl m), none, none] [] h Q := by
  have kb := KB_of w hp
  obtain ⟨s0, s1, s2, s3⟩ := SB_of w b0 hb hp
  have k0r : 0 ≤ k0F S b p ∧ k0F S b p ≤ 19 := by unfold k0F; split <;> omega
  generalize ef : S b + S (b + p + 14) = f at *
  -- the set before hour hr
  have loop : ¬ bitZ m (k0F S b p) → ∀ (n : Nat) (g : LH) (set hr : Int), 24 - hr ≤ n → S b ≤ hr → hr ≤ 24 → WC K S g → frL h g → i32 set → (∀ j, 0 ≤ j → j < 32 → (bitZ set j ↔ Rch K S b p (hr - f).toNat f (k0F S b p) j)) → (∀ x, f ≤ x → x < hr → ¬ ∃ j, 0 ≤ j ∧ j ≤ 19 ∧ bitZ m j ∧ Rch K S b p (x + 1 - f).toNat f (k0F S b p) j) → Rn xs xl e mm_firstHour 34 [some (.inr (.inr 182)), some (.inl b), some (.inl p), some (.inl m), some (.inl set), some (.inl hr)] [] g Q := by
    intro nm n
    have stop : ∀ (g : LH) (hr : Int), 24 ≤ hr → WC K S g → frL h g → (∀ x, f ≤ x → x < hr → ¬ ∃ j, 0 ≤ j ∧ j ≤ 19 ∧ bitZ m j ∧ Rch K S b p (x + 1 - f).toNat f (k0F S b p) j) → Q (some (.inl (-1))) g := by
      intro g hr h24 gw gf gn
      refine k (-1) g gw gf (Or.inr ⟨nm, Or.inl ⟨rfl, fun x x0 x1 => ?_⟩⟩)
      rw [ef] at x0 ⊢
      exact gn x x0 (by omega)
    induction n with
    | zero =>
      intro g set hr hn h0 h1 gw gf si gi gn
      exact B_firstHour_34 (RF_of gw.1.1) hb hp (by omega) ⟨fun c => stop g hr c gw gf gn, fun c => by omega⟩
    | succ n ih =>
      intro g set hr hn h0 h1 gw gf si gi gn
      have e0 : rd g 198 b = S b := by rw [gw.2.2]
      have e1 : rd g 198 (b + p + 14) = S (b + p + 14) := by rw [gw.2.2]
      have t84 : ∀ (g' : LH) (set' : Int), hr < 24 → WC K S g' → frL h g' → i32 set' → (∀ j, 0 ≤ j → j < 32 → (bitZ set' j ↔ Rch K S b p (hr + 1 - f).toNat f (k0F S b p) j)) → Rn xs xl e mm_firstHour 84 [some (.inr (.inr 182)), some (.inl b), some (.inl p), some (.inl m), some (.inl set), some (.inl hr)] [.inl set'] g' Q := by
        intro g' set' hl gw' gf' si' gi'
        have hit : zand set' m ≠ 0 ↔ ∃ j, 0 ≤ j ∧ j ≤ 19 ∧ bitZ m j ∧ Rch K S b p (hr + 1 - f).toNat f (k0F S b p) j := by
          rw [zand_ne]
          constructor
          · rintro ⟨j, j0, j1, a, c⟩
            have y := (gi' j j0 j1).mp a
            have i := Rch_in kb (by omega) (by omega) k0r.1 k0r.2 y
            exact ⟨j, i.1, i.2, c, y⟩
          · rintro ⟨j, j0, j1, a, c⟩
            exact ⟨j, j0, by omega, (gi' j j0 (by omega)).mpr c, a⟩
        refine B_firstHour_84 (RF_of gw'.1.1) hb hp (by omega) ⟨fun z => ih g' set' (hr + 1) (by omega) (by omega) (by omega) gw' gf' si' gi' (fun x x0 x1 => ?_), fun z => ?_⟩
        · by_cases y : x = hr
          · rw [y]
            exact fun v => absurd z (hit.mpr v)
          · exact gn x x0 (by omega)
        · have v := hit.mp z
          have fh : f ≤ hr := by
            refine Classical.byContradiction (fun n => ?_)
            rw [show (hr + 1 - f).toNat = 0 by omega] at v
            obtain ⟨j, j0, j1, a, c⟩ := v
            have c : k0F S b p = j := c
            rw [c] at nm
            exact nm a
          refine k hr g' gw' gf' (Or.inr ⟨nm, Or.inr ?_⟩)
          rw [ef]
          exact ⟨fh, hl, v, fun x x0 x1 => gn x x0 x1⟩
      have stpc : hr < 24 → ¬ (hr = S b ∧ S (b + p + 14) = 1) → ∃ c, c < e ∧ Rn xs xl c mm_stepOf 0 [some (.inr (.inr 182)), some (.inl b), some (.inl p), some (.inl set), some (.inl hr), none, none, none, none, none] [] g (fun r h' => Rn xs xl e mm_firstHour 84 [some (.inr (.inr 182)), some (.inl b), some (.inl p), some (.inl m), some (.inl set), some (.inl hr)] (r.toList ++ []) h' Q) := by
        intro hl hn2
        refine ⟨5, by omega, G_stepOfX (by omega) gw hb hp (by omega) si (fun r g' gw' gf' ri rb => t84 g' r hl gw' (gf.trans gf') ri (fun j j0 j1 => ?_))⟩
        have el : (hr + 1 - f).toNat = (hr - f).toNat + 1 := by omega
        have ec : f + (((hr - f).toNat : Nat) : Int) = hr := by omega
        rw [rb j j0 j1, el, Rch_stp kb (by omega) (by omega) k0r.1 k0r.2, ec]
        exact stp_congr gi j0 j1
      refine B_firstHour_34 (RF_of gw.1.1) hb hp (by omega) ⟨fun c => stop g hr c gw gf gn, fun c => ⟨fun c1 => stpc c (by omega), fun c1 => ⟨fun c2 => stpc c (by omega), fun c2 => t84 g set c gw gf si (fun j j0 j1 => ?_)⟩⟩⟩
      rw [gi j j0 j1, show (hr + 1 - f).toNat = (hr - f).toNat by omega]
  have e0 : rd h 198 b = S b := by rw [w.2.2]
  have e2 : rd h 198 (b + p + 2) = S (b + p + 2) := by rw [w.2.2]
  have e8 : rd h 198 (b + p + 8) = S (b + p + 8) := by rw [w.2.2]
  have strt : ∀ x : Int, 0 ≤ x → x ≤ 19 → k0F S b p = x → (zand (zshl 1 x) m = 0 → Rn xs xl e mm_firstHour 34 [some (.inr (.inr 182)), some (.inl b), some (.inl p), some (.inl m), some (.inl (zshl 1 x)), some (.inl (rd h 198 b))] [] h Q) ∧ (zand (zshl 1 x) m ≠ 0 → Q (some (.inl (rd h 198 b))) h) := by
    intro x x0 x1 hx
    have hit : zand (zshl 1 x) m ≠ 0 ↔ bitZ m x := by
      rw [zand_ne]
      constructor
      · rintro ⟨j, j0, j1, a, c⟩
        rw [bit_shl x0 (by omega) j0 j1] at a
        rw [← a]; exact c
      · intro a
        exact ⟨x, x0, by omega, (bit_shl x0 (by omega) x0 (by omega)).mpr rfl, a⟩
    rw [e0]
    refine ⟨fun c => loop (by rw [hx]; exact fun y => absurd c (hit.mpr y)) 24 h _ (S b) (by omega) (by omega) (by omega) w (frL.refl h) (zshl_i _ _) (fun j j0 j1 => ?_) (fun y y0 y1 => by omega), fun c => k _ h w (frL.refl h) (Or.inl ⟨by rw [hx]; exact hit.mp c, rfl⟩)⟩
    rw [show (S b - f).toNat = 0 by omega, bit_shl x0 (by omega) j0 j1, hx]
    exact ⟨fun y => y.symm, fun y => y.symm⟩
  refine B_firstHour_0 (RF_of w.1.1) hb hp (by omega) ⟨fun c => ?_, fun c => ?_⟩
  · rw [e8] at c
    rw [e2]
    have y := strt (S (b + p + 2)) (by omega) (by omega) (by unfold k0F; rw [if_neg c])
    exact ⟨by omega, y.1, y.2⟩
  · rw [e8] at c
    rw [e2]
    have y := strt (S (b + p + 2) + 10) (by omega) (by omega) (by unfold k0F; rw [if_pos c])
    exact ⟨by omega, y.1, y.2⟩
end PL4
end
section
/-! plans, part t5: soonest, reach -/
/-- scene sc of the class, as person p sees it, is block b of S -/
def SV (h : LH) (sc : Int) (S : Int → Int) (b p : Int) : Prop := rd h sc 0 = S b ∧ rd h sc 1 = S (b + 1) ∧ rd h (sc + 1) p = S (b + p + 2) ∧ zand (zshr (rd h sc 2) p) 1 = S (b + p + 14) ∧ zand (zshr (rd h sc 3) p) 1 = S (b + p + 8)
section PL5
variable {xs : Nat → Int} {xl e : Nat} {h g : LH} {Q : Option LV → LH → Prop} {K : KEY} {S : Int → Int} {b p q sc c hr v1 v2 v3 v4 r : Int} {L : List Int} {X : Int → Prop}
theorem SV_of (hs : SR h sc b) (p0 : 0 ≤ p) (p1 : p < rd h 188 2) : SV h sc (rd h 198) b p := by
  obtain ⟨a, c, d, -⟩ := hs
  obtain ⟨d1, d2, d3⟩ := d p p0 p1
  exact ⟨a, c, d1, bt_v d3, bt_v d2⟩
/-- the states of a room -/
theorem tr_mod (kb : KB K p) (hk : 0 ≤ v1 ∧ v1 ≤ 19) (hd : 0 ≤ v2 ∧ v2 < K.1 1) (hh : 0 ≤ hr ∧ hr ≤ 23) : (0 ≤ tr K S b p hr v1 v2 → tr K S b p hr v1 v2 % 10 = LF K v2 (K.1 (4 * p + 116)) (v1 % 10) hr (S (b + 1)) 0 ∧ tr K S b p hr v1 v2 ≤ 19) ∧ (0 ≤ LF K v2 (K.1 (4 * p + 116)) (v1 % 10) hr (S (b + 1)) 0 → 0 ≤ tr K S b p hr v1 v2) := by
  have t := NW_ok K (S (b + 1)) (s := K.1 (4 * p + 116)) (d := v2) (room := v1 % 10) (hr := hr) (by have := kb.1; omega) kb.2.2.1 (by omega) (by omega)
  have e : NW K (S (b + 1)) (K.1 (4 * p + 116)) v2 (v1 % 10) hr = LF K v2 (K.1 (4 * p + 116)) (v1 % 10) hr (S (b + 1)) 0 := by
    unfold NW
    rw [if_pos (by omega)]
  rw [e] at t
  unfold tr
  rw [e]
  have t1 := t.1
  clear t e
  generalize LF K v2 (K.1 (4 * p + 116)) (v1 % 10) hr (S (b + 1)) 0 = x at *
  constructor
  · intro y
    by_cases c : x < 0
    · rw [if_pos c] at y; omega
    · rw [if_neg c] at y ⊢
      split <;> omega
  · intro y
    rw [if_neg (by omega)]
    split <;> omega
theorem proj_stp (kb : KB K p) (hh : 0 ≤ hr ∧ hr ≤ 23) (c0 : 0 ≤ c) : (∃ j, 0 ≤ j ∧ j ≤ 19 ∧ j % 10 = c ∧ stp K S b p hr X j) ↔ (∃ j, 0 ≤ j ∧ j ≤ 19 ∧ j % 10 = c ∧ X j) ∨ ∃ a, 0 ≤ a ∧ a ≤ 9 ∧ (∃ j, 0 ≤ j ∧ j ≤ 19 ∧ j % 10 = a ∧ X j) ∧ edg K (S (b + 1)) (K.1 (4 * p + 116)) hr a c := by
  unfold stp edg
  constructor
  · rintro ⟨j, j0, j1, jc, y | ⟨k, d, k0, k1, d0, d1, x, t0, t1⟩⟩
    · exact Or.inl ⟨j, j0, j1, jc, y⟩
    · refine Or.inr ⟨k % 10, by omega, by omega, ⟨k, k0, k1, rfl, x⟩, d, d0, d1, ?_⟩
      rw [← ((tr_mod kb ⟨k0, k1⟩ ⟨d0, d1⟩ hh).1 t0).1, t1]
      exact jc
  · rintro (⟨j, j0, j1, jc, y⟩ | ⟨a, a0, a1, ⟨k, k0, k1, rfl, x⟩, d, d0, d1, ee⟩)
    · exact ⟨j, j0, j1, jc, Or.inl y⟩
    · have t := tr_mod (S := S) (b := b) kb ⟨k0, k1⟩ ⟨d0, d1⟩ hh
      have t0 := t.2 (by rw [ee]; exact c0)
      have t1 := t.1 t0
      exact ⟨_, t0, t1.2, t1.1.trans ee, Or.inr ⟨k, d, k0, k1, d0, d1, x, t0, rfl⟩⟩
/-- rooms one can be in after so many hours -/
def rmN (K : KEY) (S : Int → Int) (b p : Int) (n : Nat) (a : Int) : Prop := ∃ j, 0 ≤ j ∧ j ≤ 19 ∧ j % 10 = a ∧ Rch K S b p n (S b + S (b + p + 14)) (k0F S b p) j
theorem rmN_next (kb : KB K p) (sb : SB S b p) {n : Nat} (hn : S b + S (b + p + 14) + n ≤ 23) (c0 : 0 ≤ c) : rmN K S b p (n + 1) c ↔ rmN K S b p n c ∨ ∃ a, 0 ≤ a ∧ a ≤ 9 ∧ rmN K S b p n a ∧ edg K (S (b + 1)) (K.1 (4 * p + 116)) (S b + S (b + p + 14) + n) a c := by
  obtain ⟨s0, s1, s2, s3⟩ := sb
  have k0r : 0 ≤ k0F S b p ∧ k0F S b p ≤ 19 := by unfold k0F; split <;> omega
  unfold rmN
  rw [← proj_stp kb (by omega) c0]
  constructor
  · rintro ⟨j, j0, j1, jc, y⟩
    exact ⟨j, j0, j1, jc, (Rch_stp kb (by omega) (by omega) k0r.1 k0r.2).mp y⟩
  · rintro ⟨j, j0, j1, jc, y⟩
    exact ⟨j, j0, j1, jc, (Rch_stp kb (by omega) (by omega) k0r.1 k0r.2).mpr y⟩
theorem rmN_0 (sb : SB S b p) : rmN K S b p 0 c ↔ c = S (b + p + 2) := by
  obtain ⟨s0, s1, s2, s3⟩ := sb
  have k0r : 0 ≤ k0F S b p ∧ k0F S b p ≤ 19 ∧ k0F S b p % 10 = S (b + p + 2) := by unfold k0F; split <;> omega
  unfold rmN
  constructor
  · rintro ⟨j, j0, j1, jc, y⟩
    have y : k0F S b p = j := y
    omega
  · intro y
    exact ⟨_, k0r.1, k0r.2.1, k0r.2.2.trans y.symm, rfl⟩
/-- the set of rooms, one hour on -/
theorem rm_set {R z : Int} {n : Nat} (kb : KB K p) (sb : SB S b p) (hn : S b + S (b + p + 14) + n ≤ 23) (hR : ∀ a, 0 ≤ a → a < 32 → (bitZ R a ↔ rmN K S b p n a)) (hz : ∀ c, 0 ≤ c → c < 32 → (bitZ z c ↔ ∃ a, 0 ≤ a ∧ a ≤ 9 ∧ bitZ R a ∧ edg K (S (b + 1)) (K.1 (4 * p + 116)) (S b + S (b + p + 14) + n) a c)) : ∀ c, 0 ≤ c → c < 32 → (bitZ (zor R z) c ↔ rmN K S b p (n + 1) c) := by
  intro c c0 c1
  rw [bit_or c0 c1, hR c c0 c1, hz c c0 c1, rmN_next kb sb hn c0]
  constructor
  · rintro (y | ⟨a, a0, a1, ra, x⟩)
    · exact Or.inl y
    · exact Or.inr ⟨a, a0, a1, (hR a a0 (by omega)).mp ra, x⟩
  · rintro (y | ⟨a, a0, a1, ra, x⟩)
    · exact Or.inl y
    · exact Or.inr ⟨a, a0, a1, (hR a a0 (by omega)).mpr ra, x⟩
/-- what the class's firstHourIn answers -/
def sooF (K : KEY) (S : Int → Int) (b p room r : Int) : Prop := (S (b + p + 2) = room ∧ r = S b) ∨ (S (b + p + 2) ≠ room ∧ fsH (S b + S (b + p + 14)) (fun x => rmN K S b p (x + 1 - (S b + S (b + p + 14))).toNat room) r)
theorem F_firstHourIn (he : 3 ≤ e) (hc : CXq h K q L) (hK : KR K) (kb : KB K v3) (sb : SB S b v3) (hsc : scn sc) (hc0 : 60 ≤ sc) (hp : 0 ≤ v3 ∧ v3 < K.1 2) (hv : SV h sc S b v3) (h4 : 0 ≤ v4 ∧ v4 ≤ 9) (k : ∀ r, sooF K S b v3 v4 r → Q (some (.inl r)) h) : Rn xs xl e mm_Plans_firstHourIn 0 [some (.inr (.inr 77)), some (.inr (.inr q)), some (.inr (.inr sc)), some (.inl v3), some (.inl v4), none, none, none] [] h Q := by
  obtain ⟨hF, hP, hq, -⟩ := id hc
  have n2 := hK.2.2.1
  have ks := (hK.2.2.2.2 v3 hp.1 hp.2).1
  have ep := (CXq_p hc hp.1 hp.2).1
  obtain ⟨e0, e1, e2, e14, e8⟩ := hv
  obtain ⟨s0, s1, s2, s3⟩ := id sb
  have loop : S (b + v3 + 2) ≠ v4 → ∀ (n : Nat) (R hr : Int), 24 - hr ≤ n → S b + S (b + v3 + 14) ≤ hr → hr ≤ 25 → (∀ a, 0 ≤ a → a < 32 → (bitZ R a ↔ rmN K S b v3 (hr - (S b + S (b + v3 + 14))).toNat a)) → (∀ x, S b + S (b + v3 + 14) ≤ x → x < hr → ¬ rmN K S b v3 (x + 1 - (S b + S (b + v3 + 14))).toNat v4) → Rn xs xl e mm_Plans_firstHourIn 44 [some (.inr (.inr 77)), some (.inr (.inr q)), some (.inr (.inr sc)), some (.inl v3), some (.inl v4), some (.inl (K.1 (4 * v3 + 116))), some (.inl R), some (.inl hr)] [] h Q := by
    intro ne n
    induction n with
    | zero =>
      intro R hr hn h0 h1 hR gn
      exact B_Plans_firstHourIn_44 hq hsc hc0 hF (by omega) (by omega) ⟨fun c => k (-1) (Or.inr ⟨ne, Or.inl ⟨rfl, fun x x0 x1 => gn x x0 (by omega)⟩⟩), fun c => by omega⟩
    | succ n ih =>
      intro R hr hn h0 h1 hR gn
      refine B_Plans_firstHourIn_44 hq hsc hc0 hF (by omega) (by omega) ⟨fun c => k (-1) (Or.inr ⟨ne, Or.inl ⟨rfl, fun x x0 x1 => gn x x0 (by omega)⟩⟩), fun c => ⟨2, by omega, F_nextRooms (by omega) hc hK hsc hc0 ks (by omega) (fun z zi zb => ?_)⟩⟩
      rw [e1] at zb
      have el : (hr + 1 - (S b + S (b + v3 + 14))).toNat = (hr - (S b + S (b + v3 + 14))).toNat + 1 := by omega
      have ec : S b + S (b + v3 + 14) + (((hr - (S b + S (b + v3 + 14))).toNat : Nat) : Int) = hr := by omega
      have nb := rm_set (z := z) (n := (hr - (S b + S (b + v3 + 14))).toNat) kb sb (by omega) hR (by rw [ec]; exact zb)
      rw [← el] at nb
      refine B_Plans_firstHourIn_64 hq hsc hc0 hF (by omega) ⟨fun y => ih _ (hr + 1) (by omega) (by omega) (by omega) nb (fun x x0 x1 => ?_), fun y => k hr (Or.inr ⟨ne, Or.inr ⟨h0, c, (nb v4 h4.1 (by omega)).mp (Classical.byContradiction (fun w => y (bitZ_n.mp w))), gn⟩⟩)⟩
      by_cases w : x = hr
      · rw [w]
        exact fun u => bitZ_n.mpr y ((nb v4 h4.1 (by omega)).mpr u)
      · exact gn x x0 (by omega)
  refine B_Plans_firstHourIn_0 hq hsc hc0 hF hP (by omega) (by omega) ⟨fun c => ⟨by omega, ?_⟩, fun c => ?_⟩
  · rw [e2] at c ⊢
    rw [ep, e0, e14]
    refine loop c 24 _ _ (by omega) (by omega) (by omega) (fun a a0 a1 => ?_) (fun x x0 x1 => by omega)
    rw [bit_shl s3.1 (by omega) a0 a1, show (S b + S (b + v3 + 14) - (S b + S (b + v3 + 14))).toNat = 0 by omega, rmN_0 sb]
  · rw [e2] at c
    rw [e0]
    exact k _ (Or.inl ⟨c, rfl⟩)
/-- soonest -/
def sooC (h : LH) (p room : Int) : Prop := (0 ≤ p ∧ p < rd h 188 2) ∧ 0 ≤ room ∧ room < rd h 188 0
def sooJ (v1 v2 : Int) (h g : LH) (r : Int) : Prop := samP h g ∧ ((¬ sooC h v1 v2 ∧ r = -1) ∨ (sooC h v1 v2 ∧ sooF (key h) (rd h 198) 0 v1 v2 r))
theorem E_soonestS (he : 8 ≤ e) (hI : INV h) (hE : EQL h) (h1 : i32 v1) (h2 : i32 v2) (k : ∀ r g, INV g → sooJ v1 v2 h g r → Q (some (.inl r)) g) : Rn xs xl e mm_OneSided_soonest 0 [some (.inr (.inr 1)), some (.inl v1), some (.inl v2)] [] h Q := by
  obtain ⟨L, hc⟩ := CXq_of hI hE
  have hK := KR_of hI
  have hq : rd h 1 1 = 5 ∨ rd h 1 1 = 32 := rQf hI.1
  obtain ⟨-, -, -, -, ⟨c0, -, c4⟩, -⟩ := id hc
  have c0' : rd h (rd h 1 1) 0 = rd h 188 0 := c0
  have c4' : rd h (rd h 1 1) 4 = rd h 188 2 := c4
  have n0 := rq_rooms hI.1
  have n2 := rq_people hI.1
  have k5 := hE.2.2.2.2.2.2.2.2.2.2.2.1
  have no : ¬ sooC h v1 v2 → Q (some (.inl (-1))) h := fun z => k (-1) h hI ⟨fun _ _ => rfl, Or.inl ⟨z, rfl⟩⟩
  refine B_OneSided_soonest_0 hq rfl (RF_of hI.1) (by omega) ⟨fun c => no (fun z => by have := z.1; omega), fun c => ⟨fun c2 => no (fun z => by have := z.1; omega), fun c2 => ⟨fun c3 => no (fun z => by have := z.2; omega), fun c3 => ⟨fun c4 => no (fun z => by have := z.2; omega), fun c4 => ⟨3, by omega, ?_⟩⟩⟩⟩⟩
  have w : WC (key h) (rd h 198) h := ⟨hI, rfl, rfl⟩
  have p2 : v1 < rd h 188 2 := by omega
  exact F_firstHourIn (Nat.le_refl 3) hc hK (KB_of w (by omega)) (SB_of w (by decide) (by decide) (by omega)) scn_60 (by decide) ⟨c, p2⟩ (SV_of k5 c p2) (by omega) (fun r hr => B_OneSided_soonest_38 (RF_of hI.1) (k r h hI ⟨fun _ _ => rfl, Or.inr ⟨⟨⟨c, p2⟩, c3, by omega⟩, hr⟩⟩))
/-- the mask of a room -/
theorem msk_bit {room j : Int} (h0 : 0 ≤ room ∧ room ≤ 9) (j0 : 0 ≤ j) (j1 : j ≤ 19) : bitZ (zor (zshl 1 room) (zshl 1 (room + 10))) j ↔ j % 10 = room := by
  rw [bit_or j0 (by omega), bit_shl h0.1 (by omega) j0 (by omega), bit_shl (by omega) (by omega) j0 (by omega)]
  omega
theorem soo_FH (sb : SB S b p) (kb : KB K p) {room r r' : Int} (h0 : 0 ≤ room ∧ room ≤ 9) (a : sooF K S b p room r) (c : FHr K S b p (zor (zshl 1 room) (zshl 1 (room + 10))) r') : r = r' := by
  obtain ⟨s0, s1, s2, s3⟩ := sb
  have k0r : 0 ≤ k0F S b p ∧ k0F S b p ≤ 19 ∧ k0F S b p % 10 = S (b + p + 2) := by unfold k0F; split <;> omega
  have m0 := msk_bit h0 k0r.1 k0r.2.1
  rcases a with ⟨a1, rfl⟩ | ⟨a1, a2⟩
  · rcases c with ⟨c1, rfl⟩ | ⟨c1, c2⟩
    · rfl
    · exact absurd (m0.mpr (k0r.2.2.trans a1)) c1
  · rcases c with ⟨c1, rfl⟩ | ⟨c1, c2⟩
    · exact absurd (k0r.2.2.symm.trans (m0.mp c1)) a1
    · refine fsH_one (by omega) (fun x x0 x1 => ?_) a2 c2
      unfold rmN
      constructor
      · rintro ⟨j, j0, j1, jc, y⟩
        exact ⟨j, j0, j1, (msk_bit h0 j0 j1).mpr jc, y⟩
      · rintro ⟨j, j0, j1, jc, y⟩
        exact ⟨j, j0, j1, (msk_bit h0 j0 j1).mp jc, y⟩
/-- the reference writes nothing that is kept -/
theorem EQL_L (hI : INV h) (hE : EQL h) (f : ∀ a i, a ≠ 196 → a ≠ 197 → ¬ (a = 182 ∧ i = 0) → rd g a i = rd h a i) : EQL g :=
  EQL_fr hI hE (f 2 0 (by decide) (by decide) (by decide)) (f 182 2 (by decide) (by decide) (by decide)) (fun a i ha => by
    obtain ⟨y1, y2, -⟩ := inK_p ha
    exact f a i (by omega) (by omega) (by omega))
theorem WC_thr (hI : INV h) : WC (key h) (rd h 198) (wr h 182 0 0) := by
  refine ⟨wF_thrown hI (by omega) (by omega), key_frs (fun a i a0 a1 => rdw_ne (by omega)) (fun i a0 a1 => rdw_nei (by omega)), funext (fun i => rdw_ne (by decide))⟩
theorem key_sam (hs : samP h g) : key g = key h := key_frs (fun a i _ _ => hs a i) (fun i _ _ => hs 182 i)
theorem G_soonestS (he : 8 ≤ e) (hI : INV h) (hE : EQL h) (gI : INV g) (hj : sooJ v1 v2 h g r) (k : ∀ g', INV g' → EQL g' → Q (some (.inl r)) g') : Rn xs xl e mm_soonest 0 [some (.inr (.inr 182)), some (.inl v1), some (.inl v2)] [] g Q := by
  obtain ⟨sm, hc⟩ := hj
  have EG := EQL_sam hI hE sm
  have ek := key_sam sm
  have e8 : rd g 198 = rd h 198 := funext (fun i => sm 198 i)
  have n0 := rq_rooms gI.1
  have n2 := rq_people gI.1
  have eC : sooC g v1 v2 ↔ sooC h v1 v2 := by
    unfold sooC
    rw [sm 188 0, sm 188 2]
  rw [← eC, ← ek, ← e8] at hc
  have no : ¬ sooC g v1 v2 → Q (some (.inl (-1))) (wr g 182 0 0) := fun z => by
    obtain ⟨i1, e1⟩ := thr gI EG
    rcases hc with ⟨_, rfl⟩ | ⟨c, _⟩
    · exact k _ i1 e1
    · exact absurd c z
  refine B_soonest_0 (RF_of gI.1) (by omega) ⟨fun c => no (fun z => by have := z.1; omega), fun c => ⟨fun c2 => no (fun z => by have := z.1; omega), fun c2 => ⟨fun c3 => no (fun z => by have := z.2; omega), fun c3 => ⟨fun c4 => no (fun z => by have := z.2; omega), fun c4 => ⟨by omega, 6, by omega, ?_⟩⟩⟩⟩⟩
  have w := WC_thr gI
  refine G_firstHourX (by omega) w (by decide) (by decide) (by omega) (fun r' u uw uf hr' => B_soonest_37 (RF_of uw.1.1) ?_)
  rcases hc with ⟨z, _⟩ | ⟨_, s⟩
  · exact absurd ⟨⟨c, c2⟩, c3, c4⟩ z
  · have er := soo_FH (SB_of w (by decide) (by decide) (by omega)) (KB_of w (by omega)) (by omega) s hr'
    rw [← er]
    exact k u uw.1 (EQL_L gI EG (fun a i n1 n2 n3 => (uf a i n1 n2).trans (by rw [rd_wr, if_neg (by omega)])))
end PL5
end
section
/-! plans, part t6: reach -/
theorem bit_shr {s j k : Int} (j0 : 0 ≤ j) (k0 : 0 ≤ k) (h : j + k < 32) : bitZ (zshr s j) k ↔ bitZ s (j + k) := by
  rw [bitZ_iff k0 (by omega), bitZ_iff (by omega) h]
  unfold zshr
  rw [x_to, Int32.toBitVec_shiftRight, BitVec.getLsbD_sshiftRight', shamtZ j0 (by omega), if_pos (by omega), show (j + k).toNat = j.toNat + k.toNat by omega]
  have e : ¬ 32 ≤ k.toNat := by omega
  simp [e]
theorem bit_1023 : ∀ a : Nat, a < 32 → (bitZ 1023 (a : Int) ↔ a < 10) := by decide +kernel
theorem bit_1023' {a : Int} (a0 : 0 ≤ a) (a1 : a < 32) : bitZ 1023 a ↔ a < 10 := by
  have := bit_1023 a.toNat (by omega)
  rw [Int.toNat_of_nonneg a0] at this
  rw [this]
  omega
section PL6
variable {xs : Nat → Int} {xl e : Nat} {h g : LH} {Q : Option LV → LH → Prop} {K : KEY} {S : Int → Int} {b p q sc c hr v1 v2 v3 v4 r : Int} {L : List Int}
/-- how many hours are left -/
def lft (S : Int → Int) (b p : Int) : Nat := (24 - (S b + S (b + p + 14))).toNat
theorem F_roomsByTheEnd (he : 3 ≤ e) (hc : CXq h K q L) (hK : KR K) (kb : KB K v3) (sb : SB S b v3) (hsc : scn sc) (hc0 : 60 ≤ sc) (hp : 0 ≤ v3 ∧ v3 < K.1 2) (hv : SV h sc S b v3) (k : ∀ r, i32 r → (∀ a, 0 ≤ a → a < 32 → (bitZ r a ↔ rmN K S b v3 (lft S b v3) a)) → Q (some (.inl r)) h) : Rn xs xl e mm_Plans_roomsByTheEnd 0 [some (.inr (.inr 77)), some (.inr (.inr q)), some (.inr (.inr sc)), some (.inl v3), none, none, none] [] h Q := by
  obtain ⟨hF, hP, hq, -⟩ := id hc
  have n2 := hK.2.2.1
  have ks := (hK.2.2.2.2 v3 hp.1 hp.2).1
  have ep := (CXq_p hc hp.1 hp.2).1
  obtain ⟨e0, e1, e2, e14, e8⟩ := hv
  obtain ⟨s0, s1, s2, s3⟩ := id sb
  unfold lft at k
  have loop : ∀ (n : Nat) (R hr : Int), 24 - hr ≤ n → S b + S (b + v3 + 14) ≤ hr → hr ≤ 25 → (hr ≤ 24 ∨ S b + S (b + v3 + 14) = hr) → i32 R → (∀ a, 0 ≤ a → a < 32 → (bitZ R a ↔ rmN K S b v3 (hr - (S b + S (b + v3 + 14))).toNat a)) → Rn xs xl e mm_Plans_roomsByTheEnd 28 [some (.inr (.inr 77)), some (.inr (.inr q)), some (.inr (.inr sc)), some (.inl v3), some (.inl (K.1 (4 * v3 + 116))), some (.inl R), some (.inl hr)] [] h Q := by
    intro n
    have stop : ∀ (R hr : Int), 24 ≤ hr → (hr ≤ 24 ∨ S b + S (b + v3 + 14) = hr) → i32 R → (∀ a, 0 ≤ a → a < 32 → (bitZ R a ↔ rmN K S b v3 (hr - (S b + S (b + v3 + 14))).toNat a)) → Q (some (.inl R)) h := fun R hr c c2 ri hR => k R ri (fun a a0 a1 => by
      rw [hR a a0 a1, show (24 - (S b + S (b + v3 + 14))).toNat = (hr - (S b + S (b + v3 + 14))).toNat by omega])
    induction n with
    | zero =>
      intro R hr hn h0 h1 h2 ri hR
      exact B_Plans_roomsByTheEnd_28 hq hsc hc0 hF (by omega) (by omega) ⟨fun c => stop R hr c h2 ri hR, fun c => by omega⟩
    | succ n ih =>
      intro R hr hn h0 h1 h2 ri hR
      refine B_Plans_roomsByTheEnd_28 hq hsc hc0 hF (by omega) (by omega) ⟨fun c => stop R hr c h2 ri hR, fun c => ⟨2, by omega, F_nextRooms (by omega) hc hK hsc hc0 ks (by omega) (fun z zi zb => ?_)⟩⟩
      rw [e1] at zb
      have el : (hr + 1 - (S b + S (b + v3 + 14))).toNat = (hr - (S b + S (b + v3 + 14))).toNat + 1 := by omega
      have ec : S b + S (b + v3 + 14) + (((hr - (S b + S (b + v3 + 14))).toNat : Nat) : Int) = hr := by omega
      have nb := rm_set (z := z) (n := (hr - (S b + S (b + v3 + 14))).toNat) kb sb (by omega) hR (by rw [ec]; exact zb)
      rw [← el] at nb
      exact B_Plans_roomsByTheEnd_48 hq hsc hc0 hF (by omega) (ih _ (hr + 1) (by omega) (by omega) (by omega) (by omega) (zor_i _ _) nb)
  refine B_Plans_roomsByTheEnd_0 hq hsc hc0 hF hP (by omega) (by omega) ⟨by omega, ?_⟩
  rw [ep, e0, e14, e2]
  refine loop 24 _ _ (by omega) (by omega) (by omega) (Or.inr rfl) (zshl_i _ _) (fun a a0 a1 => ?_)
  rw [bit_shl s3.1 (by omega) a0 a1, show (S b + S (b + v3 + 14) - (S b + S (b + v3 + 14))).toNat = 0 by omega, rmN_0 sb]
/-- reach -/
def rchC (h : LH) (p : Int) : Prop := 0 ≤ p ∧ p < rd h 188 2
def rchJ (v1 : Int) (h g : LH) (r : Int) : Prop := samP h g ∧ ((¬ rchC h v1 ∧ r = -1) ∨ (rchC h v1 ∧ i32 r ∧ ∀ a, 0 ≤ a → a < 32 → (bitZ r a ↔ rmN (key h) (rd h 198) 0 v1 (lft (rd h 198) 0 v1) a)))
theorem E_reachS (he : 8 ≤ e) (hI : INV h) (hE : EQL h) (h1 : i32 v1) (k : ∀ r g, INV g → rchJ v1 h g r → Q (some (.inl r)) g) : Rn xs xl e mm_OneSided_reach 0 [some (.inr (.inr 1)), some (.inl v1)] [] h Q := by
  obtain ⟨L, hc⟩ := CXq_of hI hE
  have hK := KR_of hI
  have hq : rd h 1 1 = 5 ∨ rd h 1 1 = 32 := rQf hI.1
  obtain ⟨-, -, -, -, ⟨c0, -, c4⟩, -⟩ := id hc
  have c4' : rd h (rd h 1 1) 4 = rd h 188 2 := c4
  have n2 := rq_people hI.1
  have k5 := hE.2.2.2.2.2.2.2.2.2.2.2.1
  have no : ¬ rchC h v1 → Q (some (.inl (-1))) h := fun z => k (-1) h hI ⟨fun _ _ => rfl, Or.inl ⟨z, rfl⟩⟩
  refine B_OneSided_reach_0 hq rfl (RF_of hI.1) (by omega) ⟨fun c => no (fun z => by have := z.1; omega), fun c => ⟨fun c2 => no (fun z => by have := z.2; omega), fun c2 => ⟨3, by omega, ?_⟩⟩⟩
  have w : WC (key h) (rd h 198) h := ⟨hI, rfl, rfl⟩
  have p2 : v1 < rd h 188 2 := by omega
  exact F_roomsByTheEnd (Nat.le_refl 3) hc hK (KB_of w (by omega)) (SB_of w (by decide) (by decide) (by omega)) scn_60 (by decide) ⟨c, p2⟩ (SV_of k5 c p2) (fun r ri rb => B_OneSided_reach_27 (RF_of hI.1) (k r h hI ⟨fun _ _ => rfl, Or.inr ⟨⟨c, p2⟩, ri, rb⟩⟩))
theorem G_reachS (he : 8 ≤ e) (hI : INV h) (hE : EQL h) (gI : INV g) (hj : rchJ v1 h g r) (k : ∀ g', INV g' → EQL g' → Q (some (.inl r)) g') : Rn xs xl e mm_reach 0 [some (.inr (.inr 182)), some (.inl v1), none, none] [] g Q := by
  obtain ⟨sm, hc⟩ := hj
  have EG := EQL_sam hI hE sm
  have ek := key_sam sm
  have e8 : rd g 198 = rd h 198 := funext (fun i => sm 198 i)
  have n2 := rq_people gI.1
  have eC : rchC g v1 ↔ rchC h v1 := by
    unfold rchC
    rw [sm 188 2]
  rw [← eC, ← ek, ← e8] at hc
  have no : ¬ rchC g v1 → Q (some (.inl (-1))) (wr g 182 0 0) := fun z => by
    obtain ⟨i1, e1⟩ := thr gI EG
    rcases hc with ⟨_, rfl⟩ | ⟨c, _⟩
    · exact k _ i1 e1
    · exact absurd c z
  have w := WC_thr gI
  have main : 0 ≤ v1 → v1 < rd g 188 2 → Rn xs xl e mm_reach 39 [some (.inr (.inr 182)), some (.inl v1), some (.inl (zshl 1 (k0F (rd g 198) 0 v1))), some (.inl (rd g 198 0 + rd g 198 (0 + v1 + 14)))] [] (wr g 182 0 0) Q := by
    intro c c2
    have kb := KB_of w (p := v1) (by omega)
    have sb := SB_of w (b := 0) (p := v1) (by decide) (by decide) (by omega)
    obtain ⟨s0, s1, s2, s3⟩ := id sb
    have k0r : 0 ≤ k0F (rd g 198) 0 v1 ∧ k0F (rd g 198) 0 v1 ≤ 19 := by unfold k0F; split <;> omega
    generalize ef : rd g 198 0 + rd g 198 (0 + v1 + 14) = f
    have fin : ∀ (u : LH) (set hr : Int), 24 ≤ hr → (hr ≤ 24 ∨ f = hr) → WC (key g) (rd g 198) u → frL (wr g 182 0 0) u → (∀ j, 0 ≤ j → j < 32 → (bitZ set j ↔ Rch (key g) (rd g 198) 0 v1 (hr - f).toNat f (k0F (rd g 198) 0 v1) j)) → Q (some (.inl (zand (zor set (zshr set 10)) 1023))) u := by
      intro u set hr h24 hh uw uf us
      have en : lft (rd g 198) 0 v1 = (hr - f).toNat := by unfold lft; rw [ef]; omega
      rcases hc with ⟨z, _⟩ | ⟨_, ri, rb⟩
      · exact absurd ⟨c, c2⟩ z
      · have er : zand (zor set (zshr set 10)) 1023 = r := by
          refine bit_ext (zand_i _ _) ri (fun a a0 a1 => ?_)
          rw [rb a a0 a1, en, bit_and a0 a1, bit_or a0 a1, bit_1023' a0 a1]
          unfold rmN
          rw [ef]
          constructor
          · rintro ⟨y | y, a9⟩
            · exact ⟨a, a0, by omega, by omega, (us a a0 a1).mp y⟩
            · rw [bit_shr (by decide) a0 (by omega)] at y
              exact ⟨10 + a, by omega, by omega, by omega, (us _ (by omega) (by omega)).mp y⟩
          · rintro ⟨j, j0, j1, ja, y⟩
            refine ⟨?_, by omega⟩
            by_cases w : j < 10
            · refine Or.inl ((us a a0 a1).mpr ?_)
              rw [show a = j by omega]; exact y
            · refine Or.inr ?_
              rw [bit_shr (by decide) a0 (by omega)]
              refine (us _ (by omega) (by omega)).mpr ?_
              rw [show 10 + a = j by omega]; exact y
        rw [er]
        exact k u uw.1 (EQL_L gI EG (fun a i n1 n2 n3 => (uf a i n1 n2).trans (by rw [rd_wr, if_neg (by omega)])))
    have loop : ∀ (n : Nat) (u : LH) (set hr : Int), 24 - hr ≤ n → f ≤ hr → hr ≤ 25 → (hr ≤ 24 ∨ f = hr) → WC (key g) (rd g 198) u → frL (wr g 182 0 0) u → i32 set → (∀ j, 0 ≤ j → j < 32 → (bitZ set j ↔ Rch (key g) (rd g 198) 0 v1 (hr - f).toNat f (k0F (rd g 198) 0 v1) j)) → Rn xs xl e mm_reach 39 [some (.inr (.inr 182)), some (.inl v1), some (.inl set), some (.inl hr)] [] u Q := by
      intro n
      induction n with
      | zero =>
        intro u set hr hn h0 h1 h2 uw uf si us
        exact B_reach_39 (RF_of uw.1.1) (by omega) (by omega) ⟨fun y => fin u set hr y h2 uw uf us, fun y => by omega⟩
      | succ n ih =>
        intro u set hr hn h0 h1 h2 uw uf si us
        refine B_reach_39 (RF_of uw.1.1) (by omega) (by omega) ⟨fun y => fin u set hr y h2 uw uf us, fun y => ⟨5, by omega, G_stepOfX (by omega) uw (by decide) (by omega) (by omega) si (fun x u' uw' uf' xi xb => B_reach_53 (RF_of uw'.1.1) (by omega) (ih u' x (hr + 1) (by omega) (by omega) (by omega) (by omega) uw' (uf.trans uf') xi (fun j j0 j1 => ?_)))⟩⟩
        rw [xb j j0 j1, show (hr + 1 - f).toNat = (hr - f).toNat + 1 by omega, Rch_stp kb (by omega) (by omega) k0r.1 k0r.2, show f + (((hr - f).toNat : Nat) : Int) = hr by omega]
        exact stp_congr us j0 j1
    refine loop 24 _ _ f (by omega) (by omega) (by omega) (Or.inr rfl) w (frL.refl _) (zshl_i _ _) (fun j j0 j1 => ?_)
    rw [show (f - f).toNat = 0 by omega, bit_shl k0r.1 (by omega) j0 j1]
    exact ⟨fun y => y.symm, fun y => y.symm⟩
  refine B_reach_0 (RF_of gI.1) (by omega) ⟨fun c => no (fun z => by have := z.1; omega), fun c => ⟨fun c2 => no (fun z => by have := z.2; omega), fun c2 => ?_⟩⟩
  have m := main c c2
  obtain ⟨s0, s1, s2, s3⟩ := SB_of w (b := 0) (p := v1) (by decide) (by decide) (by omega)
  rw [show (0 : Int) + v1 + 14 = v1 + 14 by omega] at m s1
  rw [show (0 : Int) + v1 + 8 = v1 + 8 by omega] at s2
  rw [show (0 : Int) + v1 + 2 = v1 + 2 by omega] at s3
  refine ⟨by omega, by omega, by omega, by omega, fun z => ?_, fun z => ?_⟩
  · unfold k0F at m
    rw [show (0 : Int) + v1 + 8 = v1 + 8 by omega, show (0 : Int) + v1 + 2 = v1 + 2 by omega, if_neg z] at m
    exact ⟨by omega, by omega, by omega, by omega, m⟩
  · unfold k0F at m
    rw [show (0 : Int) + v1 + 8 = v1 + 8 by omega, show (0 : Int) + v1 + 2 = v1 + 2 by omega, if_pos z] at m
    exact ⟨by omega, by omega, by omega, by omega, m⟩
end PL6
end
section
/-! plans, part t7: the hour at home; stuck -/
section PL7
variable {xs : Nat → Int} {xl e : Nat} {h g : LH} {Q : Option LV → LH → Prop} {K : KEY} {S : Int → Int} {b p q sc c hr v1 v2 v3 v4 r : Int} {L : List Int} {X : Int → Prop}
theorem tr_val (kb : KB K p) (hk : 0 ≤ v1 ∧ v1 ≤ 19) (hd : 0 ≤ v2 ∧ v2 < K.1 1) (hh : 0 ≤ hr ∧ hr ≤ 23) : (LF K v2 (K.1 (4 * p + 116)) (v1 % 10) hr (S (b + 1)) 0 < 0 → tr K S b p hr v1 v2 = -1) ∧ (0 ≤ LF K v2 (K.1 (4 * p + 116)) (v1 % 10) hr (S (b + 1)) 0 → tr K S b p hr v1 v2 = LF K v2 (K.1 (4 * p + 116)) (v1 % 10) hr (S (b + 1)) 0 + (if 10 ≤ v1 ∨ LF K v2 (K.1 (4 * p + 116)) (v1 % 10) hr (S (b + 1)) 0 = K.1 (4 * p + 118) then 10 else 0)) ∧ LF K v2 (K.1 (4 * p + 116)) (v1 % 10) hr (S (b + 1)) 0 ≤ 9 := by
  have t := NW_ok K (S (b + 1)) (s := K.1 (4 * p + 116)) (d := v2) (room := v1 % 10) (hr := hr) (by have := kb.1; omega) kb.2.2.1 (by omega) (by omega)
  have e : NW K (S (b + 1)) (K.1 (4 * p + 116)) v2 (v1 % 10) hr = LF K v2 (K.1 (4 * p + 116)) (v1 % 10) hr (S (b + 1)) 0 := by
    unfold NW
    rw [if_pos (by omega)]
  rw [e] at t
  unfold tr
  rw [e]
  exact ⟨fun y => by rw [if_pos y], fun y => by rw [if_neg (by omega)], t.1.2⟩
theorem stp_hi (kb : KB K p) (hh : 0 ≤ hr ∧ hr ≤ 23) (c0 : 0 ≤ c) (c1 : c ≤ 9) : stp K S b p hr X (c + 10) ↔ X (c + 10) ∨ (∃ a, 0 ≤ a ∧ a ≤ 9 ∧ X (a + 10) ∧ edg K (S (b + 1)) (K.1 (4 * p + 116)) hr a c) ∨ (c = K.1 (4 * p + 118) ∧ ∃ a, 0 ≤ a ∧ a ≤ 9 ∧ X a ∧ edg K (S (b + 1)) (K.1 (4 * p + 116)) hr a c) := by
  unfold stp edg
  constructor
  · rintro (y | ⟨k, d, k0, k1, d0, d1, x, t0, t1⟩)
    · exact Or.inl y
    · have t := tr_val (S := S) (b := b) kb ⟨k0, k1⟩ ⟨d0, d1⟩ hh
      by_cases z : LF K d (K.1 (4 * p + 116)) (k % 10) hr (S (b + 1)) 0 < 0
      · have := t.1 z
        omega
      · have v := t.2.1 (by omega)
        rw [v] at t1
        by_cases w : 10 ≤ k
        · rw [if_pos (Or.inl w)] at t1
          refine Or.inr (Or.inl ⟨k - 10, by omega, by omega, by rw [show k - 10 + 10 = k by omega]; exact x, d, d0, d1, ?_⟩)
          rw [show k - 10 = k % 10 by omega]
          omega
        · by_cases u : LF K d (K.1 (4 * p + 116)) (k % 10) hr (S (b + 1)) 0 = K.1 (4 * p + 118)
          · rw [if_pos (Or.inr u)] at t1
            refine Or.inr (Or.inr ⟨by omega, k, k0, by omega, x, d, d0, d1, ?_⟩)
            rw [show k = k % 10 by omega]
            omega
          · rw [if_neg (by omega)] at t1
            have := t.2.2
            omega
  · rintro (y | ⟨a, a0, a1, x, d, d0, d1, ee⟩ | ⟨ec, a, a0, a1, x, d, d0, d1, ee⟩)
    · exact Or.inl y
    · have t := tr_val (S := S) (b := b) kb (v1 := a + 10) ⟨by omega, by omega⟩ ⟨d0, d1⟩ hh
      rw [show (a + 10) % 10 = a by omega, ee] at t
      have v := t.2.1 c0
      rw [if_pos (Or.inl (by omega))] at v
      exact Or.inr ⟨a + 10, d, by omega, by omega, d0, d1, x, by omega, v⟩
    · have t := tr_val (S := S) (b := b) kb (v1 := a) ⟨a0, by omega⟩ ⟨d0, d1⟩ hh
      rw [show a % 10 = a by omega, ee] at t
      have v := t.2.1 c0
      rw [if_pos (Or.inr ec)] at v
      exact Or.inr ⟨a, d, a0, by omega, d0, d1, x, by omega, v⟩
theorem stp_lo (kb : KB K p) (hh : 0 ≤ hr ∧ hr ≤ 23) (c0 : 0 ≤ c) (c1 : c ≤ 9) : stp K S b p hr X c ↔ X c ∨ (c ≠ K.1 (4 * p + 118) ∧ ∃ a, 0 ≤ a ∧ a ≤ 9 ∧ X a ∧ edg K (S (b + 1)) (K.1 (4 * p + 116)) hr a c) := by
  unfold stp edg
  constructor
  · rintro (y | ⟨k, d, k0, k1, d0, d1, x, t0, t1⟩)
    · exact Or.inl y
    · have t := tr_val (S := S) (b := b) kb ⟨k0, k1⟩ ⟨d0, d1⟩ hh
      by_cases z : LF K d (K.1 (4 * p + 116)) (k % 10) hr (S (b + 1)) 0 < 0
      · have := t.1 z
        omega
      · have v := t.2.1 (by omega)
        rw [v] at t1
        by_cases w : 10 ≤ k ∨ LF K d (K.1 (4 * p + 116)) (k % 10) hr (S (b + 1)) 0 = K.1 (4 * p + 118)
        · rw [if_pos w] at t1
          omega
        · rw [if_neg w] at t1
          refine Or.inr ⟨by omega, k, k0, by omega, x, d, d0, d1, ?_⟩
          have e : k % 10 = k := by omega
          rw [e] at t1
          omega
  · rintro (y | ⟨ec, a, a0, a1, x, d, d0, d1, ee⟩)
    · exact Or.inl y
    · have t := tr_val (S := S) (b := b) kb (v1 := a) ⟨a0, by omega⟩ ⟨d0, d1⟩ hh
      rw [show a % 10 = a by omega, ee] at t
      have v := t.2.1 c0
      rw [if_neg (by omega), Int.add_zero] at v
      exact Or.inr ⟨a, d, a0, by omega, d0, d1, x, by omega, v⟩
/-- rooms before and after the errand, after n hours -/
def bfS (K : KEY) (S : Int → Int) (b p : Int) (n : Nat) (B A : Int) : Prop := ∀ a, 0 ≤ a → a < 32 → (bitZ B a ↔ a ≤ 9 ∧ Rch K S b p n (S b + S (b + p + 14)) (k0F S b p) a) ∧ (bitZ A a ↔ a ≤ 9 ∧ Rch K S b p n (S b + S (b + p + 14)) (k0F S b p) (a + 10))
theorem edg_9 (kr : KR K) (hs : 0 ≤ v2 ∧ v2 ≤ 3) (hh : 0 ≤ hr ∧ hr ≤ 23) (a0 : 0 ≤ v3) (a1 : v3 ≤ 9) (h : edg K v1 v2 hr v3 c) : c ≤ 9 := by
  obtain ⟨d, d0, d1, e⟩ := h
  have n1 := kr.2.1
  have t := NW_ok K v1 (s := v2) (d := d) (room := v3) (hr := hr) (by omega) hs ⟨a0, a1⟩ (by omega)
  have u : NW K v1 v2 d v3 hr = LF K d v2 v3 hr v1 0 := by
    unfold NW
    rw [if_pos (by omega)]
  rw [u, e] at t
  exact t.1.2
theorem bfS_next {B A came more : Int} {n : Nat} (kr : KR K) (kb : KB K p) (sb : SB S b p) (hn : S b + S (b + p + 14) + n ≤ 23) (hB : bfS K S b p n B A) (hc : ∀ c, 0 ≤ c → c < 32 → (bitZ came c ↔ ∃ a, 0 ≤ a ∧ a ≤ 9 ∧ bitZ B a ∧ edg K (S (b + 1)) (K.1 (4 * p + 116)) (S b + S (b + p + 14) + n) a c)) (hm : ∀ c, 0 ≤ c → c < 32 → (bitZ more c ↔ ∃ a, 0 ≤ a ∧ a ≤ 9 ∧ bitZ A a ∧ edg K (S (b + 1)) (K.1 (4 * p + 116)) (S b + S (b + p + 14) + n) a c)) : bfS K S b p (n + 1) (zor B (zand came (zxor (zshl 1 (K.1 (4 * p + 118))) (-1)))) (zor A (zor more (zand came (zshl 1 (K.1 (4 * p + 118)))))) := by
  obtain ⟨s0, s1, s2, s3⟩ := sb
  have k0r : 0 ≤ k0F S b p ∧ k0F S b p ≤ 19 := by unfold k0F; split <;> omega
  have ke := kb.2.2.2.2.1
  have ks := kb.2.2.1
  intro c c0 c1
  have e9 : ∀ a, 0 ≤ a → a ≤ 9 → edg K (S (b + 1)) (K.1 (4 * p + 116)) (S b + S (b + p + 14) + n) a c → c ≤ 9 := fun a a0 a1 x => edg_9 kr ks (by omega) a0 a1 x
  have st : ∀ j, Rch K S b p (n + 1) (S b + S (b + p + 14)) (k0F S b p) j ↔ stp K S b p (S b + S (b + p + 14) + n) (fun j => Rch K S b p n (S b + S (b + p + 14)) (k0F S b p) j) j := fun j => Rch_stp kb (by omega) (by omega) k0r.1 k0r.2
  constructor
  · rw [bit_or c0 c1, bit_and c0 c1, bit_not c0 c1, bit_shl ke.1 (by omega) c0 c1, hc c c0 c1, (hB c c0 c1).1]
    constructor
    · rintro (⟨y1, y2⟩ | ⟨⟨a, a0, a1, ra, x⟩, ne⟩)
      · refine ⟨y1, (st c).mpr ?_⟩
        rw [stp_lo kb (by omega) c0 y1]
        exact Or.inl y2
      · have c9 := e9 a a0 a1 x
        refine ⟨c9, (st c).mpr ?_⟩
        rw [stp_lo kb (by omega) c0 c9]
        exact Or.inr ⟨ne, a, a0, a1, ((hB a a0 (by omega)).1.mp ra).2, x⟩
    · rintro ⟨c9, y⟩
      have y := (st c).mp y
      rw [stp_lo kb (by omega) c0 c9] at y
      rcases y with y | ⟨ne, a, a0, a1, ra, x⟩
      · exact Or.inl ⟨c9, y⟩
      · exact Or.inr ⟨⟨a, a0, a1, (hB a a0 (by omega)).1.mpr ⟨a1, ra⟩, x⟩, ne⟩
  · rw [bit_or c0 c1, bit_or c0 c1, bit_and c0 c1, bit_shl ke.1 (by omega) c0 c1, hc c c0 c1, hm c c0 c1, (hB c c0 c1).2]
    constructor
    · rintro (⟨y1, y2⟩ | ⟨a, a0, a1, ra, x⟩ | ⟨⟨a, a0, a1, ra, x⟩, ec⟩)
      · refine ⟨y1, (st _).mpr ?_⟩
        rw [stp_hi kb (by omega) c0 y1]
        exact Or.inl y2
      · have c9 := e9 a a0 a1 x
        refine ⟨c9, (st _).mpr ?_⟩
        rw [stp_hi kb (by omega) c0 c9]
        exact Or.inr (Or.inl ⟨a, a0, a1, ((hB a a0 (by omega)).2.mp ra).2, x⟩)
      · have c9 := e9 a a0 a1 x
        refine ⟨c9, (st _).mpr ?_⟩
        rw [stp_hi kb (by omega) c0 c9]
        exact Or.inr (Or.inr ⟨ec, a, a0, a1, ((hB a a0 (by omega)).1.mp ra).2, x⟩)
    · rintro ⟨c9, y⟩
      have y := (st _).mp y
      rw [stp_hi kb (by omega) c0 c9] at y
      rcases y with y | ⟨a, a0, a1, ra, x⟩ | ⟨ec, a, a0, a1, ra, x⟩
      · exact Or.inl ⟨c9, y⟩
      · exact Or.inr (Or.inl ⟨a, a0, a1, (hB a a0 (by omega)).2.mpr ⟨a1, ra⟩, x⟩)
      · exact Or.inr (Or.inr ⟨⟨a, a0, a1, (hB a a0 (by omega)).1.mpr ⟨a1, ra⟩, x⟩, ec⟩)
/-- the state at home with the errand done -/
theorem msk_home {m j : Int} (h0 : 0 ≤ m ∧ m ≤ 9) (j0 : 0 ≤ j) (j1 : j ≤ 19) : bitZ (zshl 1 (m + 10)) j ↔ j = m + 10 := bit_shl (by omega) (by omega) j0 (by omega)
theorem FHr_one {m r r' : Int} (sb : SB S b p) (a : FHr K S b p m r) (c : FHr K S b p m r') : r = r' := by
  obtain ⟨s0, s1, s2, s3⟩ := sb
  rcases a with ⟨a1, rfl⟩ | ⟨a1, a2⟩
  · rcases c with ⟨c1, rfl⟩ | ⟨c1, c2⟩
    · rfl
    · exact absurd a1 c1
  · rcases c with ⟨c1, rfl⟩ | ⟨c1, c2⟩
    · exact absurd c1 a1
    · exact fsH_one (by omega) (fun x _ _ => Iff.rfl) a2 c2
theorem F_homeHour (he : 3 ≤ e) (hc : CXq h K q L) (hK : KR K) (kb : KB K v3) (sb : SB S b v3) (hsc : scn sc) (hc0 : 60 ≤ sc) (hp : 0 ≤ v3 ∧ v3 < K.1 2) (hv : SV h sc S b v3) (k : ∀ r, FHr K S b v3 (zshl 1 (K.1 (4 * v3 + 117) + 10)) r → Q (some (.inl r)) h) : Rn xs xl e mm_Plans_homeHour 0 [some (.inr (.inr 77)), some (.inr (.inr q)), some (.inr (.inr sc)), some (.inl v3), none, none, none, none, none, none, none] [] h Q := by
  obtain ⟨hF, hP, hq, -⟩ := id hc
  have n2 := hK.2.2.1
  obtain ⟨ep1, ep2, ep3, -⟩ := CXq_p hc hp.1 hp.2
  obtain ⟨e0, e1, e2, e14, e8⟩ := hv
  obtain ⟨s0, s1, s2, s3⟩ := id sb
  have ks := kb.2.2.1
  have kh := kb.2.2.2.1
  have ke := kb.2.2.2.2.1
  have k0r : 0 ≤ k0F S b v3 ∧ k0F S b v3 ≤ 19 := by unfold k0F; split <;> omega
  have mh : ∀ n, (∃ j, 0 ≤ j ∧ j ≤ 19 ∧ bitZ (zshl 1 (K.1 (4 * v3 + 117) + 10)) j ∧ Rch K S b v3 n (S b + S (b + v3 + 14)) (k0F S b v3) j) ↔ Rch K S b v3 n (S b + S (b + v3 + 14)) (k0F S b v3) (K.1 (4 * v3 + 117) + 10) := by
    intro n
    constructor
    · rintro ⟨j, j0, j1, jm, y⟩
      rw [msk_home kh j0 j1] at jm
      rw [← jm]; exact y
    · exact fun y => ⟨_, by omega, by omega, (msk_home kh (by omega) (by omega)).mpr rfl, y⟩
  have aft : ∀ {n : Nat} {B A : Int}, bfS K S b v3 n B A → (zand (zshr A (rd h (q + 21 + v3) 2)) 1 = 1 ↔ Rch K S b v3 n (S b + S (b + v3 + 14)) (k0F S b v3) (K.1 (4 * v3 + 117) + 10)) := fun hB => by
    rw [ep2]
    have := (hB _ kh.1 (by omega)).2
    unfold bitZ at this
    rw [this]
    exact ⟨fun y => y.2, fun y => ⟨kh.2, y⟩⟩
  have loop : ¬ bitZ (zshl 1 (K.1 (4 * v3 + 117) + 10)) (k0F S b v3) → ∀ (n : Nat) (B A hr v6 : Int) (o : Option LV), 24 - hr ≤ n → S b + S (b + v3 + 14) ≤ hr → hr ≤ 25 → bfS K S b v3 (hr - (S b + S (b + v3 + 14))).toNat B A → (∀ x, S b + S (b + v3 + 14) ≤ x → x < hr → ¬ Rch K S b v3 (x + 1 - (S b + S (b + v3 + 14))).toNat (S b + S (b + v3 + 14)) (k0F S b v3) (K.1 (4 * v3 + 117) + 10)) → Rn xs xl e mm_Plans_homeHour 98 [some (.inr (.inr 77)), some (.inr (.inr q)), some (.inr (.inr sc)), some (.inl v3), some (.inr (.inr (q + 21 + v3))), some (.inl (zshl 1 (K.1 (4 * v3 + 118)))), some (.inl v6), some (.inl B), some (.inl A), some (.inl hr), o] [] h Q := by
    intro nm n
    have stop : ∀ hr, 24 ≤ hr → (∀ x, S b + S (b + v3 + 14) ≤ x → x < hr → ¬ Rch K S b v3 (x + 1 - (S b + S (b + v3 + 14))).toNat (S b + S (b + v3 + 14)) (k0F S b v3) (K.1 (4 * v3 + 117) + 10)) → Q (some (.inl (-1))) h := fun hr c gn => k (-1) (Or.inr ⟨nm, Or.inl ⟨rfl, fun x x0 x1 y => gn x x0 (by omega) ((mh _).mp y)⟩⟩)
    induction n with
    | zero =>
      intro B A hr v6 o hn h0 h1 hB gn
      exact B_Plans_homeHour_98 hq hsc hc0 hF (by omega) (by omega) ⟨fun c => stop hr c gn, fun c => by omega⟩
    | succ n ih =>
      intro B A hr v6 o hn h0 h1 hB gn
      refine B_Plans_homeHour_98 hq hsc hc0 hF (by omega) (by omega) ⟨fun c => stop hr c gn, fun c => ⟨2, by omega, ?_⟩⟩
      rw [ep1]
      refine F_nextRooms (by omega) hc hK hsc hc0 ks (by omega) (fun came ci cb => ?_)
      refine B_Plans_homeHour_119 hq hsc hc0 hF (by omega) (by omega) ⟨2, by omega, ?_⟩
      rw [ep1]
      refine F_nextRooms (by omega) hc hK hsc hc0 ks (by omega) (fun more mi mb => ?_)
      rw [e1] at cb mb
      have el : (hr + 1 - (S b + S (b + v3 + 14))).toNat = (hr - (S b + S (b + v3 + 14))).toNat + 1 := by omega
      have ec : S b + S (b + v3 + 14) + (((hr - (S b + S (b + v3 + 14))).toNat : Nat) : Int) = hr := by omega
      have nb := bfS_next (came := came) (more := more) (n := (hr - (S b + S (b + v3 + 14))).toNat) hK kb sb (by omega) hB (by rw [ec]; exact cb) (by rw [ec]; exact mb)
      rw [← el] at nb
      have af := aft nb
      have o1 := bitZ_01 (zor A (zor more (zand came (zshl 1 (K.1 (4 * v3 + 118)))))) (rd h (q + 21 + v3) 2)
      refine B_Plans_homeHour_137 hq hsc hc0 hF (by omega) (by omega) ⟨fun y => ih _ _ (hr + 1) _ _ (by omega) (by omega) (by omega) nb (fun x x0 x1 => ?_), fun y => k hr (Or.inr ⟨nm, Or.inr ⟨h0, c, (mh _).mpr (af.mp (by omega)), fun x x0 x1 w => gn x x0 x1 ((mh _).mp w)⟩⟩)⟩
      by_cases w : x = hr
      · rw [w]
        exact fun u => by have := af.mpr u; omega
      · exact gn x x0 (by omega)
  have start : ∀ (B A v6 : Int), bfS K S b v3 0 B A → Rn xs xl e mm_Plans_homeHour 73 [some (.inr (.inr 77)), some (.inr (.inr q)), some (.inr (.inr sc)), some (.inl v3), some (.inr (.inr (q + 21 + v3))), some (.inl (zshl 1 (K.1 (4 * v3 + 118)))), some (.inl v6), some (.inl B), some (.inl A), none, none] [] h Q := by
    intro B A v6 hB
    have af := aft hB
    have o1 := bitZ_01 A (rd h (q + 21 + v3) 2)
    have m0 := msk_home (m := K.1 (4 * v3 + 117)) kh k0r.1 k0r.2
    refine B_Plans_homeHour_73 hq hsc hc0 hF (by omega) (by omega) ⟨fun y => ⟨by omega, ?_⟩, fun y => ?_⟩
    · rw [e0, e14]
      refine loop (fun w => ?_) 24 B A _ v6 none (by omega) (by omega) (by omega) (by rw [show (S b + S (b + v3 + 14) - (S b + S (b + v3 + 14))).toNat = 0 by omega]; exact hB) (fun x x0 x1 => by omega)
      have := af.mpr (m0.mp w)
      omega
    · rw [e0]
      have w : k0F S b v3 = K.1 (4 * v3 + 117) + 10 := af.mp (by omega)
      exact k _ (Or.inl ⟨m0.mpr w, rfl⟩)
  have b0 : ∀ {x : Int}, 0 ≤ x → x < 32 → (bitZ 0 x ↔ False) := fun _ _ => ⟨fun y => bit_zero y, fun y => y.elim⟩
  refine B_Plans_homeHour_0 hq hsc hc0 hF hP (by omega) ⟨fun c => ?_, fun c => ?_⟩
  · rw [e8] at c
    rw [ep3]
    refine B_Plans_homeHour_35 hq hsc hc0 hF (by omega) ⟨fun _ => ?_, fun y => absurd rfl y⟩
    rw [e2]
    refine B_Plans_homeHour_54 hq hsc hc0 hF (by omega) ⟨fun _ => start _ _ 0 (fun a a0 a1 => ?_), fun y => absurd rfl y⟩
    have ek : k0F S b v3 = S (b + v3 + 2) := by unfold k0F; rw [if_neg (by omega)]
    rw [bit_shl s3.1 (by omega) a0 a1, b0 a0 a1]
    refine ⟨⟨fun y => ⟨by omega, ek.trans y.symm⟩, fun y => ?_⟩, ⟨fun y => y.elim, fun y => ?_⟩⟩
    · have w : k0F S b v3 = a := y.2
      omega
    · have w : k0F S b v3 = a + 10 := y.2
      omega
  · rw [e8] at c
    rw [ep3]
    refine B_Plans_homeHour_35 hq hsc hc0 hF (by omega) ⟨fun y => absurd y (by decide), fun _ => ?_⟩
    refine B_Plans_homeHour_54 hq hsc hc0 hF (by omega) ⟨fun y => absurd y (by decide), fun _ => ?_⟩
    rw [e2]
    refine start _ _ 1 (fun a a0 a1 => ?_)
    have ek : k0F S b v3 = S (b + v3 + 2) + 10 := by unfold k0F; rw [if_pos (by omega)]
    rw [bit_shl s3.1 (by omega) a0 a1, b0 a0 a1]
    refine ⟨⟨fun y => y.elim, fun y => ?_⟩, ⟨fun y => ⟨by omega, ?_⟩, fun y => ?_⟩⟩
    · have w : k0F S b v3 = a := y.2
      omega
    · show k0F S b v3 = a + 10
      omega
    · have w : k0F S b v3 = a + 10 := y.2
      omega
end PL7
end
section
/-! plans, part t8: stuck -/
/-- who can't be home any more -/
def stkB (K : KEY) (S : Int → Int) (b n r : Int) : Prop := i32 r ∧ ∀ k, 0 ≤ k → k < 32 → (bitZ r k ↔ k < n ∧ FHr K S b k (zshl 1 (K.1 (4 * k + 117) + 10)) (-1))
def stkJ (h g : LH) (r : Int) : Prop := samP h g ∧ stkB (key h) (rd h 198) 0 (rd h 188 2) r
section PL8
variable {xs : Nat → Int} {xl e : Nat} {h g : LH} {Q : Option LV → LH → Prop} {K : KEY} {S : Int → Int} {b p n r r' v1 v2 : Int}
theorem FHr_neg (sb : SB S b p) {m : Int} (a : FHr K S b p m r) : r < 0 ↔ r = -1 := by
  obtain ⟨s0, s1, s2, s3⟩ := sb
  rcases a with ⟨_, rfl⟩ | ⟨_, ⟨rfl, _⟩ | ⟨f, _⟩⟩
  · omega
  · omega
  · omega
theorem stkB_one (a : stkB K S b n r) (c : stkB K S b n r') : r = r' := bit_ext a.1 c.1 (fun k k0 k1 => by rw [a.2 k k0 k1, c.2 k k0 k1])
theorem stkB_0 : stkB K S b 0 0 := ⟨z32, fun k k0 k1 => ⟨fun y => absurd y bit_zero, fun y => by omega⟩⟩
theorem stkB_no (hn : 0 ≤ n ∧ n ≤ 5) (sb : SB S b n) (a : stkB K S b n r) (c : FHr K S b n (zshl 1 (K.1 (4 * n + 117) + 10)) v1) (h : v1 ≠ -1) (e : ∀ k, 0 ≤ k → k < 32 → (bitZ r' k ↔ bitZ r k)) (i : i32 r') : stkB K S b (n + 1) r' := by
  refine ⟨i, fun k k0 k1 => ?_⟩
  rw [e k k0 k1, a.2 k k0 k1]
  constructor
  · exact fun y => ⟨by omega, y.2⟩
  · rintro ⟨y, z⟩
    by_cases w : k = n
    · subst w
      exact absurd (FHr_one sb c z) h
    · exact ⟨by omega, z⟩
theorem stkB_yes (hn : 0 ≤ n ∧ n ≤ 5) (a : stkB K S b n r) (c : FHr K S b n (zshl 1 (K.1 (4 * n + 117) + 10)) (-1)) : stkB K S b (n + 1) (zor r (zshl 1 n)) := by
  refine ⟨zor_i _ _, fun k k0 k1 => ?_⟩
  rw [bit_or k0 k1, bit_shl hn.1 (by omega) k0 k1, a.2 k k0 k1]
  constructor
  · rintro (y | y)
    · exact ⟨by omega, y.2⟩
    · subst y
      exact ⟨by omega, c⟩
  · rintro ⟨y, z⟩
    by_cases w : k = n
    · exact Or.inr w
    · exact Or.inl ⟨by omega, z⟩
theorem E_stuckS (he : 8 ≤ e) (hI : INV h) (hE : EQL h) (k : ∀ r g, INV g → stkJ h g r → Q (some (.inl r)) g) : Rn xs xl e mm_OneSided_stuck 0 [some (.inr (.inr 1)), none, none] [] h Q := by
  obtain ⟨L, hc⟩ := CXq_of hI hE
  have hK := KR_of hI
  have hq : rd h 1 1 = 5 ∨ rd h 1 1 = 32 := rQf hI.1
  obtain ⟨-, -, -, -, ⟨c0, -, c4⟩, -⟩ := id hc
  have c4' : rd h (rd h 1 1) 4 = rd h 188 2 := c4
  have n2 := rq_people hI.1
  have k5 := hE.2.2.2.2.2.2.2.2.2.2.2.1
  have w : WC (key h) (rd h 198) h := ⟨hI, rfl, rfl⟩
  have loop : ∀ (n : Nat) (v1 v2 : Int), rd h 188 2 - v2 ≤ n → 0 ≤ v2 → v2 ≤ rd h 188 2 → stkB (key h) (rd h 198) 0 v2 v1 → Rn xs xl e mm_OneSided_stuck 4 [some (.inr (.inr 1)), some (.inl v1), some (.inl v2)] [] h Q := by
    intro n
    have stop : ∀ v1 v2, rd h 188 2 ≤ v2 → v2 ≤ rd h 188 2 → stkB (key h) (rd h 198) 0 v2 v1 → Q (some (.inl v1)) h := fun v1 v2 a c s => k v1 h hI ⟨fun _ _ => rfl, by rw [show rd h 188 2 = v2 by omega]; exact s⟩
    induction n with
    | zero =>
      intro v1 v2 hn a0 a1 hs
      exact B_OneSided_stuck_4 hq rfl (RF_of hI.1) (by omega) ⟨fun c => stop v1 v2 (by omega) a1 hs, fun c => by omega⟩
    | succ n ih =>
      intro v1 v2 hn a0 a1 hs
      refine B_OneSided_stuck_4 hq rfl (RF_of hI.1) (by omega) ⟨fun c => stop v1 v2 (by omega) a1 hs, fun c => ⟨3, by omega, ?_⟩⟩
      have p2 : v2 < rd h 188 2 := by omega
      have sb := SB_of w (b := 0) (p := v2) (by decide) (by decide) (by omega)
      refine F_homeHour (Nat.le_refl 3) hc hK (KB_of w (by omega)) sb scn_60 (by decide) ⟨a0, p2⟩ (SV_of k5 a0 p2) (fun r hr => B_OneSided_stuck_34 (RF_of hI.1) (by omega) ⟨fun y => ih v1 (v2 + 1) (by omega) (by omega) (by omega) (stkB_no ⟨a0, by omega⟩ sb hs hr y (fun _ _ _ => Iff.rfl) hs.1), fun y => ih _ (v2 + 1) (by omega) (by omega) (by omega) ?_⟩)
      rw [y] at hr
      exact stkB_yes ⟨a0, by omega⟩ hs hr
  exact B_OneSided_stuck_0 (RF_of hI.1) (loop 6 0 0 (by omega) (by omega) (by omega) stkB_0)
/-- the reference's errandHour -/
theorem G_errandHourX (he : 7 ≤ e) (w : WC K S h) (b0 : b % 70 = 0) (hb : 0 ≤ b ∧ b ≤ 1540) (hp : 0 ≤ p ∧ p ≤ 5) (k : ∀ r h', WC K S h' → frL h h' → FHr K S b p (zshl 1 (K.1 (4 * p + 117) + 10)) r → Q (some (.inl r)) h') : Rn xs xl e mm_errandHour 0 [some (.inr (.inr 182)), some (.inl b), some (.inl p)] [] h Q := by
  have kb := KB_of w hp
  have kh := kb.2.2.2.1
  have e1 : rd h 188 (4 * p + 117) = K.1 (4 * p + 117) := by rw [← w.2.1]; rfl
  refine B_errandHour_0 (RF_of w.1.1) hb hp (by omega) ⟨by omega, 6, by omega, ?_⟩
  rw [e1]
  exact G_firstHourX (Nat.le_refl 6) w b0 hb hp (fun r u uw uf hr => B_errandHour_17 (RF_of uw.1.1) hb hp (k r u uw uf hr))
theorem G_stuckS (he : 9 ≤ e) (hI : INV h) (hE : EQL h) (gI : INV g) (hj : stkJ h g r) (k : ∀ g', INV g' → EQL g' → Q (some (.inl r)) g') : Rn xs xl e mm_stuck 0 [some (.inr (.inr 182)), none, none] [] g Q := by
  obtain ⟨sm, hs⟩ := hj
  have EG := EQL_sam hI hE sm
  have ek := key_sam sm
  have e8 : rd g 198 = rd h 198 := funext (fun i => sm 198 i)
  rw [← ek, ← e8, ← sm 188 2] at hs
  have n2 := rq_people gI.1
  have w := WC_thr gI
  have loop : ∀ (n : Nat) (u : LH) (v1 v2 : Int), rd g 188 2 - v2 ≤ n → 0 ≤ v2 → v2 ≤ rd g 188 2 → WC (key g) (rd g 198) u → frL (wr g 182 0 0) u → stkB (key g) (rd g 198) 0 v2 v1 → Rn xs xl e mm_stuck 9 [some (.inr (.inr 182)), some (.inl v1), some (.inl v2)] [] u Q := by
    intro n
    have stop : ∀ (u : LH) (v1 v2 : Int), rd g 188 2 ≤ v2 → v2 ≤ rd g 188 2 → WC (key g) (rd g 198) u → frL (wr g 182 0 0) u → stkB (key g) (rd g 198) 0 v2 v1 → Q (some (.inl v1)) u := fun u v1 v2 a c uw uf s => by
      rw [show v2 = rd g 188 2 by omega] at s
      rw [stkB_one s hs]
      exact k u uw.1 (EQL_L gI EG (fun a i n1 n2 n3 => (uf a i n1 n2).trans (by rw [rd_wr, if_neg (by omega)])))
    induction n with
    | zero =>
      intro u v1 v2 hn a0 a1 uw uf s
      have e2 : rd u 188 2 = rd g 188 2 := by have := uw.2.1; rw [show rd u 188 2 = (key u).1 2 from rfl, this]; rfl
      exact B_stuck_9 (RF_of uw.1.1) (by omega) (by omega) ⟨fun _ => stop u v1 v2 (by omega) a1 uw uf s, fun c => by omega⟩
    | succ n ih =>
      intro u v1 v2 hn a0 a1 uw uf s
      have e2 : rd u 188 2 = rd g 188 2 := by have := uw.2.1; rw [show rd u 188 2 = (key u).1 2 from rfl, this]; rfl
      refine B_stuck_9 (RF_of uw.1.1) (by omega) (by omega) ⟨fun c => stop u v1 v2 (by omega) a1 uw uf s, fun c => ⟨7, by omega, ?_⟩⟩
      have sb := SB_of w (b := 0) (p := v2) (by decide) (by decide) (by omega)
      refine G_errandHourX (Nat.le_refl 7) uw (by decide) (by decide) (by omega) (fun r u' uw' uf' hr => ?_)
      have neg := FHr_neg sb hr
      refine B_stuck_24 (RF_of uw'.1.1) (by omega) ⟨fun y => ih u' _ (v2 + 1) (by omega) (by omega) (by omega) uw' (uf.trans uf') (stkB_no ⟨a0, by omega⟩ sb s hr (by omega) (fun k k0 k1 => by rw [bit_or k0 k1]; exact ⟨fun z => z.elim (fun z => z) (fun z => absurd z bit_zero), Or.inl⟩) (zor_i _ _)), fun y => ih u' _ (v2 + 1) (by omega) (by omega) (by omega) uw' (uf.trans uf') ?_⟩
      rw [neg.mp y] at hr
      exact stkB_yes ⟨a0, by omega⟩ s hr
  exact B_stuck_0 (RF_of gI.1) (loop 6 _ 0 0 (by omega) (by omega) (by omega) w (frL.refl _) stkB_0)
end PL8
end
