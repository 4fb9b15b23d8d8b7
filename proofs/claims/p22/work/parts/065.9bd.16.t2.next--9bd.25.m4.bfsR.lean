section
/-! plans, part t2: rooms one hour on -/
/-- through door d, by the bits A ahead and B back, one comes out of the rooms R into room b -/
def entD (K : KEY) (A B R b d : Int) : Prop := (bitZ A d ∧ bitZ R (K.1 (8 * d + 5)) ∧ b = K.1 (8 * d + 6)) ∨ (bitZ B d ∧ bitZ R (K.1 (8 * d + 6)) ∧ b = K.1 (8 * d + 5))
/-- in hour hr one comes from room a into room b -/
def edg (K : KEY) (sh s hr a b : Int) : Prop := ∃ d, 0 ≤ d ∧ d < K.1 1 ∧ LF K d s a hr sh 0 = b
theorem ex_lt {P : Int → Prop} {n : Int} (n0 : 0 ≤ n) : (∃ d, 0 ≤ d ∧ d < n + 1 ∧ P d) ↔ (∃ d, 0 ≤ d ∧ d < n ∧ P d) ∨ P n := by
  constructor
  · rintro ⟨d, d0, d1, hp⟩
    by_cases z : d = n
    · subst z; exact Or.inr hp
    · exact Or.inl ⟨d, d0, by omega, hp⟩
  · rintro (⟨d, d0, d1, hp⟩ | hp)
    · exact ⟨d, d0, by omega, hp⟩
    · exact ⟨n, n0, by omega, hp⟩
section PL2
variable {xs : Nat → Int} {xl e : Nat} {h g : LH} {Q : Option LV → LH → Prop} {K : KEY} {q d s hr a b A B R sc v1 v2 v3 v4 : Int} {L : List Int}
theorem CXq_d (hc : CXq h K q L) (d0 : 0 ≤ d) (d1 : d < K.1 1) : rd h (q + 7 + d) 2 = K.1 (8 * d + 5) ∧ rd h (q + 7 + d) 3 = K.1 (8 * d + 6) ∧ rd h (q + 7 + d) 5 = K.1 (8 * d + 8) ∧ rd h (q + 7 + d) 7 = K.1 (8 * d + 10) ∧ rd h (q + 7 + d) 8 = K.1 (8 * d + 11) := by
  have f := hc.2.2.2.2.2.1 d d0 d1
  exact ⟨(f 1 (by decide)).trans (by rw [show 8 * d + 4 + ((1 : Nat) : Int) = 8 * d + 5 by omega]), (f 2 (by decide)).trans (by rw [show 8 * d + 4 + ((2 : Nat) : Int) = 8 * d + 6 by omega]), (f 4 (by decide)).trans (by rw [show 8 * d + 4 + ((4 : Nat) : Int) = 8 * d + 8 by omega]), (f 6 (by decide)).trans (by rw [show 8 * d + 4 + ((6 : Nat) : Int) = 8 * d + 10 by omega]), (f 7 (by decide)).trans (by rw [show 8 * d + 4 + ((7 : Nat) : Int) = 8 * d + 11 by omega])⟩
theorem CXq_p {p : Int} (hc : CXq h K q L) (p0 : 0 ≤ p) (p1 : p < K.1 2) : rd h (q + 21 + p) 1 = K.1 (4 * p + 116) ∧ rd h (q + 21 + p) 2 = K.1 (4 * p + 117) ∧ rd h (q + 21 + p) 3 = K.1 (4 * p + 118) ∧ rd h (q + 21 + p) 4 = K.1 (4 * p + 119) := by
  have f := hc.2.2.2.2.2.2.1 p p0 p1
  exact ⟨(f 0 (by decide)).trans (by rw [show 116 + 4 * p + ((0 : Nat) : Int) = 4 * p + 116 by omega]), (f 1 (by decide)).trans (by rw [show 116 + 4 * p + ((1 : Nat) : Int) = 4 * p + 117 by omega]), (f 2 (by decide)).trans (by rw [show 116 + 4 * p + ((2 : Nat) : Int) = 4 * p + 118 by omega]), (f 3 (by decide)).trans (by rw [show 116 + 4 * p + ((3 : Nat) : Int) = 4 * p + 119 by omega])⟩
theorem F_entered (hc : CXq h K q L) (hK : KR K) (k : ∀ r, i32 r → (∀ b, 0 ≤ b → b < 32 → (bitZ r b ↔ ∃ d, 0 ≤ d ∧ d < K.1 1 ∧ entD K v1 v2 v3 b d)) → Q (some (.inl r)) h) : Rn xs xl e mm_Quarter_entered 0 [some (.inr (.inr q)), some (.inl v1), some (.inl v2), some (.inl v3), none, none, none] [] h Q := by
  obtain ⟨hF, hP, hq, -, ⟨-, n2, -⟩, -⟩ := id hc
  obtain ⟨k0, n1, -, kd, -⟩ := hK
  have l6 : ∀ (n : Nat) (v4 v5 : Int) (o : Option LV), K.1 1 - v5 ≤ n → 0 ≤ v5 → v5 ≤ K.1 1 → i32 v4 → (∀ b, 0 ≤ b → b < 32 → (bitZ v4 b ↔ ∃ d, 0 ≤ d ∧ d < v5 ∧ entD K v1 v2 v3 b d)) → Rn xs xl e mm_Quarter_entered 6 [some (.inr (.inr q)), some (.inl v1), some (.inl v2), some (.inl v3), some (.inl v4), some (.inl v5), o] [] h Q := by
    intro n
    induction n with
    | zero =>
      intro v4 v5 o hn a0 a1 vi vb
      refine B_Quarter_entered_6 hq hF hP ⟨a0, by omega⟩ ⟨fun _ => k v4 vi (fun b b0 b1 => ?_), fun c => by omega⟩
      rw [show K.1 1 = v5 by omega]
      exact vb b b0 b1
    | succ n ih =>
      intro v4 v5 o hn a0 a1 vi vb
      refine B_Quarter_entered_6 hq hF hP ⟨a0, by omega⟩ ⟨fun c => k v4 vi (fun b b0 b1 => ?_), fun c => ?_⟩
      · rw [show K.1 1 = v5 by omega]
        exact vb b b0 b1
      · have v1d : v5 < K.1 1 := by omega
        obtain ⟨e2, e3, -⟩ := CXq_d hc a0 v1d
        obtain ⟨r2, r3, -⟩ := kd v5 a0 v1d
        have s57 : ∀ w, i32 w → (∀ b, 0 ≤ b → b < 32 → (bitZ w b ↔ (∃ d, 0 ≤ d ∧ d < v5 ∧ entD K v1 v2 v3 b d) ∨ (bitZ v1 v5 ∧ bitZ v3 (K.1 (8 * v5 + 5)) ∧ b = K.1 (8 * v5 + 6)))) → Rn xs xl e mm_Quarter_entered 57 [some (.inr (.inr q)), some (.inl v1), some (.inl v2), some (.inl v3), some (.inl w), some (.inl v5), some (.inr (.inr (q + 7 + v5)))] [] h Q := by
          intro w wi wb
          have go : (¬ (bitZ v2 v5 ∧ bitZ v3 (K.1 (8 * v5 + 6)))) → Rn xs xl e mm_Quarter_entered 6 [some (.inr (.inr q)), some (.inl v1), some (.inl v2), some (.inl v3), some (.inl w), some (.inl (v5 + 1)), some (.inr (.inr (q + 7 + v5)))] [] h Q := fun nz => ih w (v5 + 1) _ (by omega) (by omega) (by omega) wi (fun b b0 b1 => by
            rw [wb b b0 b1, ex_lt a0]
            unfold entD
            exact ⟨fun y => y.elim Or.inl (fun y => Or.inr (Or.inl y)), fun y => y.elim Or.inl (fun y => y.elim Or.inr (fun y => absurd ⟨y.1, y.2.1⟩ nz))⟩)
          refine B_Quarter_entered_57 hq hF ⟨a0, by omega⟩ ⟨fun z => go (fun y => bitZ_n.mpr z y.1), fun z => ⟨fun y => ?_, fun y => ?_⟩⟩
          · rw [e3] at y
            exact go (fun x => bitZ_n.mpr y x.2)
          · rw [e3] at y
            rw [e2]
            have bz : bitZ v2 v5 := Classical.byContradiction (fun n => z (bitZ_n.mp n))
            have by' : bitZ v3 (K.1 (8 * v5 + 6)) := Classical.byContradiction (fun n => y (bitZ_n.mp n))
            refine ih _ (v5 + 1) _ (by omega) (by omega) (by omega) (zor_i _ _) (fun b b0 b1 => ?_)
            rw [bit_or b0 b1, bit_shl (by omega) (by omega) b0 b1, wb b b0 b1, ex_lt a0]
            unfold entD
            exact ⟨fun y => y.elim (fun y => y.elim Or.inl (fun y => Or.inr (Or.inl y))) (fun y => Or.inr (Or.inr ⟨bz, by', y⟩)), fun y => y.elim (fun y => Or.inl (Or.inl y)) (fun y => y.elim (fun y => Or.inl (Or.inr y)) (fun y => Or.inr y.2.2))⟩
        have go : (¬ (bitZ v1 v5 ∧ bitZ v3 (K.1 (8 * v5 + 5)))) → Rn xs xl e mm_Quarter_entered 57 [some (.inr (.inr q)), some (.inl v1), some (.inl v2), some (.inl v3), some (.inl v4), some (.inl v5), some (.inr (.inr (q + 7 + v5)))] [] h Q := fun nz => s57 v4 vi (fun b b0 b1 => by
          rw [vb b b0 b1]
          exact ⟨Or.inl, fun y => y.elim (fun y => y) (fun y => absurd ⟨y.1, y.2.1⟩ nz)⟩)
        refine ⟨by omega, fun z => go (fun y => bitZ_n.mpr z y.1), fun z => ⟨fun y => ?_, fun y => ?_⟩⟩
        · rw [e2] at y
          exact go (fun x => bitZ_n.mpr y x.2)
        · rw [e2] at y
          rw [e3]
          have bz : bitZ v1 v5 := Classical.byContradiction (fun n => z (bitZ_n.mp n))
          have by' : bitZ v3 (K.1 (8 * v5 + 5)) := Classical.byContradiction (fun n => y (bitZ_n.mp n))
          refine s57 _ (zor_i _ _) (fun b b0 b1 => ?_)
          rw [bit_or b0 b1, bit_shl (by omega) (by omega) b0 b1, vb b b0 b1]
          exact ⟨fun y => y.elim Or.inl (fun y => Or.inr ⟨bz, by', y⟩), fun y => y.elim Or.inl (fun y => Or.inr y.2.2)⟩
  exact B_Quarter_entered_0 hq hF (l6 (K.1 1).toNat 0 0 none (by omega) (by omega) (by omega) z32 (fun b b0 b1 => ⟨fun y => absurd y bit_zero, fun ⟨d, d0, d1, _⟩ => by omega⟩))
/-- the doors that let by, as bits -/
theorem CXq_ah (hc : CXq h K q L) (hK : KR K) (hs : 0 ≤ s ∧ s ≤ 3) (hh : 0 ≤ hr ∧ hr ≤ 23) (d0 : 0 ≤ d) (d1 : d < K.1 1) : (bitZ (zand (rd h (q + 5) (24 * s + hr)) (zxor v1 (-1))) d ↔ wAh (rd h (q + 7 + d)) L s hr (rd h (q + 7 + d) 8) 0 ∧ ¬ bitZ v1 d) ∧ (bitZ (zand (rd h (q + 6) (24 * s + hr)) (zxor v1 (-1))) d ↔ wBk (rd h (q + 7 + d)) L s hr (rd h (q + 7 + d) 8) 0 ∧ ¬ bitZ v1 d) := by
  obtain ⟨-, -, -, -, ⟨-, n2, -⟩, -, -, st, -⟩ := hc
  have n1 := hK.2.1
  obtain ⟨s1, s2⟩ := st s hr hs.1 hs.2 hh.1 hh.2
  have a := s1 d d0 (by omega)
  have b := s2 d d0 (by omega)
  have d1' : d < rd h q 2 := by omega
  constructor
  · rw [bit_and d0 (by omega), bit_not d0 (by omega), a]
    exact ⟨fun y => ⟨y.1.2, y.2⟩, fun y => ⟨⟨d1', y.1⟩, y.2⟩⟩
  · rw [bit_and d0 (by omega), bit_not d0 (by omega), b]
    exact ⟨fun y => ⟨y.1.2, y.2⟩, fun y => ⟨⟨d1', y.1⟩, y.2⟩⟩
theorem ent_edg (hc : CXq h K q L) (hK : KR K) (hs : 0 ≤ s ∧ s ≤ 3) (hh : 0 ≤ hr ∧ hr ≤ 23) (b0 : 0 ≤ b) (d0 : 0 ≤ d) (d1 : d < K.1 1) : entD K (zand (rd h (q + 5) (24 * s + hr)) (zxor v1 (-1))) (zand (rd h (q + 6) (24 * s + hr)) (zxor v1 (-1))) R b d ↔ ∃ a, 0 ≤ a ∧ a ≤ 9 ∧ bitZ R a ∧ LF K d s a hr v1 0 = b := by
  obtain ⟨bA, bB⟩ := CXq_ah (v1 := v1) hc hK hs hh d0 d1
  obtain ⟨e2, e3, -⟩ := CXq_d hc d0 d1
  obtain ⟨k0, n1, -, kd, -⟩ := hK
  obtain ⟨r2, r3, -⟩ := kd d d0 d1
  have lf := hc.2.2.2.2.2.2.2.2
  unfold entD
  rw [bA, bB, ← e2, ← e3]
  rw [← e2] at r2
  rw [← e3] at r3
  constructor
  · rintro (⟨x, y, rfl⟩ | ⟨x, y, rfl⟩)
    · refine ⟨_, r2.1, by omega, y, ?_⟩
      rw [lf d s _ hr v1 d0 d1 hs.1 hs.2 r2.1 (by omega) hh.1 hh.2]
      unfold inF
      rw [if_pos ⟨rfl, x⟩]
    · refine ⟨_, r3.1, by omega, y, ?_⟩
      rw [lf d s _ hr v1 d0 d1 hs.1 hs.2 r3.1 (by omega) hh.1 hh.2]
      unfold inF
      by_cases c : rd h (q + 7 + d) 2 = rd h (q + 7 + d) 3 ∧ wAh (rd h (q + 7 + d)) L s hr (rd h (q + 7 + d) 8) 0 ∧ ¬ bitZ v1 d
      · rw [if_pos c]
        exact c.1.symm
      · rw [if_neg c, if_pos ⟨rfl, x⟩]
  · rintro ⟨a, a0, a1, ra, ee⟩
    rw [lf d s a hr v1 d0 d1 hs.1 hs.2 a0 a1 hh.1 hh.2] at ee
    unfold inF at ee
    by_cases c : rd h (q + 7 + d) 2 = a ∧ wAh (rd h (q + 7 + d)) L s hr (rd h (q + 7 + d) 8) 0 ∧ ¬ bitZ v1 d
    · rw [if_pos c] at ee
      exact Or.inl ⟨c.2, by rw [c.1]; exact ra, ee.symm⟩
    · rw [if_neg c] at ee
      by_cases c2 : rd h (q + 7 + d) 3 = a ∧ wBk (rd h (q + 7 + d)) L s hr (rd h (q + 7 + d) 8) 0 ∧ ¬ bitZ v1 d
      · rw [if_pos c2] at ee
        exact Or.inr ⟨c2.2, by rw [c2.1]; exact ra, ee.symm⟩
      · rw [if_neg c2] at ee
        omega
theorem ent_all (hc : CXq h K q L) (hK : KR K) (hs : 0 ≤ s ∧ s ≤ 3) (hh : 0 ≤ hr ∧ hr ≤ 23) (b0 : 0 ≤ b) : (∃ d, 0 ≤ d ∧ d < K.1 1 ∧ entD K (zand (rd h (q + 5) (24 * s + hr)) (zxor v1 (-1))) (zand (rd h (q + 6) (24 * s + hr)) (zxor v1 (-1))) R b d) ↔ ∃ a, 0 ≤ a ∧ a ≤ 9 ∧ bitZ R a ∧ edg K v1 s hr a b := by
  constructor
  · rintro ⟨d, d0, d1, x⟩
    obtain ⟨a, a0, a1, ra, ee⟩ := (ent_edg hc hK hs hh b0 d0 d1).mp x
    exact ⟨a, a0, a1, ra, d, d0, d1, ee⟩
  · rintro ⟨a, a0, a1, ra, d, d0, d1, ee⟩
    exact ⟨d, d0, d1, (ent_edg hc hK hs hh b0 d0 d1).mpr ⟨a, a0, a1, ra, ee⟩⟩
theorem F_nextRooms (he : 1 ≤ e) (hc : CXq h K q L) (hK : KR K) (hsc : scn sc) (hc0 : 60 ≤ sc) (hs : 0 ≤ v2 ∧ v2 ≤ 3) (hh : 0 ≤ v3 ∧ v3 ≤ 23) (k : ∀ r, i32 r → (∀ b, 0 ≤ b → b < 32 → (bitZ r b ↔ ∃ a, 0 ≤ a ∧ a ≤ 9 ∧ bitZ v4 a ∧ edg K (rd h sc 1) v2 v3 a b)) → Q (some (.inl r)) h) : Rn xs xl e mm_Plans_nextRooms 0 [some (.inr (.inr q)), some (.inr (.inr sc)), some (.inl v2), some (.inl v3), some (.inl v4), none, none] [] h Q := by
  obtain ⟨hF, -, hq, -⟩ := id hc
  refine B_Plans_nextRooms_0 hq hsc hc0 hF ⟨0, by omega, B_Quarter_aheadIn_0 hq hF hs (by omega) ⟨fun c => by omega, fun _ => ⟨by omega, ?_⟩⟩⟩
  refine B_Plans_nextRooms_10 hq hsc hc0 hF ⟨0, by omega, B_Quarter_backIn_0 hq hF hs (by omega) ⟨fun c => by omega, fun _ => ⟨by omega, ?_⟩⟩⟩
  refine B_Plans_nextRooms_22 hq hsc hc0 hF ⟨0, by omega, F_entered hc hK (fun r ri rb => B_Plans_nextRooms_34 hq hsc hc0 hF (k r ri (fun b b0 b1 => ?_)))⟩
  rw [rb b b0 b1]
  exact ent_all hc hK hs hh b0
end PL2
end
section
/-! plans, part t3: the reference's stepOf, both ways; reached in so many hours -/
section PL3
variable {xs : Nat → Int} {xl e : Nat} {h : LH} {Q : Option LV → LH → Prop} {K : KEY} {S : Int → Int} {b p : Int}
/-- one hour on -/
def stp (K : KEY) (S : Int → Int) (b p hr : Int) (X : Int → Prop) (j : Int) : Prop := X j ∨ ∃ q d, 0 ≤ q ∧ q ≤ 19 ∧ 0 ≤ d ∧ d < K.1 1 ∧ X q ∧ 0 ≤ tr K S b p hr q d ∧ tr K S b p hr q d = j
theorem G_stepOfX {set hr : Int} (he : 5 ≤ e) (w : WC K S h) (hb : 0 ≤ b ∧ b ≤ 1540) (hp : 0 ≤ p ∧ p ≤ 5) (hhr : 0 ≤ hr ∧ hr ≤ 24) (hs0 : i32 set) (k : ∀ r h', WC K S h' → frL h h' → i32 r → (∀ j, 0 ≤ j → j < 32 → (bitZ r j ↔ stp K S b p hr (bitZ set) j)) → Q (some (.inl r)) h') : Rn xs xl e mm_stepOf 0 [some (.inr (.inr 182)), some (.inl b), some (.inl p), some (.inl set), some (.inl hr), none, none, none, none, none] [] h Q := by
  obtain ⟨kb1, kb0, kbs, kbh, kbe, -⟩ := KB_of w hp
  -- after the states below q, and the doors below d of q
  have inner : ∀ (n : Nat) (g : LH) (nx q d : Int) (o8 o9 : Option LV), K.1 1 - d ≤ n → 0 ≤ q → q ≤ 19 → 0 ≤ d → d ≤ K.1 1 → WC K S g → frL h g → i32 nx → (∀ j, 0 ≤ j → j < 32 → (bitZ nx j ↔ bitZ set j ∨ (∃ q', 0 ≤ q' ∧ q' < q ∧ ∃ d', 0 ≤ d' ∧ d' < K.1 1 ∧ bitZ set q' ∧ 0 ≤ tr K S b p hr q' d' ∧ tr K S b p hr q' d' = j) ∨ ∃ d', 0 ≤ d' ∧ d' < d ∧ bitZ set q ∧ 0 ≤ tr K S b p hr q d' ∧ tr K S b p hr q d' = j)) → (∀ g nx o7 o8 o9, WC K S g → frL h g → i32 nx → (∀ j, 0 ≤ j → j < 32 → (bitZ nx j ↔ bitZ set j ∨ (∃ q', 0 ≤ q' ∧ q' < q + 1 ∧ ∃ d', 0 ≤ d' ∧ d' < K.1 1 ∧ bitZ set q' ∧ 0 ≤ tr K S b p hr q' d' ∧ tr K S b p hr q' d' = j))) → Rn xs xl e mm_stepOf 6 [some (.inr (.inr 182)), some (.inl b), some (.inl p), some (.inl set), some (.inl hr), some (.inl nx), some (.inl (q + 1)), o7, o8, o9] [] g Q) → Rn xs xl e mm_stepOf 16 [some (.inr (.inr 182)), some (.inl b), some (.inl p), some (.inl set), some (.inl hr), some (.inl nx), some (.inl q), some (.inl d), o8, o9] [] g Q := by
    intro n
    induction n with
    | zero =>
      intro g nx q d o8 o9 hn q0 q1 d0 d1 gw gf ni gi cont
      have dn : d = K.1 1 := by omega
      have e1 : rd g 188 1 = K.1 1 := by have := gw.2.1; unfold key at this; rw [← this]
      refine B_stepOf_16 (RF_of gw.1.1) hb hp ⟨q0, q1⟩ ⟨d0, by omega⟩ (by omega) ⟨fun _ => cont g nx _ o8 o9 gw gf ni (fun j j0 j1 => ?_), fun c => by omega⟩
      rw [gi j j0 j1, ex_lt q0, dn]
    | succ n ih =>
      intro g nx q d o8 o9 hn q0 q1 d0 d1 gw gf ni gi cont
      have e1 : rd g 188 1 = K.1 1 := by have := gw.2.1; unfold key at this; rw [← this]
      refine B_stepOf_16 (RF_of gw.1.1) hb hp ⟨q0, q1⟩ ⟨d0, by omega⟩ (by omega) ⟨fun c => cont g nx _ o8 o9 gw gf ni (fun j j0 j1 => ?_), fun c => ⟨fun z => cont g nx _ o8 o9 gw gf ni (fun j j0 j1 => ?_), fun z => ⟨4, by omega, ?_⟩⟩⟩
      · have dn : d = K.1 1 := by omega
        rw [gi j j0 j1, ex_lt q0, dn]
      · rw [gi j j0 j1, ex_lt q0]
        have nz : ¬ bitZ set q := z
        exact ⟨fun y => y.elim Or.inl (fun y => y.elim (fun y => Or.inr (Or.inl y)) (fun ⟨_, _, _, s, _⟩ => absurd s nz)), fun y => y.elim Or.inl (fun y => y.elim (fun y => Or.inr (Or.inl y)) (fun ⟨_, _, _, s, _⟩ => absurd s nz))⟩
      · have es : rd g 188 (4 * p + 116) = K.1 (4 * p + 116) := by have := gw.2.1; unfold key at this; rw [← this]
        have ee : rd g 188 (4 * p + 118) = K.1 (4 * p + 118) := by have := gw.2.1; unfold key at this; rw [← this]
        have dK : d < K.1 1 := by omega
        rw [es]
        refine D_leadsNow (by omega) gw hb (by omega) (by omega) (by omega) (by omega) (fun u uw uf => ?_)
        have nk := NW_ok K (S (b + 1)) (s := K.1 (4 * p + 116)) (d := d) (room := q % 10) (hr := hr) (by omega) (by omega) (by omega) (by omega)
        have et : tr K S b p hr q d = if NW K (S (b + 1)) (K.1 (4 * p + 116)) d (q % 10) hr < 0 then -1 else NW K (S (b + 1)) (K.1 (4 * p + 116)) d (q % 10) hr + (if 10 ≤ q ∨ NW K (S (b + 1)) (K.1 (4 * p + 116)) d (q % 10) hr = K.1 (4 * p + 118) then 10 else 0) := rfl
        have ue : rd u 188 (4 * p + 118) = K.1 (4 * p + 118) := by have := uw.2.1; unfold key at this; rw [← this]
        have fu : frL h u := fun a i n1 n2 => (uf a i n1 n2).trans (gf a i n1 n2)
        have nk1 := nk.1
        clear nk
        generalize NW K (S (b + 1)) (K.1 (4 * p + 116)) d (q % 10) hr = v at *
        have bs : bitZ set q := z
        have next : ∀ (nx' : Int) (o8 o9 : Option LV), i32 nx' → (∀ j, 0 ≤ j → j < 32 → (bitZ nx' j ↔ bitZ nx j ∨ (0 ≤ tr K S b p hr q d ∧ tr K S b p hr q d = j))) → Rn xs xl e mm_stepOf 16 [some (.inr (.inr 182)), some (.inl b), some (.inl p), some (.inl set), some (.inl hr), some (.inl nx'), some (.inl q), some (.inl (d + 1)), o8, o9] [] u Q := by
          intro nx' o8 o9 ni' hb'
          refine ih u nx' q (d + 1) o8 o9 (by omega) q0 q1 (by omega) (by omega) uw fu ni' (fun j j0 j1 => ?_) cont
          rw [hb' j j0 j1, gi j j0 j1, ex_lt d0]
          constructor
          · rintro ((y | y | y) | y)
            · exact Or.inl y
            · exact Or.inr (Or.inl y)
            · exact Or.inr (Or.inr (Or.inl y))
            · exact Or.inr (Or.inr (Or.inr ⟨bs, y⟩))
          · rintro (y | y | y | y)
            · exact Or.inl (Or.inl y)
            · exact Or.inl (Or.inr (Or.inl y))
            · exact Or.inl (Or.inr (Or.inr y))
            · exact Or.inr y.2
        have put : ∀ (m : Int) (o8 o9 : Option LV), 0 ≤ m → m ≤ 19 → tr K S b p hr q d = m → Rn xs xl e mm_stepOf 16 [some (.inr (.inr 182)), some (.inl b), some (.inl p), some (.inl set), some (.inl hr), some (.inl (zor nx (zshl 1 m))), some (.inl q), some (.inl (d + 1)), o8, o9] [] u Q := fun m o8 o9 m0 m1 em => next _ o8 o9 (zor_i _ _) (fun j j0 j1 => by
          rw [bit_or j0 j1, bit_shl m0 (by omega) j0 j1, em]
          exact ⟨fun y => y.elim Or.inl (fun y => Or.inr ⟨m0, y.symm⟩), fun y => y.elim Or.inl (fun y => Or.inr y.2.symm)⟩)
        have non : ∀ (o8 o9 : Option LV), tr K S b p hr q d = -1 → Rn xs xl e mm_stepOf 16 [some (.inr (.inr 182)), some (.inl b), some (.inl p), some (.inl set), some (.inl hr), some (.inl (zor nx 0)), some (.inl q), some (.inl (d + 1)), o8, o9] [] u Q := fun o8 o9 em => next _ o8 o9 (zor_i _ _) (fun j j0 j1 => by
          rw [bit_or j0 j1, em]
          exact ⟨fun y => y.elim Or.inl (fun y => absurd y bit_zero), fun y => y.elim Or.inl (fun y => absurd y.1 (by decide))⟩)
        refine B_stepOf_54 (RF_of uw.1.1) hb hp ⟨q0, q1⟩ ⟨d0, by omega⟩ nk1 (by omega) ⟨fun c10 => ⟨fun v0 => put _ _ _ (by omega) (by omega) ?_, fun v0 => non _ _ ?_⟩, fun c10 => ⟨fun ne => ⟨fun v0 => put _ _ _ v0 (by omega) ?_, fun v0 => non _ _ ?_⟩, fun eq => ⟨fun v0 => put _ _ _ (by omega) (by omega) ?_, fun v0 => non _ _ ?_⟩⟩⟩
        · rw [et, if_neg (by omega), if_pos (Or.inl c10)]
        · rw [et, if_pos v0]
        · rw [ue] at ne
          rw [et, if_neg (by omega), if_neg (by omega), Int.add_zero]
        · rw [et, if_pos v0]
        · rw [ue] at eq
          rw [et, if_neg (by omega), if_pos (Or.inr eq)]
        · rw [et, if_pos v0]
  have outer : ∀ (n : Nat) (g : LH) (nx q : Int) (o7 o8 o9 : Option LV), 20 - q ≤ n → 0 ≤ q → q ≤ 20 → WC K S g → frL h g → i32 nx → (∀ j, 0 ≤ j → j < 32 → (bitZ nx j ↔ bitZ set j ∨ (∃ q', 0 ≤ q' ∧ q' < q ∧ ∃ d', 0 ≤ d' ∧ d' < K.1 1 ∧ bitZ set q' ∧ 0 ≤ tr K S b p hr q' d' ∧ tr K S b p hr q' d' = j))) → Rn xs xl e mm_stepOf 6 [some (.inr (.inr 182)), some (.inl b), some (.inl p), some (.inl set), some (.inl hr), some (.inl nx), some (.inl q), o7, o8, o9] [] g Q := by
    intro n
    have stop : ∀ (g : LH) (nx q : Int), q = 20 → WC K S g → frL h g → i32 nx → (∀ j, 0 ≤ j → j < 32 → (bitZ nx j ↔ bitZ set j ∨ (∃ q', 0 ≤ q' ∧ q' < q ∧ ∃ d', 0 ≤ d' ∧ d' < K.1 1 ∧ bitZ set q' ∧ 0 ≤ tr K S b p hr q' d' ∧ tr K S b p hr q' d' = j))) → Q (some (.inl nx)) g := by
      intro g nx q hq gw gf ni gi
      refine k nx g gw gf ni (fun j j0 j1 => ?_)
      rw [gi j j0 j1, hq]
      unfold stp
      exact ⟨fun y => y.elim Or.inl (fun ⟨q', a, c, d', x⟩ => Or.inr ⟨q', d', a, by omega, x⟩), fun y => y.elim Or.inl (fun ⟨q', d', a, c, x⟩ => Or.inr ⟨q', a, by omega, d', x⟩)⟩
    induction n with
    | zero =>
      intro g nx q o7 o8 o9 hn q0 q1 gw gf ni gi
      exact B_stepOf_6 (RF_of gw.1.1) hb hp ⟨q0, q1⟩ ⟨fun _ => stop g nx q (by omega) gw gf ni gi, fun c => by omega⟩
    | succ n ih =>
      intro g nx q o7 o8 o9 hn q0 q1 gw gf ni gi
      refine B_stepOf_6 (RF_of gw.1.1) hb hp ⟨q0, q1⟩ ⟨fun c => stop g nx q (by omega) gw gf ni gi, fun c => ?_⟩
      refine inner (K.1 1).toNat g nx q 0 o8 o9 (by omega) q0 (by omega) (by omega) (by omega) gw gf ni (fun j j0 j1 => ?_) (fun g nx o7 o8 o9 gw gf ni gi => ih g nx (q + 1) o7 o8 o9 (by omega) (by omega) (by omega) gw gf ni gi)
      rw [gi j j0 j1]
      exact ⟨fun y => y.elim Or.inl (fun y => Or.inr (Or.inl y)), fun y => y.elim Or.inl (fun y => y.elim Or.inr (fun ⟨d', a, c, _⟩ => by omega))⟩
  refine B_stepOf_0 (RF_of w.1.1) hb hp (outer 20 h set 0 none none none (by omega) (by omega) (by omega) w (fun _ _ _ _ => rfl) hs0 (fun j j0 j1 => ⟨Or.inl, fun y => y.elim (fun y => y) (fun ⟨q', a, c, _⟩ => by omega)⟩))
end PL3
end
section
/-! plans, part t4: the first hour in which something holds -/
def fsH (f : Int) (P : Int → Prop) (r : Int) : Prop := (r = -1 ∧ ∀ x, f ≤ x → x < 24 → ¬ P x) ∨ (f ≤ r ∧ r < 24 ∧ P r ∧ ∀ x, f ≤ x → x < r → ¬ P x)
theorem fsH_one {f r r' : Int} {P P' : Int → Prop} (hf : 0 ≤ f) (hp : ∀ x, f ≤ x → x < 24 → (P x ↔ P' x)) (h : fsH f P r) (h' : fsH f P' r') : r = r' := by
  rcases h with ⟨rfl, n⟩ | ⟨a, b, c, d⟩
  · rcases h' with ⟨rfl, n'⟩ | ⟨a', b', c', d'⟩
    · rfl
    · exact absurd ((hp r' a' b').mpr c') (n r' a' b')
  · rcases h' with ⟨rfl, n'⟩ | ⟨a', b', c', d'⟩
    · exact absurd ((hp r a b).mp c) (n' r a b)
    · by_cases z : r < r'
      · exact absurd ((hp r a b).mp c) (d' r a z)
      · by_cases y : r' < r
        · exact absurd ((hp r' a' b').mpr c') (d r' a' y)
        · omega
section PL4
variable {xs : Nat → Int} {xl e : Nat} {h : LH} {Q : Option LV → LH → Prop} {K : KEY} {S : Int → Int} {b p : Int}
theorem Rch_last : ∀ {n : Nat} {hr k0 j : Int}, Rch K S b p (n + 1) hr k0 j → ∃ k, Rch K S b p n hr k0 k ∧ (k = j ∨ ∃ d, 0 ≤ d ∧ d < K.1 1 ∧ 0 ≤ tr K S b p (hr + n) k d ∧ tr K S b p (hr + n) k d = j)
  | 0, hr, k0, j, h => by
    refine ⟨k0, rfl, ?_⟩
    rw [show hr + ((0 : Nat) : Int) = hr by omega]
    rcases h with q | ⟨d, d0, d1, d2, d3⟩
    · exact Or.inl q
    · exact Or.inr ⟨d, d0, d1, d2, d3⟩
  | n + 1, hr, k0, j, h => by
    have e : hr + ((n + 1 : Nat) : Int) = hr + 1 + (n : Int) := by omega
    rw [e]
    rcases h with q | ⟨d, d0, d1, d2, d3⟩
    · obtain ⟨k, k1, k2⟩ := Rch_last q
      exact ⟨k, Or.inl k1, k2⟩
    · obtain ⟨k, k1, k2⟩ := Rch_last d3
      exact ⟨k, Or.inr ⟨d, d0, d1, d2, k1⟩, k2⟩
theorem Rch_in (kb : KB K p) : ∀ {n : Nat} {hr k0 j : Int}, 0 ≤ hr → hr + n ≤ 26 → 0 ≤ k0 → k0 ≤ 19 → Rch K S b p n hr k0 j → 0 ≤ j ∧ j ≤ 19
  | 0, hr, k0, j, h0, h1, a, c, h => by
    have h : k0 = j := h
    omega
  | n + 1, hr, k0, j, h0, h1, a, c, h => by
    rcases h with q | ⟨d, d0, d1, d2, d3⟩
    · exact Rch_in kb (by omega) (by omega) a c q
    · have t := tr_ok (S := S) (b := b) (hr := hr) kb ⟨a, c⟩ ⟨d0, d1⟩ (by omega)
      exact Rch_in kb (by omega) (by omega) d2 t.2.1 d3
/-- one hour more -/
theorem Rch_stp (kb : KB K p) {n : Nat} {hr k0 j : Int} (h0 : 0 ≤ hr) (h1 : hr + n ≤ 25) (a : 0 ≤ k0) (c : k0 ≤ 19) : Rch K S b p (n + 1) hr k0 j ↔ stp K S b p (hr + n) (fun j => Rch K S b p n hr k0 j) j := by
  unfold stp
  constructor
  · intro h
    obtain ⟨k, k1, k2⟩ := Rch_last h
    rcases k2 with rfl | ⟨d, d0, d1, d2, d3⟩
    · exact Or.inl k1
    · have i := Rch_in kb h0 (by omega) a c k1
      exact Or.inr ⟨k, d, i.1, i.2, d0, d1, k1, d2, d3⟩
  · rintro (y | ⟨k, d, i0, i1, d0, d1, k1, d2, d3⟩)
    · exact Rch_snoc y (Or.inl rfl)
    · exact Rch_snoc k1 (Or.inr ⟨d, d0, d1, d2, d3⟩)
theorem stp_congr {hr j : Int} {X Y : Int → Prop} (h : ∀ j, 0 ≤ j → j < 32 → (X j ↔ Y j)) (j0 : 0 ≤ j) (j1 : j < 32) : stp K S b p hr X j ↔ stp K S b p hr Y j := by
  unfold stp
  rw [h j j0 j1]
  constructor
  · rintro (y | ⟨k, d, i0, i1, d0, d1, k1, x⟩)
    · exact Or.inl y
    · exact Or.inr ⟨k, d, i0, i1, d0, d1, (h k i0 (by omega)).mp k1, x⟩
  · rintro (y | ⟨k, d, i0, i1, d0, d1, k1, x⟩)
    · exact Or.inl y
    · exact Or.inr ⟨k, d, i0, i1, d0, d1, (h k i0 (by omega)).mpr k1, x⟩
/-- what firstHour answers, asked for the states m -/
def FHr (K : KEY) (S : Int → Int) (b p m r : Int) : Prop := (bitZ m (k0F S b p) ∧ r = S b) ∨ (¬ bitZ m (k0F S b p) ∧ fsH (S b + S (b + p + 14)) (fun x => ∃ j, 0 ≤ j ∧ j ≤ 19 ∧ bitZ m j ∧ Rch K S b p (x + 1 - (S b + S (b + p + 14))).toNat (S b + S (b + p + 14)) (k0F S b p) j) r)
theorem G_firstHourX {m : Int} (he : 6 ≤ e) (w : WC K S h) (b0 : b % 70 = 0) (hb : 0 ≤ b ∧ b ≤ 1540) (hp : 0 ≤ p ∧ p ≤ 5) (k : ∀ r h', WC K S h' → frL h h' → FHr K S b p m r → Q (some (.inl r)) h') : Rn xs xl e mm_firstHour 0 [some (.inr (.inr 182)), some (.inl b), some (.inl p), some (.inl m), none, none] [] h Q := by
  have kb := KB_of w hp
  obtain ⟨s0, s1, s2, s3⟩ := SB_of w b0 hb hp
  have k0r : 0 ≤ k0F S b p ∧ k0F S b p ≤ 19 := by unfold k0F; split <;> omega
  generalize ef : S b + S (b + p + 14) = f at *
  -- the set before hour hr
  have loop : ¬ bitZ m (k0F S b p) → ∀ (n : Nat) (g : LH) (set hr : Int), 24 - hr ≤ n → S b ≤ hr → hr ≤ 24 → WC K S g → frL h g → i32 set → (∀ j, 0 ≤ j → j < 32 → (bitZ set j ↔ Rch K S b p (hr - f).toNat f (k0F S b p) j)) → (∀ x, f ≤ x → x < hr → ¬ ∃ j, 0 ≤ j ∧ j ≤ 19 ∧ bitZ m j ∧ Rch K S b p (x + 1 - f).toNat f (k0F S b p) j) → Rn xs xl e mm_firstHour 34 [some (.inr (.inr 182)), some (.inl b), some (.inl p), some (.inl m), some (.inl set), some (.inl hr)] [] g Q := by
    intro nm n
    have stop : ∀ (g : LH) (hr : Int), 24 ≤ hr → WC K S g → frL h g → (∀ x, f ≤ x → x < hr → ¬ ∃ j, 0 ≤ j ∧ j ≤ 19 ∧ bitZ m j ∧ Rch K S b p (x + 1 - f).toNat f (k0F S b p) j) → Q (some (.inl (-1))) g := by
      intro g hr h24 gw gf gn
      refine k (-1) g gw gf (Or.inr ⟨nm, Or.inl ⟨rfl, fun x x0 x1 => ?_⟩⟩)
      rw [ef] at x0 ⊢
      exact gn x x0 (by omega)
    induction n with
    | zero =>
      intro g set hr hn h0 h1 gw gf si gi gn
      exact B_firstHour_34 (RF_of gw.1.1) hb hp (by omega) ⟨fun c => stop g hr c gw gf gn, fun c => by omega⟩
    | succ n ih =>
      intro g set hr hn h0 h1 gw gf si gi gn
      have e0 : rd g 198 b = S b := by rw [gw.2.2]
      have e1 : rd g 198 (b + p + 14) = S (b + p + 14) := by rw [gw.2.2]
      have t84 : ∀ (g' : LH) (set' : Int), hr < 24 → WC K S g' → frL h g' → i32 set' → (∀ j, 0 ≤ j → j < 32 → (bitZ set' j ↔ Rch K S b p (hr + 1 - f).toNat f (k0F S b p) j)) → Rn xs xl e mm_firstHour 84 [some (.inr (.inr 182)), some (.inl b), some (.inl p), some (.inl m), some (.inl set), some (.inl hr)] [.inl set'] g' Q := by
        intro g' set' hl gw' gf' si' gi'
        have hit : zand set' m ≠ 0 ↔ ∃ j, 0 ≤ j ∧ j ≤ 19 ∧ bitZ m j ∧ Rch K S b p (hr + 1 - f).toNat f (k0F S b p) j := by
          rw [zand_ne]
          constructor
          · rintro ⟨j, j0, j1, a, c⟩
            have y := (gi' j j0 j1).mp a
            have i := Rch_in kb (by omega) (by omega) k0r.1 k0r.2 y
            exact ⟨j, i.1, i.2, c, y⟩
          · rintro ⟨j, j0, j1, a, c⟩
            exact ⟨j, j0, by omega, (gi' j j0 (by omega)).mpr c, a⟩
        refine B_firstHour_84 (RF_of gw'.1.1) hb hp (by omega) ⟨fun z => ih g' set' (hr + 1) (by omega) (by omega) (by omega) gw' gf' si' gi' (fun x x0 x1 => ?_), fun z => ?_⟩
        · by_cases y : x = hr
          · rw [y]
            exact fun v => absurd z (hit.mpr v)
          · exact gn x x0 (by omega)
        · have v := hit.mp z
          have fh : f ≤ hr := by
            refine Classical.byContradiction (fun n => ?_)
            rw [show (hr + 1 - f).toNat = 0 by omega] at v
            obtain ⟨j, j0, j1, a, c⟩ := v
            have c : k0F S b p = j := c
            rw [c] at nm
            exact nm a
          refine k hr g' gw' gf' (Or.inr ⟨nm, Or.inr ?_⟩)
          rw [ef]
          exact ⟨fh, hl, v, fun x x0 x1 => gn x x0 x1⟩
      have stpc : hr < 24 → ¬ (hr = S b ∧ S (b + p + 14) = 1) → ∃ c, c < e ∧ Rn xs xl c mm_stepOf 0 [some (.inr (.inr 182)), some (.inl b), some (.inl p), some (.inl set), some (.inl hr), none, none, none, none, none] [] g (fun r h' => Rn xs xl e mm_firstHour 84 [some (.inr (.inr 182)), some (.inl b), some (.inl p), some (.inl m), some (.inl set), some (.inl hr)] (r.toList ++ []) h' Q) := by
        intro hl hn2
        refine ⟨5, by omega, G_stepOfX (by omega) gw hb hp (by omega) si (fun r g' gw' gf' ri rb => t84 g' r hl gw' (gf.trans gf') ri (fun j j0 j1 => ?_))⟩
        have el : (hr + 1 - f).toNat = (hr - f).toNat + 1 := by omega
        have ec : f + (((hr - f).toNat : Nat) : Int) = hr := by omega
        rw [rb j j0 j1, el, Rch_stp kb (by omega) (by omega) k0r.1 k0r.2, ec]
        exact stp_congr gi j0 j1
      refine B_firstHour_34 (RF_of gw.1.1) hb hp (by omega) ⟨fun c => stop g hr c gw gf gn, fun c => ⟨fun c1 => stpc c (by omega), fun c1 => ⟨fun c2 => stpc c (by omega), fun c2 => t84 g set c gw gf si (fun j j0 j1 => ?_)⟩⟩⟩
      rw [gi j j0 j1, show (hr + 1 - f).toNat = (hr - f).toNat by omega]
  have e0 : rd h 198 b = S b := by rw [w.2.2]
  have e2 : rd h 198 (b + p + 2) = S (b + p + 2) := by rw [w.2.2]
  have e8 : rd h 198 (b + p + 8) = S (b + p + 8) := by rw [w.2.2]
  have strt : ∀ x : Int, 0 ≤ x → x ≤ 19 → k0F S b p = x → (zand (zshl 1 x) m = 0 → Rn xs xl e mm_firstHour 34 [some (.inr (.inr 182)), some (.inl b), some (.inl p), some (.inl m), some (.inl (zshl 1 x)), some (.inl (rd h 198 b))] [] h Q) ∧ (zand (zshl 1 x) m ≠ 0 → Q (some (.inl (rd h 198 b))) h) := by
    intro x x0 x1 hx
    have hit : zand (zshl 1 x) m ≠ 0 ↔ bitZ m x := by
      rw [zand_ne]
      constructor
      · rintro ⟨j, j0, j1, a, c⟩
        rw [bit_shl x0 (by omega) j0 j1] at a
        rw [← a]; exact c
      · intro a
        exact ⟨x, x0, by omega, (bit_shl x0 (by omega) x0 (by omega)).mpr rfl, a⟩
    rw [e0]
    refine ⟨fun c => loop (by rw [hx]; exact fun y => absurd c (hit.mpr y)) 24 h _ (S b) (by omega) (by omega) (by omega) w (frL.refl h) (zshl_i _ _) (fun j j0 j1 => ?_) (fun y y0 y1 => by omega), fun c => k _ h w (frL.refl h) (Or.inl ⟨by rw [hx]; exact hit.mp c, rfl⟩)⟩
    rw [show (S b - f).toNat = 0 by omega, bit_shl x0 (by omega) j0 j1, hx]
    exact ⟨fun y => y.symm, fun y => y.symm⟩
  refine B_firstHour_0 (RF_of w.1.1) hb hp (by omega) ⟨fun c => ?_, fun c => ?_⟩
  · rw [e8] at c
    rw [e2]
    have y := strt (S (b + p + 2)) (by omega) (by omega) (by unfold k0F; rw [if_neg c])
    exact ⟨by omega, y.1, y.2⟩
  · rw [e8] at c
    rw [e2]
    have y := strt (S (b + p + 2) + 10) (by omega) (by omega) (by unfold k0F; rw [if_pos c])
    exact ⟨by omega, y.1, y.2⟩
end PL4
end
section
/-! plans, part t5: soonest, reach -/
/-- scene sc of the class, as person p sees it, is block b of S -/
def SV (h : LH) (sc : Int) (S : Int → Int) (b p : Int) : Prop := rd h sc 0 = S b ∧ rd h sc 1 = S (b + 1) ∧ rd h (sc + 1) p = S (b + p + 2) ∧ zand (zshr (rd h sc 2) p) 1 = S (b + p + 14) ∧ zand (zshr (rd h sc 3) p) 1 = S (b + p + 8)
section PL5
variable {xs : Nat → Int} {xl e : Nat} {h g : LH} {Q : Option LV → LH → Prop} {K : KEY} {S : Int → Int} {b p q sc c hr v1 v2 v3 v4 r : Int} {L : List Int} {X : Int → Prop}
theorem SV_of (hs : SR h sc b) (p0 : 0 ≤ p) (p1 : p < rd h 188 2) : SV h sc (rd h 198) b p := by
  obtain ⟨a, c, d, -⟩ := hs
  obtain ⟨d1, d2, d3⟩ := d p p0 p1
  exact ⟨a, c, d1, bt_v d3, bt_v d2⟩
/-- the states of a room -/
theorem tr_mod (kb : KB K p) (hk : 0 ≤ v1 ∧ v1 ≤ 19) (hd : 0 ≤ v2 ∧ v2 < K.1 1) (hh : 0 ≤ hr ∧ hr ≤ 23) : (0 ≤ tr K S b p hr v1 v2 → tr K S b p hr v1 v2 % 10 = LF K v2 (K.1 (4 * p + 116)) (v1 % 10) hr (S (b + 1)) 0 ∧ tr K S b p hr v1 v2 ≤ 19) ∧ (0 ≤ LF K v2 (K.1 (4 * p + 116)) (v1 % 10) hr (S (b + 1)) 0 → 0 ≤ tr K S b p hr v1 v2) := by
  have t := NW_ok K (S (b + 1)) (s := K.1 (4 * p + 116)) (d := v2) (room := v1 % 10) (hr := hr) (by have := kb.1; omega) kb.2.2.1 (by omega) (by omega)
  have e : NW K (S (b + 1)) (K.1 (4 * p + 116)) v2 (v1 % 10) hr = LF K v2 (K.1 (4 * p + 116)) (v1 % 10) hr (S (b + 1)) 0 := by
    unfold NW
    rw [if_pos (by omega)]
  rw [e] at t
  unfold tr
  rw [e]
  have t1 := t.1
  clear t e
  generalize LF K v2 (K.1 (4 * p + 116)) (v1 % 10) hr (S (b + 1)) 0 = x at *
  constructor
  · intro y
    by_cases c : x < 0
    · rw [if_pos c] at y; omega
    · rw [if_neg c] at y ⊢
      split <;> omega
  · intro y
    rw [if_neg (by omega)]
    split <;> omega
theorem proj_stp (kb : KB K p) (hh : 0 ≤ hr ∧ hr ≤ 23) (c0 : 0 ≤ c) : (∃ j, 0 ≤ j ∧ j ≤ 19 ∧ j % 10 = c ∧ stp K S b p hr X j) ↔ (∃ j, 0 ≤ j ∧ j ≤ 19 ∧ j % 10 = c ∧ X j) ∨ ∃ a, 0 ≤ a ∧ a ≤ 9 ∧ (∃ j, 0 ≤ j ∧ j ≤ 19 ∧ j % 10 = a ∧ X j) ∧ edg K (S (b + 1)) (K.1 (4 * p + 116)) hr a c := by
  unfold stp edg
  constructor
  · rintro ⟨j, j0, j1, jc, y | ⟨k, d, k0, k1, d0, d1, x, t0, t1⟩⟩
    · exact Or.inl ⟨j, j0, j1, jc, y⟩
    · refine Or.inr ⟨k % 10, by omega, by omega, ⟨k, k0, k1, rfl, x⟩, d, d0, d1, ?_⟩
      rw [← ((tr_mod kb ⟨k0, k1⟩ ⟨d0, d1⟩ hh).1 t0).1, t1]
      exact jc
  · rintro (⟨j, j0, j1, jc, y⟩ | ⟨a, a0, a1, ⟨k, k0, k1, rfl, x⟩, d, d0, d1, ee⟩)
    · exact ⟨j, j0, j1, jc, Or.inl y⟩
    · have t := tr_mod (S := S) (b := b) kb ⟨k0, k1⟩ ⟨d0, d1⟩ hh
      have t0 := t.2 (by rw [ee]; exact c0)
      have t1 := t.1 t0
      exact ⟨_, t0, t1.2, t1.1.trans ee, Or.inr ⟨k, d, k0, k1, d0, d1, x, t0, rfl⟩⟩
/-- rooms one can be in after so many hours -/
def rmN (K : KEY) (S : Int → Int) (b p : Int) (n : Nat) (a : Int) : Prop := ∃ j, 0 ≤ j ∧ j ≤ 19 ∧ j % 10 = a ∧ Rch K S b p n (S b + S (b + p + 14)) (k0F S b p) j
theorem rmN_next (kb : KB K p) (sb : SB S b p) {n : Nat} (hn : S b + S (b + p + 14) + n ≤ 23) (c0 : 0 ≤ c) : rmN K S b p (n + 1) c ↔ rmN K S b p n c ∨ ∃ a, 0 ≤ a ∧ a ≤ 9 ∧ rmN K S b p n a ∧ edg K (S (b + 1)) (K.1 (4 * p + 116)) (S b + S (b + p + 14) + n) a c := by
  obtain ⟨s0, s1, s2, s3⟩ := sb
  have k0r : 0 ≤ k0F S b p ∧ k0F S b p ≤ 19 := by unfold k0F; split <;> omega
  unfold rmN
  rw [← proj_stp kb (by omega) c0]
  constructor
  · rintro ⟨j, j0, j1, jc, y⟩
    exact ⟨j, j0, j1, jc, (Rch_stp kb (by omega) (by omega) k0r.1 k0r.2).mp y⟩
  · rintro ⟨j, j0, j1, jc, y⟩
    exact ⟨j, j0, j1, jc, (Rch_stp kb (by omega) (by omega) k0r.1 k0r.2).mpr y⟩
theorem rmN_0 (sb : SB S b p) : rmN K S b p 0 c ↔ c = S (b + p + 2) := by
  obtain ⟨s0, s1, s2, s3⟩ := sb
  have k0r : 0 ≤ k0F S b p ∧ k0F S b p ≤ 19 ∧ k0F S b p % 10 = S (b + p + 2) := by unfold k0F; split <;> omega
  unfold rmN
  constructor
  · rintro ⟨j, j0, j1, jc, y⟩
    have y : k0F S b p = j := y
    omega
  · intro y
    exact ⟨_, k0r.1, k0r.2.1, k0r.2.2.trans y.symm, rfl⟩
/-- the set of rooms, one hour on -/
theorem rm_set {R z : Int} {n : Nat} (kb : KB K p) (sb : SB S b p) (hn : S b + S (b + p + 14) + n ≤ 23) (hR : ∀ a, 0 ≤ a → a < 32 → (bitZ R a ↔ rmN K S b p n a)) (hz : ∀ c, 0 ≤ c → c < 32 → (bitZ z c ↔ ∃ a, 0 ≤ a ∧ a ≤ 9 ∧ bitZ R a ∧ edg K (S (b + 1)) (K.1 (4 * p + 116)) (S b + S (b + p + 14) + n) a c)) : ∀ c, 0 ≤ c → c < 32 → (bitZ (zor R z) c ↔ rmN K S b p (n + 1) c) := by
  intro c c0 c1
  rw [bit_or c0 c1, hR c c0 c1, hz c c0 c1, rmN_next kb sb hn c0]
  constructor
  · rintro (y | ⟨a, a0, a1, ra, x⟩)
    · exact Or.inl y
    · exact Or.inr ⟨a, a0, a1, (hR a a0 (by omega)).mp ra, x⟩
  · rintro (y | ⟨a, a0, a1, ra, x⟩)
    · exact Or.inl y
    · exact Or.inr ⟨a, a0, a1, (hR a a0 (by omega)).mpr ra, x⟩
/-- what the class's firstHourIn answers -/
def sooF (K : KEY) (S : Int → Int) (b p room r : Int) : Prop := (S (b + p + 2) = room ∧ r = S b) ∨ (S (b + p + 2) ≠ room ∧ fsH (S b + S (b + p + 14)) (fun x => rmN K S b p (x + 1 - (S b + S (b + p + 14))).toNat room) r)
theorem F_firstHourIn (he : 3 ≤ e) (hc : CXq h K q L) (hK : KR K) (kb : KB K v3) (sb : SB S b v3) (hsc : scn sc) (hc0 : 60 ≤ sc) (hp : 0 ≤ v3 ∧ v3 < K.1 2) (hv : SV h sc S b v3) (h4 : 0 ≤ v4 ∧ v4 ≤ 9) (k : ∀ r, sooF K S b v3 v4 r → Q (some (.inl r)) h) : Rn xs xl e mm_Plans_firstHourIn 0 [some (.inr (.inr 77)), some (.inr (.inr q)), some (.inr (.inr sc)), some (.inl v3), some (.inl v4), none, none, none] [] h Q := by
  obtain ⟨hF, hP, hq, -⟩ := id hc
  have n2 := hK.2.2.1
  have ks := (hK.2.2.2.2 v3 hp.1 hp.2).1
  have ep := (CXq_p hc hp.1 hp.2).1
  obtain ⟨e0, e1, e2, e14, e8⟩ := hv
  obtain ⟨s0, s1, s2, s3⟩ := id sb
  have loop : S (b + v3 + 2) ≠ v4 → ∀ (n : Nat) (R hr : Int), 24 - hr ≤ n → S b + S (b + v3 + 14) ≤ hr → hr ≤ 25 → (∀ a, 0 ≤ a → a < 32 → (bitZ R a ↔ rmN K S b v3 (hr - (S b + S (b + v3 + 14))).toNat a)) → (∀ x, S b + S (b + v3 + 14) ≤ x → x < hr → ¬ rmN K S b v3 (x + 1 - (S b + S (b + v3 + 14))).toNat v4) → Rn xs xl e mm_Plans_firstHourIn 44 [some (.inr (.inr 77)), some (.inr (.inr q)), some (.inr (.inr sc)), some (.inl v3), some (.inl v4), some (.inl (K.1 (4 * v3 + 116))), some (.inl R), some (.inl hr)] [] h Q := by
    intro ne n
    induction n with
    | zero =>
      intro R hr hn h0 h1 hR gn
      exact B_Plans_firstHourIn_44 hq hsc hc0 hF (by omega) (by omega) ⟨fun c => k (-1) (Or.inr ⟨ne, Or.inl ⟨rfl, fun x x0 x1 => gn x x0 (by omega)⟩⟩), fun c => by omega⟩
    | succ n ih =>
      intro R hr hn h0 h1 hR gn
      refine B_Plans_firstHourIn_44 hq hsc hc0 hF (by omega) (by omega) ⟨fun c => k (-1) (Or.inr ⟨ne, Or.inl ⟨rfl, fun x x0 x1 => gn x x0 (by omega)⟩⟩), fun c => ⟨2, by omega, F_nextRooms (by omega) hc hK hsc hc0 ks (by omega) (fun z zi zb => ?_)⟩⟩
      rw [e1] at zb
      have el : (hr + 1 - (S b + S (b + v3 + 14))).toNat = (hr - (S b + S (b + v3 + 14))).toNat + 1 := by omega
      have ec : S b + S (b + v3 + 14) + (((hr - (S b + S (b + v3 + 14))).toNat : Nat) : Int) = hr := by omega
      have nb := rm_set (z := z) (n := (hr - (S b + S (b + v3 + 14))).toNat) kb sb (by omega) hR (by rw [ec]; exact zb)
      rw [← el] at nb
      refine B_Plans_firstHourIn_64 hq hsc hc0 hF (by omega) ⟨fun y => ih _ (hr + 1) (by omega) (by omega) (by omega) nb (fun x x0 x1 => ?_), fun y => k hr (Or.inr ⟨ne, Or.inr ⟨h0, c, (nb v4 h4.1 (by omega)).mp (Classical.byContradiction (fun w => y (bitZ_n.mp w))), gn⟩⟩)⟩
      by_cases w : x = hr
      · rw [w]
        exact fun u => bitZ_n.mpr y ((nb v4 h4.1 (by omega)).mpr u)
      · exact gn x x0 (by omega)
  refine B_Plans_firstHourIn_0 hq hsc hc0 hF hP (by omega) (by omega) ⟨fun c => ⟨by omega, ?_⟩, fun c => ?_⟩
  · rw [e2] at c ⊢
    rw [ep, e0, e14]
    refine loop c 24 _ _ (by omega) (by omega) (by omega) (fun a a0 a1 => ?_) (fun x x0 x1 => by omega)
    rw [bit_shl s3.1 (by omega) a0 a1, show (S b + S (b + v3 + 14) - (S b + S (b + v3 + 14))).toNat = 0 by omega, rmN_0 sb]
  · rw [e2] at c
    rw [e0]
    exact k _ (Or.inl ⟨c, rfl⟩)
/-- soonest -/
def sooC (h : LH) (p room : Int) : Prop := (0 ≤ p ∧ p < rd h 188 2) ∧ 0 ≤ room ∧ room < rd h 188 0
def sooJ (v1 v2 : Int) (h g : LH) (r : Int) : Prop := samP h g ∧ ((¬ sooC h v1 v2 ∧ r = -1) ∨ (sooC h v1 v2 ∧ sooF (key h) (rd h 198) 0 v1 v2 r))
theorem E_soonestS (he : 8 ≤ e) (hI : INV h) (hE : EQL h) (h1 : i32 v1) (h2 : i32 v2) (k : ∀ r g, INV g → sooJ v1 v2 h g r → Q (some (.inl r)) g) : Rn xs xl e mm_OneSided_soonest 0 [some (.inr (.inr 1)), some (.inl v1), some (.inl v2)] [] h Q := by
  obtain ⟨L, hc⟩ := CXq_of hI hE
  have hK := KR_of hI
  have hq : rd h 1 1 = 5 ∨ rd h 1 1 = 32 := rQf hI.1
  obtain ⟨-, -, -, -, ⟨c0, -, c4⟩, -⟩ := id hc
  have c0' : rd h (rd h 1 1) 0 = rd h 188 0 := c0
  have c4' : rd h (rd h 1 1) 4 = rd h 188 2 := c4
  have n0 := rq_rooms hI.1
  have n2 := rq_people hI.1
  have k5 := hE.2.2.2.2.2.2.2.2.2.2.2.1
  have no : ¬ sooC h v1 v2 → Q (some (.inl (-1))) h := fun z => k (-1) h hI ⟨fun _ _ => rfl, Or.inl ⟨z, rfl⟩⟩
  refine B_OneSided_soonest_0 hq rfl (RF_of hI.1) (by omega) ⟨fun c => no (fun z => by have := z.1; omega), fun c => ⟨fun c2 => no (fun z => by have := z.1; omega), fun c2 => ⟨fun c3 => no (fun z => by have := z.2; omega), fun c3 => ⟨fun c4 => no (fun z => by have := z.2; omega), fun c4 => ⟨3, by omega, ?_⟩⟩⟩⟩⟩
  have w : WC (key h) (rd h 198) h := ⟨hI, rfl, rfl⟩
  have p2 : v1 < rd h 188 2 := by omega
  exact F_firstHourIn (Nat.le_refl 3) hc hK (KB_of w (by omega)) (SB_of w (by decide) (by decide) (by omega)) scn_60 (by decide) ⟨c, p2⟩ (SV_of k5 c p2) (by omega) (fun r hr => B_OneSided_soonest_38 (RF_of hI.1) (k r h hI ⟨fun _ _ => rfl, Or.inr ⟨⟨⟨c, p2⟩, c3, by omega⟩, hr⟩⟩))
/-- the mask of a room -/
theorem msk_bit {room j : Int} (h0 : 0 ≤ room ∧ room ≤ 9) (j0 : 0 ≤ j) (j1 : j ≤ 19) : bitZ (zor (zshl 1 room) (zshl 1 (room + 10))) j ↔ j % 10 = room := by
  rw [bit_or j0 (by omega), bit_shl h0.1 (by omega) j0 (by omega), bit_shl (by omega) (by omega) j0 (by omega)]
  omega
theorem soo_FH (sb : SB S b p) (kb : KB K p) {room r r' : Int} (h0 : 0 ≤ room ∧ room ≤ 9) (a : sooF K S b p room r) (c : FHr K S b p (zor (zshl 1 room) (zshl 1 (room + 10))) r') : r = r' := by
  obtain ⟨s0, s1, s2, s3⟩ := sb
  have k0r : 0 ≤ k0F S b p ∧ k0F S b p ≤ 19 ∧ k0F S b p % 10 = S (b + p + 2) := by unfold k0F; split <;> omega
  have m0 := msk_bit h0 k0r.1 k0r.2.1
  rcases a with ⟨a1, rfl⟩ | ⟨a1, a2⟩
  · rcases c with ⟨c1, rfl⟩ | ⟨c1, c2⟩
    · rfl
    · exact absurd (m0.mpr (k0r.2.2.trans a1)) c1
  · rcases c with ⟨c1, rfl⟩ | ⟨c1, c2⟩
    · exact absurd (k0r.2.2.symm.trans (m0.mp c1)) a1
    · refine fsH_one (by omega) (fun x x0 x1 => ?_) a2 c2
      unfold rmN
      constructor
      · rintro ⟨j, j0, j1, jc, y⟩
        exact ⟨j, j0, j1, (msk_bit h0 j0 j1).mpr jc, y⟩
      · rintro ⟨j, j0, j1, jc, y⟩
        exact ⟨j, j0, j1, (msk_bit h0 j0 j1).mp jc, y⟩
/-- the reference writes nothing that is kept -/
theorem EQL_L (hI : INV h) (hE : EQL h) (f : ∀ a i, a ≠ 196 → a ≠ 197 → ¬ (a = 182 ∧ i = 0) → rd g a i = rd h a i) : EQL g :=
  EQL_fr hI hE (f 2 0 (by decide) (by decide) (by decide)) (f 182 2 (by decide) (by decide) (by decide)) (fun a i ha => by
    obtain ⟨y1, y2, -⟩ := inK_p ha
    exact f a i (by omega) (by omega) (by omega))
theorem WC_thr (hI : INV h) : WC (key h) (rd h 198) (wr h 182 0 0) := by
  refine ⟨wF_thrown hI (by omega) (by omega), key_frs (fun a i a0 a1 => rdw_ne (by omega)) (fun i a0 a1 => rdw_nei (by omega)), funext (fun i => rdw_ne (by decide))⟩
theorem key_sam (hs : samP h g) : key g = key h := key_frs (fun a i _ _ => hs a i) (fun i _ _ => hs 182 i)
theorem G_soonestS (he : 8 ≤ e) (hI : INV h) (hE : EQL h) (gI : INV g) (hj : sooJ v1 v2 h g r) (k : ∀ g', INV g' → EQL g' → Q (some (.inl r)) g') : Rn xs xl e mm_soonest 0 [some (.inr (.inr 182)), some (.inl v1), some (.inl v2)] [] g Q := by
  obtain ⟨sm, hc⟩ := hj
  have EG := EQL_sam hI hE sm
  have ek := key_sam sm
  have e8 : rd g 198 = rd h 198 := funext (fun i => sm 198 i)
  have n0 := rq_rooms gI.1
  have n2 := rq_people gI.1
  have eC : sooC g v1 v2 ↔ sooC h v1 v2 := by
    unfold sooC
    rw [sm 188 0, sm 188 2]
  rw [← eC, ← ek, ← e8] at hc
  have no : ¬ sooC g v1 v2 → Q (some (.inl (-1))) (wr g 182 0 0) := fun z => by
    obtain ⟨i1, e1⟩ := thr gI EG
    rcases hc with ⟨_, rfl⟩ | ⟨c, _⟩
    · exact k _ i1 e1
    · exact absurd c z
  refine B_soonest_0 (RF_of gI.1) (by omega) ⟨fun c => no (fun z => by have := z.1; omega), fun c => ⟨fun c2 => no (fun z => by have := z.1; omega), fun c2 => ⟨fun c3 => no (fun z => by have := z.2; omega), fun c3 => ⟨fun c4 => no (fun z => by have := z.2; omega), fun c4 => ⟨by omega, 6, by omega, ?_⟩⟩⟩⟩⟩
  have w := WC_thr gI
  refine G_firstHourX (by omega) w (by decide) (by decide) (by omega) (fun r' u uw uf hr' => B_soonest_37 (RF_of uw.1.1) ?_)
  rcases hc with ⟨z, _⟩ | ⟨_, s⟩
  · exact absurd ⟨⟨c, c2⟩, c3, c4⟩ z
  · have er := soo_FH (SB_of w (by decide) (by decide) (by omega)) (KB_of w (by omega)) (by omega) s hr'
    rw [← er]
    exact k u uw.1 (EQL_L gI EG (fun a i n1 n2 n3 => (uf a i n1 n2).trans (by rw [rd_wr, if_neg (by omega)])))
end PL5
end
section
/-! found and crowd, part f0: truth as a number -/
/-- 1 if so -/
noncomputable def bo (P : Prop) : Int := @ite Int P (Classical.propDecidable _) 1 0
theorem bo_t {P : Prop} (h : P) : bo P = 1 := by unfold bo; rw [if_pos h]
theorem bo_f {P : Prop} (h : ¬ P) : bo P = 0 := by unfold bo; rw [if_neg h]
theorem bo_iff {P R : Prop} (h : P ↔ R) : bo P = bo R := by
  by_cases z : P
  · rw [bo_t z, bo_t (h.mp z)]
  · rw [bo_f z, bo_f (fun y => z (h.mpr y))]
theorem bo_01 (P : Prop) : bo P = 0 ∨ bo P = 1 := by
  by_cases z : P
  · exact Or.inr (bo_t z)
  · exact Or.inl (bo_f z)
end
section
/-! LM, by program (wip/p2/hand.py): rows of crowd -/
theorem B_fill85_0 {xs : Nat → Int} {xl e : Nat} {h : LH} {Q : Option LV → LH → Prop} {v1 : Int} (hF : RF h)
    (k : Rn xs xl e mm_java_util_Arrays_fill 5 [some (.inr (.inr 85)), some (.inl v1), some (.inl 0), some (.inl 336)] [] h Q) :
    Rn xs xl e mm_java_util_Arrays_fill 0 [some (.inr (.inr 85)), some (.inl v1), none, none] [] h Q := by
  refine R_ic dd_java_util_Arrays_fill_0 (by decide) rfl ?_
  refine R_st (ls' := [some (.inr (.inr 85)), some (.inl v1), some (.inl 0), none]) dd_java_util_Arrays_fill_1 rfl rfl rfl (Nat.le_of_ble_eq_true rfl) rfl rfl ?_
  refine R_ld (v := .inr (.inr 85)) dd_java_util_Arrays_fill_2 rfl rfl rfl rfl ?_
  refine R_alen (n := 336) dd_java_util_Arrays_fill_3 ia_85 la_85 rfl ?_
  refine R_st (ls' := [some (.inr (.inr 85)), some (.inl v1), some (.inl 0), some (.inl 336)]) dd_java_util_Arrays_fill_4 rfl rfl rfl (Nat.le_of_ble_eq_true rfl) rfl rfl ?_
  exact k
theorem B_fill85_5 {xs : Nat → Int} {xl e : Nat} {h : LH} {Q : Option LV → LH → Prop} {v1 v2 : Int} (hF : RF h) (r_v2 : 0 ≤ v2 ∧ v2 ≤ 336)
    (k : (336 ≤ v2 →
        Q none h) ∧
      (v2 < 336 →
        (0 ≤ v2 ∧ v2 < 336) ∧
        Rn xs xl e mm_java_util_Arrays_fill 5 [some (.inr (.inr 85)), some (.inl v1), some (.inl (v2 + 1)), some (.inl 336)] [] (wr h 85 v2 v1) Q)) :
    Rn xs xl e mm_java_util_Arrays_fill 5 [some (.inr (.inr 85)), some (.inl v1), some (.inl v2), some (.inl 336)] [] h Q := by
  refine R_ld (v := .inl v2) dd_java_util_Arrays_fill_5 rfl rfl rfl rfl ?_
  refine R_ld (v := .inl 336) dd_java_util_Arrays_fill_6 rfl rfl rfl rfl ?_
  refine R_icmp dd_java_util_Arrays_fill_7 rfl rfl (fun (c2 : 336 ≤ v2) => ?_) (fun (c2 : v2 < 336) => ?_)
  · replace k := k.1 c2
    exact R_vret dd_java_util_Arrays_fill_20 rfl k
  · replace k := k.2 c2
    refine R_ld (v := .inr (.inr 85)) dd_java_util_Arrays_fill_10 rfl rfl rfl rfl ?_
    refine R_ld (v := .inl v2) dd_java_util_Arrays_fill_11 rfl rfl rfl rfl ?_
    refine R_ld (v := .inl v1) dd_java_util_Arrays_fill_12 rfl rfl rfl rfl ?_
    obtain ⟨s1, k⟩ := k
    refine R_iast (n := 336) dd_java_util_Arrays_fill_13 ia_85 la_85 s1 rfl ?_
    refine R_inc (y := v2 + 1) (ls' := [some (.inr (.inr 85)), some (.inl v1), some (.inl (v2 + 1)), some (.inl 336)]) dd_java_util_Arrays_fill_14 rfl (by decide) (by omega) (by omega) rfl rfl ?_
    refine R_goto dd_java_util_Arrays_fill_17 rfl ?_
    exact k
theorem B_fill86_0 {xs : Nat → Int} {xl e : Nat} {h : LH} {Q : Option LV → LH → Prop} {v1 : Int} (hF : RF h)
    (k : Rn xs xl e mm_java_util_Arrays_fill 5 [some (.inr (.inr 86)), some (.inl v1), some (.inl 0), some (.inl 240)] [] h Q) :
    Rn xs xl e mm_java_util_Arrays_fill 0 [some (.inr (.inr 86)), some (.inl v1), none, none] [] h Q := by
  refine R_ic dd_java_util_Arrays_fill_0 (by decide) rfl ?_
  refine R_st (ls' := [some (.inr (.inr 86)), some (.inl v1), some (.inl 0), none]) dd_java_util_Arrays_fill_1 rfl rfl rfl (Nat.le_of_ble_eq_true rfl) rfl rfl ?_
  refine R_ld (v := .inr (.inr 86)) dd_java_util_Arrays_fill_2 rfl rfl rfl rfl ?_
  refine R_alen (n := 240) dd_java_util_Arrays_fill_3 ia_86 la_86 rfl ?_
  refine R_st (ls' := [some (.inr (.inr 86)), some (.inl v1), some (.inl 0), some (.inl 240)]) dd_java_util_Arrays_fill_4 rfl rfl rfl (Nat.le_of_ble_eq_true rfl) rfl rfl ?_
  exact k
theorem B_fill86_5 {xs : Nat → Int} {xl e : Nat} {h : LH} {Q : Option LV → LH → Prop} {v1 v2 : Int} (hF : RF h) (r_v2 : 0 ≤ v2 ∧ v2 ≤ 240)
    (k : (240 ≤ v2 →
        Q none h) ∧
      (v2 < 240 →
        (0 ≤ v2 ∧ v2 < 240) ∧
        Rn xs xl e mm_java_util_Arrays_fill 5 [some (.inr (.inr 86)), some (.inl v1), some (.inl (v2 + 1)), some (.inl 240)] [] (wr h 86 v2 v1) Q)) :
    Rn xs xl e mm_java_util_Arrays_fill 5 [some (.inr (.inr 86)), some (.inl v1), some (.inl v2), some (.inl 240)] [] h Q := by
  refine R_ld (v := .inl v2) dd_java_util_Arrays_fill_5 rfl rfl rfl rfl ?_
  refine R_ld (v := .inl 240) dd_java_util_Arrays_fill_6 rfl rfl rfl rfl ?_
  refine R_icmp dd_java_util_Arrays_fill_7 rfl rfl (fun (c2 : 240 ≤ v2) => ?_) (fun (c2 : v2 < 240) => ?_)
  · replace k := k.1 c2
    exact R_vret dd_java_util_Arrays_fill_20 rfl k
  · replace k := k.2 c2
    refine R_ld (v := .inr (.inr 86)) dd_java_util_Arrays_fill_10 rfl rfl rfl rfl ?_
    refine R_ld (v := .inl v2) dd_java_util_Arrays_fill_11 rfl rfl rfl rfl ?_
    refine R_ld (v := .inl v1) dd_java_util_Arrays_fill_12 rfl rfl rfl rfl ?_
    obtain ⟨s1, k⟩ := k
    refine R_iast (n := 240) dd_java_util_Arrays_fill_13 ia_86 la_86 s1 rfl ?_
    refine R_inc (y := v2 + 1) (ls' := [some (.inr (.inr 86)), some (.inl v1), some (.inl (v2 + 1)), some (.inl 240)]) dd_java_util_Arrays_fill_14 rfl (by decide) (by omega) (by omega) rfl rfl ?_
    refine R_goto dd_java_util_Arrays_fill_17 rfl ?_
    exact k
end
section
/-! crowd, part m1: flows through the hours; none is more than one that can't grow -/
/-- arcs by number: 14 times the layer and the door; 1000 on: those who wait in a place -/
def vldC (L c : Int) : Prop := (0 ≤ c ∧ c < 14 * L) ∨ (1000 ≤ c ∧ c < 1000 + 10 * L)
def tNq (tl : Int → Int) (c : Int) : Int := if c < 1000 then 10 * (c / 14) + tl c else c - 1000
def hNq (hd : Int → Int) (c : Int) : Int := if c < 1000 then 10 * (c / 14) + 10 + hd c else c - 990
/-- what goes out of a set of places, less what comes in -/
noncomputable def NET (L : Int) (tl hd Z : Int → Int) (S : Int → Prop) : Int := ps (fun i => Z i * (bo (S (10 * (i / 14) + tl i)) - bo (S (10 * (i / 14) + 10 + hd i)))) (14 * L).toNat + ps (fun i => Z (1000 + i) * (bo (S i) - bo (S (i + 10)))) (10 * L).toNat
def FEA (L : Int) (cp Z : Int → Int) : Prop := ∀ c, vldC L c → 0 ≤ Z c ∧ (c < 1000 → Z c ≤ cp c)
def GOOD (L : Int) (tl hd cp : Int → Int) (src snk : Int) (Z : Int → Int) (v : Int) : Prop := FEA L cp Z ∧ ∀ S : Int → Prop, S src → ¬ S snk → NET L tl hd Z S = v
def SAT (L : Int) (tl hd cp : Int → Int) (src snk : Int) (Z : Int → Int) (S : Int → Prop) : Prop := S src ∧ ¬ S snk ∧ ∀ c, vldC L c → (S (tNq tl c) → ¬ S (hNq hd c) → c < 1000 ∧ Z c = cp c) ∧ (¬ S (tNq tl c) → S (hNq hd c) → Z c = 0)
/-- the rooms of the doors are rooms -/
def RMS (L : Int) (tl hd cp : Int → Int) : Prop := (0 ≤ L ∧ L ≤ 24) ∧ ∀ i, 0 ≤ i → i < 14 * L → (0 ≤ tl i ∧ tl i ≤ 9) ∧ (0 ≤ hd i ∧ hd i ≤ 9) ∧ 0 ≤ cp i ∧ cp i ≤ 9
/-- the step from p to n, by the arc c, with it (1) or against it (-1) -/
def STP (L : Int) (tl hd cp Z : Int → Int) (n p c s : Int) : Prop := vldC L c ∧ ((s = 1 ∧ tNq tl c = p ∧ hNq hd c = n ∧ (c < 1000 → Z c < cp c)) ∨ (s = -1 ∧ tNq tl c = n ∧ hNq hd c = p ∧ 1 ≤ Z c))
/-- by how much it may grow -/
def rsd (cp Z : Int → Int) (c s : Int) : Int := if s = 1 then (if c < 1000 then cp c - Z c else 1000000) else Z c
/-- the places come to, in their order -/
def TREE (L : Int) (tl hd cp Z q par arc sg : Int → Int) (vis : Int → Prop) (cnt src : Int) : Prop := (1 ≤ cnt ∧ q 0 = src) ∧ (∀ j, 0 ≤ j → j < cnt → vis (q j) ∧ ((j = 0 ∧ q j = src) ∨ (q j ≠ src ∧ STP L tl hd cp Z (q j) (par (q j)) (arc (q j)) (sg (q j)) ∧ ∃ i, 0 ≤ i ∧ i < j ∧ q i = par (q j)))) ∧ (∀ i j, 0 ≤ i → i < cnt → 0 ≤ j → j < cnt → q i = q j → i = j) ∧ ∀ n, vis n → ∃ j, 0 ≤ j ∧ j < cnt ∧ q j = n
/-- all that can be come to at once from n is come to -/
def DN (L : Int) (tl hd cp Z : Int → Int) (vis : Int → Prop) (n : Int) : Prop := ∀ c, vldC L c → (tNq tl c = n → (c < 1000 → Z c < cp c) → vis (hNq hd c)) ∧ (hNq hd c = n → 1 ≤ Z c → vis (tNq tl c))
/-- a way half walked back: j is where it stands -/
def AUG (L : Int) (tl hd cp Z Y q arc : Int → Int) (cnt src snk m j : Int) : Prop := (∀ c, vldC L c → Y c = Z c ∨ ∃ i, j < i ∧ i < cnt ∧ q i ≠ src ∧ arc (q i) = c) ∧ FEA L cp Y ∧ (∀ c, vldC L c → Y c ≤ Z c + m) ∧ ∀ S : Int → Prop, NET L tl hd Y S = NET L tl hd Z S + m * (bo (S (q j)) - bo (S snk))
section M1
variable {L : Int} {tl hd cp Z Z' Y q par arc sg : Int → Int} {S vis : Int → Prop} {cnt src snk m j v v' n p c s δ x x' B : Int} {f g : Int → Int}
theorem ps_ext : ∀ n : Nat, (∀ i : Int, 0 ≤ i → i < (n : Int) → f i = g i) → ps f n = ps g n
  | 0, _ => rfl
  | n + 1, h => by
    show ps f n + f n = ps g n + g n
    rw [ps_ext n (fun i i0 i1 => h i i0 (by omega)), h n (by omega) (by omega)]
theorem ps_lt : ∀ n : Nat, (∀ i : Int, 0 ≤ i → i < (n : Int) → f i ≤ g i) → ps f n ≤ ps g n
  | 0, _ => Int.le_refl _
  | n + 1, h => by
    have a := ps_lt n (fun i i0 i1 => h i i0 (by omega))
    have b := h n (by omega) (by omega)
    show ps f n + f n ≤ ps g n + g n
    omega
theorem ps_bd : ∀ n : Nat, (∀ i : Int, 0 ≤ i → i < (n : Int) → f i ≤ 9) → ps f n ≤ 9 * (n : Int)
  | 0, _ => by show (0 : Int) ≤ 9 * ((0 : Nat) : Int); omega
  | n + 1, h => by
    have a := ps_bd n (fun i i0 i1 => h i i0 (by omega))
    have b := h n (by omega) (by omega)
    show ps f n + f n ≤ 9 * ((n + 1 : Nat) : Int)
    omega
theorem ps_0 : ∀ n : Nat, (∀ i : Int, 0 ≤ i → i < (n : Int) → f i = 0) → ps f n = 0
  | 0, _ => rfl
  | n + 1, h => by
    have a := ps_0 n (fun i i0 i1 => h i i0 (by omega))
    have b := h n (by omega) (by omega)
    show ps f n + f n = 0
    omega
theorem tN_lo (h : c < 1000) : tNq tl c = 10 * (c / 14) + tl c := by unfold tNq; rw [if_pos h]
theorem hN_lo (h : c < 1000) : hNq hd c = 10 * (c / 14) + 10 + hd c := by unfold hNq; rw [if_pos h]
theorem tN_hi (h : 1000 ≤ c) : tNq tl c = c - 1000 := by unfold tNq; rw [if_neg (by omega)]
theorem hN_hi (h : 1000 ≤ c) : hNq hd c = c - 990 := by unfold hNq; rw [if_neg (by omega)]
/-- endsQ lie a layer apart -/
theorem endsQ (hr : RMS L tl hd cp) (hc : vldC L c) : (0 ≤ tNq tl c ∧ tNq tl c < 10 * L) ∧ (10 ≤ hNq hd c ∧ hNq hd c < 10 * L + 10) ∧ hNq hd c / 10 = tNq tl c / 10 + 1 := by
  obtain ⟨r0, r1⟩ := hr
  rcases hc with z | z
  · obtain ⟨a, b, -⟩ := r1 c z.1 z.2
    rw [tN_lo (by omega), hN_lo (by omega)]
    omega
  · rw [tN_hi z.1, hN_hi z.1]
    omega
theorem NET_upd (hr : RMS L tl hd cp) (hc : vldC L c) (e : ∀ k, k ≠ c → Y k = Z k) (ec : Y c = Z c + δ) : NET L tl hd Y S = NET L tl hd Z S + δ * (bo (S (tNq tl c)) - bo (S (hNq hd c))) := by
  have r0 := hr.1
  unfold NET
  rcases hc with z | z
  · have a := ps_upd (f := fun i => Z i * (bo (S (10 * (i / 14) + tl i)) - bo (S (10 * (i / 14) + 10 + hd i)))) (g := fun i => Y i * (bo (S (10 * (i / 14) + tl i)) - bo (S (10 * (i / 14) + 10 + hd i)))) (a := c) (fun i hi => by
      show Y i * _ = Z i * _
      rw [e i hi]) (14 * L).toNat
    have b := ps_ext (f := fun i => Y (1000 + i) * (bo (S i) - bo (S (i + 10)))) (g := fun i => Z (1000 + i) * (bo (S i) - bo (S (i + 10)))) (10 * L).toNat (fun i i0 i1 => by
      show Y (1000 + i) * _ = Z (1000 + i) * _
      rw [e (1000 + i) (by omega)])
    rw [a, b, if_pos (by omega), tN_lo (by omega), hN_lo (by omega), ec, Int.add_mul]
    omega
  · have a := ps_ext (f := fun i => Y i * (bo (S (10 * (i / 14) + tl i)) - bo (S (10 * (i / 14) + 10 + hd i)))) (g := fun i => Z i * (bo (S (10 * (i / 14) + tl i)) - bo (S (10 * (i / 14) + 10 + hd i)))) (14 * L).toNat (fun i i0 i1 => by
      show Y i * _ = Z i * _
      rw [e i (by omega)])
    have b := ps_upd (f := fun i => Z (1000 + i) * (bo (S i) - bo (S (i + 10)))) (g := fun i => Y (1000 + i) * (bo (S i) - bo (S (i + 10)))) (a := c - 1000) (fun i hi => by
      show Y (1000 + i) * _ = Z (1000 + i) * _
      rw [e (1000 + i) (by omega)]) (10 * L).toNat
    rw [a, b, if_pos (by omega), tN_hi z.1, hN_hi z.1, show 1000 + (c - 1000) = c by omega, ec, Int.add_mul, show c - 1000 + 10 = c - 990 by omega]
    omega
theorem term_le {a b : Prop} (h1 : a → ¬ b → x ≤ x') (h2 : ¬ a → b → x' ≤ x) : x * (bo a - bo b) ≤ x' * (bo a - bo b) := by
  by_cases ca : a
  · by_cases cb : b
    · rw [bo_t ca, bo_t cb]
      omega
    · have := h1 ca cb
      rw [bo_t ca, bo_f cb]
      omega
  · by_cases cb : b
    · have := h2 ca cb
      rw [bo_f ca, bo_t cb]
      omega
    · rw [bo_f ca, bo_f cb]
      omega
/-- no flow is more than one that can't grow -/
theorem max_le (hr : RMS L tl hd cp) (h : GOOD L tl hd cp src snk Z v) (h' : GOOD L tl hd cp src snk Z' v') (hs : SAT L tl hd cp src snk Z' S) : v ≤ v' := by
  obtain ⟨s1, s2, s3⟩ := hs
  rw [← h.2 S s1 s2, ← h'.2 S s1 s2]
  have r0 := hr.1
  unfold NET
  have a := ps_lt (f := fun i => Z i * (bo (S (10 * (i / 14) + tl i)) - bo (S (10 * (i / 14) + 10 + hd i)))) (g := fun i => Z' i * (bo (S (10 * (i / 14) + tl i)) - bo (S (10 * (i / 14) + 10 + hd i)))) (14 * L).toNat (fun i i0 i1 => by
    have vc : vldC L i := Or.inl ⟨i0, by omega⟩
    have t := s3 i vc
    rw [tN_lo (by omega), hN_lo (by omega)] at t
    have f1 := h.1 i vc
    refine term_le (fun a b => ?_) (fun a b => ?_)
    · rw [(t.1 a b).2]
      exact f1.2 (by omega)
    · rw [t.2 a b]
      exact f1.1)
  have b := ps_lt (f := fun i => Z (1000 + i) * (bo (S i) - bo (S (i + 10)))) (g := fun i => Z' (1000 + i) * (bo (S i) - bo (S (i + 10)))) (10 * L).toNat (fun i i0 i1 => by
    have vc : vldC L (1000 + i) := Or.inr ⟨by omega, by omega⟩
    have t := s3 (1000 + i) vc
    rw [tN_hi (by omega), hN_hi (by omega), show 1000 + i - 1000 = i by omega, show 1000 + i - 990 = i + 10 by omega] at t
    have f1 := h.1 (1000 + i) vc
    refine term_le (fun a b => ?_) (fun a b => ?_)
    · have := (t.1 a b).1
      omega
    · rw [t.2 a b]
      exact f1.1)
  omega
theorem max_eq {S' : Int → Prop} (hr : RMS L tl hd cp) (h : GOOD L tl hd cp src snk Z v) (h' : GOOD L tl hd cp src snk Z' v') (hs : SAT L tl hd cp src snk Z S) (hs' : SAT L tl hd cp src snk Z' S') : v = v' := by
  have a := max_le hr h h' hs'
  have b := max_le hr h' h hs
  omega
/-- no flow is more than all doors hold -/
theorem val_leS (hr : RMS L tl hd cp) (h : GOOD L tl hd cp src snk Z v) (h10 : ∀ n, S (n + 10) ↔ S n) (s1 : S src) (s2 : ¬ S snk) : v ≤ 3024 := by
  have r0 := hr.1
  rw [← h.2 S s1 s2]
  unfold NET
  have a := ps_bd (f := fun i => Z i * (bo (S (10 * (i / 14) + tl i)) - bo (S (10 * (i / 14) + 10 + hd i)))) (14 * L).toNat (fun i i0 i1 => by
    have vc : vldC L i := Or.inl ⟨i0, by omega⟩
    have f1 := h.1 i vc
    have f2 := f1.2 (by omega)
    have f3 := hr.2 i i0 (by omega)
    have b1 := bo_01 (S (10 * (i / 14) + tl i))
    have b2 := bo_01 (S (10 * (i / 14) + 10 + hd i))
    show Z i * (bo (S (10 * (i / 14) + tl i)) - bo (S (10 * (i / 14) + 10 + hd i))) ≤ 9
    rcases b1 with b1 | b1 <;> rcases b2 with b2 | b2 <;> rw [b1, b2] <;> omega)
  have b := ps_0 (f := fun i => Z (1000 + i) * (bo (S i) - bo (S (i + 10)))) (10 * L).toNat (fun i i0 i1 => by
    show Z (1000 + i) * (bo (S i) - bo (S (i + 10))) = 0
    rw [bo_iff (h10 i), Int.sub_self, Int.mul_zero])
  omega
theorem val_le {to : Int} (hr : RMS L tl hd cp) (h : GOOD L tl hd cp src snk Z v) (hn : src % 10 ≠ to) (ht : snk % 10 = to) : v ≤ 3024 :=
  val_leS (S := fun n => n % 10 ≠ to) hr h (fun n => by
    show (n + 10) % 10 ≠ to ↔ n % 10 ≠ to
    rw [show (n + 10) % 10 = n % 10 by omega]) hn (fun z => z ht)
/-- nothing goes at first -/
theorem GOOD_0 (hr : RMS L tl hd cp) (h : ∀ c, vldC L c → Z c = 0) : GOOD L tl hd cp src snk Z 0 := by
  have r0 := hr.1
  refine ⟨fun c vc => ?_, fun S _ _ => ?_⟩
  · rw [h c vc]
    refine ⟨Int.le_refl _, fun z => ?_⟩
    rcases vc with w | w
    · exact (hr.2 c w.1 w.2).2.2.1
    · omega
  · unfold NET
    have a := ps_0 (f := fun i => Z i * (bo (S (10 * (i / 14) + tl i)) - bo (S (10 * (i / 14) + 10 + hd i)))) (14 * L).toNat (fun i i0 i1 => by
      show Z i * (bo (S (10 * (i / 14) + tl i)) - bo (S (10 * (i / 14) + 10 + hd i))) = 0
      rw [h i (Or.inl ⟨i0, by omega⟩), Int.zero_mul])
    have b := ps_0 (f := fun i => Z (1000 + i) * (bo (S i) - bo (S (i + 10)))) (10 * L).toNat (fun i i0 i1 => by
      show Z (1000 + i) * (bo (S i) - bo (S (i + 10))) = 0
      rw [h (1000 + i) (Or.inr ⟨by omega, by omega⟩), Int.zero_mul])
    omega
theorem SAT_of (hf : FEA L cp Z) (h1 : vis src) (h2 : ¬ vis snk) (hd' : ∀ n, vis n → DN L tl hd cp Z vis n) : SAT L tl hd cp src snk Z vis := by
  refine ⟨h1, h2, fun c vc => ⟨fun a b => ?_, fun a b => ?_⟩⟩
  · have t := (hd' _ a c vc).1 rfl
    have f := hf c vc
    by_cases z : c < 1000
    · refine ⟨z, ?_⟩
      have := f.2 z
      by_cases w : Z c < cp c
      · exact absurd (t (fun _ => w)) b
      · omega
    · exact absurd (t (fun y => absurd y z)) b
  · have t := (hd' _ b c vc).2 rfl
    have f := hf c vc
    by_cases w : 1 ≤ Z c
    · exact absurd (t w) a
    · omega
/-- a place more -/
theorem TREE_add {q' par' arc' sg' : Int → Int} {vis' : Int → Prop} (h : TREE L tl hd cp Z q par arc sg vis cnt src) (nv : ¬ vis n) (hs : STP L tl hd cp Z n (par' n) (arc' n) (sg' n)) (hp : vis (par' n)) (eq : ∀ j, 0 ≤ j → j < cnt → q' j = q j) (eqn : q' cnt = n) (ep : ∀ k, k ≠ n → par' k = par k ∧ arc' k = arc k ∧ sg' k = sg k) (ev : ∀ k, vis' k ↔ vis k ∨ k = n) : TREE L tl hd cp Z q' par' arc' sg' vis' (cnt + 1) src := by
  obtain ⟨⟨t1, t2⟩, t3, t4, t5⟩ := h
  have ne : ∀ j, 0 ≤ j → j < cnt → q j ≠ n := fun j j0 j1 z => nv (by rw [← z]; exact (t3 j j0 j1).1)
  refine ⟨⟨by omega, (eq 0 (by omega) (by omega)).trans t2⟩, fun j j0 j1 => ?_, fun i j i0 i1 j0 j1 e => ?_, fun k hk => ?_⟩
  · by_cases z : j = cnt
    · rw [z, eqn]
      obtain ⟨i, i0, i1, i2⟩ := t5 _ hp
      refine ⟨(ev n).mpr (Or.inr rfl), Or.inr ⟨fun y => ne 0 (by omega) (by omega) (t2.trans y.symm), hs, i, i0, i1, by rw [eq i i0 i1]; exact i2⟩⟩
    · rw [eq j j0 (by omega)]
      obtain ⟨a, b⟩ := t3 j j0 (by omega)
      refine ⟨(ev _).mpr (Or.inl a), ?_⟩
      obtain ⟨e1, e2, e3⟩ := ep (q j) (ne j j0 (by omega))
      rcases b with b | ⟨b1, b2, i, i0, i1, i2⟩
      · exact Or.inl b
      · rw [e1, e2, e3]
        exact Or.inr ⟨b1, b2, i, i0, i1, by rw [eq i i0 (by omega)]; exact i2⟩
  · by_cases zi : i = cnt
    · by_cases zj : j = cnt
      · omega
      · rw [zi, eqn, eq j j0 (by omega)] at e
        exact absurd e.symm (ne j j0 (by omega))
    · by_cases zj : j = cnt
      · rw [zj, eqn, eq i i0 (by omega)] at e
        exact absurd e (ne i i0 (by omega))
      · rw [eq i i0 (by omega), eq j j0 (by omega)] at e
        exact t4 i j i0 (by omega) j0 (by omega) e
  · rcases (ev k).mp hk with z | z
    · obtain ⟨i, i0, i1, i2⟩ := t5 k z
      exact ⟨i, i0, by omega, by rw [eq i i0 i1]; exact i2⟩
    · exact ⟨cnt, by omega, by omega, by rw [z]; exact eqn⟩
theorem AUG_0 (hf : FEA L cp Z) (hm : 0 ≤ m) (hj : q j = snk) : AUG L tl hd cp Z Z q arc cnt src snk m j := ⟨fun _ _ => Or.inl rfl, hf, fun _ _ => by omega, fun S => by rw [hj, Int.sub_self, Int.mul_zero, Int.add_zero]⟩
/-- a step back -/
theorem AUG_st (hr : RMS L tl hd cp) (ht : TREE L tl hd cp Z q par arc sg vis cnt src) (hf : FEA L cp Z) (j0 : 0 ≤ j) (j1 : j < cnt) (ns : q j ≠ src) (ha : AUG L tl hd cp Z Y q arc cnt src snk m j) (m0 : 1 ≤ m) (m1 : m ≤ rsd cp Z (arc (q j)) (sg (q j))) : STP L tl hd cp Z (q j) (par (q j)) (arc (q j)) (sg (q j)) ∧ Y (arc (q j)) = Z (arc (q j)) ∧ ∃ i, 0 ≤ i ∧ i < j ∧ q i = par (q j) ∧ ∀ Y', (∀ k, k ≠ arc (q j) → Y' k = Y k) → Y' (arc (q j)) = Y (arc (q j)) + sg (q j) * m → AUG L tl hd cp Z Y' q arc cnt src snk m i := by
  obtain ⟨a1, a2, a3, a4⟩ := ha
  obtain ⟨t1, t3, t4, t5⟩ := ht
  obtain ⟨-, b⟩ := t3 j j0 j1
  rcases b with b | ⟨-, st, i, i0, i1, i2⟩
  · exact absurd b.2 ns
  obtain ⟨vc, sd⟩ := id st
  have en := endsQ hr vc
  have same : Y (arc (q j)) = Z (arc (q j)) := by
    rcases a1 _ vc with z | ⟨i', z1, z2, z3, z4⟩
    · exact z
    · exfalso
      have b' := (t3 i' (by omega) z2).2
      rcases b' with b' | ⟨-, st', -⟩
      · exact z3 b'.2
      · rw [z4] at st'
        have nq : q i' ≠ q j := fun y => by
          have := t4 i' j (by omega) z2 j0 j1 y
          omega
        have np : q i' ≠ par (q j) := fun y => by
          rw [← i2] at y
          have := t4 i' i (by omega) z2 i0 (by omega) y
          omega
        rcases sd with ⟨-, s1, s2, -⟩ | ⟨-, s1, s2, -⟩ <;> rcases st'.2 with ⟨-, r1, r2, -⟩ | ⟨-, r1, r2, -⟩ <;> omega
  refine ⟨st, same, i, i0, i1, i2, fun Y' e ec => ⟨fun c hc => ?_, fun c hc => ?_, fun c hc => ?_, fun S => ?_⟩⟩
  · by_cases z : c = arc (q j)
    · exact Or.inr ⟨j, i1, j1, ns, z.symm⟩
    · rw [e c z]
      rcases a1 c hc with y | ⟨i', y1, y2⟩
      · exact Or.inl y
      · exact Or.inr ⟨i', by omega, y2⟩
  · by_cases z : c = arc (q j)
    · rw [z, ec, same]
      have f := hf _ vc
      unfold rsd at m1
      rcases sd with ⟨s0, -, -, s3⟩ | ⟨s0, -, -, s3⟩
      · rw [s0] at m1 ⊢
        rw [if_pos rfl] at m1
        refine ⟨by omega, fun w => ?_⟩
        rw [if_pos w] at m1
        omega
      · rw [s0] at m1 ⊢
        rw [if_neg (by decide)] at m1
        exact ⟨by omega, fun w => by have := f.2 w; omega⟩
    · rw [e c z]
      exact a2 c hc
  · by_cases z : c = arc (q j)
    · rw [z, ec, same]
      rcases sd with ⟨s0, -⟩ | ⟨s0, -⟩ <;> rw [s0] <;> omega
    · rw [e c z]
      exact a3 c hc
  · rw [NET_upd hr vc e ec, a4 S, i2]
    have c1 := bo_01 (S (par (q j)))
    have c2 := bo_01 (S (q j))
    have c3 := bo_01 (S snk)
    rcases sd with ⟨s0, s1, s2, -⟩ | ⟨s0, s1, s2, -⟩
    · rw [s0, s1, s2]
      rcases c1 with c1 | c1 <;> rcases c2 with c2 | c2 <;> rcases c3 with c3 | c3 <;> rw [c1, c2, c3] <;> omega
    · rw [s0, s1, s2]
      rcases c1 with c1 | c1 <;> rcases c2 with c2 | c2 <;> rcases c3 with c3 | c3 <;> rw [c1, c2, c3] <;> omega
theorem AUG_end (h : GOOD L tl hd cp src snk Z v) (ha : AUG L tl hd cp Z Y q arc cnt src snk m j) (hj : q j = src) : GOOD L tl hd cp src snk Y (v + m) := ⟨ha.2.1, fun S s1 s2 => by
  rw [ha.2.2.2 S, h.2 S s1 s2, hj, bo_t s1, bo_f s2]
  omega⟩
end M1
end
section
/-! crowd, part m2: the class's search through the hours -/
/-- through the doors: the room behind, the room ahead, how many, by arc -/
def exAr (K : KEY) (sh h0 i : Int) : Prop := i % 14 < K.1 1 ∧ 0 ≤ LF K (i % 14) 0 (sE K (i % 14) (h0 + i / 14)) (h0 + i / 14) sh 0
def tlA (K : KEY) (h0 i : Int) : Int := if i % 14 < K.1 1 then sE K (i % 14) (h0 + i / 14) else 0
def hdA (K : KEY) (h0 i : Int) : Int := if i % 14 < K.1 1 then tE K (i % 14) (h0 + i / 14) else 0
noncomputable def cpAr (K : KEY) (sh h0 i : Int) : Int := @ite Int (exAr K sh h0 i) (Classical.propDecidable _) (K.1 (8 * (i % 14) + 10)) 0
def ZC (g : LH) (c : Int) : Int := if c < 1000 then rd g 85 c else rd g 86 (c - 1000)
def visC (g : LH) (n : Int) : Prop := rd g 87 n ≠ -1 ∧ 0 ≤ n ∧ n ≤ 249
def mnF (f n : Int) : Int := if f < n then f else n
def arcF (f n y : Int) : Int := if y = -1 then 1000 + mnF f n else 14 * (mnF f n / 10) + y
def sgF (f n : Int) : Int := if f < n then 1 else -1
def arcC (g : LH) (n : Int) : Int := arcF (rd g 87 n) n (rd g 88 n)
def sgC (g : LH) (n : Int) : Int := sgF (rd g 87 n) n
/-- the class's tree of places -/
def CTC (L : Int) (tl hd cp Z : Int → Int) (src : Int) (g : LH) : Prop := TREE L tl hd cp Z (rd g 89) (rd g 87) (arcC g) (sgC g) (visC g) (rd g 84 5) src ∧ rd g 84 5 ≤ cnt (rd g 87)
/-- what a search keeps -/
def VXC (L : Int) (tl hd cp Z : Int → Int) (src : Int) (h g : LH) : Prop := INV g ∧ CTC L tl hd cp Z src g ∧ (∀ m, visC h m → visC g m) ∧ (∀ j, 0 ≤ j → j < rd h 84 5 → rd g 89 j = rd h 89 j) ∧ rd h 84 5 ≤ rd g 84 5 ∧ frX h g
/-- the class's quarter, hours, flows -/
def XCC (L : Int) (Z : Int → Int) (K : KEY) (q : Int) (Lw : List Int) (sh h0 : Int) (g : LH) : Prop := CXq g K q Lw ∧ KR K ∧ (0 ≤ h0 ∧ 1 ≤ L ∧ h0 + L ≤ 24) ∧ rd g 84 6 = h0 ∧ rd g 84 7 = L ∧ ∀ c, vldC L c → ZC g c = Z c
section M2
variable {xs : Nat → Int} {xl e : Nat} {h g u : LH} {Q : Option LV → LH → Prop} {K : KEY} {Lw : List Int} {L q sh h0 src snk n f y d t room i j c v2 : Int} {tl hd cp Z : Int → Int} {vis vis' : Int → Prop}
theorem VXC.trans {h1 h2 : LH} (a : VXC L tl hd cp Z src h h1) (b : VXC L tl hd cp Z src h1 h2) : VXC L tl hd cp Z src h h2 := ⟨b.1, b.2.1, fun m hm => b.2.2.1 m (a.2.2.1 m hm), fun j j0 j1 => (b.2.2.2.1 j j0 (by have := a.2.2.2.2.1; omega)).trans (a.2.2.2.1 j j0 j1), Int.le_trans a.2.2.2.2.1 b.2.2.2.2.1, fun x i n1 n2 n3 n4 => (b.2.2.2.2.2 x i n1 n2 n3 n4).trans (a.2.2.2.2.2 x i n1 n2 n3 n4)⟩
theorem VXC.refl (hI : INV h) (c : CTC L tl hd cp Z src h) : VXC L tl hd cp Z src h h := ⟨hI, c, fun _ hm => hm, fun _ _ _ => rfl, Int.le_refl _, fun _ _ _ _ _ _ => rfl⟩
theorem XCC_fr (x : XCC L Z K q Lw sh h0 h) (gF : RF g) (f : frX h g) : XCC L Z K q Lw sh h0 g := by
  obtain ⟨a, b, c, d, e, z⟩ := x
  have q5 := a.2.2.1
  refine ⟨CXq_fr a b gF (fun a i ha => f a i (by omega) (by omega) (by omega) (by omega)), b, c, (f 84 6 (by omega) (by decide) (by decide) (by decide)).trans d, (f 84 7 (by omega) (by decide) (by decide) (by decide)).trans e, fun c hc => ?_⟩
  rw [← z c hc]
  unfold ZC
  rw [f 85 c (by omega) (by decide) (by decide) (by decide), f 86 (c - 1000) (by omega) (by decide) (by decide) (by decide)]
theorem ZC_lo (h : c < 1000) : ZC g c = rd g 85 c := by unfold ZC; rw [if_pos h]
theorem ZC_hi (h : 0 ≤ c) : ZC g (1000 + c) = rd g 86 c := by unfold ZC; rw [if_neg (by omega), show 1000 + c - 1000 = c by omega]
/-- by which room one goes through a door, into which -/
theorem LF_st (d0 : 0 ≤ d ∧ d ≤ 13) (r0 : 0 ≤ room ∧ room ≤ 9) (t0 : 0 ≤ t ∧ t ≤ 23) : (-1 ≤ LF K d 0 room t sh 0 ∧ LF K d 0 room t sh 0 ≤ 9) ∧ (0 ≤ LF K d 0 room t sh 0 → room = sE K d t ∧ LF K d 0 room t sh 0 = tE K d t) := by
  have l := LF_ok K (d := d) (s := 0) (room := room) (hr := t) sh 0 d0 (by decide) r0 (by omega)
  refine ⟨l.1, fun z => ?_⟩
  have a := l.2.1 z
  have b := l.2.2.1 z (by decide) rfl
  have f : room = sE K d t := by
    unfold sE
    split
    · next c => exact b.1 c
    · next c => exact b.2 c
  refine ⟨f, ?_⟩
  unfold tE
  rw [← f]
  exact a.1
theorem st_rng (hK : KR K) (d0 : 0 ≤ d) (d1 : d < K.1 1) : (0 ≤ sE K d t ∧ sE K d t ≤ 9) ∧ (0 ≤ tE K d t ∧ tE K d t ≤ 9) ∧ ((sE K d t = K.1 (8 * d + 5) ∧ tE K d t = K.1 (8 * d + 6)) ∨ (sE K d t = K.1 (8 * d + 6) ∧ tE K d t = K.1 (8 * d + 5))) := by
  obtain ⟨r2, r3, -⟩ := hK.2.2.2.1 d d0 d1
  have k0 := hK.1
  have e : sE K d t = K.1 (8 * d + 5) ∨ sE K d t = K.1 (8 * d + 6) := by
    unfold sE
    split
    · exact Or.inr rfl
    · exact Or.inl rfl
  unfold tE
  omega
theorem RMS_A (hK : KR K) (hl : 0 ≤ L ∧ L ≤ 24) : RMS L (tlA K h0) (hdA K h0) (cpAr K sh h0) := by
  refine ⟨hl, fun i i0 i1 => ?_⟩
  have k1 := hK.2.1
  unfold tlA hdA
  by_cases c : i % 14 < K.1 1
  · rw [if_pos c, if_pos c]
    have s := st_rng (t := h0 + i / 14) hK (d := i % 14) (by omega) c
    refine ⟨s.1, s.2.1, ?_⟩
    have r := (hK.2.2.2.1 (i % 14) (by omega) c).2.2.2.1
    unfold cpAr
    by_cases z : exAr K sh h0 i
    · rw [if_pos z]; omega
    · rw [if_neg z]; omega
  · rw [if_neg c, if_neg c]
    refine ⟨by omega, by omega, ?_⟩
    unfold cpAr
    rw [if_neg (fun z => c z.1)]
    omega
theorem cpA_pos (h : 1 ≤ cpAr K sh h0 i) : exAr K sh h0 i ∧ cpAr K sh h0 i = K.1 (8 * (i % 14) + 10) := by
  unfold cpAr at h ⊢
  by_cases z : exAr K sh h0 i
  · rw [if_pos z]
    exact ⟨z, rfl⟩
  · rw [if_neg z] at h
    omega
/-- an arc of layer l and door d -/
theorem arc_ld {l : Int} (d0 : 0 ≤ d ∧ d ≤ 13) : (14 * l + d) % 14 = d ∧ (14 * l + d) / 14 = l := by omega
/-- a place more, if it is new -/
theorem F_visit (hI : INV h) (ct : CTC L tl hd cp Z src h) (hn : 0 ≤ n ∧ n ≤ 249) (hf : visC h f) (hy : -1 ≤ y ∧ y ≤ 13) (st : STP L tl hd cp Z n f (arcF f n y) (sgF f n)) (k : ∀ g, VXC L tl hd cp Z src h g → visC g n → Q none g) : Rn xs xl e mm_Crowd_visit 0 [some (.inr (.inr 84)), some (.inl n), some (.inl f), some (.inl y)] [] h Q := by
  have q5 := rG_84_5 hI.1
  have rf := hf.2
  refine B_Crowd_visit_0 (RF_of hI.1) hn ⟨fun c => k h (VXC.refl hI ct) ⟨c, hn⟩, fun c1 => ?_⟩
  have lt := cnt_lt (c := rd h 87) hn c1
  have cl := ct.2
  refine ⟨fun c => by omega, fun c2 => ⟨by omega, by omega, ?_⟩⟩
  have i1 := wB_87 hI (i := n) (v := f) (by omega) (by omega)
  have i2 := wB_88 i1 (i := n) (v := y) (by omega) (by omega)
  have i3 := wB_89 i2 (i := rd h 84 5) (v := n) (by omega) (by omega)
  have i4 := wG_84_5 i3 (v := rd h 84 5 + 1) (by omega) (by omega)
  generalize hg : wr (wr (wr (wr h 87 n f) 88 n y) 89 (rd h 84 5) n) 84 5 (rd h 84 5 + 1) = g at *
  have e7 : ∀ i, i ≠ n → rd g 87 i = rd h 87 i := fun i hi => by rw [← hg, rdw_ne (by decide), rdw_ne (by decide), rdw_ne (by decide), rdw_nei (fun q => hi q.symm)]
  have e7n : rd g 87 n = f := by rw [← hg, rdw_ne (by decide), rdw_ne (by decide), rdw_ne (by decide), rdw_eq]
  have e8 : ∀ i, i ≠ n → rd g 88 i = rd h 88 i := fun i hi => by rw [← hg, rdw_ne (by decide), rdw_ne (by decide), rdw_nei (fun q => hi q.symm), rdw_ne (by decide)]
  have e8n : rd g 88 n = y := by rw [← hg, rdw_ne (by decide), rdw_ne (by decide), rdw_eq]
  have e9 : ∀ i, i ≠ rd h 84 5 → rd g 89 i = rd h 89 i := fun i hi => by rw [← hg, rdw_ne (by decide), rdw_nei (fun q => hi q.symm), rdw_ne (by decide), rdw_ne (by decide)]
  have e9t : rd g 89 (rd h 84 5) = n := by rw [← hg, rdw_ne (by decide), rdw_eq]
  have e5 : rd g 84 5 = rd h 84 5 + 1 := by rw [← hg, rdw_eq]
  have fr : frX h g := fun a i n1 n2 n3 n4 => by rw [← hg, rd_wr, if_neg (by rintro ⟨rfl, rfl⟩; exact n1 ⟨rfl, rfl⟩), rdw_ne (fun q => n4 q.symm), rdw_ne (fun q => n3 q.symm), rdw_ne (fun q => n2 q.symm)]
  have up := cnt_up (c := rd h 87) (c' := rd g 87) hn c1 (by rw [e7n]; omega) e7
  have vg : ∀ m, visC g m ↔ visC h m ∨ m = n := fun m => by
    unfold visC
    by_cases z : m = n
    · rw [z, e7n]
      exact ⟨fun _ => Or.inr rfl, fun _ => ⟨by omega, hn⟩⟩
    · rw [e7 m z]
      exact ⟨Or.inl, fun w => w.resolve_right z⟩
  refine k g ⟨i4, ⟨?_, by omega⟩, fun m hm => (vg m).mpr (Or.inl hm), fun j j0 j1 => e9 j (by omega), by omega, fr⟩ ((vg n).mpr (Or.inr rfl))
  rw [e5]
  refine TREE_add (n := n) ct.1 (fun z => z.1 c1) ?_ ?_ (fun j j0 j1 => e9 j (by omega)) e9t (fun k hk => ⟨e7 k hk, ?_, ?_⟩) vg
  · unfold arcC sgC
    rw [e7n, e8n]
    exact st
  · rw [e7n]
    exact hf
  · unfold arcC
    rw [e7 k hk, e8 k hk]
  · unfold sgC
    rw [e7 k hk]
theorem F_intoL (he : 1 ≤ e) (hc : CXq h K q Lw) (hK : KR K) (d0 : 0 ≤ d) (d1 : d < K.1 1) (r0 : 0 ≤ room ∧ room ≤ 9) (t0 : 0 ≤ t ∧ t ≤ 23) (k : Q (some (.inl (LF K d 0 room t sh 0))) h) : Rn xs xl e mm_Quarter_into 0 [some (.inr (.inr q)), some (.inl d), some (.inl 0), some (.inl room), some (.inl t), some (.inl sh), none] [] h Q := by
  obtain ⟨hF, hP, hq, -, ⟨-, c2, -⟩, -, -, st, lf⟩ := id hc
  have k1 := hK.2.1
  have u := (hK.2.2.2.1 d d0 d1).2.2.1
  have d5 := (CXq_d hc d0 d1).2.2.1
  refine F_into he hq (by omega) (by omega) (by decide) (by omega) hF hP (by omega) st ?_
  rw [← lf d 0 room t sh d0 d1 (by decide) (by decide) r0.1 r0.2 t0.1 t0.2]
  exact k
theorem DN_mono (hm : ∀ n, vis n → vis' n) (hd' : DN L tl hd cp Z vis n) : DN L tl hd cp Z vis' n := fun c hc => ⟨fun a b => hm _ ((hd' c hc).1 a b), fun a b => hm _ ((hd' c hc).2 a b)⟩
/-- onwards from a place -/
theorem F_goForward (he : 2 ≤ e) (hI : INV h) (x : XCC L Z K q Lw sh h0 h) (fz : FEA L (cpAr K sh h0) Z) (ct : CTC L (tlA K h0) (hdA K h0) (cpAr K sh h0) Z src h) (hv : visC h n) (k : ∀ g, VXC L (tlA K h0) (hdA K h0) (cpAr K sh h0) Z src h g → (∀ c, vldC L c → tNq (tlA K h0) c = n → (c < 1000 → Z c < cpAr K sh h0 c) → visC g (hNq (hdA K h0) c)) → Q none g) : Rn xs xl e mm_Crowd_goForward 0 [some (.inr (.inr 84)), some (.inr (.inr q)), some (.inl sh), some (.inl n), none, none, none, none] [] h Q := by
  obtain ⟨xc, hK, ⟨x0, x1, x2⟩, x6, x7, xz⟩ := id x
  have hq := xc.2.2.1
  have k1 := hK.2.1
  have hr := RMS_A (L := L) (h0 := h0) (sh := sh) hK ⟨by omega, by omega⟩
  have n0 := hv.2
  have loop : ∀ (m : Nat) (j : Int) (o7 : Option LV) (g : LH), n / 10 < L → K.1 1 - j ≤ m → 0 ≤ j → j ≤ K.1 1 → VXC L (tlA K h0) (hdA K h0) (cpAr K sh h0) Z src h g → (∀ d, 0 ≤ d → d < j → tlA K h0 (14 * (n / 10) + d) = n % 10 → Z (14 * (n / 10) + d) < cpAr K sh h0 (14 * (n / 10) + d) → visC g (10 * (n / 10) + 10 + hdA K h0 (14 * (n / 10) + d))) → Rn xs xl e mm_Crowd_goForward 25 [some (.inr (.inr 84)), some (.inr (.inr q)), some (.inl sh), some (.inl n), some (.inl (n / 10)), some (.inl (n % 10)), some (.inl j), o7] [] g Q := by
    intro m
    have stop : ∀ (j : Int) (o7 : Option LV) (g : LH), n / 10 < L → K.1 1 ≤ j → VXC L (tlA K h0) (hdA K h0) (cpAr K sh h0) Z src h g → (∀ d, 0 ≤ d → d < j → tlA K h0 (14 * (n / 10) + d) = n % 10 → Z (14 * (n / 10) + d) < cpAr K sh h0 (14 * (n / 10) + d) → visC g (10 * (n / 10) + 10 + hdA K h0 (14 * (n / 10) + d))) → ∃ c, c < e ∧ Rn xs xl c mm_Crowd_visit 0 [some (.inr (.inr 84)), some (.inl (n + 10)), some (.inl n), some (.inl (-1))] [] g (fun r h' => Rn xs xl e mm_Crowd_goForward 118 [some (.inr (.inr 84)), some (.inr (.inr q)), some (.inl sh), some (.inl n), some (.inl (n / 10)), some (.inl (n % 10)), some (.inl j), o7] (r.toList ++ []) h' Q) := by
      intro j o7 g nl c v hd'
      refine ⟨0, by omega, F_visit v.1 v.2.1 (by omega) (v.2.2.1 n hv) (by omega) ?_ (fun w vw wn => B_Crowd_goForward_118 hq (RF_of vw.1.1) (k w (v.trans vw) (fun c hc e1 e2 => ?_)))⟩
      · unfold arcF sgF mnF
        rw [if_pos rfl, if_pos (by omega)]
        exact ⟨Or.inr ⟨by omega, by omega⟩, Or.inl ⟨if_pos (by omega), by rw [tN_hi (by omega)]; omega, by rw [hN_hi (by omega)]; omega, fun z => by omega⟩⟩
      · have en := endsQ hr hc
        rcases hc with z | z
        · rw [tN_lo (by omega)] at e1
          rw [hN_lo (by omega)]
          have rr := hr.2 c z.1 z.2
          have e3 : c / 14 = n / 10 := by omega
          have e4 : c = 14 * (n / 10) + c % 14 := by omega
          have f := fz c (Or.inl z)
          have e5 := e2 (by omega)
          have cd : c % 14 < K.1 1 := by
            have := cpA_pos (K := K) (sh := sh) (h0 := h0) (i := c) (by omega)
            exact this.1.1
          have t := hd' (c % 14) (by omega) (by omega)
          rw [← e4, ← e3] at t
          exact vw.2.2.1 _ (t (by omega) e5)
        · rw [tN_hi z.1] at e1
          rw [hN_hi z.1, show c - 990 = n + 10 by omega]
          exact wn
    induction m with
    | zero =>
      intro j o7 g nl hm j0 j1 v hd'
      have xg := XCC_fr x (RF_of v.1.1) v.2.2.2.2.2
      have c2 : rd g q 2 = K.1 1 := xg.1.2.2.2.2.1.2.1
      exact B_Crowd_goForward_25 hq v.1.1 (by omega) (by omega) (by omega) (by omega) ⟨fun c => stop j o7 g nl (by omega) v hd', fun c => by omega⟩
    | succ m ih =>
      intro j o7 g nl hm j0 j1 v hd'
      have xg := XCC_fr x (RF_of v.1.1) v.2.2.2.2.2
      obtain ⟨gc, -, -, g6, g7, gz⟩ := id xg
      have c2 : rd g q 2 = K.1 1 := gc.2.2.2.2.1.2.1
      refine B_Crowd_goForward_25 hq v.1.1 (by omega) (by omega) (by omega) (by omega) ⟨fun c => stop j o7 g nl (by omega) v hd', fun c => ?_⟩
      rw [g6]
      refine ⟨by omega, 1, by omega, F_intoL (Nat.le_refl 1) gc hK j0 (by omega) (by omega) (by omega) ?_⟩
      have ls := LF_st (K := K) (d := j) (room := n % 10) (t := h0 + n / 10) (sh := sh) (by omega) (by omega) (by omega)
      obtain ⟨am, ad⟩ := arc_ld (d := j) (l := n / 10) (by omega)
      have et : tlA K h0 (14 * (n / 10) + j) = sE K j (h0 + n / 10) := by
        unfold tlA
        rw [am, ad, if_pos (by omega)]
      have eh : hdA K h0 (14 * (n / 10) + j) = tE K j (h0 + n / 10) := by
        unfold hdA
        rw [am, ad, if_pos (by omega)]
      have vc : vldC L (14 * (n / 10) + j) := Or.inl ⟨by omega, by omega⟩
      have f := fz _ vc
      have zg : rd g 85 (14 * (n / 10) + j) = Z (14 * (n / 10) + j) := by
        rw [← gz _ vc, ZC_lo (by omega)]
      have pt : rd g (q + 1) j = q + 7 + j := (gc.2.1 q hq).1 j j0 (by omega)
      have d7 : rd g (q + 7 + j) 7 = K.1 (8 * j + 10) := (CXq_d gc j0 (by omega)).2.2.2.1
      have ex_ : exAr K sh h0 (14 * (n / 10) + j) ↔ 0 ≤ LF K j 0 (sE K j (h0 + n / 10)) (h0 + n / 10) sh 0 := by
        unfold exAr
        rw [am, ad]
        exact ⟨fun z => z.2, fun z => ⟨by omega, z⟩⟩
      have nx : ∀ (o : Option LV) (w : LH), VXC L (tlA K h0) (hdA K h0) (cpAr K sh h0) Z src g w → (tlA K h0 (14 * (n / 10) + j) = n % 10 → Z (14 * (n / 10) + j) < cpAr K sh h0 (14 * (n / 10) + j) → visC w (10 * (n / 10) + 10 + hdA K h0 (14 * (n / 10) + j))) → Rn xs xl e mm_Crowd_goForward 102 [some (.inr (.inr 84)), some (.inr (.inr q)), some (.inl sh), some (.inl n), some (.inl (n / 10)), some (.inl (n % 10)), some (.inl j), o] [] w Q := fun o w vw hw => B_Crowd_goForward_102 hq (RF_of vw.1.1) (by omega) (ih (j + 1) o w nl (by omega) (by omega) (by omega) (v.trans vw) (fun d d0 d1 => by
        by_cases z : d = j
        · rw [z]; exact hw
        · exact fun a b => vw.2.2.1 _ (hd' d d0 (by omega) a b)))
      have s1 := VXC.refl v.1 v.2.1
      have cpe : 1 ≤ cpAr K sh h0 (14 * (n / 10) + j) → cpAr K sh h0 (14 * (n / 10) + j) = K.1 (8 * j + 10) := fun z => by
        have := (cpA_pos z).2
        rw [am] at this
        exact this
      refine B_Crowd_goForward_51 hq v.1.1 (by omega) (by omega) (by omega) (by omega) ls.1 ⟨fun z => nx _ g s1 (fun a b => ?_), fun z => ⟨fun z2 => nx _ g s1 (fun a b => ?_), fun z2 => ⟨0, by omega, ?_⟩⟩⟩
      · exfalso
        have y := (cpA_pos (K := K) (sh := sh) (h0 := h0) (i := 14 * (n / 10) + j) (by omega)).1
        rw [ex_, ← et, a] at y
        omega
      · exfalso
        have y := cpe (by omega)
        rw [pt, d7, zg] at z2
        omega
      · rw [pt, d7, zg] at z2
        obtain ⟨l1, l2⟩ := ls.2 (by omega)
        have xx : exAr K sh h0 (14 * (n / 10) + j) := ex_.mpr (by rw [← l1]; omega)
        have ce : cpAr K sh h0 (14 * (n / 10) + j) = K.1 (8 * j + 10) := by
          unfold cpAr
          rw [if_pos xx, am]
        refine F_visit v.1 v.2.1 (by omega) (v.2.2.1 n hv) (by omega) ?_ (fun w vw wn => nx _ w vw (fun _ _ => ?_))
        · unfold arcF sgF mnF
          rw [if_neg (by omega), if_pos (by omega)]
          refine ⟨vc, Or.inl ⟨if_pos (by omega), ?_, ?_, fun _ => by rw [ce]; exact z2⟩⟩
          · rw [tN_lo (by omega), ad, et, ← l1]
            omega
          · rw [hN_lo (by omega), ad, eh, ← l2]
            omega
        · rw [eh, ← l2, show 10 * (n / 10) + 10 + LF K j 0 (n % 10) (h0 + n / 10) sh 0 = 10 * (n / 10) + LF K j 0 (n % 10) (h0 + n / 10) sh 0 + 10 by omega]
          exact wn
  refine B_Crowd_goForward_0 hq (RF_of hI.1) (by omega) ⟨fun c => loop (K.1 1).toNat 0 none h (by omega) (by omega) (by omega) (by omega) (VXC.refl hI ct) (fun d d0 d1 => by omega), fun c => k h (VXC.refl hI ct) (fun c' hc e1 _ => ?_)⟩
  have en := endsQ hr hc
  omega
/-- back from a place -/
theorem F_goBack (he : 2 ≤ e) (hI : INV h) (x : XCC L Z K q Lw sh h0 h) (fz : FEA L (cpAr K sh h0) Z) (ct : CTC L (tlA K h0) (hdA K h0) (cpAr K sh h0) Z src h) (hv : visC h n) (nL : n < 10 * L + 10) (k : ∀ g, VXC L (tlA K h0) (hdA K h0) (cpAr K sh h0) Z src h g → (∀ c, vldC L c → hNq (hdA K h0) c = n → 1 ≤ Z c → visC g (tNq (tlA K h0) c)) → Q none g) : Rn xs xl e mm_Crowd_goBack 0 [some (.inr (.inr 84)), some (.inr (.inr q)), some (.inl sh), some (.inl n), none, none, none, none, none] [] h Q := by
  obtain ⟨xc, hK, ⟨x0, x1, x2⟩, x6, x7, xz⟩ := id x
  have hq := xc.2.2.1
  have k1 := hK.2.1
  have hr := RMS_A (L := L) (h0 := h0) (sh := sh) hK ⟨by omega, by omega⟩
  have n0 := hv.2
  have loop : ∀ (m : Nat) (j : Int) (o7 o8 : Option LV) (g : LH), 10 ≤ n → K.1 1 - j ≤ m → 0 ≤ j → j ≤ K.1 1 → VXC L (tlA K h0) (hdA K h0) (cpAr K sh h0) Z src h g → (∀ d, 0 ≤ d → d < j → hdA K h0 (14 * (n / 10 - 1) + d) = n % 10 → 1 ≤ Z (14 * (n / 10 - 1) + d) → visC g (10 * (n / 10 - 1) + tlA K h0 (14 * (n / 10 - 1) + d))) → Rn xs xl e mm_Crowd_goBack 23 [some (.inr (.inr 84)), some (.inr (.inr q)), some (.inl sh), some (.inl n), some (.inl (n / 10 - 1)), some (.inl (n % 10)), some (.inl j), o7, o8] [] g Q := by
    intro m
    have fin : ∀ (g w : LH), 10 ≤ n → VXC L (tlA K h0) (hdA K h0) (cpAr K sh h0) Z src h g → VXC L (tlA K h0) (hdA K h0) (cpAr K sh h0) Z src g w → (∀ d, 0 ≤ d → d < K.1 1 → hdA K h0 (14 * (n / 10 - 1) + d) = n % 10 → 1 ≤ Z (14 * (n / 10 - 1) + d) → visC g (10 * (n / 10 - 1) + tlA K h0 (14 * (n / 10 - 1) + d))) → (1 ≤ Z (1000 + (n - 10)) → visC w (n - 10)) → Q none w := by
      intro g w nt v vw hd' hw
      refine k w (v.trans vw) (fun c hc e1 e2 => ?_)
      have en := endsQ hr hc
      rcases hc with z | z
      · rw [hN_lo (by omega)] at e1
        rw [tN_lo (by omega)]
        have rr := hr.2 c z.1 z.2
        have e3 : c / 14 = n / 10 - 1 := by omega
        have e4 : c = 14 * (n / 10 - 1) + c % 14 := by omega
        have f := fz c (Or.inl z)
        have cd : c % 14 < K.1 1 := by
          have := f.2 (by omega)
          have := cpA_pos (K := K) (sh := sh) (h0 := h0) (i := c) (by omega)
          exact this.1.1
        have t := hd' (c % 14) (by omega) cd
        rw [← e4, ← e3] at t
        exact vw.2.2.1 _ (t (by omega) e2)
      · rw [hN_hi z.1] at e1
        rw [tN_hi z.1, show c - 1000 = n - 10 by omega]
        refine hw ?_
        rw [show 1000 + (n - 10) = c by omega]
        exact e2
    have stop : ∀ (j : Int) (o7 o8 : Option LV) (g : LH), 10 ≤ n → K.1 1 ≤ j → VXC L (tlA K h0) (hdA K h0) (cpAr K sh h0) Z src h g → (∀ d, 0 ≤ d → d < j → hdA K h0 (14 * (n / 10 - 1) + d) = n % 10 → 1 ≤ Z (14 * (n / 10 - 1) + d) → visC g (10 * (n / 10 - 1) + tlA K h0 (14 * (n / 10 - 1) + d))) → Rn xs xl e mm_Crowd_goBack 128 [some (.inr (.inr 84)), some (.inr (.inr q)), some (.inl sh), some (.inl n), some (.inl (n / 10 - 1)), some (.inl (n % 10)), some (.inl j), o7, o8] [] g Q := by
      intro j o7 o8 g nt c v hd'
      have xg := XCC_fr x (RF_of v.1.1) v.2.2.2.2.2
      have vc : vldC L (1000 + (n - 10)) := Or.inr ⟨by omega, by omega⟩
      have zg : rd g 86 (10 * (n / 10 - 1) + n % 10) = Z (1000 + (n - 10)) := by
        rw [← xg.2.2.2.2.2 _ vc, ZC_hi (by omega), show 10 * (n / 10 - 1) + n % 10 = n - 10 by omega]
      refine B_Crowd_goBack_128 hq (RF_of v.1.1) (by omega) (by omega) (by omega) ⟨fun z => ?_, fun z => ⟨0, by omega, ?_⟩⟩
      · rw [zg] at z
        exact fin g g nt v (VXC.refl v.1 v.2.1) (fun d d0 d1 => hd' d d0 (by omega)) (fun y => by omega)
      · rw [zg] at z
        refine F_visit v.1 v.2.1 (by omega) (v.2.2.1 n hv) (by omega) ?_ (fun w vw wn => B_Crowd_goBack_154 hq (RF_of vw.1.1) (fin g w nt v vw (fun d d0 d1 => hd' d d0 (by omega)) (fun _ => wn)))
        unfold arcF sgF mnF
        rw [if_pos rfl, if_neg (by omega)]
        exact ⟨vc, Or.inr ⟨if_neg (by omega), by rw [tN_hi (by omega)]; omega, by rw [hN_hi (by omega)]; omega, by omega⟩⟩
    induction m with
    | zero =>
      intro j o7 o8 g nt hm j0 j1 v hd'
      have xg := XCC_fr x (RF_of v.1.1) v.2.2.2.2.2
      have c2 : rd g q 2 = K.1 1 := xg.1.2.2.2.2.1.2.1
      exact B_Crowd_goBack_23 hq v.1.1 (by omega) (by omega) (by omega) (by omega) ⟨fun c => stop j o7 o8 g nt (by omega) v hd', fun c => by omega⟩
    | succ m ih =>
      intro j o7 o8 g nt hm j0 j1 v hd'
      have xg := XCC_fr x (RF_of v.1.1) v.2.2.2.2.2
      obtain ⟨gc, -, -, g6, g7, gz⟩ := id xg
      have c2 : rd g q 2 = K.1 1 := gc.2.2.2.2.1.2.1
      refine B_Crowd_goBack_23 hq v.1.1 (by omega) (by omega) (by omega) (by omega) ⟨fun c => stop j o7 o8 g nt (by omega) v hd', fun c => ?_⟩
      obtain ⟨am, ad⟩ := arc_ld (d := j) (l := n / 10 - 1) (by omega)
      have et : tlA K h0 (14 * (n / 10 - 1) + j) = sE K j (h0 + (n / 10 - 1)) := by
        unfold tlA
        rw [am, ad, if_pos (by omega)]
      have eh : hdA K h0 (14 * (n / 10 - 1) + j) = tE K j (h0 + (n / 10 - 1)) := by
        unfold hdA
        rw [am, ad, if_pos (by omega)]
      have vc : vldC L (14 * (n / 10 - 1) + j) := Or.inl ⟨by omega, by omega⟩
      have f := fz _ vc
      have f2 := f.2 (by omega)
      have zg : rd g 85 (14 * (n / 10 - 1) + j) = Z (14 * (n / 10 - 1) + j) := by
        rw [← gz _ vc, ZC_lo (by omega)]
      have pt : rd g (q + 1) j = q + 7 + j := (gc.2.1 q hq).1 j j0 (by omega)
      obtain ⟨e2, e3, -⟩ := CXq_d gc j0 (show j < K.1 1 by omega)
      have sr := st_rng (t := h0 + (n / 10 - 1)) hK j0 (show j < K.1 1 by omega)
      rw [pt, e2, e3, zg]
      have nx : ∀ (o p : Option LV) (w : LH), VXC L (tlA K h0) (hdA K h0) (cpAr K sh h0) Z src g w → (hdA K h0 (14 * (n / 10 - 1) + j) = n % 10 → 1 ≤ Z (14 * (n / 10 - 1) + j) → visC w (10 * (n / 10 - 1) + tlA K h0 (14 * (n / 10 - 1) + j))) → Rn xs xl e mm_Crowd_goBack 122 [some (.inr (.inr 84)), some (.inr (.inr q)), some (.inl sh), some (.inl n), some (.inl (n / 10 - 1)), some (.inl (n % 10)), some (.inl j), o, p] [] w Q := fun o p w vw hw => B_Crowd_goBack_122 hq (RF_of vw.1.1) (by omega) (ih (j + 1) o p w nt (by omega) (by omega) (by omega) (v.trans vw) (fun d d0 d1 => by
        by_cases z : d = j
        · rw [z]; exact hw
        · exact fun a b => vw.2.2.1 _ (hd' d d0 (by omega) a b)))
      have s1 := VXC.refl v.1 v.2.1
      -- the room before
      have G : ∀ (b : Int) (o : Option LV), (K.1 (8 * j + 5) ≠ n % 10 ∧ b = K.1 (8 * j + 5)) ∨ (K.1 (8 * j + 5) = n % 10 ∧ b = K.1 (8 * j + 6)) → 0 < Z (14 * (n / 10 - 1) + j) → Rn xs xl e mm_Crowd_goBack 85 [some (.inr (.inr 84)), some (.inr (.inr q)), some (.inl sh), some (.inl n), some (.inl (n / 10 - 1)), some (.inl (n % 10)), some (.inl j), o, some (.inl b)] [] g Q := by
        intro b o hb z
        have b9 : 0 ≤ b ∧ b ≤ 9 := by omega
        refine B_Crowd_goBack_85 hq v.1.1 (by omega) (by omega) (by omega) (by omega) b9 ?_
        rw [g6]
        refine ⟨by omega, 1, by omega, F_intoL (Nat.le_refl 1) gc hK j0 (by omega) b9 (by omega) ?_⟩
        have ls := LF_st (K := K) (d := j) (room := b) (t := h0 + (n / 10 - 1)) (sh := sh) (by omega) b9 (by omega)
        have before : tE K j (h0 + (n / 10 - 1)) = n % 10 → b = sE K j (h0 + (n / 10 - 1)) := fun y => by omega
        refine B_Crowd_goBack_102 hq v.1.1 (by omega) (by omega) (by omega) (by omega) b9 ⟨fun w => nx _ _ g s1 (fun a _ => ?_), fun w => ⟨0, by omega, ?_⟩⟩
        · exfalso
          have y := (cpA_pos (K := K) (sh := sh) (h0 := h0) (i := 14 * (n / 10 - 1) + j) (by omega)).1
          unfold exAr at y
          rw [am, ad] at y
          rw [eh] at a
          have bs := before a
          rw [← bs] at y
          have := (ls.2 y.2).2
          omega
        · obtain ⟨l1, l2⟩ := ls.2 (by omega)
          refine F_visit v.1 v.2.1 (by omega) (v.2.2.1 n hv) (by omega) ?_ (fun u vu un => nx _ _ u vu (fun _ _ => ?_))
          · unfold arcF sgF mnF
            rw [if_neg (by omega), if_neg (by omega), if_neg (by omega), show (10 * (n / 10 - 1) + b) / 10 = n / 10 - 1 by omega]
            refine ⟨vc, Or.inr ⟨rfl, ?_, ?_, by omega⟩⟩
            · rw [tN_lo (by omega), ad, et, ← l1]
            · rw [hN_lo (by omega), ad, eh, ← l2, w]
              omega
          · rw [et, ← l1]
            exact un
      refine ⟨by omega, fun z => ⟨by omega, fun w => G _ _ (Or.inl ⟨w, rfl⟩) z, fun w => G _ _ (Or.inr ⟨w, rfl⟩) z⟩, fun z => nx _ _ g s1 (fun _ y => by omega)⟩
  refine B_Crowd_goBack_0 hq (RF_of hI.1) (by omega) ⟨by omega, fun c => loop (K.1 1).toNat 0 none none h (by omega) (by omega) (by omega) (by omega) (VXC.refl hI ct) (fun d d0 d1 => by omega), fun c => k h (VXC.refl hI ct) (fun c' hc e1 _ => ?_)⟩
  have en := endsQ hr hc
  omega
end M2
end
section
/-! crowd, part m3: the class's crowd: search, narrowest, send -/
/-- back along the tree, k places -/
def itp (par : Int → Int) : Nat → Int → Int
  | 0, n => n
  | k + 1, n => itp par k (par n)
/-- from n back to the source everywhere there is room for m -/
def LEQ (cp Z par arc sg : Int → Int) (src m n : Int) : Prop := ∀ k : Nat, (∀ i : Nat, i ≤ k → itp par i n ≠ src) → m ≤ rsd cp Z (arc (itp par k n)) (sg (itp par k n))
def crC (h : LH) (a b t : Int) : Prop := (0 ≤ a ∧ a < rd h 188 0) ∧ (0 ≤ b ∧ b < rd h 188 0) ∧ a ≠ b ∧ rd h 198 0 ≤ t ∧ t ≤ 23
/-- the answer is a flow's value that can't grow -/
def mxA (K : KEY) (sh h0 L src snk r : Int) : Prop := ∃ Z S, GOOD L (tlA K h0) (hdA K h0) (cpAr K sh h0) src snk Z r ∧ SAT L (tlA K h0) (hdA K h0) (cpAr K sh h0) src snk Z S
def crJ (v1 v2 v3 : Int) (h g : LH) (r : Int) : Prop := frM h g ∧ ((¬ crC h v1 v2 v3 ∧ r = -1) ∨ (crC h v1 v2 v3 ∧ mxA (key h) (rd h 198 1) (rd h 198 0) (v3 - rd h 198 0 + 1) v1 (10 * (v3 - rd h 198 0 + 1) + v2) r))
section M3
variable {xs : Nat → Int} {xl e : Nat} {h g u : LH} {Q : Option LV → LH → Prop} {K : KEY} {Lw : List Int} {L q sh h0 src snk n f y d t room i j c m v v1 v2 v3 r B to : Int} {tl hd cp Z Y par arc sg : Int → Int} {vis vis' : Int → Prop}
theorem LEQ_src : LEQ cp Z par arc sg src m src := fun k h => absurd rfl (h 0 (Nat.zero_le _))
theorem LEQ_st (h1 : m ≤ rsd cp Z (arc n) (sg n)) (h2 : LEQ cp Z par arc sg src m (par n)) : LEQ cp Z par arc sg src m n := by
  intro k hk
  cases k with
  | zero => exact h1
  | succ k => exact h2 k (fun i hi => hk (i + 1) (by omega))
theorem LEQ_1 (h : LEQ cp Z par arc sg src m n) (ns : n ≠ src) : m ≤ rsd cp Z (arc n) (sg n) ∧ LEQ cp Z par arc sg src m (par n) := by
  refine ⟨h 0 (fun i hi => ?_), fun k hk => h (k + 1) (fun i hi => ?_)⟩
  · have : i = 0 := by omega
    rw [this]
    exact ns
  · cases i with
    | zero => exact ns
    | succ i => exact hk i (by omega)
theorem F_fill85 (hI : INV h) (k : ∀ g, INV g → (∀ a i, a ≠ 85 → rd g a i = rd h a i) → (∀ i, 0 ≤ i → i < 336 → rd g 85 i = 0) → Q none g) : Rn xs xl e mm_java_util_Arrays_fill 0 [some (.inr (.inr 85)), some (.inl 0), none, none] [] h Q := by
  have loop : ∀ (m : Nat) (g : LH) (j : Int), 336 - j ≤ m → 0 ≤ j → j ≤ 336 → INV g → (∀ a i, a ≠ 85 → rd g a i = rd h a i) → (∀ i, 0 ≤ i → i < j → rd g 85 i = 0) → Rn xs xl e mm_java_util_Arrays_fill 5 [some (.inr (.inr 85)), some (.inl 0), some (.inl j), some (.inl 336)] [] g Q := by
    intro m
    induction m with
    | zero =>
      intro g j hm j0 j1 gI gf gv
      exact B_fill85_5 (RF_of gI.1) ⟨j0, j1⟩ ⟨fun _ => k g gI gf (fun i i0 i1 => gv i i0 (by omega)), fun c => by omega⟩
    | succ m ih =>
      intro g j hm j0 j1 gI gf gv
      refine B_fill85_5 (RF_of gI.1) ⟨j0, j1⟩ ⟨fun _ => k g gI gf (fun i i0 i1 => gv i i0 (by omega)), fun c => ⟨by omega, ih _ (j + 1) (by omega) (by omega) (by omega) (wB_85 gI (by omega) (by omega)) (fun a i n => (rdw_ne (fun z => n z.symm)).trans (gf a i n)) (fun i i0 i1 => ?_)⟩⟩
      by_cases z : i = j
      · rw [z, rdw_eq]
      · rw [rdw_nei (fun y => z y.symm)]
        exact gv i i0 (by omega)
  exact B_fill85_0 (RF_of hI.1) (loop 336 h 0 (by omega) (by omega) (by omega) hI (fun _ _ _ => rfl) (fun i i0 i1 => by omega))
theorem F_fill86 (hI : INV h) (k : ∀ g, INV g → (∀ a i, a ≠ 86 → rd g a i = rd h a i) → (∀ i, 0 ≤ i → i < 240 → rd g 86 i = 0) → Q none g) : Rn xs xl e mm_java_util_Arrays_fill 0 [some (.inr (.inr 86)), some (.inl 0), none, none] [] h Q := by
  have loop : ∀ (m : Nat) (g : LH) (j : Int), 240 - j ≤ m → 0 ≤ j → j ≤ 240 → INV g → (∀ a i, a ≠ 86 → rd g a i = rd h a i) → (∀ i, 0 ≤ i → i < j → rd g 86 i = 0) → Rn xs xl e mm_java_util_Arrays_fill 5 [some (.inr (.inr 86)), some (.inl 0), some (.inl j), some (.inl 240)] [] g Q := by
    intro m
    induction m with
    | zero =>
      intro g j hm j0 j1 gI gf gv
      exact B_fill86_5 (RF_of gI.1) ⟨j0, j1⟩ ⟨fun _ => k g gI gf (fun i i0 i1 => gv i i0 (by omega)), fun c => by omega⟩
    | succ m ih =>
      intro g j hm j0 j1 gI gf gv
      refine B_fill86_5 (RF_of gI.1) ⟨j0, j1⟩ ⟨fun _ => k g gI gf (fun i i0 i1 => gv i i0 (by omega)), fun c => ⟨by omega, ih _ (j + 1) (by omega) (by omega) (by omega) (wB_86 gI (by omega) (by omega)) (fun a i n => (rdw_ne (fun z => n z.symm)).trans (gf a i n)) (fun i i0 i1 => ?_)⟩⟩
      by_cases z : i = j
      · rw [z, rdw_eq]
      · rw [rdw_nei (fun y => z y.symm)]
        exact gv i i0 (by omega)
  exact B_fill86_0 (RF_of hI.1) (loop 240 h 0 (by omega) (by omega) (by omega) hI (fun _ _ _ => rfl) (fun i i0 i1 => by omega))
theorem F_findPath (he : 3 ≤ e) (hI : INV h) (x : XCC L Z K q Lw sh h0 h) (fz : FEA L (cpAr K sh h0) Z) (hs : 0 ≤ src ∧ src ≤ 9) (hk : 0 ≤ snk ∧ snk < 10 * L + 10) (k1 : ∀ g, INV g → CTC L (tlA K h0) (hdA K h0) (cpAr K sh h0) Z src g → visC g snk → frX h g → Q (some (.inl 1)) g) (k0 : ∀ g, INV g → SAT L (tlA K h0) (hdA K h0) (cpAr K sh h0) src snk Z (visC g) → frX h g → Q (some (.inl 0)) g) : Rn xs xl e mm_Crowd_findPath 0 [some (.inr (.inr 84)), some (.inr (.inr q)), some (.inl sh), some (.inl src), some (.inl snk), none] [] h Q := by
  obtain ⟨xc, hK, ⟨x0, x1, x2⟩, x6, x7, xz⟩ := id x
  have hq := xc.2.2.1
  have hr := RMS_A (L := L) (h0 := h0) (sh := sh) hK ⟨by omega, by omega⟩
  refine B_Crowd_findPath_0 hq (RF_of hI.1) ⟨0, by omega, D_fill hI (fun g1 i1 f1 a1 => B_Crowd_findPath_8 hq (RF_of i1.1) ⟨0, by omega, ?_⟩)⟩
  have i2 := wG_84_5 i1 (v := 0) (by omega) (by omega)
  have B := B_Crowd_visit_0 (xs := xs) (xl := xl) (e := 0) (v1 := src) (v2 := src) (v3 := -1) (Q := fun r h' => Rn xs xl e mm_Crowd_findPath 20 [some (.inr (.inr 84)), some (.inr (.inr q)), some (.inl sh), some (.inl src), some (.inl snk), none] (r.toList ++ []) h' Q) (RF_of i2.1) (by omega)
  have e0 : rd (wr g1 84 5 0) 84 5 = 0 := rdw_eq
  have a2 : ∀ i, 0 ≤ i → i < 250 → rd (wr g1 84 5 0) 87 i = -1 := fun i i0 i3 => by rw [rdw_ne (by decide)]; exact a1 i i0 i3
  rw [e0, a2 src hs.1 (by omega)] at B
  refine B ⟨fun c => absurd rfl c, fun _ => ⟨fun c => by omega, fun _ => ⟨by omega, by omega, ?_⟩⟩⟩
  clear B
  have f2 : ∀ a i, a ≠ 87 → ¬ (a = 84 ∧ i = 5) → rd (wr g1 84 5 0) a i = rd h a i := fun a i n1 n2 => by
    rw [rd_wr, if_neg (fun z => n2 ⟨z.1.symm, z.2.symm⟩)]
    exact f1 a i n1
  generalize wr g1 84 5 0 = g2 at *
  have j1 := wB_87 i2 (i := src) (v := src) (by omega) (by omega)
  have j2 := wB_88 j1 (i := src) (v := -1) (by omega) (by omega)
  have j3 := wB_89 j2 (i := 0) (v := src) (by omega) (by omega)
  have j4 := wG_84_5 j3 (v := 0 + 1) (by omega) (by omega)
  have up := cnt_up (c := rd g2 87) (c' := rd (wr (wr (wr (wr g2 87 src src) 88 src (-1)) 89 0 src) 84 5 (0 + 1)) 87) (x := src) (by omega) (a2 src hs.1 (by omega)) (by rw [rdw_ne (by decide), rdw_ne (by decide), rdw_ne (by decide), rdw_eq]; omega) (fun i hi => by rw [rdw_ne (by decide), rdw_ne (by decide), rdw_ne (by decide), rdw_nei (fun z => hi z.symm)])
  have e7 : ∀ i, i ≠ src → rd (wr (wr (wr (wr g2 87 src src) 88 src (-1)) 89 0 src) 84 5 (0 + 1)) 87 i = rd g2 87 i := fun i hi => by rw [rdw_ne (by decide), rdw_ne (by decide), rdw_ne (by decide), rdw_nei (fun z => hi z.symm)]
  have e7s : rd (wr (wr (wr (wr g2 87 src src) 88 src (-1)) 89 0 src) 84 5 (0 + 1)) 87 src = src := by rw [rdw_ne (by decide), rdw_ne (by decide), rdw_ne (by decide), rdw_eq]
  have e9 : rd (wr (wr (wr (wr g2 87 src src) 88 src (-1)) 89 0 src) 84 5 (0 + 1)) 89 0 = src := by rw [rdw_ne (by decide), rdw_eq]
  have e5 : rd (wr (wr (wr (wr g2 87 src src) 88 src (-1)) 89 0 src) 84 5 (0 + 1)) 84 5 = 1 := rdw_eq
  have ff : frX h (wr (wr (wr (wr g2 87 src src) 88 src (-1)) 89 0 src) 84 5 (0 + 1)) := fun a i n1 n2 n3 n4 => by
    rw [rd_wr, if_neg (fun z => n1 ⟨z.1.symm, z.2.symm⟩), rdw_ne (fun z => n4 z.symm), rdw_ne (fun z => n3 z.symm), rdw_ne (fun z => n2 z.symm)]
    exact f2 a i n2 n1
  generalize wr (wr (wr (wr g2 87 src src) 88 src (-1)) 89 0 src) 84 5 (0 + 1) = G at *
  have vG : ∀ n, visC G n ↔ n = src := fun n => by
    unfold visC
    by_cases z : n = src
    · rw [z, e7s]
      exact ⟨fun _ => rfl, fun _ => by omega⟩
    · rw [e7 n z]
      exact ⟨fun w => absurd (a2 n w.2.1 (by omega)) w.1, fun w => absurd w z⟩
  have tG : CTC L (tlA K h0) (hdA K h0) (cpAr K sh h0) Z src G := by
    refine ⟨⟨⟨by omega, e9⟩, fun j j0 j1 => ?_, fun i j i0 i1 j0 j1 _ => by omega, fun n hn => ⟨0, by omega, by omega, e9.trans ((vG n).mp hn).symm⟩⟩, by omega⟩
    rw [show j = 0 by omega]
    exact ⟨(vG _).mpr e9, Or.inl ⟨rfl, e9⟩⟩
  have loop : ∀ (m : Nat) (j : Int) (g : LH), 250 - j ≤ m → 0 ≤ j → j ≤ 250 → j ≤ rd g 84 5 → INV g → CTC L (tlA K h0) (hdA K h0) (cpAr K sh h0) Z src g → frX h g → (∀ i, 0 ≤ i → i < j → DN L (tlA K h0) (hdA K h0) (cpAr K sh h0) Z (visC g) (rd g 89 i)) → (∀ i, 0 ≤ i → i < rd g 84 5 → rd g 89 i < 10 * L + 10) → Rn xs xl e mm_Crowd_findPath 23 [some (.inr (.inr 84)), some (.inr (.inr q)), some (.inl sh), some (.inl src), some (.inl snk), some (.inl j)] [] g Q := by
    intro m
    have all : ∀ (j : Int) (g : LH), rd g 84 5 ≤ j → INV g → CTC L (tlA K h0) (hdA K h0) (cpAr K sh h0) Z src g → frX h g → (∀ i, 0 ≤ i → i < j → DN L (tlA K h0) (hdA K h0) (cpAr K sh h0) Z (visC g) (rd g 89 i)) → (rd g 87 snk = -1 → Q (some (.inl 0)) g) ∧ (rd g 87 snk ≠ -1 → Q (some (.inl 1)) g) := by
      intro j g c gI gt gf gd
      refine ⟨fun z => k0 g gI (SAT_of fz ?_ (fun w => w.1 z) (fun n hn => ?_)) gf, fun z => k1 g gI gt ⟨z, by omega⟩ gf⟩
      · obtain ⟨⟨t1, t2⟩, t3, -⟩ := gt.1
        rw [← t2]
        exact (t3 0 (by omega) (by omega)).1
      · obtain ⟨i, i0, i1, i2⟩ := gt.1.2.2.2 n hn
        rw [← i2]
        exact gd i i0 (by omega)
    induction m with
    | zero =>
      intro j g hm j0 j1 j2 gI gt gf gd gq
      have q5 := rG_84_5 gI.1
      exact B_Crowd_findPath_23 hq (RF_of gI.1) (by omega) (by omega) ⟨fun c => all j g c gI gt gf gd, fun c => by omega⟩
    | succ m ih =>
      intro j g hm j0 j1 j2 gI gt gf gd gq
      have q5 := rG_84_5 gI.1
      refine B_Crowd_findPath_23 hq (RF_of gI.1) (by omega) (by omega) ⟨fun c => all j g c gI gt gf gd, fun c => ⟨fun z => k1 g gI gt ⟨z, by omega⟩ gf, fun z => ⟨by omega, 2, by omega, ?_⟩⟩⟩
      have xg := XCC_fr x (RF_of gI.1) gf
      have vj := (gt.1.2.1 j j0 c).1
      refine F_goForward (Nat.le_refl 2) gI xg fz gt vj (fun u vu fu => ?_)
      have e9u := vu.2.2.2.1 j j0 c
      have xu := XCC_fr xg (RF_of vu.1.1) vu.2.2.2.2.2
      refine B_Crowd_findPath_56 hq (RF_of vu.1.1) (by omega) ⟨2, by omega, ?_⟩
      rw [e9u]
      refine F_goBack (Nat.le_refl 2) vu.1 xu fz vu.2.1 (vu.2.2.1 _ vj) (gq j j0 c) (fun w vw fw => B_Crowd_findPath_69 hq (RF_of vw.1.1) (by omega) ?_)
      have vv := vu.trans vw
      refine ih (j + 1) w (by omega) (by omega) (by omega) (by have := vv.2.2.2.2.1; omega) vv.1 vv.2.1 (fun a i n1 n2 n3 n4 => (vv.2.2.2.2.2 a i n1 n2 n3 n4).trans (gf a i n1 n2 n3 n4)) (fun i i0 i1 => ?_) (fun i i0 i1 => ?_)
      · rw [vv.2.2.2.1 i i0 (by omega)]
        by_cases t : i = j
        · rw [t]
          exact fun c hc => ⟨fun a b => vw.2.2.1 _ (fu c hc a b), fun a b => fw c hc a b⟩
        · exact DN_mono vv.2.2.1 (gd i i0 (by omega))
      · rcases (vv.2.1.1.2.1 i i0 i1).2 with t | ⟨-, ⟨vc, t⟩, -⟩
        · rw [t.2]
          omega
        · have en := endsQ hr vc
          rcases t with ⟨-, -, t, -⟩ | ⟨-, t, -, -⟩ <;> omega
  exact B_Crowd_findPath_20 hq (RF_of j4.1) (loop 250 0 G (by omega) (by omega) (by omega) (by omega) j4 tG ff (fun i i0 i1 => by omega) (fun i i0 i1 => by rw [show i = 0 by omega, e9]; omega))
/-- what is kept of the tree while flows change -/
theorem CTC_arc (hr : RMS L tl hd cp) (ct : CTC L tl hd cp Z src h) (j0 : 0 ≤ j) (j1 : j < rd h 84 5) (ns : rd h 89 j ≠ src) : STP L tl hd cp Z (rd h 89 j) (rd h 87 (rd h 89 j)) (arcC h (rd h 89 j)) (sgC h (rd h 89 j)) ∧ visC h (rd h 89 j) ∧ ∃ i, 0 ≤ i ∧ i < j ∧ rd h 89 i = rd h 87 (rd h 89 j) := by
  obtain ⟨a, b⟩ := ct.1.2.1 j j0 j1
  rcases b with b | ⟨_, b, c⟩
  · exact absurd b.2 ns
  · exact ⟨b, a, c⟩
theorem F_narrowest (hI : INV h) (x : XCC L Z K q Lw sh h0 h) (fz : FEA L (cpAr K sh h0) Z) (ct : CTC L (tlA K h0) (hdA K h0) (cpAr K sh h0) Z src h) (hs : 0 ≤ src ∧ src ≤ 9) (vs : visC h snk) (hn : snk % 10 ≠ src % 10) (k : ∀ r, 1 ≤ r → r ≤ 9 → LEQ (cpAr K sh h0) Z (rd h 87) (arcC h) (sgC h) src r snk → Q (some (.inl r)) h) : Rn xs xl e mm_Crowd_narrowest 0 [some (.inr (.inr 84)), some (.inr (.inr q)), some (.inl src), some (.inl snk), none, none, none, none, none, none, none] [] h Q := by
  obtain ⟨xc, hK, ⟨x0, x1, x2⟩, x6, x7, xz⟩ := id x
  have hq := xc.2.2.1
  have k1 := hK.2.1
  have hr := RMS_A (L := L) (h0 := h0) (sh := sh) hK ⟨by omega, by omega⟩
  have q5 := rG_84_5 hI.1
  have loop : ∀ (fu : Nat) (j i many : Int) (o7 o8 o9 o10 : Option LV) (Q : Option LV → LH → Prop), j < fu → 0 ≤ j → j < rd h 84 5 → 0 ≤ i → i + j ≤ 249 → 1 ≤ many → many ≤ 1000000 → (∀ r, 1 ≤ r → r ≤ many → (rd h 89 j % 10 ≠ src % 10 → r ≤ 9) → LEQ (cpAr K sh h0) Z (rd h 87) (arcC h) (sgC h) src r (rd h 89 j) → Q (some (.inl r)) h) → Rn xs xl e mm_Crowd_narrowest 10 [some (.inr (.inr 84)), some (.inr (.inr q)), some (.inl src), some (.inl snk), some (.inl many), some (.inl (rd h 89 j)), some (.inl i), o7, o8, o9, o10] [] h Q := by
    intro fu
    induction fu with
    | zero =>
      intro j i many o7 o8 o9 o10 Q hj j0
      omega
    | succ fu ih =>
      intro j i many o7 o8 o9 o10 Q hj j0 j1 i0 i1 m0 m1 kk
      have vj := (ct.1.2.1 j j0 j1).1.2
      refine B_Crowd_narrowest_10 hq hI.1 (by omega) vj (by omega) ⟨fun c => by omega, fun c => ⟨fun c2 => kk many m0 (Int.le_refl _) (fun z => absurd (by rw [c2]) z) (by rw [c2]; exact LEQ_src), fun ns mn hmn => ?_⟩⟩
      obtain ⟨st, _, p, p0, p1, pe⟩ := CTC_arc hr ct j0 j1 ns
      have b8 := rB_88 hI.1 (i := rd h 89 j) (by omega)
      have b7 := rB_87 hI.1 (i := rd h 89 j) (by omega)
      obtain ⟨vc, sd⟩ := id st
      have en := endsQ hr vc
      have fc := fz _ vc
      have mne : mn = mnF (rd h 87 (rd h 89 j)) (rd h 89 j) := by
        unfold mnF
        split <;> omega
      have go : ∀ (m' : Int) (o o' o'' : Option LV), 1 ≤ m' → m' ≤ many → m' ≤ rsd (cpAr K sh h0) Z (arcC h (rd h 89 j)) (sgC h (rd h 89 j)) → (rd h 89 j % 10 = rd h 87 (rd h 89 j) % 10 ∨ m' ≤ 9) → Rn xs xl e mm_Crowd_narrowest 131 [some (.inr (.inr 84)), some (.inr (.inr q)), some (.inl src), some (.inl snk), some (.inl m'), some (.inl (rd h 89 j)), some (.inl i), some (.inl (rd h 87 (rd h 89 j))), o, o', o''] [] h Q := by
        intro m' o o' o'' a1 a2 a3 a4
        have := ih p (i + 1) m' (some (.inl (rd h 87 (rd h 89 j)))) o o' o'' Q (by omega) p0 (by omega) (by omega) (by omega) a1 (by omega) (fun r r1 r2 r3 r4 => kk r r1 (by omega) (fun z => ?_) (LEQ_st (by omega) (by rw [← pe]; exact r4)))
        · rw [pe] at this
          exact B_Crowd_narrowest_131 hq (RF_of hI.1) (by omega) this
        · rcases a4 with w | w
          · exact r3 (by rw [pe, ← w]; exact z)
          · omega
      have pv : 0 ≤ rd h 87 (rd h 89 j) ∧ rd h 87 (rd h 89 j) ≤ 249 := by
        rw [← pe]
        exact (ct.1.2.1 p p0 (by omega)).1.2
      have pn : rd h 87 (rd h 89 j) ≠ rd h 89 j := by
        rcases sd with ⟨-, a, b, -⟩ | ⟨-, a, b, -⟩ <;> omega
      have mlo : 0 ≤ mn ∧ mn ≤ 249 := by omega
      -- a wait
      have ew : rd h 88 (rd h 89 j) = -1 → arcC h (rd h 89 j) = 1000 + mn := fun y1 => by
        unfold arcC arcF
        rw [if_pos y1, mne]
      have ed : rd h 88 (rd h 89 j) ≠ -1 → arcC h (rd h 89 j) = 14 * (mn / 10) + rd h 88 (rd h 89 j) := fun y1 => by
        unfold arcC arcF
        rw [if_neg y1, mne]
      have vd : rd h 88 (rd h 89 j) ≠ -1 → 0 ≤ 14 * (mn / 10) + rd h 88 (rd h 89 j) ∧ 14 * (mn / 10) + rd h 88 (rd h 89 j) < 336 := fun y1 => by
        have e1 := ed y1
        have r0 := hr.1
        rw [e1] at vc
        rcases vc with w | w <;> omega
      have sp : rd h 87 (rd h 89 j) < rd h 89 j → sgC h (rd h 89 j) = 1 := fun y => by
        unfold sgC sgF
        rw [if_pos y]
      have sn : ¬ rd h 87 (rd h 89 j) < rd h 89 j → sgC h (rd h 89 j) = -1 := fun y => by
        unfold sgC sgF
        rw [if_neg y]
      refine ⟨by omega, fun y1 => ⟨fun c3 => ?_, fun c3 => ⟨?_, fun m4 hm4 => ?_⟩⟩, fun y1 => ⟨by have := vd y1; omega, by have := vd y1; omega, by have := vd y1; omega, fun c3 m8 hm8 => ?_, fun c3 => ⟨by omega, fun m10 hm10 => ?_⟩⟩⟩
      · have e1 := ew y1
        have e2 := sp (by omega)
        have rm : rd h 89 j % 10 = rd h 87 (rd h 89 j) % 10 := by
          rcases sd with ⟨-, a, b, -⟩ | ⟨-, a, b, -⟩ <;> rw [e1, tN_hi (by omega)] at a <;> rw [e1, hN_hi (by omega)] at b <;> omega
        refine go many _ _ _ m0 (Int.le_refl _) ?_ (Or.inl rm)
        rw [e1, e2]
        unfold rsd
        rw [if_pos rfl, if_neg (by omega)]
        exact m1
      · have e1 := ew y1
        rw [e1] at vc
        rcases vc with w | w <;> omega
      · have e1 := ew y1
        have e2 := sn (by omega)
        have rm : rd h 89 j % 10 = rd h 87 (rd h 89 j) % 10 := by
          rcases sd with ⟨-, a, b, -⟩ | ⟨-, a, b, -⟩ <;> rw [e1, tN_hi (by omega)] at a <;> rw [e1, hN_hi (by omega)] at b <;> omega
        have z := xz _ vc
        rw [e1, ZC_hi (by omega), show mn = rd h 89 j by omega] at z
        have z1 : 1 ≤ rd h 86 (rd h 89 j) := by
          rcases sd with ⟨s, -⟩ | ⟨-, -, -, s⟩
          · omega
          · rw [e1, show mn = rd h 89 j by omega, ← z] at s
            exact s
        refine go m4 _ _ _ (by omega) (by omega) ?_ (Or.inl rm)
        rw [e1, e2]
        unfold rsd
        rw [if_neg (by decide), show mn = rd h 89 j by omega, ← z]
        omega
      · have e1 := ed y1
        have e2 := sn (by omega)
        have z := xz _ vc
        rw [e1, ZC_lo (by omega)] at z
        have f9 : Z (14 * (mn / 10) + rd h 88 (rd h 89 j)) ≤ 9 := by
          rw [e1] at fc vc
          have a := fc.2 (by omega)
          rcases vc with w | w
          · have b := (hr.2 _ w.1 w.2).2.2.2
            omega
          · omega
        have z1 : 1 ≤ Z (14 * (mn / 10) + rd h 88 (rd h 89 j)) := by
          rcases sd with ⟨s, -⟩ | ⟨-, -, -, s⟩
          · omega
          · rw [e1] at s
            exact s
        rw [z] at hm8
        refine go m8 _ _ _ (by omega) (by omega) ?_ (Or.inr (by omega))
        rw [e1, e2]
        unfold rsd
        rw [if_neg (by decide)]
        omega
      · have e1 := ed y1
        have e2 := sp (by omega)
        have z := xz _ vc
        rw [e1, ZC_lo (by omega)] at z
        have z1 : Z (14 * (mn / 10) + rd h 88 (rd h 89 j)) < cpAr K sh h0 (14 * (mn / 10) + rd h 88 (rd h 89 j)) := by
          rcases sd with ⟨-, -, -, s⟩ | ⟨s, -⟩
          · rw [e1] at s
            exact s (by omega)
          · omega
        rw [e1] at fc vc
        have cq := cpA_pos (K := K) (sh := sh) (h0 := h0) (i := 14 * (mn / 10) + rd h 88 (rd h 89 j)) (by omega)
        obtain ⟨am, ad⟩ := arc_ld (d := rd h 88 (rd h 89 j)) (l := mn / 10) (by omega)
        have ce := cq.2
        have dd := cq.1.1
        rw [am] at ce dd
        have pt : rd h (q + 1) (rd h 88 (rd h 89 j)) = q + 7 + rd h 88 (rd h 89 j) := (xc.2.1 q hq).1 _ (by omega) (by omega)
        have d7 : rd h (q + 7 + rd h 88 (rd h 89 j)) 7 = K.1 (8 * rd h 88 (rd h 89 j) + 10) := (CXq_d xc (by omega) dd).2.2.2.1
        have c9 : cpAr K sh h0 (14 * (mn / 10) + rd h 88 (rd h 89 j)) ≤ 9 := by
          rcases vc with w | w
          · exact (hr.2 _ w.1 w.2).2.2.2
          · omega
        rw [pt, d7, z, ← ce, w32_id (by unfold i32; omega)] at hm10
        refine go m10 _ _ _ (by omega) (by omega) ?_ (Or.inr (by omega))
        rw [e1, e2]
        unfold rsd
        rw [if_pos rfl, if_pos (by omega)]
        omega
  obtain ⟨j, j0, j1, j2⟩ := ct.1.2.2.2 snk vs
  have z := loop 251 j 0 1000000 none none none none Q (by omega) j0 j1 (by omega) (by omega) (by omega) (by omega) (fun r r1 r2 r3 r4 => k r r1 (r3 (by rw [j2]; exact hn)) (by rw [← j2]; exact r4))
  rw [j2] at z
  exact B_Crowd_narrowest_0 hq (RF_of hI.1) z
theorem F_send (hI : INV h) (hr : RMS L tl hd cp) (fz : FEA L cp Z) (ct : CTC L tl hd cp Z src h) (hZ : ZC h = Z) (hs : 0 ≤ src ∧ src ≤ 9) (vs : visC h snk) (m0 : 1 ≤ m ∧ m ≤ 9) (hB : ∀ c, vldC L c → Z c ≤ 100000) (lq : LEQ cp Z (rd h 87) (arcC h) (sgC h) src m snk) (gd : GOOD L tl hd cp src snk Z v) (k : ∀ g, INV g → frS h g → GOOD L tl hd cp src snk (ZC g) (v + m) → (∀ c, vldC L c → ZC g c ≤ Z c + m) → Q none g) : Rn xs xl e mm_Crowd_send 0 [some (.inr (.inr 84)), some (.inl src), some (.inl snk), some (.inl m), none, none, none, none, none, none] [] h Q := by
  have q5 := rG_84_5 hI.1
  have loop : ∀ (fu : Nat) (j i : Int) (o6 o7 o8 o9 : Option LV) (g : LH), j < fu → 0 ≤ j → j < rd h 84 5 → 0 ≤ i → i + j ≤ 249 → INV g → frS h g → AUG L tl hd cp Z (ZC g) (rd h 89) (arcC h) (rd h 84 5) src snk m j → LEQ cp Z (rd h 87) (arcC h) (sgC h) src m (rd h 89 j) → Rn xs xl e mm_Crowd_send 6 [some (.inr (.inr 84)), some (.inl src), some (.inl snk), some (.inl m), some (.inl (rd h 89 j)), some (.inl i), o6, o7, o8, o9] [] g Q := by
    intro fu
    induction fu with
    | zero =>
      intro j i o6 o7 o8 o9 g hj j0
      omega
    | succ fu ih =>
      intro j i o6 o7 o8 o9 g hj j0 j1 i0 i1 gI gf ag lj
      have vj := (ct.1.2.1 j j0 j1).1.2
      have e87 : ∀ n, rd g 87 n = rd h 87 n := fun n => gf 87 n (by decide) (by decide)
      have e88 : ∀ n, rd g 88 n = rd h 88 n := fun n => gf 88 n (by decide) (by decide)
      have row := B_Crowd_send_6 (xs := xs) (xl := xl) (e := e) (h := g) (Q := Q) (v1 := src) (v2 := snk) (v3 := m) (v4 := rd h 89 j) (v5 := i) (o6 := o6) (o7 := o7) (o8 := o8) (o9 := o9) (RF_of gI.1) (by omega) vj (by omega)
      rw [e87, e88] at row
      have done : rd h 89 j = src → Q none g := fun z => k g gI gf (AUG_end gd ag z) ag.2.2.1
      refine row ⟨fun c => by omega, fun c => ⟨done, fun ns mn hmn => ?_⟩⟩
      clear row
      obtain ⟨st, _, p, p0, p1, pe⟩ := CTC_arc hr ct j0 j1 ns
      obtain ⟨l1, l2⟩ := LEQ_1 lj ns
      obtain ⟨_, sm, p', p0', p1', pe', nxt⟩ := AUG_st hr ct.1 fz j0 j1 ns ag m0.1 l1
      have b8 := rB_88 hI.1 (i := rd h 89 j) (by omega)
      obtain ⟨vc, sd⟩ := id st
      have en := endsQ hr vc
      have fc := fz _ vc
      have bc := hB _ vc
      have pv : 0 ≤ rd h 87 (rd h 89 j) ∧ rd h 87 (rd h 89 j) ≤ 249 := by
        rw [← pe]
        exact (ct.1.2.1 p p0 (by omega)).1.2
      have pn : rd h 87 (rd h 89 j) ≠ rd h 89 j := by
        rcases sd with ⟨-, a, b, -⟩ | ⟨-, a, b, -⟩ <;> omega
      have mne : mn = mnF (rd h 87 (rd h 89 j)) (rd h 89 j) := by
        unfold mnF
        split <;> omega
      have mlo : 0 ≤ mn ∧ mn ≤ 249 := by omega
      have ew : rd h 88 (rd h 89 j) = -1 → arcC h (rd h 89 j) = 1000 + mn := fun y1 => by
        unfold arcC arcF
        rw [if_pos y1, mne]
      have ed : rd h 88 (rd h 89 j) ≠ -1 → arcC h (rd h 89 j) = 14 * (mn / 10) + rd h 88 (rd h 89 j) := fun y1 => by
        unfold arcC arcF
        rw [if_neg y1, mne]
      have vd : rd h 88 (rd h 89 j) ≠ -1 → 0 ≤ 14 * (mn / 10) + rd h 88 (rd h 89 j) ∧ 14 * (mn / 10) + rd h 88 (rd h 89 j) < 336 := fun y1 => by
        have e1 := ed y1
        have r0 := hr.1
        rw [e1] at vc
        rcases vc with w | w <;> omega
      have sp : rd h 87 (rd h 89 j) < rd h 89 j → sgC h (rd h 89 j) = 1 := fun y => by
        unfold sgC sgF
        rw [if_pos y]
      have sn : ¬ rd h 87 (rd h 89 j) < rd h 89 j → sgC h (rd h 89 j) = -1 := fun y => by
        unfold sgC sgF
        rw [if_neg y]
      have go : ∀ (w : LH) (o o' o'' : Option LV), INV w → frS h w → (∀ c, c ≠ arcC h (rd h 89 j) → ZC w c = ZC g c) → ZC w (arcC h (rd h 89 j)) = ZC g (arcC h (rd h 89 j)) + sgC h (rd h 89 j) * m → Rn xs xl e mm_Crowd_send 104 [some (.inr (.inr 84)), some (.inl src), some (.inl snk), some (.inl m), some (.inl (rd h 89 j)), some (.inl i), some (.inl (rd h 87 (rd h 89 j))), o, o', o''] [] w Q := fun w o o' o'' wI wf w1 w2 => by
        have := ih p' (i + 1) (some (.inl (rd h 87 (rd h 89 j)))) o o' o'' w (by omega) p0' (by omega) (by omega) (by omega) wI wf (nxt (ZC w) w1 w2) (by rw [pe']; exact l2)
        rw [pe'] at this
        exact B_Crowd_send_104 (RF_of wI.1) (by omega) this
      have door : ∀ (s v : Int) (o o' o'' : Option LV), rd h 88 (rd h 89 j) ≠ -1 → sgC h (rd h 89 j) = s → v = ZC g (14 * (mn / 10) + rd h 88 (rd h 89 j)) + s * m → (-2147483648 ≤ v ∧ v ≤ 2147483647) → Rn xs xl e mm_Crowd_send 104 [some (.inr (.inr 84)), some (.inl src), some (.inl snk), some (.inl m), some (.inl (rd h 89 j)), some (.inl i), some (.inl (rd h 87 (rd h 89 j))), o, o', o''] [] (wr g 85 (14 * (mn / 10) + rd h 88 (rd h 89 j)) v) Q := fun s v o o' o'' y1 es ev vb => by
        have e1 := ed y1
        refine go _ o o' o'' (wB_85 gI vb.1 vb.2) (fun a l n1 n2 => (rdw_ne (fun z => n1 z.symm)).trans (gf a l n1 n2)) (fun c hc => ?_) ?_
        · rw [e1] at hc
          unfold ZC
          by_cases z : c < 1000
          · rw [if_pos z, if_pos z, rdw_nei (fun w => hc w.symm)]
          · rw [if_neg z, if_neg z, rdw_ne (by decide)]
        · rw [e1, es, ZC_lo (by omega), rdw_eq, ev]
      have wait : ∀ (s v : Int) (o o' o'' : Option LV), rd h 88 (rd h 89 j) = -1 → sgC h (rd h 89 j) = s → v = ZC g (1000 + mn) + s * m → (-2147483648 ≤ v ∧ v ≤ 2147483647) → Rn xs xl e mm_Crowd_send 104 [some (.inr (.inr 84)), some (.inl src), some (.inl snk), some (.inl m), some (.inl (rd h 89 j)), some (.inl i), some (.inl (rd h 87 (rd h 89 j))), o, o', o''] [] (wr g 86 mn v) Q := fun s v o o' o'' y1 es ev vb => by
        have e1 := ew y1
        refine go _ o o' o'' (wB_86 gI vb.1 vb.2) (fun a l n1 n2 => (rdw_ne (fun z => n2 z.symm)).trans (gf a l n1 n2)) (fun c hc => ?_) ?_
        · rw [e1] at hc
          unfold ZC
          by_cases z : c < 1000
          · rw [if_pos z, if_pos z, rdw_ne (by decide)]
          · rw [if_neg z, if_neg z, rdw_nei (by omega)]
        · rw [e1, es, ZC_hi (by omega), rdw_eq, ev, ZC_hi (by omega)]
      have zd : rd h 88 (rd h 89 j) ≠ -1 → rd g 85 (14 * (mn / 10) + rd h 88 (rd h 89 j)) = ZC g (14 * (mn / 10) + rd h 88 (rd h 89 j)) ∧ ZC g (14 * (mn / 10) + rd h 88 (rd h 89 j)) = Z (arcC h (rd h 89 j)) := fun y1 => by
        have e1 := ed y1
        rw [e1] at sm
        rw [e1]
        exact ⟨(ZC_lo (by omega)).symm, sm⟩
      have zw : rd h 88 (rd h 89 j) = -1 → rd g 86 mn = ZC g (1000 + mn) ∧ ZC g (1000 + mn) = Z (arcC h (rd h 89 j)) := fun y1 => by
        have e1 := ew y1
        rw [e1] at sm
        rw [e1]
        exact ⟨(ZC_hi (by omega)).symm, sm⟩
      have wl : rd h 88 (rd h 89 j) = -1 → mn < 240 := fun y1 => by
        have e1 := ew y1
        have r0 := hr.1
        rw [e1] at vc
        rcases vc with w | w <;> omega
      have wm : w32 (-m) = -m := w32_id (by unfold i32; omega)
      have r0 := hr.1
      refine ⟨fun c3 => ⟨fun y1 => ⟨by omega, by omega, by have := vd y1; omega, by have := vd y1; omega, by have := vd y1; omega, ?_⟩, fun y1 => ⟨by have := wl y1; omega, by have := wl y1; omega, ?_⟩⟩, fun c3 => ⟨fun y1 => ⟨by omega, by omega, by have := vd y1; omega, by have := vd y1; omega, by have := vd y1; omega, ?_⟩, fun y1 => ⟨by have := wl y1; omega, by have := wl y1; omega, ?_⟩⟩⟩
      · obtain ⟨a, b⟩ := zd y1
        rw [wm, a, w32_id (by unfold i32; omega)]
        exact door (-1) _ _ _ _ y1 (sn (by omega)) (by omega) (by omega)
      · obtain ⟨a, b⟩ := zw y1
        rw [wm, a, w32_id (by unfold i32; omega)]
        exact wait (-1) _ _ _ _ y1 (sn (by omega)) (by omega) (by omega)
      · obtain ⟨a, b⟩ := zd y1
        rw [a, w32_id (by unfold i32; omega)]
        exact door 1 _ _ _ _ y1 (sp (by omega)) (by omega) (by omega)
      · obtain ⟨a, b⟩ := zw y1
        rw [a, w32_id (by unfold i32; omega)]
        exact wait 1 _ _ _ _ y1 (sp (by omega)) (by omega) (by omega)
  obtain ⟨j, j0, j1, j2⟩ := ct.1.2.2.2 snk vs
  have z := loop 251 j 0 none none none none h (by omega) j0 j1 (by omega) (by omega) hI (fun _ _ _ _ => rfl) (by rw [hZ]; exact AUG_0 fz (by omega) j2) (by rw [j2]; exact lq)
  rw [j2] at z
  exact B_Crowd_send_0 (RF_of hI.1) z
theorem F_most (he : 4 ≤ e) (hI : INV h) (hc : CXq h K q Lw) (hK : KR K) (e0 : rd h 60 0 = h0) (e1 : rd h 60 1 = sh) (hs : 0 ≤ src ∧ src ≤ 9) (ht : 0 ≤ to ∧ to ≤ 9) (ne : src ≠ to) (hh : 0 ≤ h0 ∧ h0 ≤ t ∧ t ≤ 23) (k : ∀ r g, INV g → frM h g → mxA K sh h0 (t - h0 + 1) src (10 * (t - h0 + 1) + to) r → Q (some (.inl r)) g) : Rn xs xl e mm_Crowd_most 0 [some (.inr (.inr 84)), some (.inr (.inr q)), some (.inr (.inr 60)), some (.inl src), some (.inl to), some (.inl t), none, none, none, none] [] h Q := by
  have hq := hc.2.2.1
  generalize eL : t - h0 + 1 = L at *
  have hr := RMS_A (L := L) (h0 := h0) (sh := sh) hK ⟨by omega, by omega⟩
  have i1 := wG_84_6 hI (v := rd h 60 0) (by omega) (by omega)
  have i2 := wG_84_7 i1 (v := t - rd h 60 0 + 1) (by omega) (by omega)
  refine B_Crowd_most_0 hq (RF_of hI.1) ⟨by omega, by omega, 0, by omega, F_fill85 i2 (fun g1 i3 f1 z1 => B_Crowd_most_29 hq (RF_of i3.1) ⟨0, by omega, F_fill86 i3 (fun g2 i4 f2 z2 => ?_)⟩)⟩
  have m1 : frM h g2 := fun a i n1 n2 n3 n4 n5 n6 => by
    rw [f2 a i n3, f1 a i n2, rdw_ne (fun z => n1 z.symm), rdw_ne (fun z => n1 z.symm)]
  have e6 : rd g2 84 6 = h0 := by rw [f2 84 6 (by decide), f1 84 6 (by decide), rdw_nei (by decide), rdw_eq, e0]
  have e7 : rd g2 84 7 = L := by rw [f2 84 7 (by decide), f1 84 7 (by decide), rdw_eq, e0, eL]
  have xx : ∀ g, INV g → frM h g → rd g 84 6 = h0 → rd g 84 7 = L → XCC L (ZC g) K q Lw sh h0 g := fun g gI gf g6 g7 => ⟨CXq_fr hc hK (RF_of gI.1) (fun a i ha => gf a i (by omega) (by omega) (by omega) (by omega) (by omega) (by omega)), hK, ⟨by omega, by omega, by omega⟩, g6, g7, fun _ _ => rfl⟩
  have zz : ∀ c, vldC L c → ZC g2 c = 0 := fun c vc => by
    unfold ZC
    rcases vc with w | w
    · rw [if_pos (by omega), f2 85 c (by decide)]
      exact z1 c w.1 (by omega)
    · rw [if_neg (by omega)]
      exact z2 _ (by omega) (by omega)
  have loop : ∀ (fu : Nat) (i all : Int) (o9 : Option LV) (g : LH), 3024 - all < fu → 0 ≤ i → i ≤ all → INV g → frM h g → rd g 84 6 = h0 → rd g 84 7 = L → GOOD L (tlA K h0) (hdA K h0) (cpAr K sh h0) src (10 * L + to) (ZC g) all → (∀ c, vldC L c → ZC g c ≤ 9 * i) → Rn xs xl e mm_Crowd_most 55 [some (.inr (.inr 84)), some (.inr (.inr q)), some (.inr (.inr 60)), some (.inl src), some (.inl to), some (.inl t), some (.inl (10 * L + to)), some (.inl all), some (.inl i), o9] [] g Q := by
    intro fu
    induction fu with
    | zero =>
      intro i all o9 g hf i0 ia gI gf g6 g7 gd gb
      have := val_le (to := to) hr gd (by omega) (by omega)
      omega
    | succ fu ih =>
      intro i all o9 g hf i0 ia gI gf g6 g7 gd gb
      have vl := val_le (to := to) hr gd (by omega) (by omega)
      have x := xx g gI gf g6 g7
      have s60 : rd g 60 1 = sh := (gf 60 1 (by decide) (by decide) (by decide) (by decide) (by decide) (by decide)).trans e1
      refine B_Crowd_most_55 hq (RF_of gI.1) (by omega) ⟨fun c => by omega, fun c => ⟨3, by omega, ?_⟩⟩
      rw [s60]
      refine F_findPath (Nat.le_refl 3) gI x gd.1 hs (by omega) (fun u uI ut uv uf => ?_) (fun u uI us uf => ?_)
      · have ux := XCC_fr x (RF_of uI.1) uf
        have uZ : ZC u = ZC g := funext (fun c => by
          unfold ZC
          rw [uf 85 c (by omega) (by decide) (by decide) (by decide), uf 86 (c - 1000) (by omega) (by decide) (by decide) (by decide)])
        refine B_Crowd_most_75 hq (RF_of uI.1) ⟨fun z => absurd z (by decide), fun _ => ⟨0, by omega, F_narrowest uI ux gd.1 ut hs uv (by omega) (fun m m0 m9 lm => B_Crowd_most_86 hq (RF_of uI.1) ⟨0, by omega, F_send uI hr gd.1 ut uZ hs uv ⟨m0, m9⟩ (fun c vc => by have := gb c vc; omega) lm gd (fun w wI wf wg wb => ?_)⟩)⟩⟩
        refine B_Crowd_most_97 hq (RF_of wI.1) (by omega) ?_
        rw [w32_id (by unfold i32; omega)]
        refine ih (i + 1) (all + m) _ w (by omega) (by omega) (by omega) wI (fun a l n1 n2 n3 n4 n5 n6 => (wf a l n2 n3).trans ((uf a l (fun z => n1 z.1) n4 n5 n6).trans (gf a l n1 n2 n3 n4 n5 n6))) ?_ ?_ wg (fun c vc => ?_)
        · rw [wf 84 6 (by decide) (by decide), uf 84 6 (by omega) (by decide) (by decide) (by decide)]
          exact g6
        · rw [wf 84 7 (by decide) (by decide), uf 84 7 (by omega) (by decide) (by decide) (by decide)]
          exact g7
        · have a := wb c vc
          have b := gb c vc
          omega
      · exact B_Crowd_most_75 hq (RF_of uI.1) ⟨fun _ => k all u uI (fun a l n1 n2 n3 n4 n5 n6 => (uf a l (fun z => n1 z.1) n4 n5 n6).trans (gf a l n1 n2 n3 n4 n5 n6)) ⟨_, _, gd, us⟩, fun z => absurd rfl z⟩
  refine B_Crowd_most_37 hq (RF_of i4.1) ?_
  rw [e7]
  exact ⟨by omega, by omega, loop 3025 0 0 none g2 (by omega) (by omega) (by omega) i4 m1 e6 e7 (GOOD_0 hr zz) (fun c vc => by rw [zz c vc]; omega)⟩
theorem E_crowdS (he : 8 ≤ e) (hI : INV h) (hE : EQL h) (h1 : i32 v1) (h2 : i32 v2) (h3 : i32 v3) (k : ∀ r g, INV g → crJ v1 v2 v3 h g r → Q (some (.inl r)) g) : Rn xs xl e mm_OneSided_crowd 0 [some (.inr (.inr 1)), some (.inl v1), some (.inl v2), some (.inl v3)] [] h Q := by
  obtain ⟨L, hc⟩ := CXq_of hI hE
  have hK := KR_of hI
  have hq : rd h 1 1 = 5 ∨ rd h 1 1 = 32 := rQf hI.1
  obtain ⟨-, -, -, -, ⟨c0, -, -⟩, -⟩ := id hc
  have c0' : rd h (rd h 1 1) 0 = rd h 188 0 := c0
  have n0 := rq_rooms hI.1
  have k5 := hE.2.2.2.2.2.2.2.2.2.2.2.1
  have e0 : rd h 60 0 = rd h 198 0 := k5.1
  have e1 : rd h 60 1 = rd h 198 1 := k5.2.1
  have h24 := rG_60_0 hI.1
  have no : ¬ crC h v1 v2 v3 → Q (some (.inl (-1))) h := fun z => k (-1) h hI ⟨fun _ _ _ _ _ _ _ _ => rfl, Or.inl ⟨z, rfl⟩⟩
  refine B_OneSided_crowd_0 hq rfl (RF_of hI.1) (by omega) ⟨fun c => no (fun z => by have := z.1; omega), fun a1 => ⟨fun c => no (fun z => by have := z.1; omega), fun a2 => ⟨fun c => no (fun z => by have := z.2.1; omega), fun a3 => ⟨fun c => no (fun z => by have := z.2.1; omega), fun a4 => ⟨fun a5 => ⟨fun c => no (fun z => by have := z.2.2.2; omega), fun a6 => ⟨fun a7 => ⟨4, by omega, ?_⟩, fun c => no (fun z => by have := z.2.2.2; omega)⟩⟩, fun c => no (fun z => z.2.2.1 c)⟩⟩⟩⟩⟩
  exact F_most (Nat.le_refl 4) hI hc hK e0 e1 (by omega) (by omega) a5 (by omega) (fun r g gI gf gm => B_OneSided_crowd_66 (RF_of gI.1) (k r g gI ⟨gf, Or.inr ⟨⟨⟨a1, by omega⟩, ⟨a3, by omega⟩, a5, by omega, by omega⟩, gm⟩⟩))
end M3
end
section
/-! crowd, part m4: the reference's search through the hours -/
def ZR (h0 : Int) (g : LH) (c : Int) : Int := if c < 1000 then rd g 204 (14 * h0 + c) else rd g 205 (10 * h0 + c - 1000)
def visR (h0 : Int) (g : LH) (n : Int) : Prop := rd g 206 (n + 10 * h0) ≠ -1 ∧ 0 ≤ n + 10 * h0 ∧ n + 10 * h0 ≤ 249
def qRf (h0 : Int) (g : LH) (j : Int) : Int := rd g 207 j - 10 * h0
noncomputable def parY (K : KEY) (sh h0 n y : Int) : Int := if y = 400 then n - 10 else if y = 1200 then n + 10 else if y < 400 then 10 * (n / 10 - 1) + (K.1 (8 * y + 5) + K.1 (8 * y + 6) - n % 10) else 10 * (n / 10 + 1) + LF K (y - 800) 0 (n % 10) (h0 + n / 10) sh 0
def arcY (n y : Int) : Int := if y = 400 then 1000 + (n - 10) else if y = 1200 then 1000 + n else if y < 400 then 14 * (n / 10 - 1) + y else 14 * (n / 10) + (y - 800)
def sgY (y : Int) : Int := if y = 400 then 1 else if y = 1200 then -1 else if y < 400 then 1 else -1
noncomputable def parR (K : KEY) (sh h0 : Int) (g : LH) (n : Int) : Int := parY K sh h0 n (rd g 206 (n + 10 * h0))
def arcR (h0 : Int) (g : LH) (n : Int) : Int := arcY n (rd g 206 (n + 10 * h0))
def sgR (h0 : Int) (g : LH) (n : Int) : Int := sgY (rd g 206 (n + 10 * h0))
def okY (K : KEY) (y : Int) : Prop := y = 400 ∨ y = 1200 ∨ (0 ≤ y ∧ y < K.1 1) ∨ (0 ≤ y - 800 ∧ y - 800 < K.1 1)
def CTR (K : KEY) (sh h0 L : Int) (Z : Int → Int) (src : Int) (g : LH) : Prop := TREE L (tlA K h0) (hdA K h0) (cpAr K sh h0) Z (qRf h0 g) (parR K sh h0 g) (arcR h0 g) (sgR h0 g) (visR h0 g) (rd g 182 42) src ∧ rd g 182 42 ≤ cnt (rd g 206) ∧ ∀ n, visR h0 g n → n ≠ src → okY K (rd g 206 (n + 10 * h0))
def VXR (K : KEY) (S : Int → Int) (L : Int) (Z : Int → Int) (src : Int) (h g : LH) : Prop := WC K S g ∧ CTR K (S 1) (S 0) L Z src g ∧ (∀ m, visR (S 0) h m → visR (S 0) g m) ∧ (∀ j, 0 ≤ j → j < rd h 182 42 → rd g 207 j = rd h 207 j) ∧ rd h 182 42 ≤ rd g 182 42 ∧ frB h g
def FWn (K : KEY) (sh h0 L : Int) (Z : Int → Int) (n : Int) (g : LH) : Prop := ∀ c, vldC L c → tNq (tlA K h0) c = n → (c < 1000 → Z c < cpAr K sh h0 c) → visR h0 g (hNq (hdA K h0) c)
def BWn (K : KEY) (h0 L : Int) (Z : Int → Int) (n : Int) (g : LH) : Prop := ∀ c, vldC L c → hNq (hdA K h0) c = n → 1 ≤ Z c → visR h0 g (tNq (tlA K h0) c)
section M4
variable {xs : Nat → Int} {xl e : Nat} {h g u : LH} {Q : Option LV → LH → Prop} {K : KEY} {S : Int → Int} {L sh h0 src snk n f y d t room i j c : Int} {Z : Int → Int}
theorem VXR.trans {h1 h2 : LH} (a : VXR K S L Z src h h1) (b : VXR K S L Z src h1 h2) : VXR K S L Z src h h2 := ⟨b.1, b.2.1, fun m hm => b.2.2.1 m (a.2.2.1 m hm), fun j j0 j1 => (b.2.2.2.1 j j0 (by have := a.2.2.2.2.1; omega)).trans (a.2.2.2.1 j j0 j1), Int.le_trans a.2.2.2.2.1 b.2.2.2.2.1, a.2.2.2.2.2.trans b.2.2.2.2.2⟩
theorem VXR.refl (w : WC K S h) (c : CTR K (S 1) (S 0) L Z src h) : VXR K S L Z src h h := ⟨w, c, fun _ hm => hm, fun _ _ _ => rfl, Int.le_refl _, fun _ _ _ _ _ _ _ => rfl⟩
theorem NT_LF (t1 : t < 24) : NT K S d room t = LF K d 0 room t (S 1) 0 := by
  unfold NT NW
  exact if_pos t1
theorem CTR_L (f : frL h g) (c : CTR K sh h0 L Z src h) : CTR K sh h0 L Z src g := by
  have e6 : rd g 206 = rd h 206 := funext (fun j => f 206 j (by decide) (by decide))
  have e7 : rd g 207 = rd h 207 := funext (fun j => f 207 j (by decide) (by decide))
  have e3 : rd g 182 42 = rd h 182 42 := f 182 42 (by decide) (by decide)
  have a1 : qRf h0 g = qRf h0 h := funext (fun j => by unfold qRf; rw [e7])
  have a2 : parR K sh h0 g = parR K sh h0 h := funext (fun j => by unfold parR; rw [e6])
  have a3 : arcR h0 g = arcR h0 h := funext (fun j => by unfold arcR; rw [e6])
  have a4 : sgR h0 g = sgR h0 h := funext (fun j => by unfold sgR; rw [e6])
  have a5 : visR h0 g = visR h0 h := funext (fun j => by unfold visR; rw [e6])
  unfold CTR
  rw [a1, a2, a3, a4, a5, e3, e6]
  exact c
theorem VXR_L (v : VXR K S L Z src h g) (w : WC K S u) (f : frL g u) : VXR K S L Z src h u := by
  have e6 : rd u 206 = rd g 206 := funext (fun j => f 206 j (by decide) (by decide))
  refine ⟨w, CTR_L f v.2.1, fun m hm => ?_, fun j j0 j1 => (f 207 j (by decide) (by decide)).trans (v.2.2.2.1 j j0 j1), ?_, v.2.2.2.2.2.trans (frB_L f)⟩
  · have := v.2.2.1 m hm
    unfold visR at this ⊢
    rw [e6]
    exact this
  · rw [f 182 42 (by decide) (by decide)]
    exact v.2.2.2.2.1
/-- a place more, if it is new -/
theorem G_comes (w : WC K S h) (ct : CTR K (S 1) (S 0) L Z src h) (hx : 0 ≤ n + 10 * S 0 ∧ n + 10 * S 0 ≤ 249) (hy : 0 ≤ y ∧ y ≤ 2000) (oy : okY K y) (hf : visR (S 0) h f) (ep : parY K (S 1) (S 0) n y = f) (st : STP L (tlA K (S 0)) (hdA K (S 0)) (cpAr K (S 1) (S 0)) Z n f (arcY n y) (sgY y)) (x : Int) (ex : x = n + 10 * S 0) (k : ∀ g, VXR K S L Z src h g → visR (S 0) g n → Q none g) : Rn xs xl e mm_comes 0 [some (.inr (.inr 182)), some (.inl x), some (.inl y)] [] h Q := by
  have t0 := rF_tail0 w.1.1
  rw [ex]
  refine B_comes_0 (RF_of w.1.1) hx ⟨fun c => k h (VXR.refl w ct) ⟨c, hx⟩, fun c1 => ?_⟩
  have lt := cnt_lt (c := rd h 206) hx c1
  have cl := ct.2.1
  have t1 := ct.1.1.1
  refine ⟨by omega, by omega, ?_⟩
  have i1 := wA_cameBy w.1 (i := n + 10 * S 0) (v := y) (by omega) (by omega) (by omega)
  have i2 := wA_queue i1 (i := rd h 182 42) (v := n + 10 * S 0) (by omega) (by omega) (by omega)
  have i3 := wF_tail0 i2 (v := rd h 182 42 + 1) (by omega) (by omega)
  generalize hg : wr (wr (wr h 206 (n + 10 * S 0) y) 207 (rd h 182 42) (n + 10 * S 0)) 182 42 (rd h 182 42 + 1) = g at *
  have e6 : ∀ i, i ≠ n + 10 * S 0 → rd g 206 i = rd h 206 i := fun i hi => by rw [← hg, rdw_ne (by decide), rdw_ne (by decide), rdw_nei (fun q => hi q.symm)]
  have e6x : rd g 206 (n + 10 * S 0) = y := by rw [← hg, rdw_ne (by decide), rdw_ne (by decide), rdw_eq]
  have e7 : ∀ i, i ≠ rd h 182 42 → rd g 207 i = rd h 207 i := fun i hi => by rw [← hg, rdw_ne (by decide), rdw_nei (fun q => hi q.symm), rdw_ne (by decide)]
  have e7t : rd g 207 (rd h 182 42) = n + 10 * S 0 := by rw [← hg, rdw_ne (by decide), rdw_eq]
  have et : rd g 182 42 = rd h 182 42 + 1 := by rw [← hg, rdw_eq]
  have fr : frB h g := by
    intro a i n1 n2 n3 n4 n5
    rw [← hg, rd_wr, if_neg (by rintro ⟨rfl, rfl⟩; exact n5 ⟨rfl, rfl⟩), rdw_ne (fun q => n4 q.symm), rdw_ne (fun q => n3 q.symm)]
  have up := cnt_up (c := rd h 206) (c' := rd g 206) hx c1 (by rw [e6x]; omega) e6
  have vg : ∀ m, visR (S 0) g m ↔ visR (S 0) h m ∨ m = n := fun m => by
    unfold visR
    by_cases z : m = n
    · rw [z, e6x]
      exact ⟨fun _ => Or.inr rfl, fun _ => ⟨by omega, hx⟩⟩
    · rw [e6 (m + 10 * S 0) (by omega)]
      exact ⟨Or.inl, fun w => w.resolve_right z⟩
  refine k g ⟨WC_same w i3 (fun a i ha => fr a i (by omega) (by omega) (by omega) (by omega) (by omega)), ⟨?_, by omega, fun m hm nm => ?_⟩, fun m hm => (vg m).mpr (Or.inl hm), fun j j0 j1 => e7 j (by omega), by omega, fr⟩ ((vg n).mpr (Or.inr rfl))
  · rw [et]
    refine TREE_add (n := n) ct.1 (fun z => z.1 c1) ?_ ?_ (fun j j0 j1 => ?_) ?_ (fun m hm => ⟨?_, ?_, ?_⟩) vg
    · unfold parR arcR sgR
      rw [e6x, ep]
      exact st
    · unfold parR
      rw [e6x, ep]
      exact hf
    · unfold qRf
      rw [e7 j (by omega)]
    · unfold qRf
      rw [e7t]
      omega
    · unfold parR
      rw [e6 (m + 10 * S 0) (by omega)]
    · unfold arcR
      rw [e6 (m + 10 * S 0) (by omega)]
    · unfold sgR
      rw [e6 (m + 10 * S 0) (by omega)]
  · rcases (vg m).mp hm with z | z
    · have ne : m ≠ n := fun t => z.1 (by rw [t]; exact c1)
      rw [e6 (m + 10 * S 0) (by omega)]
      exact ct.2.2 m z nm
    · rw [z, e6x]
      exact oy
/-- from a place on: all that can be come to -/
theorem G_spreads (he : 6 ≤ e) (w : WC K S h) (hK : KR K) (hl : (0 ≤ S 0 ∧ 1 ≤ L ∧ S 0 + L ≤ 24)) (fz : FEA L (cpAr K (S 1) (S 0)) Z) (hZ : ZR (S 0) h = Z) (ct : CTR K (S 1) (S 0) L Z src h) (hv : visR (S 0) h n) (nL : 0 ≤ n ∧ n < 10 * L + 10) (k : ∀ g, VXR K S L Z src h g → FWn K (S 1) (S 0) L Z n g → BWn K (S 0) L Z n g → Q none g) : Rn xs xl e mm_spreads 0 [some (.inr (.inr 182)), some (.inl (n + 10 * S 0)), some (.inl (S 0)), some (.inl (S 0 + L - 1)), none, none, none, none] [] h Q := by
  have k1 := hK.2.1
  have hr := RMS_A (L := L) (h0 := S 0) (sh := S 1) hK ⟨by omega, by omega⟩
  have x1 : (n + 10 * S 0) / 10 = n / 10 + S 0 := by omega
  have x2 : (n + 10 * S 0) % 10 = n % 10 := by omega
  generalize exx : n + 10 * S 0 = X at *
  have hX : 0 ≤ X ∧ X ≤ 249 := by
    have := hv.2
    omega
  have ef : ∀ {g : LH}, frB h g → (∀ c, 0 ≤ c → c < 14 * L → rd g 204 (14 * S 0 + c) = Z c) ∧ ∀ c, 0 ≤ c → c < 10 * L → rd g 205 (10 * S 0 + c) = Z (1000 + c) := fun {g} gf => by
    refine ⟨fun c c0 c1 => ?_, fun c c0 c1 => ?_⟩
    · rw [gf 204 _ (by decide) (by decide) (by decide) (by decide) (by omega), ← hZ]
      unfold ZR
      rw [if_pos (by omega)]
    · rw [gf 205 _ (by decide) (by decide) (by decide) (by decide) (by omega), ← hZ]
      unfold ZR
      rw [if_neg (by omega), show 10 * S 0 + (1000 + c) - 1000 = 10 * S 0 + c by omega]
  have e188 : ∀ {g : LH}, WC K S g → ∀ i, rd g 188 i = K.1 i := fun {g} gw i => by rw [← gw.2.1]; rfl
  have vm : ∀ {g g' : LH}, (∀ m, visR (S 0) g m → visR (S 0) g' m) → FWn K (S 1) (S 0) L Z n g → FWn K (S 1) (S 0) L Z n g' := fun hm hw c hc a b => hm _ (hw c hc a b)
  have vh : ∀ {g : LH}, VXR K S L Z src h g → visR (S 0) g n := fun v => v.2.2.1 n hv
  -- who may come fewer
  have l142 : ∀ (m : Nat) (g : LH) (d : Int) (o7 : Option LV), K.1 1 - d ≤ m → 0 ≤ d → d ≤ K.1 1 → VXR K S L Z src h g → FWn K (S 1) (S 0) L Z n g → (10 ≤ n → 1 ≤ Z (1000 + (n - 10)) → visR (S 0) g (n - 10)) → (10 ≤ n → ∀ d', 0 ≤ d' → d' < d → hdA K (S 0) (14 * (n / 10 - 1) + d') = n % 10 → 1 ≤ Z (14 * (n / 10 - 1) + d') → visR (S 0) g (10 * (n / 10 - 1) + tlA K (S 0) (14 * (n / 10 - 1) + d'))) → Rn xs xl e mm_spreads 142 [some (.inr (.inr 182)), some (.inl X), some (.inl (S 0)), some (.inl (S 0 + L - 1)), some (.inl (n % 10)), some (.inl (n / 10 + S 0)), some (.inl d), o7] [] g Q := by
    intro m
    have stop : ∀ (g : LH) (d : Int), (K.1 1 ≤ d ∨ n < 10) → VXR K S L Z src h g → FWn K (S 1) (S 0) L Z n g → (10 ≤ n → 1 ≤ Z (1000 + (n - 10)) → visR (S 0) g (n - 10)) → (10 ≤ n → ∀ d', 0 ≤ d' → d' < d → hdA K (S 0) (14 * (n / 10 - 1) + d') = n % 10 → 1 ≤ Z (14 * (n / 10 - 1) + d') → visR (S 0) g (10 * (n / 10 - 1) + tlA K (S 0) (14 * (n / 10 - 1) + d'))) → Q none g := by
      intro g d c v fw cw dd
      refine k g v fw (fun c hc e1 e2 => ?_)
      have en := endsQ hr hc
      rcases hc with z | z
      · rw [hN_lo (by omega)] at e1
        rw [tN_lo (by omega)]
        have rr := hr.2 c z.1 z.2
        have e3 : c / 14 = n / 10 - 1 := by omega
        have e4 : c = 14 * (n / 10 - 1) + c % 14 := by omega
        have f := fz c (Or.inl z)
        have cd : c % 14 < K.1 1 := by
          have := f.2 (by omega)
          have := cpA_pos (K := K) (sh := S 1) (h0 := S 0) (i := c) (by omega)
          exact this.1.1
        have t := dd (by omega) (c % 14) (by omega) (by omega)
        rw [← e4, ← e3] at t
        exact t (by omega) e2
      · rw [hN_hi z.1] at e1
        rw [tN_hi z.1, show c - 1000 = n - 10 by omega]
        refine cw (by omega) ?_
        rw [show 1000 + (n - 10) = c by omega]
        exact e2
    induction m with
    | zero =>
      intro g d o7 hm d0 d1 v fw cw dd
      have e1 := e188 v.1 1
      exact B_spreads_142 (RF_of v.1.1.1) hX (by omega) (by omega) (by omega) (by omega) (by omega) (by omega) ⟨fun _ => stop g d (by omega) v fw cw dd, fun c => by omega⟩
    | succ m ih =>
      intro g d o7 hm d0 d1 v fw cw dd
      have e1 := e188 v.1 1
      have e5 := e188 v.1 (8 * d + 5)
      have e6 := e188 v.1 (8 * d + 6)
      refine B_spreads_142 (RF_of v.1.1.1) hX (by omega) (by omega) (by omega) (by omega) (by omega) (by omega) ⟨fun _ => stop g d (by omega) v fw cw dd, fun c => ⟨fun c2 => stop g d (by omega) v fw cw dd, fun c2 => ?_⟩⟩
      have dK : d < K.1 1 := by omega
      obtain ⟨am, ad⟩ := arc_ld (d := d) (l := n / 10 - 1) (by omega)
      have et : tlA K (S 0) (14 * (n / 10 - 1) + d) = sE K d (S 0 + (n / 10 - 1)) := by
        unfold tlA
        rw [am, ad, if_pos dK]
      have eh : hdA K (S 0) (14 * (n / 10 - 1) + d) = tE K d (S 0 + (n / 10 - 1)) := by
        unfold hdA
        rw [am, ad, if_pos dK]
      have vc : vldC L (14 * (n / 10 - 1) + d) := Or.inl ⟨by omega, by omega⟩
      have f := fz _ vc
      have f2 := f.2 (by omega)
      have zg := (ef v.2.2.2.2.2).1 (14 * (n / 10 - 1) + d) (by omega) (by omega)
      rw [show 14 * S 0 + (14 * (n / 10 - 1) + d) = 14 * (n / 10 + S 0) + d - 14 by omega] at zg
      have sr := st_rng (t := S 0 + (n / 10 - 1)) hK d0 dK
      rw [e5, e6, zg]
      have nx : ∀ (o : Option LV) (u : LH), VXR K S L Z src g u → (hdA K (S 0) (14 * (n / 10 - 1) + d) = n % 10 → 1 ≤ Z (14 * (n / 10 - 1) + d) → visR (S 0) u (10 * (n / 10 - 1) + tlA K (S 0) (14 * (n / 10 - 1) + d))) → Rn xs xl e mm_spreads 243 [some (.inr (.inr 182)), some (.inl X), some (.inl (S 0)), some (.inl (S 0 + L - 1)), some (.inl (n % 10)), some (.inl (n / 10 + S 0)), some (.inl d), o] [] u Q := fun o u vu hw => B_spreads_243 (RF_of vu.1.1.1) hX (by omega) (by omega) (by omega) (ih u (d + 1) o (by omega) (by omega) (by omega) (v.trans vu) (vm vu.2.2.1 fw) (fun a b => vu.2.2.1 _ (cw a b)) (fun a d' d0' d1' => by
        by_cases z : d' = d
        · rw [z]; exact hw
        · exact fun p q => vu.2.2.1 _ (dd a d' d0' (by omega) p q)))
      have s1 := VXR.refl v.1 v.2.1
      have G : ∀ b : Int, (K.1 (8 * d + 5) ≠ n % 10 ∧ b = K.1 (8 * d + 5)) ∨ (K.1 (8 * d + 5) = n % 10 ∧ b = K.1 (8 * d + 6)) → 0 < Z (14 * (n / 10 - 1) + d) → ∃ c, c < e ∧ Rn xs xl c mm_toOf 0 [some (.inr (.inr 182)), some (.inl d), some (.inl b), some (.inl (n / 10 + S 0 - 1))] [] g (fun r h' => Rn xs xl e mm_spreads 218 [some (.inr (.inr 182)), some (.inl X), some (.inl (S 0)), some (.inl (S 0 + L - 1)), some (.inl (n % 10)), some (.inl (n / 10 + S 0)), some (.inl d), some (.inl b)] (r.toList ++ []) h' Q) := by
        intro b hb z
        have b9 : 0 ≤ b ∧ b ≤ 9 := by omega
        refine ⟨5, by omega, D_toOf (Nat.le_refl 5) v.1 (by omega) b9 (by omega) (fun u uw uf => ?_)⟩
        rw [NT_LF (by omega)]
        have vu := VXR_L s1 uw uf
        have ls := LF_st (K := K) (d := d) (room := b) (t := n / 10 + S 0 - 1) (sh := S 1) (by omega) b9 (by omega)
        rw [show n / 10 + S 0 - 1 = S 0 + (n / 10 - 1) by omega] at ls ⊢
        have before : tE K d (S 0 + (n / 10 - 1)) = n % 10 → b = sE K d (S 0 + (n / 10 - 1)) := fun y => by omega
        refine B_spreads_218 (RF_of uw.1.1) hX (by omega) (by omega) (by omega) (by omega) (by omega) b9 ls.1 ⟨fun w' => nx _ u vu (fun a _ => ?_), fun w' => ⟨0, by omega, ?_⟩⟩
        · exfalso
          have y := (cpA_pos (K := K) (sh := S 1) (h0 := S 0) (i := 14 * (n / 10 - 1) + d) (by omega)).1
          unfold exAr at y
          rw [am, ad] at y
          rw [eh] at a
          have bs := before a
          rw [← bs] at y
          have := (ls.2 y.2).2
          omega
        · obtain ⟨l1, l2⟩ := ls.2 (by omega)
          refine G_comes (n := 10 * (n / 10 - 1) + b) (y := d + 800) (f := n) uw vu.2.1 (by omega) (by omega) (Or.inr (Or.inr (Or.inr (by omega)))) (vu.2.2.1 _ (vh v)) ?_ ?_ _ (by omega) (fun q vq qn => nx _ q (vu.trans vq) (fun _ _ => ?_))
          · unfold parY
            rw [if_neg (by omega), if_neg (by omega), if_neg (by omega), show d + 800 - 800 = d by omega, show (10 * (n / 10 - 1) + b) % 10 = b by omega, show (10 * (n / 10 - 1) + b) / 10 = n / 10 - 1 by omega, w']
            omega
          · unfold arcY sgY
            rw [if_neg (by omega), if_neg (by omega), if_neg (by omega), if_neg (by omega), if_neg (by omega), if_neg (by omega), show (10 * (n / 10 - 1) + b) / 10 = n / 10 - 1 by omega, show d + 800 - 800 = d by omega]
            refine ⟨vc, Or.inr ⟨rfl, ?_, ?_, by omega⟩⟩
            · rw [tN_lo (by omega), ad, et, ← l1]
            · rw [hN_lo (by omega), ad, eh, ← l2, w']
              omega
          · rw [et, ← l1]
            exact qn
      exact ⟨fun c3 => ⟨by omega, fun z => nx _ g s1 (fun _ y => by omega), fun z => G _ (Or.inl ⟨c3, rfl⟩) z⟩, fun c3 => ⟨by omega, fun z => nx _ g s1 (fun _ y => by omega), fun z => G _ (Or.inr ⟨c3, rfl⟩) z⟩⟩
  -- those who waited
  have t110 : ∀ (g : LH) (o6 o7 : Option LV), VXR K S L Z src h g → FWn K (S 1) (S 0) L Z n g → Rn xs xl e mm_spreads 110 [some (.inr (.inr 182)), some (.inl X), some (.inl (S 0)), some (.inl (S 0 + L - 1)), some (.inl (n % 10)), some (.inl (n / 10 + S 0)), o6, o7] [] g Q := by
    intro g o6 o7 v fw
    refine B_spreads_110 (RF_of v.1.1.1) hX (by omega) (by omega) (by omega) (by omega) ⟨fun c => l142 14 g 0 _ (by omega) (by omega) (by omega) v fw (fun a _ => by omega) (fun a => by omega), fun c => ⟨by omega, ?_, ?_⟩⟩
    · intro z
      have zg := (ef v.2.2.2.2.2).2 (n - 10) (by omega) (by omega)
      rw [show 10 * S 0 + (n - 10) = X - 10 by omega] at zg
      rw [zg] at z
      exact l142 14 g 0 _ (by omega) (by omega) (by omega) v fw (fun _ y => by omega) (fun _ d' d0 d1 => by omega)
    · intro z
      have zg := (ef v.2.2.2.2.2).2 (n - 10) (by omega) (by omega)
      rw [show 10 * S 0 + (n - 10) = X - 10 by omega] at zg
      rw [zg] at z
      refine ⟨0, by omega, G_comes (n := n - 10) (y := 1200) (f := n) v.1 v.2.1 (by omega) (by omega) (Or.inr (Or.inl rfl)) (vh v) ?_ ?_ _ (by omega) (fun u vu un => B_spreads_139 (RF_of vu.1.1.1) hX (by omega) (by omega) (l142 14 u 0 _ (by omega) (by omega) (by omega) (v.trans vu) (vm vu.2.2.1 fw) (fun _ _ => un) (fun _ d' d0 d1 => by omega)))⟩
      · unfold parY
        rw [if_neg (by omega), if_pos rfl]
        omega
      · unfold arcY sgY
        rw [if_neg (by omega), if_pos rfl, if_neg (by omega), if_pos rfl]
        exact ⟨Or.inr ⟨by omega, by omega⟩, Or.inr ⟨rfl, by rw [tN_hi (by omega)]; omega, by rw [hN_hi (by omega)]; omega, by omega⟩⟩
  -- who may go
  have l32 : ∀ (m : Nat) (g : LH) (d : Int) (o7 : Option LV), K.1 1 - d ≤ m → 0 ≤ d → d ≤ K.1 1 → VXR K S L Z src h g → (n / 10 < L → visR (S 0) g (n + 10)) → (n / 10 < L → ∀ d', 0 ≤ d' → d' < d → tlA K (S 0) (14 * (n / 10) + d') = n % 10 → Z (14 * (n / 10) + d') < cpAr K (S 1) (S 0) (14 * (n / 10) + d') → visR (S 0) g (10 * (n / 10) + 10 + hdA K (S 0) (14 * (n / 10) + d'))) → Rn xs xl e mm_spreads 32 [some (.inr (.inr 182)), some (.inl X), some (.inl (S 0)), some (.inl (S 0 + L - 1)), some (.inl (n % 10)), some (.inl (n / 10 + S 0)), some (.inl d), o7] [] g Q := by
    intro m
    have stop : ∀ (g : LH) (d : Int) (o6 o7 : Option LV), (K.1 1 ≤ d ∨ L ≤ n / 10) → VXR K S L Z src h g → (n / 10 < L → visR (S 0) g (n + 10)) → (n / 10 < L → ∀ d', 0 ≤ d' → d' < d → tlA K (S 0) (14 * (n / 10) + d') = n % 10 → Z (14 * (n / 10) + d') < cpAr K (S 1) (S 0) (14 * (n / 10) + d') → visR (S 0) g (10 * (n / 10) + 10 + hdA K (S 0) (14 * (n / 10) + d'))) → Rn xs xl e mm_spreads 110 [some (.inr (.inr 182)), some (.inl X), some (.inl (S 0)), some (.inl (S 0 + L - 1)), some (.inl (n % 10)), some (.inl (n / 10 + S 0)), o6, o7] [] g Q := by
      intro g d o6 o7 c v aw dd
      refine t110 g o6 o7 v (fun c hc e1 e2 => ?_)
      have en := endsQ hr hc
      rcases hc with z | z
      · rw [tN_lo (by omega)] at e1
        rw [hN_lo (by omega)]
        have rr := hr.2 c z.1 z.2
        have e3 : c / 14 = n / 10 := by omega
        have e4 : c = 14 * (n / 10) + c % 14 := by omega
        have f := fz c (Or.inl z)
        have e5 := e2 (by omega)
        have cd : c % 14 < K.1 1 := by
          have := cpA_pos (K := K) (sh := S 1) (h0 := S 0) (i := c) (by omega)
          exact this.1.1
        have t := dd (by omega) (c % 14) (by omega) (by omega)
        rw [← e4, ← e3] at t
        exact t (by omega) e5
      · rw [tN_hi z.1] at e1
        rw [hN_hi z.1, show c - 990 = n + 10 by omega]
        exact aw (by omega)
    induction m with
    | zero =>
      intro g d o7 hm d0 d1 v aw dd
      have e1 := e188 v.1 1
      exact B_spreads_32 (RF_of v.1.1.1) hX (by omega) (by omega) (by omega) (by omega) (by omega) (by omega) ⟨fun _ => stop g d _ _ (by omega) v aw dd, fun c => by omega⟩
    | succ m ih =>
      intro g d o7 hm d0 d1 v aw dd
      have e1 := e188 v.1 1
      refine B_spreads_32 (RF_of v.1.1.1) hX (by omega) (by omega) (by omega) (by omega) (by omega) (by omega) ⟨fun _ => stop g d _ _ (by omega) v aw dd, fun c => ⟨fun c2 => stop g d _ _ (by omega) v aw dd, fun c2 => ⟨5, by omega, ?_⟩⟩⟩
      have dK : d < K.1 1 := by omega
      refine D_toOf (Nat.le_refl 5) v.1 (by omega) (by omega) (by omega) (fun u uw uf => ?_)
      rw [NT_LF (by omega)]
      have s1 := VXR.refl v.1 v.2.1
      have vu := VXR_L s1 uw uf
      have ls := LF_st (K := K) (d := d) (room := n % 10) (t := n / 10 + S 0) (sh := S 1) (by omega) (by omega) (by omega)
      rw [show n / 10 + S 0 = S 0 + n / 10 by omega] at ls
      obtain ⟨am, ad⟩ := arc_ld (d := d) (l := n / 10) (by omega)
      have et : tlA K (S 0) (14 * (n / 10) + d) = sE K d (S 0 + n / 10) := by
        unfold tlA
        rw [am, ad, if_pos dK]
      have eh : hdA K (S 0) (14 * (n / 10) + d) = tE K d (S 0 + n / 10) := by
        unfold hdA
        rw [am, ad, if_pos dK]
      have vc : vldC L (14 * (n / 10) + d) := Or.inl ⟨by omega, by omega⟩
      have f := fz _ vc
      have zg := (ef (v.trans vu).2.2.2.2.2).1 (14 * (n / 10) + d) (by omega) (by omega)
      rw [show 14 * S 0 + (14 * (n / 10) + d) = 14 * (n / 10 + S 0) + d by omega] at zg
      have e10 := e188 uw (8 * d + 10)
      have ex_ : exAr K (S 1) (S 0) (14 * (n / 10) + d) ↔ 0 ≤ LF K d 0 (sE K d (S 0 + n / 10)) (S 0 + n / 10) (S 1) 0 := by
        unfold exAr
        rw [am, ad]
        exact ⟨fun z => z.2, fun z => ⟨dK, z⟩⟩
      have cpe : 1 ≤ cpAr K (S 1) (S 0) (14 * (n / 10) + d) → cpAr K (S 1) (S 0) (14 * (n / 10) + d) = K.1 (8 * d + 10) := fun z => by
        have := (cpA_pos z).2
        rw [am] at this
        exact this
      have nx : ∀ (o : Option LV) (q : LH), VXR K S L Z src g q → (tlA K (S 0) (14 * (n / 10) + d) = n % 10 → Z (14 * (n / 10) + d) < cpAr K (S 1) (S 0) (14 * (n / 10) + d) → visR (S 0) q (10 * (n / 10) + 10 + hdA K (S 0) (14 * (n / 10) + d))) → Rn xs xl e mm_spreads 104 [some (.inr (.inr 182)), some (.inl X), some (.inl (S 0)), some (.inl (S 0 + L - 1)), some (.inl (n % 10)), some (.inl (n / 10 + S 0)), some (.inl d), o] [] q Q := fun o q vq hw => B_spreads_104 (RF_of vq.1.1.1) hX (by omega) (by omega) (by omega) (ih q (d + 1) o (by omega) (by omega) (by omega) (v.trans vq) (fun a => vq.2.2.1 _ (aw a)) (fun a d' d0' d1' => by
        by_cases z : d' = d
        · rw [z]; exact hw
        · exact fun p r => vq.2.2.1 _ (dd a d' d0' (by omega) p r)))
      rw [show LF K d 0 (n % 10) (n / 10 + S 0) (S 1) 0 = LF K d 0 (n % 10) (S 0 + n / 10) (S 1) 0 by rw [show n / 10 + S 0 = S 0 + n / 10 by omega]]
      have row := B_spreads_57 (xs := xs) (xl := xl) (e := e) (h := u) (Q := Q) (v1 := X) (v2 := S 0) (v3 := S 0 + L - 1) (v4 := n % 10) (v5 := n / 10 + S 0) (v6 := d) (w0 := LF K d 0 (n % 10) (S 0 + n / 10) (S 1) 0) (o7 := o7) (RF_of uw.1.1) hX (by omega) (by omega) (by omega) (by omega) (by omega) ls.1 (by omega)
      rw [e10, zg] at row
      refine row ⟨fun z => nx _ u vu (fun a b => ?_), fun z => ⟨fun z2 => nx _ u vu (fun a b => ?_), fun z2 => ⟨0, by omega, ?_⟩⟩⟩
      · exfalso
        have y := (cpA_pos (K := K) (sh := S 1) (h0 := S 0) (i := 14 * (n / 10) + d) (by omega)).1
        rw [ex_, ← et, a] at y
        omega
      · exfalso
        have y := cpe (by omega)
        omega
      · obtain ⟨l1, l2⟩ := ls.2 z
        have xx : exAr K (S 1) (S 0) (14 * (n / 10) + d) := ex_.mpr (by rw [← l1]; omega)
        have ce : cpAr K (S 1) (S 0) (14 * (n / 10) + d) = K.1 (8 * d + 10) := by
          unfold cpAr
          rw [if_pos xx, am]
        have sr := st_rng (t := S 0 + n / 10) hK d0 dK
        refine G_comes (n := 10 * (n / 10) + LF K d 0 (n % 10) (S 0 + n / 10) (S 1) 0 + 10) (y := d) (f := n) uw vu.2.1 (by omega) (by omega) (Or.inr (Or.inr (Or.inl ⟨d0, dK⟩))) (vu.2.2.1 _ (vh v)) ?_ ?_ _ (by omega) (fun q vq qn => nx _ q (vu.trans vq) (fun _ _ => ?_))
        · unfold parY
          rw [if_neg (by omega), if_neg (by omega), if_pos (by omega)]
          omega
        · unfold arcY sgY
          rw [if_neg (by omega), if_neg (by omega), if_pos (by omega), if_neg (by omega), if_neg (by omega), if_pos (by omega), show (10 * (n / 10) + LF K d 0 (n % 10) (S 0 + n / 10) (S 1) 0 + 10) / 10 - 1 = n / 10 by omega]
          refine ⟨vc, Or.inl ⟨rfl, ?_, ?_, fun _ => by rw [ce]; exact z2⟩⟩
          · rw [tN_lo (by omega), ad, et, ← l1]
            omega
          · rw [hN_lo (by omega), ad, eh, ← l2]
            omega
        · rw [eh, ← l2, show 10 * (n / 10) + 10 + LF K d 0 (n % 10) (S 0 + n / 10) (S 1) 0 = 10 * (n / 10) + LF K d 0 (n % 10) (S 0 + n / 10) (S 1) 0 + 10 by omega]
          exact qn
  have row := B_spreads_0 (xs := xs) (xl := xl) (e := e) (h := h) (Q := Q) (v1 := X) (v2 := S 0) (v3 := S 0 + L - 1) (RF_of w.1.1) hX (by omega) (by omega)
  rw [x1, x2] at row
  refine row ⟨fun c => l32 14 h 0 _ (by omega) (by omega) (by omega) (VXR.refl w ct) (fun a => by omega) (fun a => by omega), fun c => ⟨0, by omega, ?_⟩⟩
  refine G_comes (n := n + 10) (y := 400) (f := n) w ct (by omega) (by omega) (Or.inl rfl) hv ?_ ?_ _ (by omega) (fun u vu un => B_spreads_29 (RF_of vu.1.1.1) hX (by omega) (by omega) (l32 14 u 0 _ (by omega) (by omega) (by omega) vu (fun _ => un) (fun _ d' d0 d1 => by omega)))
  · unfold parY
    rw [if_pos rfl]
    omega
  · unfold arcY sgY
    rw [if_pos rfl, if_pos rfl]
    exact ⟨Or.inr ⟨by omega, by omega⟩, Or.inl ⟨rfl, by rw [tN_hi (by omega)]; omega, by rw [hN_hi (by omega)]; omega, fun z => by omega⟩⟩
end M4
end
