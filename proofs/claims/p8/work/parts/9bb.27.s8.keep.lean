/-! the scene, part s8: what is kept for undo -/
theorem zfm16 : ∀ n : Nat, n < 32 → zfm (n : Int) 16 = (n : Int) % 16 := by decide +kernel
theorem zfm16' {a : Int} (h0 : 0 ≤ a) (h1 : a < 32) : zfm a 16 = a % 16 := by
  have := zfm16 a.toNat (by omega)
  rw [Int.toNat_of_nonneg h0] at this
  exact this
theorem scn_past {k : Int} (h0 : 0 ≤ k) (h1 : k < 16) : scn (134 + 3 * k) := by
  unfold scn
  exact Or.inr (Or.inr (Or.inr (Or.inr (Or.inr (Or.inr ⟨by omega, by omega, by omega⟩)))))
theorem scn_60 : scn 60 := Or.inl rfl
theorem scn_68 : scn 68 := Or.inr (Or.inl rfl)
theorem scn_m {m : Int} (h0 : 0 ≤ m) (h1 : m < 4) : scn (103 + 8 * m) := by
  unfold scn
  rcases (show m = 0 ∨ m = 1 ∨ m = 2 ∨ m = 3 by omega) with rfl | rfl | rfl | rfl
  · exact Or.inr (Or.inr (Or.inl rfl))
  · exact Or.inr (Or.inr (Or.inr (Or.inl rfl)))
  · exact Or.inr (Or.inr (Or.inr (Or.inr (Or.inl rfl))))
  · exact Or.inr (Or.inr (Or.inr (Or.inr (Or.inr (Or.inl rfl)))))
/-- past lies where it was made -/
def PK (h : LH) : Prop := ∀ i, 0 ≤ i → i < 16 → rd h 76 i = 134 + 3 * i
/-- what is kept for undo is alike -/
def UN (h : LH) : Prop := (0 ≤ rd h 1 8 ∧ rd h 1 8 < 16) ∧ (0 ≤ rd h 1 9 ∧ rd h 1 9 ≤ 16) ∧ rd h 182 25 = rd h 1 9 ∧ ∀ k, 0 ≤ k → k < rd h 1 9 → SR h (134 + 3 * ((rd h 1 8 + k) % 16)) (70 * k + 350)
/-- marks are alike -/
def MKS (h : LH) : Prop := ∀ m, 0 ≤ m → m < 4 → rd h 199 m ≠ 0 → SR h (103 + 8 * m) (70 * m + 70)
/-- the class has kept scene s of h -/
def kpn (h g : LH) : Prop := (rd h 1 9 < 16 → rd g 1 9 = rd h 1 9 + 1 ∧ rd g 1 8 = rd h 1 8) ∧ (rd h 1 9 = 16 → rd g 1 9 = 16 ∧ rd g 1 8 = (rd h 1 8 + 1) % 16)
section SC8
variable {xs : Nat → Int} {xl e : Nat} {h g g' : LH} {Q : Option LV → LH → Prop} {c c' b b' sd : Int}
theorem SR_mv (hs : SR h c b) (hc : scq h g c c') (hb : blq h g b b') (f3 : rd g 188 2 = rd h 188 2) (hp : 0 ≤ rd h 188 2 ∧ rd h 188 2 ≤ 6) : SR g c' b' := by
  obtain ⟨s1, s2, s3, s4, s5⟩ := hs
  obtain ⟨q0, q1, q2⟩ := hc
  have e0 : rd g 198 b' = rd h 198 b := by
    have := hb 0 (by decide) (by decide)
    rw [Int.add_zero, Int.add_zero] at this
    exact this
  refine ⟨?_, ?_, fun p p0 p1 => ?_, fun d d0 d1 => ?_, fun p p0 p1 => ?_⟩
  · rw [q0 0 (by decide) (by decide), e0]; exact s1
  · rw [q0 1 (by decide) (by decide), hb 1 (by decide) (by decide)]; exact s2
  · rw [f3] at p1
    have z := s3 p p0 p1
    rw [q1 p p0 (by omega), q0 3 (by decide) (by decide), q0 2 (by decide) (by decide), show b' + p + 2 = b' + (p + 2) by omega, show b' + p + 8 = b' + (p + 8) by omega, show b' + p + 14 = b' + (p + 14) by omega, hb (p + 2) (by omega) (by omega), hb (p + 8) (by omega) (by omega), hb (p + 14) (by omega) (by omega), show b + (p + 2) = b + p + 2 by omega, show b + (p + 8) = b + p + 8 by omega, show b + (p + 14) = b + p + 14 by omega]
    exact z
  · rw [q2 d d0 d1, show b' + d + 20 = b' + (d + 20) by omega, hb (d + 20) (by omega) (by omega), show b + (d + 20) = b + d + 20 by omega]
    exact s4 d d0 d1
  · rw [f3] at p0
    rw [q0 3 (by decide) (by decide)]
    exact s5 p p0 p1
theorem scq_same (f : ∀ a i, scp c a i → rd g a i = rd h a i) : scq h g c c :=
  ⟨fun i i0 i1 => f _ _ (Or.inl ⟨rfl, i0, i1⟩), fun i i0 i1 => f _ _ (Or.inr (Or.inl ⟨rfl, i0, i1⟩)), fun i i0 i1 => f _ _ (Or.inr (Or.inr ⟨rfl, i0, i1⟩))⟩
theorem UN_keep (hu : UN h) (h0 : SR h 60 0) (hp : 0 ≤ rd h 188 2 ∧ rd h 188 2 ≤ 6) (f3 : rd g 188 2 = rd h 188 2) (kn : kpn h g) (ks : scq h g 60 (134 + 3 * ((rd h 1 8 + rd h 1 9) % 16))) (ko : ∀ j, 0 ≤ j → j < 16 → j ≠ (rd h 1 8 + rd h 1 9) % 16 → scq h g (134 + 3 * j) (134 + 3 * j)) (kx : kpx h g) : UN g := by
  obtain ⟨o1, n1, e1, hs⟩ := hu
  unfold kpn at kn
  unfold kpx at kx
  rw [e1] at kx
  generalize rd h 1 8 = o at *
  generalize rd h 1 9 = n at *
  by_cases c : n < 16
  · obtain ⟨a1, a2⟩ := kn.1 c
    obtain ⟨b1, b2, b3⟩ := kx.1 c
    refine ⟨by omega, by omega, by omega, fun k k0 k1 => ?_⟩
    rw [a1] at k1
    rw [a2]
    by_cases z : k = n
    · subst z
      exact SR_mv h0 ks b3 f3 hp
    · exact SR_mv (hs k k0 (by omega)) (ko _ (by omega) (by omega) (by omega)) (b2 k k0 (by omega)) f3 hp
  · have n16 : n = 16 := by omega
    subst n16
    obtain ⟨a1, a2⟩ := kn.2 rfl
    obtain ⟨b1, b2, b3⟩ := kx.2 rfl
    refine ⟨by omega, by omega, by omega, fun k k0 k1 => ?_⟩
    rw [a1] at k1
    rw [a2]
    by_cases z : k = 15
    · subst z
      rw [show ((o + 1) % 16 + 15) % 16 = (o + 16) % 16 by omega]
      exact SR_mv h0 ks b3 f3 hp
    · have y := hs (k + 1) (by omega) (by omega)
      rw [show ((o + 1) % 16 + k) % 16 = (o + (k + 1)) % 16 by omega]
      have w := b2 k k0 (by omega)
      rw [show 70 * k + 420 = 70 * (k + 1) + 350 by omega] at w
      exact SR_mv y (ko _ (by omega) (by omega) (by omega)) w f3 hp
theorem RF_18 {i v : Int} (hF : RF g) (hi : i = 8 ∨ i = 9) : RF (wr g 1 i v) := by
  rcases hi with rfl | rfl
  · exact RF_wn (by decide +kernel) hF
  · exact RF_wn (by decide +kernel) hF
/-- keepForUndo: the scene sd is kept -/
theorem F_keep (he : 1 ≤ e) (hsd : scn sd) (hs : ∀ k, 0 ≤ k → k < 16 → 134 + 3 * k ≠ sd) (hF : RF h) (hk : PK h) (o1 : 0 ≤ rd h 1 8 ∧ rd h 1 8 < 16) (n1 : 0 ≤ rd h 1 9 ∧ rd h 1 9 ≤ 16) (k : ∀ g, kpn h g → scq h g sd (134 + 3 * ((rd h 1 8 + rd h 1 9) % 16)) → (∀ a i, ¬ scp (134 + 3 * ((rd h 1 8 + rd h 1 9) % 16)) a i → ¬ (a = 1 ∧ (i = 8 ∨ i = 9)) → rd g a i = rd h a i) → RF g → Q none g) : Rn xs xl e mm_OneSided_keepForUndo 0 [some (.inr (.inr 1)), some (.inr (.inr sd))] [] h Q := by
  have ez := zfm16' (a := rd h 1 8 + rd h 1 9) (by omega) (by omega)
  generalize er : (rd h 1 8 + rd h 1 9) % 16 = r at *
  have hr : 0 ≤ r ∧ r < 16 := by omega
  have sr := scn_past hr.1 hr.2
  refine B_OneSided_keepForUndo_0 (sc := 134 + 3 * r) sr (by omega) hsd hF ⟨by omega, by omega, ?_, 0, by omega, F_scopy sr (by omega) hsd (hs r hr.1 hr.2) hF (fun g gq gf gF => ?_)⟩
  · rw [ez]
    exact hk r hr.1 hr.2
  have e8 : rd g 1 8 = rd h 1 8 := gf 1 8 (by unfold scp; omega)
  have e9 : rd g 1 9 = rd h 1 9 := gf 1 9 (by unfold scp; omega)
  have past : ∀ (i v : Int), i = 8 ∨ i = 9 → scq h (wr g 1 i v) sd (134 + 3 * r) := fun i v _ => ⟨fun j j0 j1 => by rw [rdw_ne (by omega)]; exact gq.1 j j0 j1, fun j j0 j1 => by rw [rdw_ne (by omega)]; exact gq.2.1 j j0 j1, fun j j0 j1 => by rw [rdw_ne (by omega)]; exact gq.2.2 j j0 j1⟩
  have fr : ∀ (i v : Int), i = 8 ∨ i = 9 → ∀ a j, ¬ scp (134 + 3 * r) a j → ¬ (a = 1 ∧ (j = 8 ∨ j = 9)) → rd (wr g 1 i v) a j = rd h a j := fun i v hi a j m1 m2 => by
    rw [rd_wr, if_neg (by omega)]
    exact gf a j m1
  refine B_OneSided_keepForUndo_23 hsd gF ⟨fun c => ⟨by omega, k _ ⟨fun z => absurd z (by omega), fun z => ⟨?_, ?_⟩⟩ (past 8 _ (Or.inl rfl)) (fr 8 _ (Or.inl rfl)) (RF_18 gF (Or.inl rfl))⟩, fun c => ⟨by omega, k _ ⟨fun z => ⟨?_, ?_⟩, fun z => absurd z (by omega)⟩ (past 9 _ (Or.inr rfl)) (fr 9 _ (Or.inr rfl)) (RF_18 gF (Or.inr rfl))⟩⟩
  · rw [rdw_nei (by decide), e9]; exact z
  · rw [rdw_eq, e8]; exact zfm16' (by omega) (by omega)
  · rw [rdw_eq, e9]
  · rw [rdw_nei (by decide), e8]
end SC8
