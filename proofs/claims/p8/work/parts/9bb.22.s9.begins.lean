/-! the scene, part s9: the reference's begins -/
/-- behind begins -/
def BGN (g : LH) : Prop := rd g 198 34 = 0 ∧ rd g 182 25 = 0 ∧ rd g 198 1 = 0 ∧ sdx 0 g
section SC9
variable {xs : Nat → Int} {xl e : Nat} {h : LH} {Q : Option LV → LH → Prop}
theorem G_beginsX (he : 2 ≤ e) (hr : RNG h) (hs : SP4 h) (k : ∀ g, INV g → (∀ a i, ¬ muG a i → rd g a i = rd h a i) → (∀ m, 0 ≤ m → m < 4 → rd g 199 m = 0) → BGN g → Q none g) : Rn xs xl e mm_begins 0 [some (.inr (.inr 182)), none] [] h Q := by
  refine B_begins_0 (RF_of hr) ⟨1, by omega, G_startsX (by omega) hr (by omega) (by omega) (by omega) (fun g gr gsd gf0 => ?_)⟩
  have gf : ∀ a i, ¬ (a = 198 ∧ 0 ≤ i ∧ i < 34) → rd g a i = rd h a i := fun a i n => gf0 a i (by omega)
  have gw : ∀ p, 0 ≤ p → p ≤ 5 → rd g 198 (0 + 2 + p) = rd h 188 (117 + 4 * p) := fun p p0 p1 => by
    have z := (gsd.2.1 p p0 p1).1
    rw [gf0 188 _ (by omega)] at z
    rw [show (0 + 2 + p : Int) = 0 + p + 2 by omega, z, show (4 * p + 117 : Int) = 117 + 4 * p by omega]
  have r1 := ws gr (i := 1) (v := 0) 1 1 (-2147483648) 2147483647 (by omega) (by omega) (by omega) (by decide +kernel) (by omega) (by omega) (by unfold i32; omega)
  have r2 := ws r1 (i := 34) (v := 0) 34 34 0 10 (by omega) (by omega) (by omega) (by decide +kernel) (by omega) (by omega) (by unfold i32; omega)
  have r3 := wY_lines r2 (i := 0) (v := 0) (ix := (0, 0, 0, 0)) (lo := 0) (hi := 24) (by decide +kernel) (pt 0) (by omega) (by omega) (by unfold i32; omega)
  have r4 := wu r3 (v := 0) (by omega) (by omega)
  generalize hg4 : wr (wr (wr (wr g 198 1 0) 198 34 0) 195 0 0) 182 25 0 = g4 at *
  have f4 : ∀ a i, ¬ muG a i → rd g4 a i = rd h a i := by
    intro a i hn
    rw [← hg4, rd_wr, if_neg, rd_wr, if_neg, rd_wr, if_neg, rd_wr, if_neg]
    · exact gf a i (fun q => hn (by unfold muG; omega))
    all_goals (rintro ⟨rfl, rfl⟩; exact hn (by unfold muG; omega))
  have w4 : ∀ p, 0 ≤ p → p ≤ 5 → rd g4 198 (0 + 2 + p) = rd h 188 (117 + 4 * p) := by
    intro p p0 p1
    rw [← hg4, rdw_ne (by decide), rdw_ne (by decide), rdw_nei (by omega), rdw_nei (by omega)]
    exact gw p p0 p1
  have u4 : rd g4 182 25 = 0 := by
    rw [← hg4]
    exact rdw_eq
  have u34 : rd g4 198 34 = 0 := by
    rw [← hg4, rdw_ne (by decide), rdw_ne (by decide)]
    exact rdw_eq
  have u1 : rd g4 198 1 = 0 := by
    rw [← hg4, rdw_ne (by decide), rdw_ne (by decide), rdw_nei (by decide)]
    exact rdw_eq
  have sd4 : sdx 0 g4 := by
    have e8 : ∀ i, rd g4 188 i = rd g 188 i := fun i => by rw [← hg4, rdw_ne (by decide), rdw_ne (by decide), rdw_ne (by decide), rdw_ne (by decide)]
    have e9 : ∀ i, i ≠ 1 → i ≠ 34 → rd g4 198 i = rd g 198 i := fun i n1 n2 => by rw [← hg4, rdw_ne (by decide), rdw_ne (by decide), rdw_nei (fun z => n2 z.symm), rdw_nei (fun z => n1 z.symm)]
    refine ⟨(e9 0 (by decide) (by decide)).trans gsd.1, fun p p0 p1 => ?_, fun d d0 d1 => (e9 _ (by omega) (by omega)).trans (gsd.2.2 d d0 d1)⟩
    rw [e8, e8, e9 _ (by omega) (by omega), e9 _ (by omega) (by omega), e9 _ (by omega) (by omega)]
    exact gsd.2.1 p p0 p1
  refine B_begins_5 (RF_of gr) ?_
  rw [hg4]
  have loop : ∀ (n : Nat) (q : LH) (v : Int), 4 - v ≤ n → 0 ≤ v → v ≤ 4 → RNG q → (∀ m, 0 ≤ m → m < v → rd q 199 m = 0) → (∀ a i, a ≠ 199 → rd q a i = rd g4 a i) → Rn xs xl e mm_begins 34 [some (.inr (.inr 182)), some (.inl v)] [] q Q := by
    have stop : ∀ (q : LH), RNG q → (∀ m, 0 ≤ m → m < 4 → rd q 199 m = 0) → (∀ a i, a ≠ 199 → rd q a i = rd g4 a i) → Q none q := by
      intro q qr qm qf
      have qh : ∀ a i, ¬ muG a i → rd q a i = rd h a i := fun a i hn => (qf a i (fun z => hn (by unfold muG; omega))).trans (f4 a i hn)
      have s4 : SP4 q := SP4_of (fun b j hb n1 n2 n3 => qh b j (by unfold muG; unfold sens at hb; omega)) hs
      refine k q ⟨qr, s4.1, s4.2.1, s4.2.2.1, s4.2.2.2, ?_, fun m m0 m1 z => ?_, fun j j0 j1 z => ?_⟩ qh qm ⟨(qf 198 34 (by decide)).trans u34, (qf 182 25 (by decide)).trans u4, (qf 198 1 (by decide)).trans u1, (qf 198 0 (by decide)).trans sd4.1, fun p p0 p1 => by rw [qf 198 _ (by decide), qf 198 _ (by decide), qf 198 _ (by decide), qf 188 _ (by decide), qf 188 _ (by decide)]; exact sd4.2.1 p p0 p1, fun d d0 d1 => (qf 198 _ (by decide)).trans (sd4.2.2 d d0 d1)⟩
      · intro p p0 p1 p2
        rw [qf 198 _ (by decide), w4 p p0 p1, qh 188 0 (by unfold muG; omega)]
        rw [qh 188 2 (by unfold muG; omega)] at p2
        exact hs.2.2.2.2 p p0 p1 p2
      · rw [qm m m0 m1] at z
        cases z
      · rw [qf 182 25 (by decide), u4] at z
        omega
    intro n
    induction n with
    | zero =>
      intro q v hn v0 v1 qr qm qf
      exact B_begins_34 (RF_of qr) ⟨fun _ => stop q qr (fun m m0 m1 => qm m m0 (by omega)) qf, fun c => by omega⟩
    | succ n ih =>
      intro q v hn v0 v1 qr qm qf
      refine B_begins_34 (RF_of qr) ⟨fun _ => stop q qr (fun m m0 m1 => qm m m0 (by omega)) qf, fun c => ⟨by omega, by omega, ih _ (v + 1) (by omega) (by omega) (by omega) (wR_isMarked qr (by omega) (by omega)) (fun m m0 m1 => ?_) (fun a i hn => ?_)⟩⟩
      · rw [rd_wr]
        split
        · rfl
        · exact qm m m0 (by omega)
      · rw [rdw_ne (fun q => hn q.symm)]
        exact qf a i hn
  exact loop 4 g4 0 (by omega) (by omega) (by omega) r4 (fun m _ _ => by omega) (fun _ _ _ => rfl)
end SC9
