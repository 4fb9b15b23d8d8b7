/-! the scene, part sj: quarter, rests under the relation -/
/-- the text that lies on the tapes, read as a quarter -/
def txQ (h : LH) : QY := qF (tO (rd h 3) (rd h 2 0)) (tV (rd h 3) (rd h 2 0) 37) (tW (rd h 3) (rd h 2 0) 37 (rd hc_556 187)) (tP (rd h 3) (rd h 2 0))
/-- between both quarters -/
def qtJ (h g : LH) : Prop := rd g 2 0 = 0 ∧ (∀ a i, a ∈ ([4, 6, 7, 33, 34, 75, 76, 182, 183, 187, 188, 189, 190, 198, 199] : List Int) → rd g a i = rd h a i) ∧ rd g 1 8 = rd h 1 8 ∧ ((txQ h).1.1 ≠ 0 → ∀ a i, a ≠ 2 → ¬ (rd h 1 2 ≤ a ∧ a ≤ rd h 1 2 + 26) → rd g a i = rd h a i) ∧ ((txQ h).1.1 = 0 → rd g 1 1 = rd h 1 2 ∧ rd g 1 2 = rd h 1 1 ∧ DCKf (rd h 3) (rd h 2 0) (rd hc_556 4) g (rd h 1 2) (qR (tV (rd h 3) (rd h 2 0) 32) (tW (rd h 3) (rd h 2 0) 32 (rd hc_556 4)) (tP (rd h 3) (rd h 2 0))) (txQ h) ∧ QSN g (rd h 1 2) (txQ h).2.2.2.2)
section SCj
variable {xs : Nat → Int} {xl e : Nat} {h g g' : LH} {Q : Option LV → LH → Prop} {q v1 v2 v3 : Int} {W V : Int → Int} {T : Int → Int} {n : Int}
/-- both bases give the same rooms -/
theorem qR_same (h1 : n ≤ 1000) (h2 : 0 ≤ n) (hw : SameW W V) (hz : (qF (tO T n) (tV T n 37) (tW T n 37 V) (tP T n)).1.1 = 0) : qR (tV T n 32) (tW T n 32 W) (tP T n) = qR (tV T n 37) (tW T n 37 V) (tP T n) := by
  have hW : tW T n 32 W = tW T n 37 V := funext (fun k => tW_b h1 h2 hw k)
  rw [hW]
  have sm := tV_sm (T := T) h1 h2
  by_cases z : (qA (tO T n) (tV T n 37) (tW T n 37 V) (tP T n)).1 = 0
  · have k := (tkN_ok (tkS_z z) (fun c hc => tkE_p sm.2.2 hc)).2.1
    unfold qR
    exact sm.1 _ (by omega)
  · exfalso
    unfold qF at hz
    rw [qL_stop (fun q => z q.1)] at hz
    exact z hz
theorem inK_pq {a i : Int} (ha : inK a i) : pq a i := by
  obtain ⟨y1, y2, y3, y4, y5⟩ := inK_p ha
  unfold pq
  omega
theorem E_quarterJS (he : 42 ≤ e) (hI : INV h) (hE : EQL h) (k : ∀ g, INV g → qtJ h g → Q (some (.inl (txQ h).1.1)) g) : Rn xs xl e mm_OneSided_quarter 0 [some (.inr (.inr 1)), none, none] [] h Q := by
  have n0 := rG_2_0 hI.1
  obtain ⟨-, -, hP, hW4, -⟩ := id hE
  have same : qF (tO (rd h 3) (rd h 2 0)) (tV (rd h 3) (rd h 2 0) 32) (tW (rd h 3) (rd h 2 0) 32 (rd hc_556 4)) (tP (rd h 3) (rd h 2 0)) = txQ h := qF_same n0.2 n0.1 sameW0
  have A : Rn xs xl e mm_OneSided_quarter 0 [some (.inr (.inr 1)), none, none] [] h (fun r g => r = some (.inl (txQ h).1.1) ∧ ((txQ h).1.1 ≠ 0 → ∀ a i, a ≠ 2 → ¬ (rd h 1 2 ≤ a ∧ a ≤ rd h 1 2 + 26) → rd g a i = rd h a i) ∧ ((txQ h).1.1 = 0 → rd g 1 1 = rd h 1 2 ∧ rd g 1 2 = rd h 1 1 ∧ DCKf (rd h 3) (rd h 2 0) (rd hc_556 4) g (rd h 1 2) (qR (tV (rd h 3) (rd h 2 0) 32) (tW (rd h 3) (rd h 2 0) 32 (rd hc_556 4)) (tP (rd h 3) (rd h 2 0))) (txQ h) ∧ QSN g (rd h 1 2) (txQ h).2.2.2.2)) := by
    refine E_quarterS he hI hP ⟨rfl, fun _ _ _ => rfl, n0.1, n0.2⟩ hW4 ?_
    rw [same]
    exact fun h' a b => ⟨rfl, a, b⟩
  have B : Rn xs xl e mm_OneSided_quarter 0 [some (.inr (.inr 1)), none, none] [] h (fun r g => INV g ∧ rd g 2 0 = 0 ∧ (∀ a i, a ∈ ([4, 6, 7, 33, 34, 75, 76, 182, 183, 187, 188, 189, 190, 198, 199] : List Int) → rd g a i = rd h a i) ∧ rd g 1 8 = rd h 1 8) := root_0 TC_quarter (as := [.inr (.inr 1)]) rfl (Nat.le_trans (Nat.le_of_ble_eq_true rfl) he) hI (gAr_c (g_ref 1) gAr_n) rfl (Nat.le_of_ble_eq_true rfl) rfl rfl rfl (fun r g gI g0 gf => ⟨gI, g0, fun a i ha => gf a i (cbx_ok (L := [4, 6, 7, 33, 34, 75, 76, 182, 183, 187, 188, 189, 190, 198, 199]) (by decide +kernel) ha), gf 1 8 (by decide +kernel)⟩)
  refine (A.and B).mono (fun r g z => ?_)
  obtain ⟨⟨rfl, a1, a2⟩, gI, b1, b2, b3⟩ := z
  exact k g gI ⟨b1, b2, b3, a1, a2⟩
/-- a day has begun on both sides -/
theorem SR_begun {m : Int} (hm : 0 ≤ m ∧ m ≤ 6) (e4 : rd g 188 2 = m) (fp : ∀ i j : Nat, (i : Int) < m → j < 4 → rd g (q + 21 + i) ((j : Int) + 1) = rd g 188 (116 + 4 * (i : Int) + (j : Int))) (sb : sbg 60 q m g) (bg : BGN g) : SR g 60 0 := by
  obtain ⟨b0, b1, b2, b3, b4, b5⟩ := sb
  obtain ⟨-, -, c1, d0, d1, d2⟩ := bg
  have f1 : ∀ p, 0 ≤ p → p < m → rd g (q + 21 + p) 2 = rd g 188 (4 * p + 117) ∧ rd g (q + 21 + p) 3 = rd g 188 (4 * p + 118) := fun p p0 p1 => by
    have y := fp p.toNat 1 (by omega) (by decide)
    have z := fp p.toNat 2 (by omega) (by decide)
    rw [Int.toNat_of_nonneg p0] at y z
    rw [show 116 + 4 * p + ((1 : Nat) : Int) = 4 * p + 117 by omega] at y
    rw [show 116 + 4 * p + ((2 : Nat) : Int) = 4 * p + 118 by omega] at z
    exact ⟨y, z⟩
  refine ⟨b0.trans d0.symm, b1.trans c1.symm, fun p p0 p1 => ?_, fun d e0 e1 => ?_, fun p p0 p1 => ?_⟩
  · rw [e4] at p1
    obtain ⟨y1, y2⟩ := f1 p p0 p1
    obtain ⟨z1, z2, z3⟩ := d1 p p0 (by omega)
    refine ⟨?_, ?_, ?_⟩
    · rw [b4 p p0 p1, y1, z1]
    · rw [z2]
      unfold bt
      rw [b3 p p0 (by omega), y1, y2]
      by_cases c : rd g 188 (4 * p + 117) = rd g 188 (4 * p + 118)
      · rw [if_pos c]
        exact Or.inr ⟨rfl, p1, c.symm⟩
      · rw [if_neg c]
        exact Or.inl ⟨rfl, fun y => c y.2.symm⟩
    · rw [z3, b2]
      exact Or.inl ⟨rfl, bit_zero⟩
  · rw [b5 d e0 e1, d2 d e0 e1]
    exact ⟨rfl, by decide, by decide⟩
  · rw [e4] at p0
    rw [b3 p (by omega) p1]
    exact fun y => by omega
theorem G_quarterJS (he : 42 ≤ e) (hI : INV h) (hE : EQL h) (gI : INV g) (hj : qtJ h g) (k : ∀ g', INV g' → EQL g' → Q (some (.inl (txQ h).1.1)) g') : Rn xs xl e mm_quarter 0 [some (.inr (.inr 182)), none] [] g Q := by
  have n0 := rG_2_0 hI.1
  obtain ⟨g0, gf, g8, m1, m2⟩ := hj
  obtain ⟨-, -, hP, hW4, hV, sq, hM, ⟨k1, k2, k3, k4, k5, k6, k7, k8⟩⟩ := id hE
  have hv : rd g 187 = rd hc_556 187 := by
    rw [← hV]; funext i; exact gf 187 i (by decide)
  have A : Rn xs xl e mm_quarter 0 [some (.inr (.inr 182)), none] [] g (fun r g' => r = some (.inl (txQ h).1.1) ∧ rd g' 187 = rd hc_556 187 ∧ ((txQ h).1.1 ≠ 0 → ∀ a i, pq a i → rd g' a i = rd g a i) ∧ ((txQ h).1.1 = 0 → rd g' 188 0 = qR (tV (rd h 3) (rd h 2 0) 37) (tW (rd h 3) (rd h 2 0) 37 (rd hc_556 187)) (tP (rd h 3) (rd h 2 0)) ∧ (∀ m, 0 ≤ m → m < 4 → rd g' 199 m = 0) ∧ (BGN g' ∧ rd g' 182 28 = rd g 182 28 ∧ rd g' 182 29 = rd g 182 29) ∧ RFD (rd h 3) (rd h 2 0) (rd hc_556 187) g' (txQ h))) := by
    refine G_quarterF (T := rd h 3) (n := rd h 2 0) (V := rd hc_556 187) (by omega) gI ((gf 182 2 (by decide)).trans hE.1.symm) n0.1 n0.2 (fun i i0 i1 => ?_) hv vinj0 (fun h' a b c => ⟨rfl, a, b, fun z => ?_⟩)
    · rw [gf 183 i (by decide)]
      exact (hE.2.1 i i0 i1).symm
    · obtain ⟨c1, c2, c3, -, c5⟩ := c z
      exact ⟨c1, c2, c3, c5⟩
  have B : Rn xs xl e mm_quarter 0 [some (.inr (.inr 182)), none] [] g (fun r g' => INV g' ∧ rd g' 182 2 = 0 ∧ (∀ a i, a < 182 → rd g' a i = rd g a i)) := D_quarter (by omega) gI (fun r h' a b c => ⟨a, b, c⟩)
  refine (A.and B).mono (fun r g' z => ?_)
  obtain ⟨⟨rfl, v', c1, c2⟩, gI', e2, fr⟩ := z
  refine k g' gI' (EQL_0 ((fr 2 0 (by decide)).trans g0) e2 ?_)
  by_cases z : (txQ h).1.1 = 0
  · obtain ⟨a1, a2, a3, a4⟩ := m2 z
    obtain ⟨d1, d2, ⟨d3, d28, d29⟩, d4⟩ := c2 z
    have hS : rd h 1 2 = 5 ∨ rd h 1 2 = 32 := rSf hI.1
    obtain ⟨s1, s2, s3, s4, s5⟩ := a4
    have e11 : rd g' 1 1 = rd h 1 2 := (fr 1 1 (by decide)).trans a1
    have e6 : rd g' 1 6 = 0 := (fr 1 6 (by decide)).trans s4
    have lo : ∀ a i, a < 182 → rd g' a i = rd g a i := fr
    generalize eq : rd h 1 2 = q at hS a1 a3 s1 s2 s3 e11
    have qf : QFR g' := QFR_of n0.2 n0.1 sameW0 e11 z (DCKf_fr hS a3 (fun a i ha => lo a i (by omega))) d1 (qR_same n0.2 n0.1 sameW0 z) d4
    have m4 := rq_people gI'.1
    have q4 : rd g q 4 = rd g' 188 2 := by
      have := qf.2.2.1
      rw [e11, lo q 4 (by omega)] at this
      exact this
    have sb : sbg 60 q (rd g' 188 2) g' := by
      rw [q4] at s3
      exact sbg_fr hS m4.2 s3 (fun a i ha => lo a i (by omega))
    refine ⟨PT_fr hP (fun a i ha => (lo a i (by omega)).trans (gf a i ?_)), ?_, v', ?_, ⟨fun m h0 h1 => ?_, by rw [e6]; decide, fun m h0 h1 => ?_⟩, qf, ⟨(txQ h).2.2.2.2, ?_, ?_⟩, ?_, ?_, SR_begun m4 rfl (fun i j hi hj => ?_) sb d3, ?_, fun m h0 h1 hm => absurd (d2 m h0 h1) hm, fun i i0 i1 => ?_⟩
    · rcases ha with rfl | rfl | rfl | rfl <;> decide
    · rw [← hW4]; funext i; exact (lo 4 i (by decide)).trans (gf 4 i (by decide))
    · rw [e11, lo 1 2 (by decide), a2]; omega
    · rw [lo 75 m (by decide), gf 75 m (by decide)]; exact hM.1 m h0 h1
    · rw [d2 m h0 h1, e6]
      have y := mbit_0 m.toNat (by omega)
      rw [show ((m.toNat : Nat) : Int) = m by omega] at y
      exact y.symm
    · rw [e11]
      exact LWQ_frs s1 (fun a i ha => lo a i (by omega))
    · rw [e11]
      exact fun s hr s0 s1' h0 h1 => stl_frs (s2 s hr s0 s1' h0 h1) (lo _ _ (by omega)) (fun j j0 j1 => funext (fun i => lo _ _ (by omega))) (fun i => lo _ _ (by omega)) (fun i => lo _ _ (by omega))
    · rw [d28, gf 182 28 (by decide)]; exact k3
    · rw [d29, gf 182 29 (by decide)]; exact k4
    · have := qf.2.2.2.2.1 i j hi hj
      rw [e11] at this
      exact this
    · unfold UN
      rw [lo 1 8 (by decide), g8, lo 1 9 (by decide), s5]
      exact ⟨k6.1, by decide, d3.2.1, fun k k0 k1 => by omega⟩
    · rw [lo 76 i (by decide), gf 76 i (by decide)]; exact k8 i i0 i1
  · have hq : rd h 1 1 = 5 ∨ rd h 1 1 = 32 := rQf hI.1
    refine EQS_fr hI hE.2.2 (fun a i ha n3 n183 hk => ?_)
    rw [c1 z a i (inK_pq ha)]
    obtain ⟨y, -⟩ := inK_p ha
    by_cases c : a = 6 ∨ a = 7 ∨ a = 33 ∨ a = 34
    · exact gf a i (by rcases c with rfl | rfl | rfl | rfl <;> decide)
    · exact m1 z a i (by omega) (by unfold kq at hk; omega)
/-- the reference's rests puts no price in for good -/
theorem root_rests (he : 8 ≤ e) (hI : INV h) (hE : EQL h) (h1 : i32 v1) (h2 : i32 v2) (h3 : i32 v3) (k : ∀ r g, INV g → EQL g → Q (some (.inl r)) g) : Rn xs xl e mm_rests 0 [some (.inr (.inr 182)), some (.inl v1), some (.inl v2), some (.inl v3), none, none, none, none] [] h Q := by
  have k3 := hE.2.2.2.2.2.2.2.2.2.1
  have k4 := hE.2.2.2.2.2.2.2.2.2.2.1
  have v28 : ∀ {g : LH}, hval g 182 28 = .inl (rd g 182 28) := fun {g} => by
    unfold hval
    rw [show lkd 182 28 = 0 by decide +kernel]
    rfl
  have v29 : ∀ {g : LH}, hval g 182 29 = .inl (rd g 182 29) := fun {g} => by
    unfold hval
    rw [show lkd 182 29 = 0 by decide +kernel]
    rfl
  have hf : gF h SME6.2.2.2.2.2 := by
    intro q hq
    rcases List.mem_cons.mp hq with rfl | hq
    · show gV (0, -1, -1, 0) (hval h 182 28)
      rw [v28, k3]
      exact g_pt (-1) (by unfold i32; omega)
    · rcases List.mem_cons.mp hq with rfl | hq
      · show gV (0, -1, -1, 0) (hval h 182 29)
        rw [v29, k4]
        exact g_pt (-1) (by unfold i32; omega)
      · cases hq
  have R := (TE_rests (xs := xs) (xl := xl) mm_rests [.inr (.inr 182), .inl v1, .inl v2, .inl v3] h rfl hI (gAr_c (g_ref 182) (gAr_c (g_i h1) (gAr_c (g_i h2) (gAr_c (g_i h3) gAr_n)))) hf (Nat.le_of_ble_eq_true rfl)).deep (d' := e) (Nat.le_trans (Nat.le_of_ble_eq_true rfl) he)
  refine R.mono (fun r g z => ?_)
  obtain ⟨gI, gf, c, hc, q1, -, q3⟩ := z
  rw [show SME6.2.2.2.1 = [(some (0,-2147483648,2147483647,1),pv0,[],[(182,28,(0,-1,-1,0)),(182,29,(0,-1,-1,0))])] from rfl, List.mem_singleton] at hc
  subst hc
  cases r with
  | none => exact absurd q1 id
  | some v =>
    obtain ⟨x, rfl, x1, x2⟩ := gV_i q1.1 rfl
    have w28 := q3 _ (List.mem_cons_self)
    have w29 := q3 _ (List.mem_cons_of_mem _ List.mem_cons_self)
    have e28 : rd g 182 28 = -1 := by
      have y : gV (0, -1, -1, 0) (hval g 182 28) := w28
      rw [v28] at y
      exact inV_c y.2.2 rfl
    have e29 : rd g 182 29 = -1 := by
      have y : gV (0, -1, -1, 0) (hval g 182 29) := w29
      rw [v29] at y
      exact inV_c y.2.2 rfl
    refine k x g gI (EQL_fr hI hE (gf 2 0 (by decide +kernel)) (gf 182 2 (by decide +kernel)) (fun a i ha => ?_))
    by_cases c1 : a = 182 ∧ i = 28
    · rw [c1.1, c1.2, e28, k3]
    · by_cases c2 : a = 182 ∧ i = 29
      · rw [c2.1, c2.2, e29, k4]
      · refine gf a i (inBx_f (fun x hm q => ?_))
        obtain ⟨y, y2, -⟩ := inK_p ha
        revert q
        simp only [SME6, List.mem_cons, List.not_mem_nil, or_false] at hm
        rcases hm with rfl | rfl | rfl | rfl | rfl | rfl | rfl | rfl | rfl | rfl | rfl | rfl <;> intro q <;> simp only at q <;> omega
theorem r64 (a b : Int) : i64 (lor_ a b) := y_in _
end SCj
