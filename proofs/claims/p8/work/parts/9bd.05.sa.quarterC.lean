/-! the scene, part sa: the class's quarter(): settled, a day begun -/
def cbx (L : List Int) (bs : BX) : Bool := bs.all (fun b => L.all (fun c => !(decide (b.1 ≤ c) && decide (c ≤ b.2.1))))
theorem cbx_ok {L : List Int} {bs : BX} (hb : cbx L bs = true) {a i : Int} (ha : a ∈ L) : inBx bs a i = false := by
  refine inBx_f (fun b hm q => ?_)
  unfold cbx at hb
  have z := List.all_eq_true.mp hb b hm
  rw [List.all_eq_true] at z
  have y := z a ha
  rw [decide_eq_true q.1, decide_eq_true q.2.1] at y
  cases y
section SCa
variable {o v w p : Nat → Int} {R : Int} {y : QY}
/-- no law, or one expression -/
def lwO (y : QY) : Prop := y.2.2.2.2 = [] ∨ one 25 y.2.2.2.2
theorem qS_lw (hp : ∀ k, 0 ≤ p k) (hv : ∀ k, o k = 2 → 0 ≤ v k ∧ v k ≤ 9999) (hw : ∀ k, w k ≤ 28) (hy : lwO y) (h : (qS o v w p R y).1.1 = 0) : lwO (qS o v w p R y) := by
  unfold qS at h ⊢
  by_cases w1 : w y.1.2 = 1
  · rw [if_pos w1]
    by_cases c1 : 14 ≤ y.2.2.1.length
    · rw [if_pos c1]; exact hy
    · rw [if_neg c1]; exact hy
  · rw [if_neg w1] at h ⊢
    by_cases w7 : w y.1.2 = 7
    · rw [if_pos w7]
      by_cases c1 : 6 ≤ y.2.2.2.1.length
      · rw [if_pos c1]; exact hy
      · rw [if_neg c1]; exact hy
    · rw [if_neg w7] at h ⊢
      by_cases w11 : w y.1.2 = 11
      · rw [if_pos w11] at h ⊢
        by_cases c1 : 0 < y.2.2.2.2.length
        · rw [if_pos c1]; exact hy
        · rw [if_neg c1] at h ⊢
          exact Or.inr (qX_one hp hv hw (tkS_z h))
      · rw [if_neg w11]; exact hy
theorem qL_lw (hp : ∀ k, 0 ≤ p k) (hv : ∀ k, o k = 2 → 0 ≤ v k ∧ v k ≤ 9999) (hw : ∀ k, w k ≤ 28) : ∀ (c : Nat) (y : QY), (y.1.1 = 0 → lwO y) → (qL o v w p R c y).1.1 = 0 → lwO (qL o v w p R c y)
  | 0, _, hy, h => hy h
  | c + 1, y, hy, h => by
    by_cases g : y.1.1 = 0 ∧ o y.1.2 ≠ 0
    · rw [qL_go g] at h ⊢
      exact qL_lw hp hv hw c _ (fun z => qS_lw hp hv hw (hy g.1) z) h
    · rw [qL_stop g] at h ⊢
      exact hy h
theorem qF_lw (hp : ∀ k, 0 ≤ p k) (hv : ∀ k, o k = 2 → 0 ≤ v k ∧ v k ≤ 9999) (hw : ∀ k, w k ≤ 28) (h : (qF o v w p).1.1 = 0) : lwO (qF o v w p) :=
  qL_lw hp hv hw 1000 _ (fun _ => Or.inl rfl) h
end SCa
theorem rG_q6 {h : LH} {q : Int} (hq : q = 5 ∨ q = 32) (hr : RNG h) : 0 ≤ rd h q 6 ∧ rd h q 6 ≤ 1000 := by
  rcases hq with rfl | rfl
  · have q := rdP (a := 5) (i := 6) (lo := 0) (hi := 1000) (st := 1) hr (vB_ok (by decide +kernel)) (Or.inl (by decide +kernel)) (leA1 (by decide +kernel))
    exact ⟨q.1, q.2.1⟩
  · have q := rdP (a := 32) (i := 6) (lo := 0) (hi := 1000) (st := 1) hr (vB_ok (by decide +kernel)) (Or.inl (by decide +kernel)) (leA1 (by decide +kernel))
    exact ⟨q.1, q.2.1⟩
/-- the class's new quarter: its law, settled, a day begun -/
def QSN (g : LH) (q : Int) (L : List Int) : Prop := LWQ g q L ∧ (∀ s hr, 0 ≤ s → s ≤ 3 → 0 ≤ hr → hr ≤ 23 → stl g q L g s hr) ∧ sbg 60 q (rd g q 4) g ∧ rd g 1 6 = 0 ∧ rd g 1 9 = 0
section SCb
variable {xs : Nat → Int} {xl e : Nat} {h g g1 h0 h1 : LH} {Q : Option LV → LH → Prop} {q c s hr : Int} {T : Int → Int} {n : Int} {W : Int → Int} {L : List Int}
theorem LWQ_frs (hl : LWQ h q L) (f : ∀ a i, a = q ∨ a = q + 3 → rd g a i = rd h a i) : LWQ g q L := by
  obtain ⟨a, b, c⟩ := hl
  exact ⟨(f _ _ (Or.inl rfl)).trans a, fun i hi => (f _ _ (Or.inr rfl)).trans (b i hi), c⟩
theorem LWQ_of {y : QY} (hq : q = 5 ∨ q = 32) (hr : RNG g) (hk : LWK g q y.2.2.2.2) (hy : lwO y) : LWQ g q y.2.2.2.2 := by
  obtain ⟨a, b⟩ := hk
  have z := rG_q6 hq hr
  refine ⟨a, b, by omega, ?_⟩
  unfold lwO at hy
  rcases hy with e | o
  · rw [e]
    exact ⟨trivial, fun z => absurd z (by decide), fun c hc => absurd hc List.not_mem_nil⟩
  · exact ⟨o.2.1 32 0 (by decide) (by decide), fun _ => o.1 0, o.2.2⟩
theorem stl_frs (hs : stl h0 q L g s hr) (f0 : rd h1 q 2 = rd h0 q 2) (f1 : ∀ j, 0 ≤ j → j < 14 → rd h1 (q + 7 + j) = rd h0 (q + 7 + j)) (f5 : ∀ i, rd g1 (q + 5) i = rd g (q + 5) i) (f6 : ∀ i, rd g1 (q + 6) i = rd g (q + 6) i) : stl h1 q L g1 s hr := by
  refine ⟨fun j j0 j1 => ?_, fun j j0 j1 => ?_⟩
  · show bitZ _ j ↔ (j < rd h1 q 2 ∧ wAh (rd h1 (q + 7 + j)) L s hr (rd h1 (q + 7 + j) 8) 0)
    rw [f5, f0, f1 j j0 j1]
    exact hs.1 j j0 j1
  · show bitZ _ j ↔ (j < rd h1 q 2 ∧ wBk (rd h1 (q + 7 + j)) L s hr (rd h1 (q + 7 + j) 8) 0)
    rw [f6, f0, f1 j j0 j1]
    exact hs.2 j j0 j1
theorem sbg_fr {m : Int} (hq : q = 5 ∨ q = 32) (hn : m ≤ 6) (hb : sbg 60 q m g) (f : ∀ a i, (q ≤ a ∧ a ≤ q + 26) ∨ (60 ≤ a ∧ a ≤ 62) → rd g1 a i = rd g a i) : sbg 60 q m g1 := by
  obtain ⟨b0, b1, b2, b3, b4, b5⟩ := hb
  refine ⟨(f _ _ (by omega)).trans b0, (f _ _ (by omega)).trans b1, (f _ _ (by omega)).trans b2, fun p p0 p1 => ?_, fun p p0 p1 => ?_, fun i i0 i1 => (f _ _ (by omega)).trans (b5 i i0 i1)⟩
  · rw [f 60 3 (by omega), b3 p p0 p1]
    constructor
    · rintro ⟨y, z⟩
      exact ⟨y, by rw [f _ _ (by omega), f _ _ (by omega)]; exact z⟩
    · rintro ⟨y, z⟩
      rw [f _ _ (by omega), f _ _ (by omega)] at z
      exact ⟨y, z⟩
  · rw [f (60 + 1) _ (by omega), f _ _ (by omega)]
    exact b4 p p0 p1
theorem K_readQuarterP (he : 39 ≤ e) (hq : q = 5 ∨ q = 32) (hI : INV h) (k : ∀ r h', (∀ a i, a ∈ ([6, 7, 33, 34] : List Int) → rd h' a i = rd h a i) → Q r h') : Rn xs xl e mm_Reader_readQuarter 0 [some (.inr (.inr 2)), some (.inr (.inr q)), none] [] h Q := by
  rcases hq with rfl | rfl
  · exact use_sm (tabC (j := 72) rfl) (as := [.inr (.inr 2), .inr (.inr 5)]) rfl he hI (gAr_c (g_ref 2) (gAr_c (g_ref 5) gAr_n)) rfl (Nat.le_of_ble_eq_true rfl) rfl (fun r h' i' f q => k r h' (fun a i ha => f a i (cbx_ok (L := [6, 7, 33, 34]) (by decide +kernel) ha)))
  · exact use_sm (tabC (j := 117) rfl) (as := [.inr (.inr 2), .inr (.inr 32)]) rfl he hI (gAr_c (g_ref 2) (gAr_c (g_ref 32) gAr_n)) rfl (Nat.le_of_ble_eq_true rfl) rfl (fun r h' i' f q => k r h' (fun a i ha => f a i (cbx_ok (L := [6, 7, 33, 34]) (by decide +kernel) ha)))
theorem F_mbegin (he : 3 ≤ e) (hq : q = 5 ∨ q = 32) (hF : RF h) (hP : PT h) (hn : 0 ≤ rd h q 4 ∧ rd h q 4 ≤ 6) (k : ∀ g, sbg 60 q (rd h q 4) g → Q none g) : Rn xs xl e mm_Memory_begin 0 [some (.inr (.inr 59)), some (.inr (.inr q))] [] h Q := by
  refine B_Memory_begin_0 hq hF ⟨2, by omega, F_sbegin (by omega) scn_60 (by decide) hq hF hP hn (fun g bg bf bF => B_Memory_begin_8 hq bF (k _ ?_))⟩
  refine sbg_fr hq hn.2 bg (fun a i ha => ?_)
  rw [rdw_ne (by omega), rdw_ne (by omega), rdw_ne (by omega)]
/-- what the class's quarter leaves: all that was read, settled, a day begun -/
theorem E_quarterS (he : 42 ≤ e) (hI : INV h) (hP : PT h) (hT : TP T n h) (hW : rd h 4 = W) (k : ∀ h', ((qF (tO T n) (tV T n 32) (tW T n 32 W) (tP T n)).1.1 ≠ 0 → ∀ a i, a ≠ 2 → ¬ (rd h 1 2 ≤ a ∧ a ≤ rd h 1 2 + 26) → rd h' a i = rd h a i) → ((qF (tO T n) (tV T n 32) (tW T n 32 W) (tP T n)).1.1 = 0 → rd h' 1 1 = rd h 1 2 ∧ rd h' 1 2 = rd h 1 1 ∧ DCKf T n W h' (rd h 1 2) (qR (tV T n 32) (tW T n 32 W) (tP T n)) (qF (tO T n) (tV T n 32) (tW T n 32 W) (tP T n)) ∧ QSN h' (rd h 1 2) (qF (tO T n) (tV T n 32) (tW T n 32 W) (tP T n)).2.2.2.2) → Q (some (.inl (qF (tO T n) (tV T n 32) (tW T n 32 W) (tP T n)).1.1)) h') : Rn xs xl e mm_OneSided_quarter 0 [some (.inr (.inr 1)), none, none] [] h Q := by
  have lwF : (qF (tO T n) (tV T n 32) (tW T n 32 W) (tP T n)).1.1 = 0 → lwO (qF (tO T n) (tV T n 32) (tW T n 32 W) (tP T n)) := qF_lw (fun k => tP_0 hT.2.2.2 hT.2.2.1 k) (fun k hk => tV_num hT.2.2.2 hT.2.2.1 hk) (fun k => (tW_in k).2)
  generalize eY : qF (tO T n) (tV T n 32) (tW T n 32 W) (tP T n) = Y at k lwF
  have hS := rSf hI.1
  generalize eq : rd h 1 ((2 : Nat) : Int) = q at hS
  have eq' : rd h 1 2 = q := eq
  have A : Rn xs xl 41 mm_Reader_readQuarter 0 [some (.inr (.inr 2)), some (.inr (.inr q)), none] [] h (fun r g => r = some (.inl Y.1.1) ∧ (Y.1.1 = 0 → DCKf T n W g q (qR (tV T n 32) (tW T n 32 W) (tP T n)) Y)) := by
    refine F_readQuarterF (by omega) hS hP ⟨RF_of hI.1, hT, hW⟩ ?_
    rw [eY]
    exact fun h' d => ⟨rfl, d⟩
  have B : Rn xs xl 41 mm_Reader_readQuarter 0 [some (.inr (.inr 2)), some (.inr (.inr q)), none] [] h (fun r g => INV g ∧ (∀ a i, a ≠ 2 → ¬ (q ≤ a ∧ a ≤ q + 26) → rd g a i = rd h a i)) := K_readQuarterF (by omega) hS hI (fun r h' i' f' => ⟨i', f'⟩)
  have C : Rn xs xl 41 mm_Reader_readQuarter 0 [some (.inr (.inr 2)), some (.inr (.inr q)), none] [] h (fun r g => ∀ a i, a ∈ ([6, 7, 33, 34] : List Int) → rd g a i = rd h a i) := K_readQuarterP (by omega) hS hI (fun r h' f' => f')
  refine B_OneSided_quarter_0 hS (rQf hI.1) eq rfl (RF_of hI.1) ⟨41, by omega, ((A.and B).and C).mono (fun r g z => ?_)⟩
  obtain ⟨⟨⟨rfl, gD⟩, gI, gf⟩, gp⟩ := z
  have g2 : rd g 1 ((2 : Nat) : Int) = q := (gf 1 _ (by decide) (by omega)).trans eq
  rw [eq'] at k
  refine B_OneSided_quarter_11 hS (rQf gI.1) g2 rfl (RF_of gI.1) ⟨fun z => ?_, fun z => k g (fun _ => gf) (fun z2 => absurd z2 z)⟩
  have gD' := gD z
  have gP : PT g := PT_fr hP (fun a i ha => gp a i (by simp only [List.mem_cons, List.not_mem_nil, or_false]; exact ha))
  have g1 : rd g 1 ((1 : Nat) : Int) = rd h 1 1 := gf 1 _ (by decide) (by omega)
  have hl0 : LWQ g q Y.2.2.2.2 := LWQ_of hS gI.1 gD'.1.2.2.2.2 (lwF z)
  have i1 : INV (wr (wr g 1 2 (rd g 1 ((1 : Nat) : Int))) 1 1 q) := wQ_1 (wQ_2 gI (rQf gI.1)) hS
  have e11 : rd (wr (wr g 1 2 (rd g 1 ((1 : Nat) : Int))) 1 1 q) 1 ((1 : Nat) : Int) = q := rdw_eq
  have e12 : rd (wr (wr g 1 2 (rd g 1 ((1 : Nat) : Int))) 1 1 q) 1 ((2 : Nat) : Int) = rd h 1 1 := ((rdw_nei (by decide)).trans rdw_eq).trans g1
  have fH : ∀ a i, a ≠ 1 → rd (wr (wr g 1 2 (rd g 1 ((1 : Nat) : Int))) 1 1 q) a i = rd g a i := fun a i n => by rw [rdw_ne (fun z => n z.symm), rdw_ne (fun z => n z.symm)]
  refine B_OneSided_quarter_18 hS (rQf gI.1) g2 rfl (RF_of gI.1) ⟨6, by omega, ?_⟩
  generalize wr (wr g 1 2 (rd g 1 ((1 : Nat) : Int))) 1 1 q = H at *
  have hl1 : LWQ H q Y.2.2.2.2 := LWQ_frs hl0 (fun a i ha => fH a i (by omega))
  have P1 : PT H := PT_fr gP (fun a i ha => fH a i (by omega))
  have d2 : rd H q 2 = (Y.2.2.1.length : Int) := (fH _ _ (by omega)).trans gD'.1.1.1
  have d4 : rd H q 4 = (Y.2.2.2.1.length : Int) := (fH _ _ (by omega)).trans gD'.1.1.2.1
  have l14 := gD'.1.1.2.2.1
  have SA : Rn xs xl 6 mm_Quarter_settle 0 [some (.inr (.inr q)), none, none] [] H (fun r g3 => r = none ∧ ∀ s hr, 0 ≤ s → s ≤ 3 → 0 ≤ hr → hr ≤ 23 → stl H q Y.2.2.2.2 g3 s hr) := F_settle (by omega) hS (RF_of i1.1) P1 hl1 (by omega) (fun h' _ _ a => ⟨rfl, a⟩)
  have SB : Rn xs xl 6 mm_Quarter_settle 0 [some (.inr (.inr q)), none, none] [] H (fun r g3 => INV g3 ∧ (∀ a i, a ≠ 2 → ¬ (q + 4 ≤ a ∧ a ≤ q + 6) → rd g3 a i = rd H a i)) := K_settleF (by omega) hS i1 (fun g3 i3 f3 => ⟨i3, f3⟩)
  refine (SA.and SB).mono (fun r g3 z3 => ?_)
  obtain ⟨⟨rfl, st3⟩, i3, f3⟩ := z3
  have t11 : rd g3 1 ((1 : Nat) : Int) = q := (f3 1 _ (by decide) (by omega)).trans e11
  have t12 : rd g3 1 ((2 : Nat) : Int) = rd h 1 1 := (f3 1 _ (by decide) (by omega)).trans e12
  have P3 : PT g3 := PT_fr P1 (fun a i ha => f3 a i (by omega) (by omega))
  have d4' : rd g3 q 4 = (Y.2.2.2.1.length : Int) := (f3 _ _ (by omega) (by omega)).trans d4
  have BA : Rn xs xl 3 mm_Memory_begin 0 [some (.inr (.inr 59)), some (.inr (.inr q))] [] g3 (fun r g4 => r = none ∧ sbg 60 q (rd g3 q 4) g4) := F_mbegin (by omega) hS (RF_of i3.1) P3 (by omega) (fun g a => ⟨rfl, a⟩)
  have BB : Rn xs xl 3 mm_Memory_begin 0 [some (.inr (.inr 59)), some (.inr (.inr q))] [] g3 (fun r g4 => INV g4 ∧ (∀ a i, a ≠ 2 → ¬ (59 ≤ a ∧ a ≤ 62) → rd g4 a i = rd g3 a i)) := K_beginF (by omega) hS i3 (fun g4 i4 f4 => ⟨i4, f4⟩)
  refine B_OneSided_quarter_43 (rSf i3.1) hS rfl t11 (RF_of i3.1) ⟨3, by omega, (BA.and BB).mono (fun r g4 z4 => ?_)⟩
  obtain ⟨⟨rfl, bg4⟩, i4, f4⟩ := z4
  refine B_OneSided_quarter_54 (rSf i4.1) (rQf i4.1) rfl rfl (RF_of i4.1) ?_
  have w0 : ∀ a i, a ≠ 1 → rd (wr (wr g4 1 6 0) 1 9 0) a i = rd g4 a i := fun a i n => by rw [rdw_ne (fun z => n z.symm), rdw_ne (fun z => n z.symm)]
  have w11 : rd (wr (wr g4 1 6 0) 1 9 0) 1 1 = q := by
    rw [rdw_nei (by decide), rdw_nei (by decide), f4 1 1 (by decide) (by decide)]
    exact t11
  have w12 : rd (wr (wr g4 1 6 0) 1 9 0) 1 2 = rd h 1 1 := by
    rw [rdw_nei (by decide), rdw_nei (by decide), f4 1 2 (by decide) (by decide)]
    exact t12
  have w16 : rd (wr (wr g4 1 6 0) 1 9 0) 1 6 = 0 := by
    rw [rdw_nei (by decide), rdw_eq]
  have w19 : rd (wr (wr g4 1 6 0) 1 9 0) 1 9 = 0 := rdw_eq
  have this := k (wr (wr g4 1 6 0) 1 9 0) (fun z2 => absurd z z2)
  rw [z] at this
  generalize wr (wr g4 1 6 0) 1 9 0 = g5 at *
  have fg : ∀ a i, a = q ∨ a = q + 3 ∨ (q + 7 ≤ a ∧ a ≤ q + 26) → rd g5 a i = rd H a i := fun a i ha => by
    rw [w0 a i (by omega), f4 a i (by omega) (by omega), f3 a i (by omega) (by omega)]
  refine this (fun _ => ⟨w11, w12, DCKf_fr hS gD' (fun a i ha => (fg a i ha).trans (fH a i (by omega))), LWQ_frs hl1 (fun a i ha => fg a i (by omega)), fun s hr s0 s1 h0 h1 => stl_frs (st3 s hr s0 s1 h0 h1) (fg _ _ (by omega)) (fun j j0 j1 => funext (fun i => fg _ _ (by omega))) (fun i => by rw [w0 _ i (by omega), f4 _ i (by omega) (by omega)]) (fun i => by rw [w0 _ i (by omega), f4 _ i (by omega) (by omega)]), ?_, w16, w19⟩)
  rw [w0 q 4 (by omega), f4 q 4 (by omega) (by omega)]
  exact sbg_fr hS (by omega) bg4 (fun a i ha => w0 a i (by omega))
end SCb
