/-! the scene, part sf: undo, go -/
/-- undo -/
def undJ (h g : LH) (r : Int) : Prop := (rd h 1 9 = 0 ∧ r = 0 ∧ samP h g) ∨ (rd h 1 9 ≠ 0 ∧ r = 1 ∧ rd g 1 9 = rd h 1 9 - 1 ∧ scq h g (134 + 3 * ((rd h 1 8 + (rd h 1 9 - 1)) % 16)) 60 ∧ ∀ a i, ¬ scp 60 a i → ¬ (a = 1 ∧ i = 9) → rd g a i = rd h a i)
section SCf
variable {xs : Nat → Int} {xl e : Nat} {h g g' : LH} {Q : Option LV → LH → Prop} {v1 v2 r q c d b b' p : Int} {L : List Int}
theorem scq_hi (hs : scq h g d c) (f : ∀ a i, scp d a i → rd h a i = rd g' a i) : scq g' g d c :=
  ⟨fun i i0 i1 => (hs.1 i i0 i1).trans (f _ _ (Or.inl ⟨rfl, i0, i1⟩)), fun i i0 i1 => (hs.2.1 i i0 i1).trans (f _ _ (Or.inr (Or.inl ⟨rfl, i0, i1⟩))), fun i i0 i1 => (hs.2.2 i i0 i1).trans (f _ _ (Or.inr (Or.inr ⟨rfl, i0, i1⟩)))⟩
theorem kpx_r (hk : kpx h g) (n0 : 0 ≤ rd h 182 25 ∧ rd h 182 25 ≤ 16) (e : ∀ i, 350 ≤ i → i ≤ 1433 → rd g' 198 i = rd g 198 i) (e2 : rd g' 182 25 = rd g 182 25) : kpx h g' := by
  unfold kpx at hk ⊢
  rw [e2]
  have b : ∀ {b c : Int}, 350 ≤ c → c ≤ 1400 → blq h g b c → blq h g' b c := fun h1 h2 hb i i0 i1 => (e _ (by omega) (by omega)).trans (hb i i0 i1)
  exact ⟨fun z => ⟨(hk.1 z).1, fun k k0 k1 => b (by omega) (by omega) ((hk.1 z).2.1 k k0 k1), b (by omega) (by omega) (hk.1 z).2.2⟩, fun z => ⟨(hk.2 z).1, fun k k0 k1 => b (by omega) (by omega) ((hk.2 z).2.1 k k0 k1), b (by decide) (by decide) (hk.2 z).2.2⟩⟩
theorem kpx_l2 (hk : kpx g g') (n0 : 0 ≤ rd h 182 25 ∧ rd h 182 25 ≤ 16) (e : ∀ i, 0 ≤ i → i ≤ 1433 → rd g 198 i = rd h 198 i) (e2 : rd g 182 25 = rd h 182 25) : kpx h g' := by
  unfold kpx at hk ⊢
  rw [e2] at hk
  have b : ∀ {b c : Int}, 0 ≤ b → b ≤ 1400 → blq g g' b c → blq h g' b c := fun h1 h2 hb i i0 i1 => (hb i i0 i1).trans (e _ (by omega) (by omega))
  exact ⟨fun z => ⟨(hk.1 z).1, fun k k0 k1 => b (by omega) (by omega) ((hk.1 z).2.1 k k0 k1), b (by decide) (by decide) (hk.1 z).2.2⟩, fun z => ⟨(hk.2 z).1, fun k k0 k1 => b (by omega) (by omega) ((hk.2 z).2.1 k k0 k1), b (by decide) (by decide) (hk.2 z).2.2⟩⟩
theorem E_undoS (he : 8 ≤ e) (hI : INV h) (hE : EQL h) (k : ∀ r g, INV g → undJ h g r → Q (some (.inl r)) g) : Rn xs xl e mm_OneSided_undo 0 [some (.inr (.inr 1))] [] h Q := by
  obtain ⟨-, -, -, -, -, -, -, ⟨-, -, -, -, -, k6, -, k8⟩⟩ := hE
  obtain ⟨o1, n1, -, -⟩ := k6
  have A : Rn xs xl e mm_OneSided_undo 0 [some (.inr (.inr 1))] [] h (fun r g => ∃ x, r = some (.inl x) ∧ undJ h g x) := by
    by_cases z : rd h 1 9 = 0
    · exact B_OneSided_undo_0 (sd := 134 + 3 * 0) (scn_past (by decide) (by decide)) (by decide) (RF_of hI.1) ⟨fun c => absurd z c, fun _ => ⟨0, rfl, Or.inl ⟨z, rfl, fun _ _ => rfl⟩⟩⟩
    · have ez := zfm16' (a := rd h 1 8 + (rd h 1 9 - 1)) (by omega) (by omega)
      generalize er : (rd h 1 8 + (rd h 1 9 - 1)) % 16 = ρ at ez
      have hr : 0 ≤ ρ ∧ ρ < 16 := by omega
      have sr := scn_past hr.1 hr.2
      refine B_OneSided_undo_0 (sd := 134 + 3 * ρ) sr (by omega) (RF_of hI.1) ⟨fun _ => ⟨by omega, by omega, by omega, ?_, 0, by omega, F_scopy scn_60 (by decide) sr (by omega) (RF_18 (RF_of hI.1) (Or.inr rfl)) (fun g gq gf gF => B_OneSided_undo_48 gF ⟨1, rfl, Or.inr ⟨z, rfl, ?_, ?_, fun a i n1 n2 => ?_⟩⟩)⟩, fun c => absurd c z⟩
      · rw [ez]
        exact k8 ρ hr.1 hr.2
      · rw [gf 1 9 (by unfold scp; omega), rdw_eq]
      · rw [er]
        exact scq_hi gq (fun a i ha => rdw_ne (by unfold scp at ha; omega))
      · rw [gf a i n1, rd_wr, if_neg (by omega)]
  have B : Rn xs xl e mm_OneSided_undo 0 [some (.inr (.inr 1))] [] h (fun r g => INV g) := use_sm TC_undo (as := [.inr (.inr 1)]) rfl (Nat.le_trans (Nat.le_of_ble_eq_true rfl) he) hI (gAr_c (g_ref 1) gAr_n) rfl (Nat.le_of_ble_eq_true rfl) rfl (fun r g gI gf gq => gI)
  refine (A.and B).mono (fun r g z => ?_)
  obtain ⟨⟨x, rfl, a⟩, b⟩ := z
  exact k x g b a
theorem G_undoX (he : 1 ≤ e) (hI : INV h) (k0 : rd h 182 25 = 0 → Q (some (.inl 0)) (wr h 182 0 0)) (k1 : rd h 182 25 ≠ 0 → ∀ g, rd g 182 25 = rd h 182 25 - 1 → blq h g (70 * (rd h 182 25 - 1) + 350) 0 → (∀ a i, ¬ (a = 198 ∧ 0 ≤ i ∧ i < 34) → ¬ (a = 182 ∧ (i = 25 ∨ i = 0)) → rd g a i = rd h a i) → Q (some (.inl 1)) g) : Rn xs xl e mm_undo 0 [some (.inr (.inr 182))] [] h Q := by
  have i0 : INV (wr h 182 0 0) := wF_thrown hI (by omega) (by omega)
  have n0 := rF_undos hI.1
  refine B_undo_0 (RF_of hI.1) ⟨fun c => ⟨by omega, by omega, by omega, 0, by omega, ?_⟩, fun c => k0 c⟩
  have r1 := wu i0.1 (v := rd h 182 25 - 1) (by omega) (by omega)
  have f1 : ∀ a i, ¬ (a = 182 ∧ (i = 25 ∨ i = 0)) → rd (wr (wr h 182 0 0) 182 25 (rd h 182 25 - 1)) a i = rd h a i := fun a i n => by
    rw [rd_wr, if_neg (by omega), rd_wr, if_neg (by omega)]
  have e1 : rd (wr (wr h 182 0 0) 182 25 (rd h 182 25 - 1)) 182 25 = rd h 182 25 - 1 := rdw_eq
  generalize wr (wr h 182 0 0) 182 25 (rd h 182 25 - 1) = g at *
  refine D_copies r1 (by omega) (by omega) (by omega) (fun u ur uf uc => B_undo_40 (RF_of ur) (k1 c u ((uf 182 25 (by omega)).trans e1) (fun i i0 i1 => (uc i i0 i1).trans (f1 198 _ (by omega))) (fun a i m1 m2 => (uf a i (by omega)).trans (f1 a i m2))))
theorem G_undoS (he : 8 ≤ e) (hI : INV h) (hE : EQL h) (gI : INV g) (hj : undJ h g r) (k : ∀ g', INV g' → EQL g' → Q (some (.inl r)) g') : Rn xs xl e mm_undo 0 [some (.inr (.inr 182))] [] g Q := by
  obtain ⟨-, -, -, -, -, -, m, ⟨k1, k2, k3, k4, k5, k6, k7, k8⟩⟩ := id hE
  obtain ⟨o1, n1, e1, ks⟩ := id k6
  have hp := rq_people hI.1
  rcases hj with ⟨z, rfl, sm⟩ | ⟨z, rfl, e9, sc, fr⟩
  · obtain ⟨i1, e2⟩ := thr gI (EQL_sam hI hE sm)
    have e3 := sm 182 25
    exact G_undoX (by omega) gI (fun _ => k _ i1 e2) (fun c => absurd (by omega) c)
  · have gh : ∀ a i, 182 ≤ a → rd g a i = rd h a i := fun a i n => fr a i (by unfold scp; omega) (by omega)
    have ne : rd g 182 25 = rd h 1 9 := (gh 182 25 (by decide)).trans e1
    have A : Rn xs xl e mm_undo 0 [some (.inr (.inr 182))] [] g (fun q g' => q = some (.inl 1) ∧ rd g' 182 25 = rd h 1 9 - 1 ∧ blq g g' (70 * (rd h 1 9 - 1) + 350) 0 ∧ (∀ a i, ¬ (a = 198 ∧ 0 ≤ i ∧ i < 34) → ¬ (a = 182 ∧ (i = 25 ∨ i = 0)) → rd g' a i = rd g a i)) := G_undoX (by omega) gI (fun c => absurd (ne.symm.trans c) z) (fun _ g' a b c => by
      rw [ne] at a b
      exact ⟨rfl, a, b, c⟩)
    have B : Rn xs xl e mm_undo 0 [some (.inr (.inr 182))] [] g (fun q g' => INV g') := D_undo (by omega) gI (fun r g' a _ => a)
    refine (A.and B).mono (fun q g' y => ?_)
    obtain ⟨⟨rfl, a1, a2, a3⟩, gI'⟩ := y
    clear A B
    have lo : ∀ a i, a < 182 → rd g' a i = rd g a i := fun a i n => a3 a i (by omega) (by omega)
    have cl : ∀ a i, ¬ scp 60 a i → ¬ (a = 1 ∧ i = 9) → a < 182 → rd g' a i = rd h a i := fun a i n1 n2 n3 => (lo a i n3).trans (fr a i n1 n2)
    have rl : ∀ a i, 182 ≤ a → ¬ (a = 198 ∧ 0 ≤ i ∧ i < 34) → ¬ (a = 182 ∧ (i = 25 ∨ i = 0)) → rd g' a i = rd h a i := fun a i n1 n2 n3 => (a3 a i n2 n3).trans (gh a i n1)
    have t2 : rd g' 188 2 = rd h 188 2 := rl 188 2 (by decide) (by decide) (by decide)
    have r16 : 0 ≤ (rd h 1 8 + (rd h 1 9 - 1)) % 16 ∧ (rd h 1 8 + (rd h 1 9 - 1)) % 16 < 16 := by omega
    have sc' : scq h g' (134 + 3 * ((rd h 1 8 + (rd h 1 9 - 1)) % 16)) 60 := scq_lo sc (fun a i ha => lo a i (scp_lt (by decide) ha))
    have bl' : blq h g' (70 * (rd h 1 9 - 1) + 350) 0 := fun i i0 i1 => (a2 i i0 i1).trans (gh 198 _ (by decide))
    have sr : SR g' 60 0 := SR_mv (ks (rd h 1 9 - 1) (by omega) (by omega)) sc' bl' t2 hp
    have un : UN g' := by
      have e8 : rd g' 1 8 = rd h 1 8 := cl 1 8 (by unfold scp; omega) (by decide) (by decide)
      have e9' : rd g' 1 9 = rd h 1 9 - 1 := (lo 1 9 (by decide)).trans e9
      unfold UN
      rw [e8, e9']
      exact ⟨o1, by omega, a1, fun k k0 k1 => SR_fr (ks k k0 (by omega)) (fun a i ha => cl a i (by unfold scp; omega) (by omega) (by omega)) (fun i i0 i1 => rl 198 i (by decide) (by omega) (by omega)) t2 hp⟩
    have ms : MKS g' := MKS_fr hp k7 t2 (fun i => rl 199 i (by decide) (by omega) (by omega)) (fun m m0 m1 a i h1 h2 => cl a i (by unfold scp; omega) (by omega) (by omega)) (fun i i0 i1 => rl 198 i (by decide) (by omega) (by omega))
    have sto : ∀ a i, stt a i → rd g' a i = rd h a i := fun a i ha => by
      unfold stt at ha
      by_cases y : a < 182
      · exact cl a i (by unfold scp; omega) (by omega) y
      · exact rl a i (by omega) (by omega) (by omega)
    exact k g' gI' (EQL_mk hI hE (cl 2 0 (by unfold scp; omega) (by decide) (by decide)) (rl 182 2 (by decide) (by decide) (by decide)) sto (MKR_fr m (cl 1 6 (by unfold scp; omega) (by decide) (by decide)) (fun a i ha => by
      rcases ha with rfl | rfl
      · exact cl 75 i (by unfold scp; omega) (by omega) (by decide)
      · exact rl 199 i (by decide) (by omega) (by omega))) sr un ms)
/-- one can go -/
def goC (h : LH) (p d : Int) : Prop := (0 ≤ p ∧ p < rd h 188 2) ∧ (0 ≤ d ∧ d < rd h 188 1) ∧ 0 ≤ goF h 0 p d
theorem goF_eq (e1 : key g = key h) (e2 : ∀ i, 0 ≤ i → i < 34 → rd g 198 (b' + i) = rd h 198 (b + i)) (e3 : ∀ i, rd g 188 i = rd h 188 i) (hp : 0 ≤ p ∧ p ≤ 5) (hd : 0 ≤ d ∧ d ≤ 13) : goF g b' p d = goF h b p d := by
  have z0 : rd g 198 b' = rd h 198 b := by
    have := e2 0 (by decide) (by decide)
    rw [Int.add_zero, Int.add_zero] at this
    exact this
  have z1 : rd g 198 (b' + 1) = rd h 198 (b + 1) := e2 1 (by decide) (by decide)
  have z2 : rd g 198 (b' + p + 2) = rd h 198 (b + p + 2) := by
    have := e2 (p + 2) (by omega) (by omega)
    rw [show b' + (p + 2) = b' + p + 2 by omega, show b + (p + 2) = b + p + 2 by omega] at this
    exact this
  have z3 : rd g 198 (b' + p + 14) = rd h 198 (b + p + 14) := by
    have := e2 (p + 14) (by omega) (by omega)
    rw [show b' + (p + 14) = b' + p + 14 by omega, show b + (p + 14) = b + p + 14 by omega] at this
    exact this
  have z4 : rd g 198 (b' + d + 20) = rd h 198 (b + d + 20) := by
    have := e2 (d + 20) (by omega) (by omega)
    rw [show b' + (d + 20) = b' + d + 20 by omega, show b + (d + 20) = b + d + 20 by omega] at this
    exact this
  unfold goF
  rw [e1, z0, z1, z2, z3, z4, e3, e3]
theorem goF_in (hI : INV h) (b0 : b % 70 = 0) (hb : 0 ≤ b ∧ b ≤ 1540) (hp : 0 ≤ p ∧ p ≤ 5) (hd : 0 ≤ d ∧ d ≤ 13) : -1 ≤ goF h b p d ∧ goF h b p d ≤ 9 := by
  have qs := rq_p0 hI.1 (i := 4 * p + 116) (d := p) (by omega) (by omega) (by omega)
  have qr := rs_where hI.1 (i := b + p + 2) b p (by omega) (by omega) (by omega) (by omega) (by omega) (by omega)
  have qh := rs_now hI.1 (i := b) b 0 (by omega) (by omega) (by omega) (by omega) (by omega) (by omega)
  unfold goF
  split
  · exact (NW_ok (key h) (rd h 198 (b + 1)) hd qs qr (by omega)).1
  · omega
theorem G_goesI (he : 5 ≤ e) (hI : INV h) (hb : b = 0 ∨ b = 1470 ∨ b = 1540) (hp : 0 ≤ p ∧ p ≤ 5) (hd : 0 ≤ d ∧ d ≤ 13) (hdoor : b = 0 → d < rd h 188 1) (hct : 0 ≤ rd h 198 (b + d + 20) ∧ rd h 198 (b + d + 20) ≤ 100000) (k0 : goF h b p d = -1 → ∀ g, INV g → frL h g → Q (some (.inl (-1))) g) (k1 : 0 ≤ goF h b p d → ∀ g, INV g → gone b p d (goF h b p d) h g → Q (some (.inl (goF h b p d))) g) : Rn xs xl e mm_goes 0 [some (.inr (.inr 182)), some (.inl b), some (.inl p), some (.inl d), none] [] h Q := by
  have qs := rq_p0 hI.1 (i := 4 * p + 116) (d := p) (by omega) (by omega) (by omega)
  have qr := rs_where hI.1 (i := b + p + 2) b p (by omega) (by omega) (by omega) (by omega) (by omega) (by omega)
  have qh := rs_now hI.1 (i := b) b 0 (by omega) (by omega) (by omega) (by omega) (by omega) (by omega)
  have A : Rn xs xl e mm_goes 0 [some (.inr (.inr 182)), some (.inl b), some (.inl p), some (.inl d), none] [] h (fun q g => (goF h b p d = -1 ∧ q = some (.inl (-1)) ∧ frL h g) ∨ (0 ≤ goF h b p d ∧ q = some (.inl (goF h b p d)) ∧ gone b p d (goF h b p d) h g)) := G_goes he hI (by omega) hp hd qs qr (by omega) hct (goF_in hI (by omega) (by omega) hp hd) (fun z g gf => Or.inl ⟨z, rfl, gf⟩) (fun z g gg => Or.inr ⟨z, rfl, gg⟩)
  have B : Rn xs xl e mm_goes 0 [some (.inr (.inr 182)), some (.inl b), some (.inl p), some (.inl d), none] [] h (fun q g => INV g) := D_goes he hI hb hp hd hdoor (fun r g gI _ _ _ _ => gI)
  refine (A.and B).mono (fun q g z => ?_)
  obtain ⟨⟨z, rfl, gf⟩ | ⟨z, rfl, gg⟩, gI⟩ := z
  · exact k0 z g gI gf
  · exact k1 z g gI gg
theorem gone_W (hg : gone b p d r h g) : wntR b p d r h g := by
  obtain ⟨a1, a2, a3, a4, a5⟩ := hg
  exact ⟨a1, a2, a3, a4, fun i _ _ n => a5 198 i (by decide) (by decide) (fun z => n z.2)⟩
theorem key_frs (f : ∀ a i, 188 ≤ a → a ≤ 190 → rd g a i = rd h a i) (f2 : ∀ i, 28 ≤ i → i ≤ 31 → rd g 182 i = rd h 182 i) : key g = key h := by
  unfold key
  rw [show rd g 188 = rd h 188 from funext (fun j => f _ _ (by decide) (by decide)), show rd g 189 = rd h 189 from funext (fun j => f _ _ (by decide) (by decide)), show rd g 190 = rd h 190 from funext (fun j => f _ _ (by decide) (by decide)), f2 28 (by decide) (by decide), f2 29 (by decide) (by decide), f2 30 (by decide) (by decide), f2 31 (by decide) (by decide)]
/-- the reference's go: it can't be, or it has gone once all was kept -/
theorem G_goX (he : 6 ≤ e) (hI : INV h) (hct : ∀ d, 0 ≤ d → d < 14 → 0 ≤ rd h 198 (d + 20) ∧ rd h 198 (d + 20) ≤ 9) (k0 : ¬ goC h v1 v2 → ∀ g, INV g → (∀ a i, a ≠ 196 → a ≠ 197 → ¬ (a = 198 ∧ 1470 ≤ i) → ¬ (a = 182 ∧ i = 0) → rd g a i = rd h a i) → Q (some (.inl (-1))) g) (k1 : goC h v1 v2 → ∀ g, INV g → kpx h g → wntR 0 v1 v2 (goF h 0 v1 v2) h g → (∀ a i, a ≠ 196 → a ≠ 197 → ¬ (a = 198 ∧ ((0 ≤ i ∧ i < 34) ∨ 350 ≤ i)) → ¬ (a = 182 ∧ (i = 0 ∨ i = 25)) → rd g a i = rd h a i) → Q (some (.inl (goF h 0 v1 v2))) g) : Rn xs xl e mm_go 0 [some (.inr (.inr 182)), some (.inl v1), some (.inl v2)] [] h Q := by
  have i0 : INV (wr h 182 0 0) := wF_thrown hI (by omega) (by omega)
  have f0 : ∀ a i, ¬ (a = 182 ∧ i = 0) → rd (wr h 182 0 0) a i = rd h a i := fun a i n => by
    rw [rd_wr, if_neg (by omega)]
  have wrong : ¬ goC h v1 v2 → Q (some (.inl (-1))) (wr h 182 0 0) := fun z => k0 z _ i0 (fun a i _ _ _ n => f0 a i n)
  have np := rq_people hI.1
  have nd := rq_doors hI.1
  have nu := rF_undos hI.1
  refine B_go_0 (RF_of hI.1) (by omega) ⟨fun c => wrong (fun z => by have := z.1; omega), fun c1 => ⟨fun c => wrong (fun z => by have := z.1; omega), fun c2 => ⟨fun c => wrong (fun z => by have := z.2.1; omega), fun c3 => ⟨fun c => wrong (fun z => by have := z.2.1; omega), fun c4 => ⟨0, by omega, ?_⟩⟩⟩⟩⟩
  refine D_copies i0.1 (by omega) (by omega) (by omega) (fun u ur uf uc => ?_)
  have uI : INV u := INV_far i0 ur (fun a i n _ _ => uf a i (by omega))
  have fu : ∀ a i, ¬ (a = 198 ∧ 1470 ≤ i) → ¬ (a = 182 ∧ i = 0) → rd u a i = rd h a i := fun a i n1 n2 => (uf a i (by omega)).trans (f0 a i n2)
  have ku : key u = key h := key_frs (fun a i a0 a1 => fu a i (by omega) (by omega)) (fun i a0 a1 => fu 182 i (by omega) (by omega))
  have gu : goF u 1470 v1 v2 = goF h 0 v1 v2 := goF_eq ku (fun i i0 i1 => (uc i i0 i1).trans (f0 198 _ (by omega))) (fun i => fu 188 i (by omega) (by omega)) (by omega) (by omega)
  have ct : 0 ≤ rd u 198 (1470 + v2 + 20) ∧ rd u 198 (1470 + v2 + 20) ≤ 100000 := by
    have y := (uc (v2 + 20) (by omega) (by omega)).trans (f0 198 _ (by omega))
    rw [show (1470 : Int) + (v2 + 20) = 1470 + v2 + 20 by omega, Int.zero_add] at y
    have := hct v2 (by omega) (by omega)
    omega
  refine B_go_33 (RF_of ur) ⟨5, by omega, G_goesI (by omega) uI (by omega) (by omega) (by omega) (fun z => absurd z (by decide)) ct (fun z g gI gf => ?_) (fun z g gI gg => ?_)⟩
  · rw [gu] at z
    exact B_go_42 (RF_of gI.1) ⟨fun y => absurd y (by decide), fun _ => k0 (fun y => by have := y.2.2; omega) g gI (fun a i n1 n2 n3 n4 => (gf a i n1 n2).trans (fu a i n3 n4))⟩
  · rw [gu] at z gg ⊢
    have fg : ∀ a i, a ≠ 196 → a ≠ 197 → ¬ (a = 198 ∧ 1470 ≤ i) → ¬ (a = 182 ∧ i = 0) → rd g a i = rd h a i := fun a i n1 n2 n3 n4 => (gg.2.2.2.2 a i n1 n2 (by omega)).trans (fu a i n3 n4)
    refine B_go_42 (RF_of gI.1) ⟨fun _ => ⟨1, by omega, G_keepsX (by omega) gI (fun w wI wf wx => ?_)⟩, fun y => absurd y (by omega)⟩
    have fw : ∀ a i, a ≠ 196 → a ≠ 197 → ¬ (a = 198 ∧ 350 ≤ i) → ¬ (a = 182 ∧ (i = 0 ∨ i = 25)) → rd w a i = rd h a i := fun a i n1 n2 n3 n4 => (wf a i (by omega) (by omega)).trans (fg a i n1 n2 (by omega) (by omega))
    have kw : kpx h w := kpx_l2 wx nu (fun i i0 i1 => fg 198 i (by decide) (by decide) (by omega) (by omega)) (fg 182 25 (by decide) (by decide) (by decide) (by decide))
    have ekw : key w = key h := key_frs (fun a i a0 a1 => fw a i (by omega) (by omega) (by omega) (by omega)) (fun i a0 a1 => fw 182 i (by omega) (by omega) (by omega) (by omega))
    have gw : goF w 0 v1 v2 = goF h 0 v1 v2 := goF_eq ekw (fun i i0 i1 => fw 198 _ (by decide) (by decide) (by omega) (by omega)) (fun i => fw 188 i (by decide) (by decide) (by omega) (by omega)) (by omega) (by omega)
    have ctw : 0 ≤ rd w 198 (0 + v2 + 20) ∧ rd w 198 (0 + v2 + 20) ≤ 100000 := by
      rw [fw 198 _ (by decide) (by decide) (by omega) (by omega), Int.zero_add]
      have := hct v2 (by omega) (by omega)
      omega
    refine B_go_51 (RF_of wI.1) ⟨5, by omega, G_goesI (by omega) wI (by omega) (by omega) (by omega) (fun _ => by rw [fw 188 1 (by decide) (by decide) (by decide) (by decide)]; exact c4) ctw (fun y => absurd y (by omega)) (fun y x xI xg => ?_)⟩
    rw [gw] at xg ⊢
    have xf := xg.2.2.2.2
    have xw := gone_W xg
    refine B_go_58 (RF_of xI.1) (k1 ⟨⟨c1, c2⟩, ⟨c3, c4⟩, z⟩ x xI (kpx_r kw nu (fun i i0 i1 => xf 198 i (by decide) (by decide) (by omega)) (xf 182 25 (by decide) (by decide) (by omega))) ?_ (fun a i n1 n2 n3 n4 => (xf a i n1 n2 (by omega)).trans (fw a i n1 n2 (by omega) n4)))
    obtain ⟨w1, w2, w3, w4, w5⟩ := xw
    refine ⟨w1, w2, ?_, ?_, fun i i0 i1 n => (w5 i i0 i1 n).trans (fw 198 i (by decide) (by decide) (by omega) (by omega))⟩
    · rw [w3, fw 198 _ (by decide) (by decide) (by omega) (by omega)]
    · rw [w4, fw 188 _ (by decide) (by decide) (by omega) (by omega), fw 198 _ (by decide) (by decide) (by omega) (by omega)]
end SCf
