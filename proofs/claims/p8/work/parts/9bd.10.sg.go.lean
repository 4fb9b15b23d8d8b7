/-! the scene, part sg: go under the relation -/
/-- between both go -/
def goJ (v1 v2 : Int) (h g : LH) (r : Int) : Prop := (¬ goC h v1 v2 ∧ r = -1 ∧ ∀ a i, ¬ scp 68 a i → rd g a i = rd h a i) ∨ (goC h v1 v2 ∧ r = goF h 0 v1 v2 ∧ KCJ h g ∧ wntC 60 v1 v2 r (rd h 188 (4 * v1 + 118)) h g)
section SCg
variable {xs : Nat → Int} {xl e : Nat} {h g g' : LH} {Q : Option LV → LH → Prop} {v1 v2 r q c d b p sc t : Int} {L : List Int}
theorem wntC_lo (hc : wntC sc p d r c h g) (f : ∀ a i, sc ≤ a → a ≤ sc + 2 → rd g' a i = rd g a i) : wntC sc p d r c h g' := by
  obtain ⟨a1, a2, a3, a4, a5, a6⟩ := hc
  exact ⟨(f _ _ (by omega) (by omega)).trans a1, (f _ _ (by omega) (by omega)).trans a2, (f _ _ (by omega) (by omega)).trans a3, (f _ _ (by omega) (by omega)).trans a4, fun i i0 i1 => (f _ _ (by omega) (by omega)).trans (a5 i i0 i1), fun i i0 i1 => (f _ _ (by omega) (by omega)).trans (a6 i i0 i1)⟩
theorem wntR_of (hc : wntR b p d r g g') (f : ∀ i, rd g 198 i = rd h 198 i) (f2 : ∀ i, rd g 188 i = rd h 188 i) : wntR b p d r h g' := by
  obtain ⟨a1, a2, a3, a4, a5⟩ := hc
  exact ⟨a1, a2, by rw [a3, f], by rw [a4, f, f2], fun i i0 i1 n => (a5 i i0 i1 n).trans (f i)⟩
/-- what tryDoor leaves -/
theorem try_wnt (hp : 0 ≤ p ∧ p ≤ 5) (hd : 0 ≤ d ∧ d ≤ 13) : wntC sc p d t c h (wr (wr (wr (wr h (sc + 1) p t) (sc + 2) d (w32 (rd h (sc + 2) d + 1))) sc 2 (zor (rd h sc 2) (zshl 1 p))) sc 3 (zor (rd h sc 3) (if t = c then zshl 1 p else 0))) ∧ scf sc h (wr (wr (wr (wr h (sc + 1) p t) (sc + 2) d (w32 (rd h (sc + 2) d + 1))) sc 2 (zor (rd h sc 2) (zshl 1 p))) sc 3 (zor (rd h sc 3) (if t = c then zshl 1 p else 0))) := by
  refine ⟨⟨?_, ?_, ?_, ?_, fun i i0 i1 => ?_, fun i i0 i1 => ?_⟩, fun a i n => ?_⟩
  · rw [rdw_nei (by decide), rdw_nei (by decide), rdw_ne (by omega), rdw_ne (by omega)]
  · rw [rdw_nei (by decide), rdw_nei (by decide), rdw_ne (by omega), rdw_ne (by omega)]
  · rw [rdw_nei (by decide), rdw_eq]
  · rw [rdw_eq]
  · rw [rdw_ne (by omega), rdw_ne (by omega), rdw_ne (by omega)]
    by_cases z : i = p
    · rw [if_pos z, z, rdw_eq]
    · rw [if_neg z, rdw_nei (fun y => z y.symm)]
  · rw [rdw_ne (by omega), rdw_ne (by omega)]
    by_cases z : i = d
    · rw [if_pos z, z, rdw_eq]
    · rw [if_neg z, rdw_nei (fun y => z y.symm), rdw_ne (by omega)]
  · unfold scp at n
    rw [rd_wr, if_neg (by omega), rd_wr, if_neg (by omega), rd_wr, if_neg (by omega), rd_wr, if_neg (by omega)]
theorem tryF_fr (f : ∀ a i, (a = q + 7 + d ∨ a = q + 21 + p ∨ (sc ≤ a ∧ a ≤ sc + 2)) → rd g a i = rd h a i) : tryF g q sc L p d = tryF h q sc L p d := by
  unfold tryF
  rw [show rd g (q + 7 + d) = rd h (q + 7 + d) from funext (fun i => f _ i (by omega)), f sc 0 (by omega), f sc 1 (by omega), f sc 2 (by omega), f (sc + 1) p (by omega), f (sc + 2) d (by omega), f (q + 21 + p) 1 (by omega)]
theorem E_goS (he : 8 ≤ e) (hI : INV h) (hE : EQL h) (h1 : i32 v1) (h2 : i32 v2) (k : ∀ r g, INV g → goJ v1 v2 h g r → Q (some (.inl r)) g) : Rn xs xl e mm_OneSided_go 0 [some (.inr (.inr 1)), some (.inl v1), some (.inl v2), none] [] h Q := by
  obtain ⟨-, -, hP, -, -, -, -, ⟨k1, ⟨L, l1, l2⟩, p28, p29, k5, k6, -, k8⟩⟩ := id hE
  obtain ⟨o1, n1, -, -⟩ := k6
  have hq : rd h 1 1 = 5 ∨ rd h 1 1 = 32 := rQf hI.1
  have nd := rq_doors hI.1
  have np := rq_people hI.1
  have lr := LRQ_of hI k1 l1
  have a2 := k1.2.1
  have a4 := k1.2.2.1
  generalize eq : rd h 1 1 = q at hq a2 a4 l1 l2
  have A : Rn xs xl e mm_OneSided_go 0 [some (.inr (.inr 1)), some (.inl v1), some (.inl v2), none] [] h (fun r g => ∃ x, r = some (.inl x) ∧ goJ v1 v2 h g x) := by
    have no : ¬ goC h v1 v2 → ∃ x, (some (.inl (-1)) : Option LV) = some (.inl x) ∧ goJ v1 v2 h h x := fun z => ⟨-1, rfl, Or.inl ⟨z, rfl, fun _ _ _ => rfl⟩⟩
    refine B_OneSided_go_0 hq eq (RF_of hI.1) (by omega) ⟨fun c => no (fun z => by have := z.1; omega), fun c => ⟨fun c2 => no (fun z => by have := z.1; omega), fun c2 => ⟨fun c3 => no (fun z => by have := z.2.1; omega), fun c3 => ⟨fun c4 => no (fun z => by have := z.2.1; omega), fun c4 => ⟨0, by omega, ?_⟩⟩⟩⟩⟩
    refine F_scopy scn_68 (by decide) scn_60 (by decide) (RF_of hI.1) (fun g0 gq gf gF => ?_)
    have lo : ∀ a i, ¬ (68 ≤ a ∧ a ≤ 70) → rd g0 a i = rd h a i := fun a i n => gf a i (by unfold scp; omega)
    have P0 : PT g0 := PT_fr hP (fun a i ha => lo a i (by omega))
    have fd := fdD (v1 := v2) k1 eq c3 (by omega)
    have fp := fdP (v1 := v1) k1 eq c (by omega)
    have f5 : rd h (q + 7 + v2) 5 = rd h 188 (8 * v2 + 4 + 4) := fd 4 (by decide)
    have f2 : rd h (q + 7 + v2) 2 = rd h 188 (8 * v2 + 4 + 1) := fd 1 (by decide)
    have f3 : rd h (q + 7 + v2) 3 = rd h 188 (8 * v2 + 4 + 2) := fd 2 (by decide)
    have f6 : rd h (q + 7 + v2) 6 = rd h 188 (8 * v2 + 4 + 5) := fd 5 (by decide)
    have r5 := rq_d4 hI.1 (i := 8 * v2 + 4 + 4) (d := v2) (by omega) c3 (by omega)
    have r2 := rq_d1 hI.1 (i := 8 * v2 + 4 + 1) (d := v2) (by omega) c3 (by omega)
    have r3 := rq_d2 hI.1 (i := 8 * v2 + 4 + 2) (d := v2) (by omega) c3 (by omega)
    have r6 := rq_d5 hI.1 (i := 8 * v2 + 4 + 5) (d := v2) (by omega) c3 (by omega)
    have fp1 : rd h (q + 21 + v1) 1 = rd h 188 (4 * v1 + 116) := (fp 0 (by decide)).trans (by rw [show 116 + 4 * v1 + ((0 : Nat) : Int) = 4 * v1 + 116 by omega])
    have fp3 : rd h (q + 21 + v1) 3 = rd h 188 (4 * v1 + 118) := (fp 2 (by decide)).trans (by rw [show 116 + 4 * v1 + ((2 : Nat) : Int) = 4 * v1 + 118 by omega])
    have rp := rq_p0 hI.1 (i := 4 * v1 + 116) (d := v1) (by omega) c (by omega)
    have qr := rs_where hI.1 (i := 0 + v1 + 2) 0 v1 (by omega) (by omega) (by omega) (by omega) (by omega) (by omega)
    have qh := rs_now hI.1 (i := 0) 0 0 (by omega) (by omega) (by omega) (by omega) (by omega) (by omega)
    have s0 : rd h 60 0 = rd h 198 0 := k5.1
    have tg : tryF g0 q 60 L v1 v2 = goF h 0 v1 v2 := (tryF_fr (fun a i ha => lo a i (by omega))).trans (go_same k5 hI ⟨c3, by omega⟩ ⟨c, by omega⟩ nd.2 fd fp1 rp qr qh (by omega) (by omega) (by omega) p28 p29 lr)
    refine B_OneSided_go_35 hq ((lo 1 1 (by decide)).trans eq) gF ⟨2, by omega, ?_⟩
    refine F_tryDoor (L := L) (q := q) (by omega) scn_60 (by decide) hq (by omega) (by omega) (by rw [lo _ _ (by omega)]; omega) (by rw [lo _ _ (by omega), fp1]; exact rp) (by rw [lo _ _ (by decide), s0]; exact qh.1) gF P0 (by rw [lo _ _ (by omega)]; omega) (fun s hr s0 s1 h0 h1 => stl_frs (l2 s hr s0 s1 h0 h1) (lo _ _ (by omega)) (fun j j0 j1 => funext (fun i => lo _ _ (by omega))) (fun i => lo _ _ (by omega)) (fun i => lo _ _ (by omega))) (fun z => ?_) (fun z => ?_)
    · rw [tg] at z
      exact B_OneSided_go_51 gF ⟨fun _ => ⟨-1, rfl, Or.inl ⟨fun y => by have := y.2.2; omega, rfl, gf⟩⟩, fun y => absurd rfl y⟩
    · have e3 : rd g0 (q + 21 + v1) 3 = rd h 188 (4 * v1 + 118) := (lo _ _ (by omega)).trans fp3
      rw [tg] at z ⊢
      rw [e3]
      have gin := goF_in hI (b := 0) (by decide) (by decide) (p := v1) (d := v2) (by omega) (by omega)
      obtain ⟨W, gsf⟩ := try_wnt (sc := 60) (p := v1) (d := v2) (t := goF h 0 v1 v2) (c := rd h 188 (4 * v1 + 118)) (h := g0) (by omega) (by omega)
      have W1 : wntC 60 v1 v2 (goF h 0 v1 v2) (rd h 188 (4 * v1 + 118)) h (wr (wr (wr (wr g0 (60 + 1) v1 (goF h 0 v1 v2)) (60 + 2) v2 (w32 (rd g0 (60 + 2) v2 + 1))) 60 2 (zor (rd g0 60 2) (zshl 1 v1))) 60 3 (zor (rd g0 60 3) (if goF h 0 v1 v2 = rd h 188 (4 * v1 + 118) then zshl 1 v1 else 0))) := by
        obtain ⟨w1, w2, w3, w4, w5, w6⟩ := W
        refine ⟨w1.trans (lo _ _ (by decide)), w2.trans (lo _ _ (by decide)), ?_, ?_, fun i i0 i1 => ?_, fun i i0 i1 => ?_⟩
        · rw [w3, lo 60 2 (by decide)]
        · rw [w4, lo 60 3 (by decide)]
        · rw [w5 i i0 i1, lo (60 + 1) i (by omega)]
        · rw [w6 i i0 i1, lo (60 + 2) i (by omega), lo (60 + 2) v2 (by omega)]
      have GF := RF_sc scn_60 gF gsf
      clear W
      generalize wr (wr (wr (wr g0 (60 + 1) v1 (goF h 0 v1 v2)) (60 + 2) v2 (w32 (rd g0 (60 + 2) v2 + 1))) 60 2 (zor (rd g0 60 2) (zshl 1 v1))) 60 3 (zor (rd g0 60 3) (if goF h 0 v1 v2 = rd h 188 (4 * v1 + 118) then zshl 1 v1 else 0)) = G at *
      have e8 : rd G 1 8 = rd h 1 8 := (gsf 1 8 (by unfold scp; omega)).trans (lo 1 8 (by decide))
      have e9 : rd G 1 9 = rd h 1 9 := (gsf 1 9 (by unfold scp; omega)).trans (lo 1 9 (by decide))
      have PG : PK G := fun i i0 i1 => (gsf 76 i (by unfold scp; omega)).trans ((lo 76 i (by decide)).trans (k8 i i0 i1))
      refine B_OneSided_go_51 GF ⟨fun y => absurd y z, fun _ => ⟨2, by omega, F_keep (by omega) scn_68 (fun k _ _ => by omega) GF PG (by rw [e8]; exact o1) (by rw [e9]; exact n1) (fun g kn ks kf gF2 => B_OneSided_go_68 gF2 ⟨_, rfl, Or.inr ⟨⟨⟨c, by omega⟩, ⟨c3, by omega⟩, by omega⟩, rfl, ?_, ?_⟩⟩)⟩⟩
      · rw [e8, e9] at ks kf
        unfold kpn at kn
        rw [e8, e9] at kn
        generalize er : (rd h 1 8 + rd h 1 9) % 16 = ρ at ks kf
        have hr : 0 ≤ ρ ∧ ρ < 16 := by omega
        refine ⟨kn, ?_, fun a i n1 n2 n3 n4 => ?_⟩
        · rw [er]
          exact ⟨fun i i0 i1 => (ks.1 i i0 i1).trans ((gsf _ _ (by unfold scp; omega)).trans (gq.1 i i0 i1)), fun i i0 i1 => (ks.2.1 i i0 i1).trans ((gsf _ _ (by unfold scp; omega)).trans (gq.2.1 i i0 i1)), fun i i0 i1 => (ks.2.2 i i0 i1).trans ((gsf _ _ (by unfold scp; omega)).trans (gq.2.2 i i0 i1))⟩
        · rw [er] at n3
          exact (kf a i n3 n4).trans ((gsf a i n1).trans (gf a i n2))
      · rw [e8, e9] at kf
        have hr : 0 ≤ (rd h 1 8 + rd h 1 9) % 16 ∧ (rd h 1 8 + rd h 1 9) % 16 < 16 := by omega
        generalize (rd h 1 8 + rd h 1 9) % 16 = ρ at kf hr
        exact wntC_lo W1 (fun a i a0 a1 => kf a i (by unfold scp; omega) (by omega))
  have B : Rn xs xl e mm_OneSided_go 0 [some (.inr (.inr 1)), some (.inl v1), some (.inl v2), none] [] h (fun r g => INV g) := use_sm TC_go (as := [.inr (.inr 1), .inl v1, .inl v2]) rfl (Nat.le_trans (Nat.le_of_ble_eq_true rfl) he) hI (gAr_c (g_ref 1) (gAr_c (g_i h1) (gAr_c (g_i h2) gAr_n))) rfl (Nat.le_of_ble_eq_true rfl) rfl (fun r g gI gf gq => gI)
  refine (A.and B).mono (fun r g z => ?_)
  obtain ⟨⟨x, rfl, a⟩, b⟩ := z
  exact k x g b a
theorem goC_iff (hI : INV h) (f : ∀ a i, 182 ≤ a → rd g a i = rd h a i) : goC g p d ↔ goC h p d := by
  have nd := rq_doors hI.1
  have np := rq_people hI.1
  have ek : key g = key h := key_frs (fun a i a0 a1 => f a i (by omega)) (fun i a0 a1 => f 182 i (by decide))
  unfold goC
  rw [f 188 1 (by decide), f 188 2 (by decide)]
  constructor
  · rintro ⟨a, b, c⟩
    rw [goF_eq (b := 0) (b' := 0) ek (fun i i0 i1 => f 198 _ (by decide)) (fun i => f 188 i (by decide)) (by omega) (by omega)] at c
    exact ⟨a, b, c⟩
  · rintro ⟨a, b, c⟩
    rw [goF_eq (b := 0) (b' := 0) ek (fun i i0 i1 => f 198 _ (by decide)) (fun i => f 188 i (by decide)) (by omega) (by omega)]
    exact ⟨a, b, c⟩
theorem G_goS (he : 8 ≤ e) (hI : INV h) (hE : EQL h) (gI : INV g) (hj : goJ v1 v2 h g r) (k : ∀ g', INV g' → EQL g' → Q (some (.inl r)) g') : Rn xs xl e mm_go 0 [some (.inr (.inr 182)), some (.inl v1), some (.inl v2)] [] g Q := by
  have k5 := hE.2.2.2.2.2.2.2.2.2.2.2.1
  have np := rq_people hI.1
  have nd := rq_doors hI.1
  have ctn : ∀ d, 0 ≤ d → d < 14 → 0 ≤ rd h 198 (d + 20) ∧ rd h 198 (d + 20) ≤ 9 := fun d d0 d1 => by
    have y := k5.2.2.2.1 d d0 d1
    rw [show (0 : Int) + d + 20 = d + 20 by omega] at y
    exact y.2
  rcases hj with ⟨n, rfl, fr⟩ | ⟨hc, rfl, kc, wc⟩
  · have gh : ∀ a i, 182 ≤ a → rd g a i = rd h a i := fun a i n => fr a i (by unfold scp; omega)
    have EG : EQL g := EQL_fr hI hE (fr 2 0 (by unfold scp; omega)) (fr 182 2 (by unfold scp; omega)) (fun a i ha => fr a i (by have := (inK_p ha).1; unfold scp; omega))
    refine G_goX (by omega) gI (fun d d0 d1 => by rw [gh 198 _ (by decide)]; exact ctn d d0 d1) (fun _ g' gI' f' => k g' gI' (EQL_fr gI EG (f' 2 0 (by decide) (by decide) (by decide) (by decide)) (f' 182 2 (by decide) (by decide) (by decide) (by decide)) (fun a i ha => ?_))) (fun z => absurd ((goC_iff hI gh).mp z) n)
    obtain ⟨y1, y2, y3, -⟩ := inK_p ha
    exact f' a i (by omega) (by omega) (by omega) (by omega)
  · obtain ⟨kn, ks, kf⟩ := id kc
    have n1 := hE.2.2.2.2.2.2.2.2.2.2.2.2.1
    have hr : 0 ≤ (rd h 1 8 + rd h 1 9) % 16 ∧ (rd h 1 8 + rd h 1 9) % 16 < 16 := by omega
    generalize (rd h 1 8 + rd h 1 9) % 16 = ρ at ks kf hr
    have gh : ∀ a i, 182 ≤ a → rd g a i = rd h a i := fun a i n => kf a i (by unfold scp; omega) (by unfold scp; omega) (by unfold scp; omega) (by omega)
    clear ks kn kf
    have gg : goF g 0 v1 v2 = goF h 0 v1 v2 := goF_eq (key_frs (fun a i a0 a1 => gh a i (by omega)) (fun i a0 a1 => gh 182 i (by decide))) (fun i i0 i1 => gh 198 _ (by decide)) (fun i => gh 188 i (by decide)) ⟨hc.1.1, by have := hc.1.2; omega⟩ ⟨hc.2.1.1, by have := hc.2.1.2; omega⟩
    refine G_goX (by omega) gI (fun d d0 d1 => by rw [gh 198 _ (by decide)]; exact ctn d d0 d1) (fun z => absurd ((goC_iff hI gh).mpr hc) z) (fun _ u uI ux uw uf => ?_)
    rw [gg] at uw ⊢
    have hct : rd h 198 (0 + v2 + 20) < 9 := by
      have c6 := rq_d6 hI.1 (i := 8 * v2 + 10) (d := v2) (by omega) hc.2.1.1 (by have := hc.2.1.2; omega)
      have y := hc.2.2
      unfold goF at y
      by_cases w : rd h 198 (0 + v1 + 14) ≠ 1 ∧ rd h 198 (0 + v2 + 20) < rd h 188 (8 * v2 + 10)
      · omega
      · rw [if_neg w] at y
        omega
    have lo : ∀ a i, a < 182 → rd u a i = rd g a i := fun a i n => uf a i (by omega) (by omega) (by omega) (by omega)
    have t2 : rd u 188 2 = rd h 188 2 := (uf 188 2 (by decide) (by decide) (by decide) (by decide)).trans (gh 188 2 (by decide))
    have sr : SR u 60 0 := SR_went k5 hc.1 np.2 ⟨hc.2.1.1, by have := hc.2.1.2; omega⟩ hct rfl t2 (wntC_lo wc (fun a i a0 a1 => lo a i (by omega))) (wntR_of uw (fun i => gh 198 i (by decide)) (fun i => gh 188 i (by decide)))
    exact k u uI (EQL_keep hI hE kc ⟨ux, uf⟩ sr)
end SCg
