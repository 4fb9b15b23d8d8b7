section
/-! the scene, part sg: go under the relation -/
/-- between both go -/
def goJ (v1 v2 : Int) (h g : LH) (r : Int) : Prop := (¬ goC h v1 v2 ∧ r = -1 ∧ ∀ a i, ¬ scp 68 a i → rd g a i = rd h a i) ∨ (goC h v1 v2 ∧ r = goF h 0 v1 v2 ∧ KCJ h g ∧ wntC 60 v1 v2 r (rd h 188 (4 * v1 + 118)) h g)
section SCg
variable {xs : Nat → Int} {xl e : Nat} {h g g' : LH} {Q : Option LV → LH → Prop} {v1 v2 r q c d b p sc t : Int} {L : List Int}
theorem wntC_lo (hc : wntC sc p d r c h g) (f : ∀ a i, sc ≤ a → a ≤ sc + 2 → rd g' a i = rd g a i) : wntC sc p d r c h g' := by
  obtain ⟨a1, a2, a3, a4, a5, a6⟩ := hc
  exact ⟨(f _ _ (by omega) (by omega)).trans a1, (f _ _ (by omega) (by omega)).trans a2, (f _ _ (by omega) (by omega)).trans a3, (f _ _ (by omega) (by omega)).trans a4, fun i i0 i1 => (f _ _ (by omega) (by omega)).trans (a5 i i0 i1), fun i i0 i1 => (f _ _ (by omega) (by omega)).trans (a6 i i0 i1)⟩
theorem wntR_of (hc : wntR b p d r g g') (f : ∀ i, rd g 198 i = rd h 198 i) (f2 : ∀ i, rd g 188 i = rd h 188 i) : wntR b p d r h g' := by
  obtain ⟨a1, a2, a3, a4, a5⟩ := hc
  exact ⟨a1, a2, by rw [a3, f], by rw [a4, f, f2], fun i i0 i1 n => (a5 i i0 i1 n).trans (f i)⟩
/-- what tryDoor leaves -/
theorem try_wnt (hp : 0 ≤ p ∧ p ≤ 5) (hd : 0 ≤ d ∧ d ≤ 13) : wntC sc p d t c h (wr (wr (wr (wr h (sc + 1) p t) (sc + 2) d (w32 (rd h (sc + 2) d + 1))) sc 2 (zor (rd h sc 2) (zshl 1 p))) sc 3 (zor (rd h sc 3) (if t = c then zshl 1 p else 0))) ∧ scf sc h (wr (wr (wr (wr h (sc + 1) p t) (sc + 2) d (w32 (rd h (sc + 2) d + 1))) sc 2 (zor (rd h sc 2) (zshl 1 p))) sc 3 (zor (rd h sc 3) (if t = c then zshl 1 p else 0))) := by
  refine ⟨⟨?_, ?_, ?_, ?_, fun i i0 i1 => ?_, fun i i0 i1 => ?_⟩, fun a i n => ?_⟩
  · rw [rdw_nei (by decide), rdw_nei (by decide), rdw_ne (by omega), rdw_ne (by omega)]
  · rw [rdw_nei (by decide), rdw_nei (by decide), rdw_ne (by omega), rdw_ne (by omega)]
  · rw [rdw_nei (by decide), rdw_eq]
  · rw [rdw_eq]
  · rw [rdw_ne (by omega), rdw_ne (by omega), rdw_ne (by omega)]
    by_cases z : i = p
    · rw [if_pos z, z, rdw_eq]
    · rw [if_neg z, rdw_nei (fun y => z y.symm)]
  · rw [rdw_ne (by omega), rdw_ne (by omega)]
    by_cases z : i = d
    · rw [if_pos z, z, rdw_eq]
    · rw [if_neg z, rdw_nei (fun y => z y.symm), rdw_ne (by omega)]
  · unfold scp at n
    rw [rd_wr, if_neg (by omega), rd_wr, if_neg (by omega), rd_wr, if_neg (by omega), rd_wr, if_neg (by omega)]
theorem tryF_fr (f : ∀ a i, (a = q + 7 + d ∨ a = q + 21 + p ∨ (sc ≤ a ∧ a ≤ sc + 2)) → rd g a i = rd h a i) : tryF g q sc L p d = tryF h q sc L p d := by
  unfold tryF
  rw [show rd g (q + 7 + d) = rd h (q + 7 + d) from funext (fun i => f _ i (by omega)), f sc 0 (by omega), f sc 1 (by omega), f sc 2 (by omega), f (sc + 1) p (by omega), f (sc + 2) d (by omega), f (q + 21 + p) 1 (by omega)]
theorem E_goS (he : 8 ≤ e) (hI : INV h) (hE : EQL h) (h1 : i32 v1) (h2 : i32 v2) (k : ∀ r g, INV g → goJ v1 v2 h g r → Q (some (.inl r)) g) : Rn xs xl e mm_OneSided_go 0 [some (.inr (.inr 1)), some (.inl v1), some (.inl v2), none] [] h Q := by
  obtain ⟨-, -, hP, -, -, -, -, ⟨k1, ⟨L, l1, l2⟩, p28, p29, k5, k6, -, k8⟩⟩ := id hE
  obtain ⟨o1, n1, -, -⟩ := k6
  have hq : rd h 1 1 = 5 ∨ rd h 1 1 = 32 := rQf hI.1
  have nd := rq_doors hI.1
  have np := rq_people hI.1
  have lr := LRQ_of hI k1 l1
  have a2 := k1.2.1
  have a4 := k1.2.2.1
  generalize eq : rd h 1 1 = q at hq a2 a4 l1 l2
  have A : Rn xs xl e mm_OneSided_go 0 [some (.inr (.inr 1)), some (.inl v1), some (.inl v2), none] [] h (fun r g => ∃ x, r = some (.inl x) ∧ goJ v1 v2 h g x) := by
    have no : ¬ goC h v1 v2 → ∃ x, (some (.inl (-1)) : Option LV) = some (.inl x) ∧ goJ v1 v2 h h x := fun z => ⟨-1, rfl, Or.inl ⟨z, rfl, fun _ _ _ => rfl⟩⟩
    refine B_OneSided_go_0 hq eq (RF_of hI.1) (by omega) ⟨fun c => no (fun z => by have := z.1; omega), fun c => ⟨fun c2 => no (fun z => by have := z.1; omega), fun c2 => ⟨fun c3 => no (fun z => by have := z.2.1; omega), fun c3 => ⟨fun c4 => no (fun z => by have := z.2.1; omega), fun c4 => ⟨0, by omega, ?_⟩⟩⟩⟩⟩
    refine F_scopy scn_68 (by decide) scn_60 (by decide) (RF_of hI.1) (fun g0 gq gf gF => ?_)
    have lo : ∀ a i, ¬ (68 ≤ a ∧ a ≤ 70) → rd g0 a i = rd h a i := fun a i n => gf a i (by unfold scp; omega)
    have P0 : PT g0 := PT_fr hP (fun a i ha => lo a i (by omega))
    have fd := fdD (v1 := v2) k1 eq c3 (by omega)
    have fp := fdP (v1 := v1) k1 eq c (by omega)
    have f5 : rd h (q + 7 + v2) 5 = rd h 188 (8 * v2 + 4 + 4) := fd 4 (by decide)
    have f2 : rd h (q + 7 + v2) 2 = rd h 188 (8 * v2 + 4 + 1) := fd 1 (by decide)
    have f3 : rd h (q + 7 + v2) 3 = rd h 188 (8 * v2 + 4 + 2) := fd 2 (by decide)
    have f6 : rd h (q + 7 + v2) 6 = rd h 188 (8 * v2 + 4 + 5) := fd 5 (by decide)
    have r5 := rq_d4 hI.1 (i := 8 * v2 + 4 + 4) (d := v2) (by omega) c3 (by omega)
    have r2 := rq_d1 hI.1 (i := 8 * v2 + 4 + 1) (d := v2) (by omega) c3 (by omega)
    have r3 := rq_d2 hI.1 (i := 8 * v2 + 4 + 2) (d := v2) (by omega) c3 (by omega)
    have r6 := rq_d5 hI.1 (i := 8 * v2 + 4 + 5) (d := v2) (by omega) c3 (by omega)
    have fp1 : rd h (q + 21 + v1) 1 = rd h 188 (4 * v1 + 116) := (fp 0 (by decide)).trans (by rw [show 116 + 4 * v1 + ((0 : Nat) : Int) = 4 * v1 + 116 by omega])
    have fp3 : rd h (q + 21 + v1) 3 = rd h 188 (4 * v1 + 118) := (fp 2 (by decide)).trans (by rw [show 116 + 4 * v1 + ((2 : Nat) : Int) = 4 * v1 + 118 by omega])
    have rp := rq_p0 hI.1 (i := 4 * v1 + 116) (d := v1) (by omega) c (by omega)
    have qr := rs_where hI.1 (i := 0 + v1 + 2) 0 v1 (by omega) (by omega) (by omega) (by omega) (by omega) (by omega)
    have qh := rs_now hI.1 (i := 0) 0 0 (by omega) (by omega) (by omega) (by omega) (by omega) (by omega)
    have s0 : rd h 60 0 = rd h 198 0 := k5.1
    have tg : tryF g0 q 60 L v1 v2 = goF h 0 v1 v2 := (tryF_fr (fun a i ha => lo a i (by omega))).trans (go_same k5 hI ⟨c3, by omega⟩ ⟨c, by omega⟩ nd.2 fd fp1 rp qr qh (by omega) (by omega) (by omega) p28 p29 lr)
    refine B_OneSided_go_35 hq ((lo 1 1 (by decide)).trans eq) gF ⟨2, by omega, ?_⟩
    refine F_tryDoor (L := L) (q := q) (by omega) scn_60 (by decide) hq (by omega) (by omega) (by rw [lo _ _ (by omega)]; omega) (by rw [lo _ _ (by omega), fp1]; exact rp) (by rw [lo _ _ (by decide), s0]; exact qh.1) gF P0 (by rw [lo _ _ (by omega)]; omega) (fun s hr s0 s1 h0 h1 => stl_frs (l2 s hr s0 s1 h0 h1) (lo _ _ (by omega)) (fun j j0 j1 => funext (fun i => lo _ _ (by omega))) (fun i => lo _ _ (by omega)) (fun i => lo _ _ (by omega))) (fun z => ?_) (fun z => ?_)
    · rw [tg] at z
      exact B_OneSided_go_51 gF ⟨fun _ => ⟨-1, rfl, Or.inl ⟨fun y => by have := y.2.2; omega, rfl, gf⟩⟩, fun y => absurd rfl y⟩
    · have e3 : rd g0 (q + 21 + v1) 3 = rd h 188 (4 * v1 + 118) := (lo _ _ (by omega)).trans fp3
      rw [tg] at z ⊢
      rw [e3]
      have gin := goF_in hI (b := 0) (by decide) (by decide) (p := v1) (d := v2) (by omega) (by omega)
      obtain ⟨W, gsf⟩ := try_wnt (sc := 60) (p := v1) (d := v2) (t := goF h 0 v1 v2) (c := rd h 188 (4 * v1 + 118)) (h := g0) (by omega) (by omega)
      have W1 : wntC 60 v1 v2 (goF h 0 v1 v2) (rd h 188 (4 * v1 + 118)) h (wr (wr (wr (wr g0 (60 + 1) v1 (goF h 0 v1 v2)) (60 + 2) v2 (w32 (rd g0 (60 + 2) v2 + 1))) 60 2 (zor (rd g0 60 2) (zshl 1 v1))) 60 3 (zor (rd g0 60 3) (if goF h 0 v1 v2 = rd h 188 (4 * v1 + 118) then zshl 1 v1 else 0))) := by
        obtain ⟨w1, w2, w3, w4, w5, w6⟩ := W
        refine ⟨w1.trans (lo _ _ (by decide)), w2.trans (lo _ _ (by decide)), ?_, ?_, fun i i0 i1 => ?_, fun i i0 i1 => ?_⟩
        · rw [w3, lo 60 2 (by decide)]
        · rw [w4, lo 60 3 (by decide)]
        · rw [w5 i i0 i1, lo (60 + 1) i (by omega)]
        · rw [w6 i i0 i1, lo (60 + 2) i (by omega), lo (60 + 2) v2 (by omega)]
      have GF := RF_sc scn_60 gF gsf
      clear W
      generalize wr (wr (wr (wr g0 (60 + 1) v1 (goF h 0 v1 v2)) (60 + 2) v2 (w32 (rd g0 (60 + 2) v2 + 1))) 60 2 (zor (rd g0 60 2) (zshl 1 v1))) 60 3 (zor (rd g0 60 3) (if goF h 0 v1 v2 = rd h 188 (4 * v1 + 118) then zshl 1 v1 else 0)) = G at *
      have e8 : rd G 1 8 = rd h 1 8 := (gsf 1 8 (by unfold scp; omega)).trans (lo 1 8 (by decide))
      have e9 : rd G 1 9 = rd h 1 9 := (gsf 1 9 (by unfold scp; omega)).trans (lo 1 9 (by decide))
      have PG : PK G := fun i i0 i1 => (gsf 76 i (by unfold scp; omega)).trans ((lo 76 i (by decide)).trans (k8 i i0 i1))
      refine B_OneSided_go_51 GF ⟨fun y => absurd y z, fun _ => ⟨2, by omega, F_keep (by omega) scn_68 (fun k _ _ => by omega) GF PG (by rw [e8]; exact o1) (by rw [e9]; exact n1) (fun g kn ks kf gF2 => B_OneSided_go_68 gF2 ⟨_, rfl, Or.inr ⟨⟨⟨c, by omega⟩, ⟨c3, by omega⟩, by omega⟩, rfl, ?_, ?_⟩⟩)⟩⟩
      · rw [e8, e9] at ks kf
        unfold kpn at kn
        rw [e8, e9] at kn
        generalize er : (rd h 1 8 + rd h 1 9) % 16 = ρ at ks kf
        have hr : 0 ≤ ρ ∧ ρ < 16 := by omega
        refine ⟨kn, ?_, fun a i n1 n2 n3 n4 => ?_⟩
        · rw [er]
          exact ⟨fun i i0 i1 => (ks.1 i i0 i1).trans ((gsf _ _ (by unfold scp; omega)).trans (gq.1 i i0 i1)), fun i i0 i1 => (ks.2.1 i i0 i1).trans ((gsf _ _ (by unfold scp; omega)).trans (gq.2.1 i i0 i1)), fun i i0 i1 => (ks.2.2 i i0 i1).trans ((gsf _ _ (by unfold scp; omega)).trans (gq.2.2 i i0 i1))⟩
        · rw [er] at n3
          exact (kf a i n3 n4).trans ((gsf a i n1).trans (gf a i n2))
      · rw [e8, e9] at kf
        have hr : 0 ≤ (rd h 1 8 + rd h 1 9) % 16 ∧ (rd h 1 8 + rd h 1 9) % 16 < 16 := by omega
        generalize (rd h 1 8 + rd h 1 9) % 16 = ρ at kf hr
        exact wntC_lo W1 (fun a i a0 a1 => kf a i (by unfold scp; omega) (by omega))
  have B : Rn xs xl e mm_OneSided_go 0 [some (.inr (.inr 1)), some (.inl v1), some (.inl v2), none] [] h (fun r g => INV g) := use_sm TC_go (as := [.inr (.inr 1), .inl v1, .inl v2]) rfl (Nat.le_trans (Nat.le_of_ble_eq_true rfl) he) hI (gAr_c (g_ref 1) (gAr_c (g_i h1) (gAr_c (g_i h2) gAr_n))) rfl (Nat.le_of_ble_eq_true rfl) rfl (fun r g gI gf gq => gI)
  refine (A.and B).mono (fun r g z => ?_)
  obtain ⟨⟨x, rfl, a⟩, b⟩ := z
  exact k x g b a
theorem goC_iff (hI : INV h) (f : ∀ a i, 182 ≤ a → rd g a i = rd h a i) : goC g p d ↔ goC h p d := by
  have nd := rq_doors hI.1
  have np := rq_people hI.1
  have ek : key g = key h := key_frs (fun a i a0 a1 => f a i (by omega)) (fun i a0 a1 => f 182 i (by decide))
  unfold goC
  rw [f 188 1 (by decide), f 188 2 (by decide)]
  constructor
  · rintro ⟨a, b, c⟩
    rw [goF_eq (b := 0) (b' := 0) ek (fun i i0 i1 => f 198 _ (by decide)) (fun i => f 188 i (by decide)) (by omega) (by omega)] at c
    exact ⟨a, b, c⟩
  · rintro ⟨a, b, c⟩
    rw [goF_eq (b := 0) (b' := 0) ek (fun i i0 i1 => f 198 _ (by decide)) (fun i => f 188 i (by decide)) (by omega) (by omega)]
    exact ⟨a, b, c⟩
theorem G_goS (he : 8 ≤ e) (hI : INV h) (hE : EQL h) (gI : INV g) (hj : goJ v1 v2 h g r) (k : ∀ g', INV g' → EQL g' → Q (some (.inl r)) g') : Rn xs xl e mm_go 0 [some (.inr (.inr 182)), some (.inl v1), some (.inl v2)] [] g Q := by
  have k5 := hE.2.2.2.2.2.2.2.2.2.2.2.1
  have np := rq_people hI.1
  have nd := rq_doors hI.1
  have ctn : ∀ d, 0 ≤ d → d < 14 → 0 ≤ rd h 198 (d + 20) ∧ rd h 198 (d + 20) ≤ 9 := fun d d0 d1 => by
    have y := k5.2.2.2.1 d d0 d1
    rw [show (0 : Int) + d + 20 = d + 20 by omega] at y
    exact y.2
  rcases hj with ⟨n, rfl, fr⟩ | ⟨hc, rfl, kc, wc⟩
  · have gh : ∀ a i, 182 ≤ a → rd g a i = rd h a i := fun a i n => fr a i (by unfold scp; omega)
    have EG : EQL g := EQL_fr hI hE (fr 2 0 (by unfold scp; omega)) (fr 182 2 (by unfold scp; omega)) (fun a i ha => fr a i (by have := (inK_p ha).1; unfold scp; omega))
    refine G_goX (by omega) gI (fun d d0 d1 => by rw [gh 198 _ (by decide)]; exact ctn d d0 d1) (fun _ g' gI' f' => k g' gI' (EQL_fr gI EG (f' 2 0 (by decide) (by decide) (by decide) (by decide)) (f' 182 2 (by decide) (by decide) (by decide) (by decide)) (fun a i ha => ?_))) (fun z => absurd ((goC_iff hI gh).mp z) n)
    obtain ⟨y1, y2, y3, -⟩ := inK_p ha
    exact f' a i (by omega) (by omega) (by omega) (by omega)
  · obtain ⟨kn, ks, kf⟩ := id kc
    have n1 := hE.2.2.2.2.2.2.2.2.2.2.2.2.1
    have hr : 0 ≤ (rd h 1 8 + rd h 1 9) % 16 ∧ (rd h 1 8 + rd h 1 9) % 16 < 16 := by omega
    generalize (rd h 1 8 + rd h 1 9) % 16 = ρ at ks kf hr
    have gh : ∀ a i, 182 ≤ a → rd g a i = rd h a i := fun a i n => kf a i (by unfold scp; omega) (by unfold scp; omega) (by unfold scp; omega) (by omega)
    clear ks kn kf
    have gg : goF g 0 v1 v2 = goF h 0 v1 v2 := goF_eq (key_frs (fun a i a0 a1 => gh a i (by omega)) (fun i a0 a1 => gh 182 i (by decide))) (fun i i0 i1 => gh 198 _ (by decide)) (fun i => gh 188 i (by decide)) ⟨hc.1.1, by have := hc.1.2; omega⟩ ⟨hc.2.1.1, by have := hc.2.1.2; omega⟩
    refine G_goX (by omega) gI (fun d d0 d1 => by rw [gh 198 _ (by decide)]; exact ctn d d0 d1) (fun z => absurd ((goC_iff hI gh).mpr hc) z) (fun _ u uI ux uw uf => ?_)
    rw [gg] at uw ⊢
    have hct : rd h 198 (0 + v2 + 20) < 9 := by
      have c6 := rq_d6 hI.1 (i := 8 * v2 + 10) (d := v2) (by omega) hc.2.1.1 (by have := hc.2.1.2; omega)
      have y := hc.2.2
      unfold goF at y
      by_cases w : rd h 198 (0 + v1 + 14) ≠ 1 ∧ rd h 198 (0 + v2 + 20) < rd h 188 (8 * v2 + 10)
      · omega
      · rw [if_neg w] at y
        omega
    have lo : ∀ a i, a < 182 → rd u a i = rd g a i := fun a i n => uf a i (by omega) (by omega) (by omega) (by omega)
    have t2 : rd u 188 2 = rd h 188 2 := (uf 188 2 (by decide) (by decide) (by decide) (by decide)).trans (gh 188 2 (by decide))
    have sr : SR u 60 0 := SR_went k5 hc.1 np.2 ⟨hc.2.1.1, by have := hc.2.1.2; omega⟩ hct rfl t2 (wntC_lo wc (fun a i a0 a1 => lo a i (by omega))) (wntR_of uw (fun i => gh 198 i (by decide)) (fun i => gh 188 i (by decide)))
    exact k u uI (EQL_keep hI hE kc ⟨ux, uf⟩ sr)
end SCg
end
section
/-! the scene, part sh: a memory is copied, all of it -/
theorem RF_row {h g : LH} {b : Int} (hn : ∀ i, (hav b i).1 ≠ 2) (hF : RF h) (f : ∀ a i, a ≠ b → rd g a i = rd h a i) : RF g := by
  intro a j x hv e
  by_cases z : a = b
  · subst z
    exact absurd (by rw [e]) (hn (j : Int))
  · rw [f a j z]
    exact hF a j x hv e
/-- the day of memory M of g is what that of memory N of h was -/
def dcq (h g : LH) (N M : Int) : Prop := rd g M 1 = rd h N 1 ∧ ∀ i, 0 ≤ i → i < 24 → rd g (M + 4) i = rd h (N + 4) i ∧ rd g (M + 5) i = rd h (N + 5) i
/-- memory M of g is what memory N of h was -/
def mcq (h g : LH) (N M : Int) : Prop := dcq h g N M ∧ scq h g (N + 1) (M + 1) ∧ (rd g M 4 = rd h N 4 ∧ rd g M 7 = rd h N 7) ∧ ∀ i, 0 ≤ i → i < 10 → rd g (M + 6) i = rd h (N + 6) i ∧ rd g (M + 7) i = rd h (N + 7) i
section SCh
variable {xs : Nat → Int} {xl e : Nat} {h : LH} {Q : Option LV → LH → Prop}
theorem F_cday_59_67 (hF : RF h) (k : ∀ g, dcq h g 67 59 → (∀ a i, ¬ (a = 59 ∧ i = 1) → ¬ (a = 63 ∧ 0 ≤ i ∧ i < 24) → ¬ (a = 64 ∧ 0 ≤ i ∧ i < 24) → rd g a i = rd h a i) → Q none g) : Rn xs xl e mm_Memory_copyDay 0 [some (.inr (.inr 59)), some (.inr (.inr 67))] [] h Q := by
  refine B_copyDay_0_59_67 hF ?_
  have n0 : ∀ b j, ¬ (b = 59 ∧ j = 1) → rd (wr h 59 1 (rd h 67 1)) b j = rd h b j := fun b j hn => by rw [rd_wr, if_neg (fun q => hn ⟨q.1.symm, q.2.symm⟩)]
  have m0 : rd (wr h 59 1 (rd h 67 1)) 59 1 = rd h 67 1 := rdw_eq
  have F0 : RF (wr h 59 1 (rd h 67 1)) := RF_wn (by decide +kernel) hF
  generalize wr h 59 1 (rd h 67 1) = h0 at *
  have n1 : ∀ b j, rd (cpyL h0 71 0 63 0 24 ++ h0) b j = if b = 63 ∧ 0 ≤ j ∧ j < 24 then rd h0 71 j else rd h0 b j := fun b j => rd_cp0 24
  have F1 : RF (cpyL h0 71 0 63 0 24 ++ h0) := RF_row (b := 63) (fun i => hav_nr (by decide +kernel) i) F0 (fun a i z => by rw [n1, if_neg (fun y => z y.1)])
  generalize cpyL h0 71 0 63 0 24 ++ h0 = h1 at *
  refine B_copyDay_23_59_67 F1 ?_
  have n2 : ∀ b j, rd (cpyL h1 72 0 64 0 24 ++ h1) b j = if b = 64 ∧ 0 ≤ j ∧ j < 24 then rd h1 72 j else rd h1 b j := fun b j => rd_cp0 24
  have F2 : RF (cpyL h1 72 0 64 0 24 ++ h1) := RF_row (b := 64) (fun i => hav_nr (by decide +kernel) i) F1 (fun a i z => by rw [n2, if_neg (fun y => z y.1)])
  generalize cpyL h1 72 0 64 0 24 ++ h1 = h2 at *
  refine B_copyDay_38_59_67 F2 (k h2 ⟨?_, fun i i0 i1 => ⟨?_, ?_⟩⟩ (fun a i m1 m2 m3 => by rw [n2, if_neg m3, n1, if_neg m2, n0 a i m1]))
  · rw [n2, if_neg (by omega), n1, if_neg (by omega)]
    exact m0
  · show rd h2 63 i = rd h 71 i
    rw [n2, if_neg (by omega), n1, if_pos ⟨rfl, i0, i1⟩, n0 _ _ (by omega)]
  · show rd h2 64 i = rd h 72 i
    rw [n2, if_pos ⟨rfl, i0, i1⟩, n1, if_neg (by omega), n0 _ _ (by omega)]
theorem F_cday_102_59 (hF : RF h) (k : ∀ g, dcq h g 59 102 → (∀ a i, ¬ (a = 102 ∧ i = 1) → ¬ (a = 106 ∧ 0 ≤ i ∧ i < 24) → ¬ (a = 107 ∧ 0 ≤ i ∧ i < 24) → rd g a i = rd h a i) → Q none g) : Rn xs xl e mm_Memory_copyDay 0 [some (.inr (.inr 102)), some (.inr (.inr 59))] [] h Q := by
  refine B_copyDay_0_102_59 hF ?_
  have n0 : ∀ b j, ¬ (b = 102 ∧ j = 1) → rd (wr h 102 1 (rd h 59 1)) b j = rd h b j := fun b j hn => by rw [rd_wr, if_neg (fun q => hn ⟨q.1.symm, q.2.symm⟩)]
  have m0 : rd (wr h 102 1 (rd h 59 1)) 102 1 = rd h 59 1 := rdw_eq
  have F0 : RF (wr h 102 1 (rd h 59 1)) := RF_wn (by decide +kernel) hF
  generalize wr h 102 1 (rd h 59 1) = h0 at *
  have n1 : ∀ b j, rd (cpyL h0 63 0 106 0 24 ++ h0) b j = if b = 106 ∧ 0 ≤ j ∧ j < 24 then rd h0 63 j else rd h0 b j := fun b j => rd_cp0 24
  have F1 : RF (cpyL h0 63 0 106 0 24 ++ h0) := RF_row (b := 106) (fun i => hav_nr (by decide +kernel) i) F0 (fun a i z => by rw [n1, if_neg (fun y => z y.1)])
  generalize cpyL h0 63 0 106 0 24 ++ h0 = h1 at *
  refine B_copyDay_23_102_59 F1 ?_
  have n2 : ∀ b j, rd (cpyL h1 64 0 107 0 24 ++ h1) b j = if b = 107 ∧ 0 ≤ j ∧ j < 24 then rd h1 64 j else rd h1 b j := fun b j => rd_cp0 24
  have F2 : RF (cpyL h1 64 0 107 0 24 ++ h1) := RF_row (b := 107) (fun i => hav_nr (by decide +kernel) i) F1 (fun a i z => by rw [n2, if_neg (fun y => z y.1)])
  generalize cpyL h1 64 0 107 0 24 ++ h1 = h2 at *
  refine B_copyDay_38_102_59 F2 (k h2 ⟨?_, fun i i0 i1 => ⟨?_, ?_⟩⟩ (fun a i m1 m2 m3 => by rw [n2, if_neg m3, n1, if_neg m2, n0 a i m1]))
  · rw [n2, if_neg (by omega), n1, if_neg (by omega)]
    exact m0
  · show rd h2 106 i = rd h 63 i
    rw [n2, if_neg (by omega), n1, if_pos ⟨rfl, i0, i1⟩, n0 _ _ (by omega)]
  · show rd h2 107 i = rd h 64 i
    rw [n2, if_pos ⟨rfl, i0, i1⟩, n1, if_neg (by omega), n0 _ _ (by omega)]
theorem F_cday_59_102 (hF : RF h) (k : ∀ g, dcq h g 102 59 → (∀ a i, ¬ (a = 59 ∧ i = 1) → ¬ (a = 63 ∧ 0 ≤ i ∧ i < 24) → ¬ (a = 64 ∧ 0 ≤ i ∧ i < 24) → rd g a i = rd h a i) → Q none g) : Rn xs xl e mm_Memory_copyDay 0 [some (.inr (.inr 59)), some (.inr (.inr 102))] [] h Q := by
  refine B_copyDay_0_59_102 hF ?_
  have n0 : ∀ b j, ¬ (b = 59 ∧ j = 1) → rd (wr h 59 1 (rd h 102 1)) b j = rd h b j := fun b j hn => by rw [rd_wr, if_neg (fun q => hn ⟨q.1.symm, q.2.symm⟩)]
  have m0 : rd (wr h 59 1 (rd h 102 1)) 59 1 = rd h 102 1 := rdw_eq
  have F0 : RF (wr h 59 1 (rd h 102 1)) := RF_wn (by decide +kernel) hF
  generalize wr h 59 1 (rd h 102 1) = h0 at *
  have n1 : ∀ b j, rd (cpyL h0 106 0 63 0 24 ++ h0) b j = if b = 63 ∧ 0 ≤ j ∧ j < 24 then rd h0 106 j else rd h0 b j := fun b j => rd_cp0 24
  have F1 : RF (cpyL h0 106 0 63 0 24 ++ h0) := RF_row (b := 63) (fun i => hav_nr (by decide +kernel) i) F0 (fun a i z => by rw [n1, if_neg (fun y => z y.1)])
  generalize cpyL h0 106 0 63 0 24 ++ h0 = h1 at *
  refine B_copyDay_23_59_102 F1 ?_
  have n2 : ∀ b j, rd (cpyL h1 107 0 64 0 24 ++ h1) b j = if b = 64 ∧ 0 ≤ j ∧ j < 24 then rd h1 107 j else rd h1 b j := fun b j => rd_cp0 24
  have F2 : RF (cpyL h1 107 0 64 0 24 ++ h1) := RF_row (b := 64) (fun i => hav_nr (by decide +kernel) i) F1 (fun a i z => by rw [n2, if_neg (fun y => z y.1)])
  generalize cpyL h1 107 0 64 0 24 ++ h1 = h2 at *
  refine B_copyDay_38_59_102 F2 (k h2 ⟨?_, fun i i0 i1 => ⟨?_, ?_⟩⟩ (fun a i m1 m2 m3 => by rw [n2, if_neg m3, n1, if_neg m2, n0 a i m1]))
  · rw [n2, if_neg (by omega), n1, if_neg (by omega)]
    exact m0
  · show rd h2 63 i = rd h 106 i
    rw [n2, if_neg (by omega), n1, if_pos ⟨rfl, i0, i1⟩, n0 _ _ (by omega)]
  · show rd h2 64 i = rd h 107 i
    rw [n2, if_pos ⟨rfl, i0, i1⟩, n1, if_neg (by omega), n0 _ _ (by omega)]
theorem F_cday_110_59 (hF : RF h) (k : ∀ g, dcq h g 59 110 → (∀ a i, ¬ (a = 110 ∧ i = 1) → ¬ (a = 114 ∧ 0 ≤ i ∧ i < 24) → ¬ (a = 115 ∧ 0 ≤ i ∧ i < 24) → rd g a i = rd h a i) → Q none g) : Rn xs xl e mm_Memory_copyDay 0 [some (.inr (.inr 110)), some (.inr (.inr 59))] [] h Q := by
  refine B_copyDay_0_110_59 hF ?_
  have n0 : ∀ b j, ¬ (b = 110 ∧ j = 1) → rd (wr h 110 1 (rd h 59 1)) b j = rd h b j := fun b j hn => by rw [rd_wr, if_neg (fun q => hn ⟨q.1.symm, q.2.symm⟩)]
  have m0 : rd (wr h 110 1 (rd h 59 1)) 110 1 = rd h 59 1 := rdw_eq
  have F0 : RF (wr h 110 1 (rd h 59 1)) := RF_wn (by decide +kernel) hF
  generalize wr h 110 1 (rd h 59 1) = h0 at *
  have n1 : ∀ b j, rd (cpyL h0 63 0 114 0 24 ++ h0) b j = if b = 114 ∧ 0 ≤ j ∧ j < 24 then rd h0 63 j else rd h0 b j := fun b j => rd_cp0 24
  have F1 : RF (cpyL h0 63 0 114 0 24 ++ h0) := RF_row (b := 114) (fun i => hav_nr (by decide +kernel) i) F0 (fun a i z => by rw [n1, if_neg (fun y => z y.1)])
  generalize cpyL h0 63 0 114 0 24 ++ h0 = h1 at *
  refine B_copyDay_23_110_59 F1 ?_
  have n2 : ∀ b j, rd (cpyL h1 64 0 115 0 24 ++ h1) b j = if b = 115 ∧ 0 ≤ j ∧ j < 24 then rd h1 64 j else rd h1 b j := fun b j => rd_cp0 24
  have F2 : RF (cpyL h1 64 0 115 0 24 ++ h1) := RF_row (b := 115) (fun i => hav_nr (by decide +kernel) i) F1 (fun a i z => by rw [n2, if_neg (fun y => z y.1)])
  generalize cpyL h1 64 0 115 0 24 ++ h1 = h2 at *
  refine B_copyDay_38_110_59 F2 (k h2 ⟨?_, fun i i0 i1 => ⟨?_, ?_⟩⟩ (fun a i m1 m2 m3 => by rw [n2, if_neg m3, n1, if_neg m2, n0 a i m1]))
  · rw [n2, if_neg (by omega), n1, if_neg (by omega)]
    exact m0
  · show rd h2 114 i = rd h 63 i
    rw [n2, if_neg (by omega), n1, if_pos ⟨rfl, i0, i1⟩, n0 _ _ (by omega)]
  · show rd h2 115 i = rd h 64 i
    rw [n2, if_pos ⟨rfl, i0, i1⟩, n1, if_neg (by omega), n0 _ _ (by omega)]
theorem F_cday_59_110 (hF : RF h) (k : ∀ g, dcq h g 110 59 → (∀ a i, ¬ (a = 59 ∧ i = 1) → ¬ (a = 63 ∧ 0 ≤ i ∧ i < 24) → ¬ (a = 64 ∧ 0 ≤ i ∧ i < 24) → rd g a i = rd h a i) → Q none g) : Rn xs xl e mm_Memory_copyDay 0 [some (.inr (.inr 59)), some (.inr (.inr 110))] [] h Q := by
  refine B_copyDay_0_59_110 hF ?_
  have n0 : ∀ b j, ¬ (b = 59 ∧ j = 1) → rd (wr h 59 1 (rd h 110 1)) b j = rd h b j := fun b j hn => by rw [rd_wr, if_neg (fun q => hn ⟨q.1.symm, q.2.symm⟩)]
  have m0 : rd (wr h 59 1 (rd h 110 1)) 59 1 = rd h 110 1 := rdw_eq
  have F0 : RF (wr h 59 1 (rd h 110 1)) := RF_wn (by decide +kernel) hF
  generalize wr h 59 1 (rd h 110 1) = h0 at *
  have n1 : ∀ b j, rd (cpyL h0 114 0 63 0 24 ++ h0) b j = if b = 63 ∧ 0 ≤ j ∧ j < 24 then rd h0 114 j else rd h0 b j := fun b j => rd_cp0 24
  have F1 : RF (cpyL h0 114 0 63 0 24 ++ h0) := RF_row (b := 63) (fun i => hav_nr (by decide +kernel) i) F0 (fun a i z => by rw [n1, if_neg (fun y => z y.1)])
  generalize cpyL h0 114 0 63 0 24 ++ h0 = h1 at *
  refine B_copyDay_23_59_110 F1 ?_
  have n2 : ∀ b j, rd (cpyL h1 115 0 64 0 24 ++ h1) b j = if b = 64 ∧ 0 ≤ j ∧ j < 24 then rd h1 115 j else rd h1 b j := fun b j => rd_cp0 24
  have F2 : RF (cpyL h1 115 0 64 0 24 ++ h1) := RF_row (b := 64) (fun i => hav_nr (by decide +kernel) i) F1 (fun a i z => by rw [n2, if_neg (fun y => z y.1)])
  generalize cpyL h1 115 0 64 0 24 ++ h1 = h2 at *
  refine B_copyDay_38_59_110 F2 (k h2 ⟨?_, fun i i0 i1 => ⟨?_, ?_⟩⟩ (fun a i m1 m2 m3 => by rw [n2, if_neg m3, n1, if_neg m2, n0 a i m1]))
  · rw [n2, if_neg (by omega), n1, if_neg (by omega)]
    exact m0
  · show rd h2 63 i = rd h 114 i
    rw [n2, if_neg (by omega), n1, if_pos ⟨rfl, i0, i1⟩, n0 _ _ (by omega)]
  · show rd h2 64 i = rd h 115 i
    rw [n2, if_pos ⟨rfl, i0, i1⟩, n1, if_neg (by omega), n0 _ _ (by omega)]
theorem F_cday_118_59 (hF : RF h) (k : ∀ g, dcq h g 59 118 → (∀ a i, ¬ (a = 118 ∧ i = 1) → ¬ (a = 122 ∧ 0 ≤ i ∧ i < 24) → ¬ (a = 123 ∧ 0 ≤ i ∧ i < 24) → rd g a i = rd h a i) → Q none g) : Rn xs xl e mm_Memory_copyDay 0 [some (.inr (.inr 118)), some (.inr (.inr 59))] [] h Q := by
  refine B_copyDay_0_118_59 hF ?_
  have n0 : ∀ b j, ¬ (b = 118 ∧ j = 1) → rd (wr h 118 1 (rd h 59 1)) b j = rd h b j := fun b j hn => by rw [rd_wr, if_neg (fun q => hn ⟨q.1.symm, q.2.symm⟩)]
  have m0 : rd (wr h 118 1 (rd h 59 1)) 118 1 = rd h 59 1 := rdw_eq
  have F0 : RF (wr h 118 1 (rd h 59 1)) := RF_wn (by decide +kernel) hF
  generalize wr h 118 1 (rd h 59 1) = h0 at *
  have n1 : ∀ b j, rd (cpyL h0 63 0 122 0 24 ++ h0) b j = if b = 122 ∧ 0 ≤ j ∧ j < 24 then rd h0 63 j else rd h0 b j := fun b j => rd_cp0 24
  have F1 : RF (cpyL h0 63 0 122 0 24 ++ h0) := RF_row (b := 122) (fun i => hav_nr (by decide +kernel) i) F0 (fun a i z => by rw [n1, if_neg (fun y => z y.1)])
  generalize cpyL h0 63 0 122 0 24 ++ h0 = h1 at *
  refine B_copyDay_23_118_59 F1 ?_
  have n2 : ∀ b j, rd (cpyL h1 64 0 123 0 24 ++ h1) b j = if b = 123 ∧ 0 ≤ j ∧ j < 24 then rd h1 64 j else rd h1 b j := fun b j => rd_cp0 24
  have F2 : RF (cpyL h1 64 0 123 0 24 ++ h1) := RF_row (b := 123) (fun i => hav_nr (by decide +kernel) i) F1 (fun a i z => by rw [n2, if_neg (fun y => z y.1)])
  generalize cpyL h1 64 0 123 0 24 ++ h1 = h2 at *
  refine B_copyDay_38_118_59 F2 (k h2 ⟨?_, fun i i0 i1 => ⟨?_, ?_⟩⟩ (fun a i m1 m2 m3 => by rw [n2, if_neg m3, n1, if_neg m2, n0 a i m1]))
  · rw [n2, if_neg (by omega), n1, if_neg (by omega)]
    exact m0
  · show rd h2 122 i = rd h 63 i
    rw [n2, if_neg (by omega), n1, if_pos ⟨rfl, i0, i1⟩, n0 _ _ (by omega)]
  · show rd h2 123 i = rd h 64 i
    rw [n2, if_pos ⟨rfl, i0, i1⟩, n1, if_neg (by omega), n0 _ _ (by omega)]
theorem F_cday_59_118 (hF : RF h) (k : ∀ g, dcq h g 118 59 → (∀ a i, ¬ (a = 59 ∧ i = 1) → ¬ (a = 63 ∧ 0 ≤ i ∧ i < 24) → ¬ (a = 64 ∧ 0 ≤ i ∧ i < 24) → rd g a i = rd h a i) → Q none g) : Rn xs xl e mm_Memory_copyDay 0 [some (.inr (.inr 59)), some (.inr (.inr 118))] [] h Q := by
  refine B_copyDay_0_59_118 hF ?_
  have n0 : ∀ b j, ¬ (b = 59 ∧ j = 1) → rd (wr h 59 1 (rd h 118 1)) b j = rd h b j := fun b j hn => by rw [rd_wr, if_neg (fun q => hn ⟨q.1.symm, q.2.symm⟩)]
  have m0 : rd (wr h 59 1 (rd h 118 1)) 59 1 = rd h 118 1 := rdw_eq
  have F0 : RF (wr h 59 1 (rd h 118 1)) := RF_wn (by decide +kernel) hF
  generalize wr h 59 1 (rd h 118 1) = h0 at *
  have n1 : ∀ b j, rd (cpyL h0 122 0 63 0 24 ++ h0) b j = if b = 63 ∧ 0 ≤ j ∧ j < 24 then rd h0 122 j else rd h0 b j := fun b j => rd_cp0 24
  have F1 : RF (cpyL h0 122 0 63 0 24 ++ h0) := RF_row (b := 63) (fun i => hav_nr (by decide +kernel) i) F0 (fun a i z => by rw [n1, if_neg (fun y => z y.1)])
  generalize cpyL h0 122 0 63 0 24 ++ h0 = h1 at *
  refine B_copyDay_23_59_118 F1 ?_
  have n2 : ∀ b j, rd (cpyL h1 123 0 64 0 24 ++ h1) b j = if b = 64 ∧ 0 ≤ j ∧ j < 24 then rd h1 123 j else rd h1 b j := fun b j => rd_cp0 24
  have F2 : RF (cpyL h1 123 0 64 0 24 ++ h1) := RF_row (b := 64) (fun i => hav_nr (by decide +kernel) i) F1 (fun a i z => by rw [n2, if_neg (fun y => z y.1)])
  generalize cpyL h1 123 0 64 0 24 ++ h1 = h2 at *
  refine B_copyDay_38_59_118 F2 (k h2 ⟨?_, fun i i0 i1 => ⟨?_, ?_⟩⟩ (fun a i m1 m2 m3 => by rw [n2, if_neg m3, n1, if_neg m2, n0 a i m1]))
  · rw [n2, if_neg (by omega), n1, if_neg (by omega)]
    exact m0
  · show rd h2 63 i = rd h 122 i
    rw [n2, if_neg (by omega), n1, if_pos ⟨rfl, i0, i1⟩, n0 _ _ (by omega)]
  · show rd h2 64 i = rd h 123 i
    rw [n2, if_pos ⟨rfl, i0, i1⟩, n1, if_neg (by omega), n0 _ _ (by omega)]
theorem F_cday_126_59 (hF : RF h) (k : ∀ g, dcq h g 59 126 → (∀ a i, ¬ (a = 126 ∧ i = 1) → ¬ (a = 130 ∧ 0 ≤ i ∧ i < 24) → ¬ (a = 131 ∧ 0 ≤ i ∧ i < 24) → rd g a i = rd h a i) → Q none g) : Rn xs xl e mm_Memory_copyDay 0 [some (.inr (.inr 126)), some (.inr (.inr 59))] [] h Q := by
  refine B_copyDay_0_126_59 hF ?_
  have n0 : ∀ b j, ¬ (b = 126 ∧ j = 1) → rd (wr h 126 1 (rd h 59 1)) b j = rd h b j := fun b j hn => by rw [rd_wr, if_neg (fun q => hn ⟨q.1.symm, q.2.symm⟩)]
  have m0 : rd (wr h 126 1 (rd h 59 1)) 126 1 = rd h 59 1 := rdw_eq
  have F0 : RF (wr h 126 1 (rd h 59 1)) := RF_wn (by decide +kernel) hF
  generalize wr h 126 1 (rd h 59 1) = h0 at *
  have n1 : ∀ b j, rd (cpyL h0 63 0 130 0 24 ++ h0) b j = if b = 130 ∧ 0 ≤ j ∧ j < 24 then rd h0 63 j else rd h0 b j := fun b j => rd_cp0 24
  have F1 : RF (cpyL h0 63 0 130 0 24 ++ h0) := RF_row (b := 130) (fun i => hav_nr (by decide +kernel) i) F0 (fun a i z => by rw [n1, if_neg (fun y => z y.1)])
  generalize cpyL h0 63 0 130 0 24 ++ h0 = h1 at *
  refine B_copyDay_23_126_59 F1 ?_
  have n2 : ∀ b j, rd (cpyL h1 64 0 131 0 24 ++ h1) b j = if b = 131 ∧ 0 ≤ j ∧ j < 24 then rd h1 64 j else rd h1 b j := fun b j => rd_cp0 24
  have F2 : RF (cpyL h1 64 0 131 0 24 ++ h1) := RF_row (b := 131) (fun i => hav_nr (by decide +kernel) i) F1 (fun a i z => by rw [n2, if_neg (fun y => z y.1)])
  generalize cpyL h1 64 0 131 0 24 ++ h1 = h2 at *
  refine B_copyDay_38_126_59 F2 (k h2 ⟨?_, fun i i0 i1 => ⟨?_, ?_⟩⟩ (fun a i m1 m2 m3 => by rw [n2, if_neg m3, n1, if_neg m2, n0 a i m1]))
  · rw [n2, if_neg (by omega), n1, if_neg (by omega)]
    exact m0
  · show rd h2 130 i = rd h 63 i
    rw [n2, if_neg (by omega), n1, if_pos ⟨rfl, i0, i1⟩, n0 _ _ (by omega)]
  · show rd h2 131 i = rd h 64 i
    rw [n2, if_pos ⟨rfl, i0, i1⟩, n1, if_neg (by omega), n0 _ _ (by omega)]
theorem F_cday_59_126 (hF : RF h) (k : ∀ g, dcq h g 126 59 → (∀ a i, ¬ (a = 59 ∧ i = 1) → ¬ (a = 63 ∧ 0 ≤ i ∧ i < 24) → ¬ (a = 64 ∧ 0 ≤ i ∧ i < 24) → rd g a i = rd h a i) → Q none g) : Rn xs xl e mm_Memory_copyDay 0 [some (.inr (.inr 59)), some (.inr (.inr 126))] [] h Q := by
  refine B_copyDay_0_59_126 hF ?_
  have n0 : ∀ b j, ¬ (b = 59 ∧ j = 1) → rd (wr h 59 1 (rd h 126 1)) b j = rd h b j := fun b j hn => by rw [rd_wr, if_neg (fun q => hn ⟨q.1.symm, q.2.symm⟩)]
  have m0 : rd (wr h 59 1 (rd h 126 1)) 59 1 = rd h 126 1 := rdw_eq
  have F0 : RF (wr h 59 1 (rd h 126 1)) := RF_wn (by decide +kernel) hF
  generalize wr h 59 1 (rd h 126 1) = h0 at *
  have n1 : ∀ b j, rd (cpyL h0 130 0 63 0 24 ++ h0) b j = if b = 63 ∧ 0 ≤ j ∧ j < 24 then rd h0 130 j else rd h0 b j := fun b j => rd_cp0 24
  have F1 : RF (cpyL h0 130 0 63 0 24 ++ h0) := RF_row (b := 63) (fun i => hav_nr (by decide +kernel) i) F0 (fun a i z => by rw [n1, if_neg (fun y => z y.1)])
  generalize cpyL h0 130 0 63 0 24 ++ h0 = h1 at *
  refine B_copyDay_23_59_126 F1 ?_
  have n2 : ∀ b j, rd (cpyL h1 131 0 64 0 24 ++ h1) b j = if b = 64 ∧ 0 ≤ j ∧ j < 24 then rd h1 131 j else rd h1 b j := fun b j => rd_cp0 24
  have F2 : RF (cpyL h1 131 0 64 0 24 ++ h1) := RF_row (b := 64) (fun i => hav_nr (by decide +kernel) i) F1 (fun a i z => by rw [n2, if_neg (fun y => z y.1)])
  generalize cpyL h1 131 0 64 0 24 ++ h1 = h2 at *
  refine B_copyDay_38_59_126 F2 (k h2 ⟨?_, fun i i0 i1 => ⟨?_, ?_⟩⟩ (fun a i m1 m2 m3 => by rw [n2, if_neg m3, n1, if_neg m2, n0 a i m1]))
  · rw [n2, if_neg (by omega), n1, if_neg (by omega)]
    exact m0
  · show rd h2 63 i = rd h 130 i
    rw [n2, if_neg (by omega), n1, if_pos ⟨rfl, i0, i1⟩, n0 _ _ (by omega)]
  · show rd h2 64 i = rd h 131 i
    rw [n2, if_pos ⟨rfl, i0, i1⟩, n1, if_neg (by omega), n0 _ _ (by omega)]
theorem D_copyM_102_59 (he : 2 ≤ e) (hI : INV h) (k : ∀ g, INV g → (∀ a i, ¬ (102 ≤ a ∧ a ≤ 109 ∧ 0 ≤ i ∧ i ≤ 23) → rd g a i = rd h a i) → mcq h g 59 102 → Q none g) : Rn xs xl e mm_Memory_copy 0 [some (.inr (.inr 102)), some (.inr (.inr 59))] [] h Q := by
  have A : Rn xs xl 1 mm_Scene_copy 0 [some (.inr (.inr 103)), some (.inr (.inr 60))] [] h (fun r g => r = none ∧ scq h g 60 103 ∧ scf 103 h g) := F_scopy (by unfold scn; omega) (by decide) (by unfold scn; omega) (by decide) (RF_of hI.1) (fun g a b _ => ⟨rfl, a, b⟩)
  have B : Rn xs xl 1 mm_Scene_copy 0 [some (.inr (.inr 103)), some (.inr (.inr 60))] [] h (fun r g => INV g) := K_copy_102 (Nat.le_refl 1) hI (fun g i _ => i)
  refine B_copy_0_102_59 (RF_of hI.1) ⟨1, by omega, (A.and B).mono (fun r h1 z => ?_)⟩
  obtain ⟨⟨rfl, sq, sf⟩, i1⟩ := z
  have C : Rn xs xl 0 mm_Memory_copyDay 0 [some (.inr (.inr 102)), some (.inr (.inr 59))] [] h1 (fun r g => r = none ∧ dcq h1 g 59 102 ∧ (∀ a i, ¬ (a = 102 ∧ i = 1) → ¬ (a = 106 ∧ 0 ≤ i ∧ i < 24) → ¬ (a = 107 ∧ 0 ≤ i ∧ i < 24) → rd g a i = rd h1 a i)) := F_cday_102_59 (RF_of i1.1) (fun g a b => ⟨rfl, a, b⟩)
  have D : Rn xs xl 0 mm_Memory_copyDay 0 [some (.inr (.inr 102)), some (.inr (.inr 59))] [] h1 (fun r g => INV g) := D_copyDay_102_59 i1 (fun g i _ => i)
  refine B_copy_11_102_59 (RF_of i1.1) ⟨0, by omega, (C.and D).mono (fun r h2 z => ?_)⟩
  obtain ⟨⟨rfl, dq, df⟩, i2⟩ := z
  refine B_copy_16_102_59 (RF_of i2.1) ?_
  have l4 := rG_59_4 i2.1
  have l7 := rG_59_7 i2.1
  have i3 := wG_102_7 (wG_102_4 i2 (v := rd h2 59 4) (by omega) (by omega)) (v := rd h2 59 7) (by omega) (by omega)
  have n3 : ∀ b j, ¬ (b = 102 ∧ (j = 4 ∨ j = 7)) → rd (wr (wr h2 102 4 (rd h2 59 4)) 102 7 (rd h2 59 7)) b j = rd h2 b j := fun b j hn => by rw [rd_wr, if_neg (by omega), rd_wr, if_neg (by omega)]
  have w4 : rd (wr (wr h2 102 4 (rd h2 59 4)) 102 7 (rd h2 59 7)) 102 4 = rd h2 59 4 := (rdw_nei (by decide)).trans rdw_eq
  have w7 : rd (wr (wr h2 102 4 (rd h2 59 4)) 102 7 (rd h2 59 7)) 102 7 = rd h2 59 7 := rdw_eq
  generalize wr (wr h2 102 4 (rd h2 59 4)) 102 7 (rd h2 59 7) = h3 at *
  have r4 : RNG (cpyL h3 65 0 108 0 10 ++ h3) := RNG_cpk (n := 10) (fun f j hj hf => by
    have q := rB_65 i3.1 (i := 0 + (j : Int)) (by omega)
    exact wS_108 hf (by omega) (by omega)) i3.1 10 (Nat.le_refl _)
  have n4 : ∀ b j, rd (cpyL h3 65 0 108 0 10 ++ h3) b j = if b = 108 ∧ 0 ≤ j ∧ j < 10 then rd h3 65 j else rd h3 b j := fun b j => rd_cp0 10
  generalize cpyL h3 65 0 108 0 10 ++ h3 = h4 at *
  have i4 : INV h4 := ⟨r4, SP_of (fun b j hb => by rw [n4, if_neg (by unfold sens at hb; omega)]) i3.2⟩
  refine B_copy_47_102_59 (RF_of i4.1) ?_
  have r5 : RNG (cpyL h4 66 0 109 0 10 ++ h4) := RNG_cpk (n := 10) (fun f j hj hf => by
    have q := rB_66 i4.1 (i := 0 + (j : Int)) (by omega)
    exact wS_109 hf (by omega) (by omega)) i4.1 10 (Nat.le_refl _)
  have n5 : ∀ b j, rd (cpyL h4 66 0 109 0 10 ++ h4) b j = if b = 109 ∧ 0 ≤ j ∧ j < 10 then rd h4 66 j else rd h4 b j := fun b j => rd_cp0 10
  generalize cpyL h4 66 0 109 0 10 ++ h4 = h5 at *
  have i5 : INV h5 := ⟨r5, SP_of (fun b j hb => by rw [n5, if_neg (by unfold sens at hb; omega)]) i4.2⟩
  have f5 : ∀ a i, ¬ (a = 102 ∧ (i = 4 ∨ i = 7)) → ¬ (a = 108 ∧ 0 ≤ i ∧ i < 10) → ¬ (a = 109 ∧ 0 ≤ i ∧ i < 10) → rd h5 a i = rd h2 a i := fun a i m1 m2 m3 => by rw [n5, if_neg m3, n4, if_neg m2, n3 a i m1]
  have f2 : ∀ a i, ¬ (a = 102 ∧ i = 1) → ¬ (a = 106 ∧ 0 ≤ i ∧ i < 24) → ¬ (a = 107 ∧ 0 ≤ i ∧ i < 24) → ¬ scp 103 a i → rd h2 a i = rd h a i := fun a i m1 m2 m3 m4 => (df a i m1 m2 m3).trans (sf a i m4)
  have sN : ∀ a i, (a = 59 ∨ (63 ≤ a ∧ a ≤ 66)) → rd h1 a i = rd h a i := fun a i ha => sf a i (by unfold scp; omega)
  refine B_copy_62_102_59 (RF_of i5.1) (k h5 i5 (fun a i hn => ?_) ⟨⟨?_, fun i i0 i1 => ⟨?_, ?_⟩⟩, ⟨fun i i0 i1 => ?_, fun i i0 i1 => ?_, fun i i0 i1 => ?_⟩, ⟨?_, ?_⟩, fun i i0 i1 => ⟨?_, ?_⟩⟩)
  · rw [f5 a i (by omega) (by omega) (by omega)]
    exact f2 a i (by omega) (by omega) (by omega) (by unfold scp; omega)
  · rw [f5 102 1 (by decide) (by decide) (by decide), dq.1]
    exact sN _ _ (by decide)
  · rw [f5 (102 + 4) i (by omega) (by omega) (by omega), (dq.2 i i0 i1).1]
    exact sN _ _ (by omega)
  · rw [f5 (102 + 5) i (by omega) (by omega) (by omega), (dq.2 i i0 i1).2]
    exact sN _ _ (by omega)
  · rw [f5 (102 + 1) i (by omega) (by omega) (by omega), df _ _ (by omega) (by omega) (by omega)]
    exact sq.1 i i0 i1
  · rw [f5 (102 + 1 + 1) i (by omega) (by omega) (by omega), df _ _ (by omega) (by omega) (by omega)]
    exact sq.2.1 i i0 i1
  · rw [f5 (102 + 1 + 2) i (by omega) (by omega) (by omega), df _ _ (by omega) (by omega) (by omega)]
    exact sq.2.2 i i0 i1
  · rw [n5, if_neg (by omega), n4, if_neg (by omega), w4]
    exact f2 _ _ (by omega) (by omega) (by omega) (by unfold scp; omega)
  · rw [n5, if_neg (by omega), n4, if_neg (by omega), w7]
    exact f2 _ _ (by omega) (by omega) (by omega) (by unfold scp; omega)
  · show rd h5 108 i = rd h 65 i
    rw [n5, if_neg (by omega), n4, if_pos ⟨rfl, i0, i1⟩, n3 _ _ (by omega)]
    exact f2 _ _ (by omega) (by omega) (by omega) (by unfold scp; omega)
  · show rd h5 109 i = rd h 66 i
    rw [n5, if_pos ⟨rfl, i0, i1⟩, n4, if_neg (by omega), n3 _ _ (by omega)]
    exact f2 _ _ (by omega) (by omega) (by omega) (by unfold scp; omega)
theorem D_copyM_59_102 (he : 2 ≤ e) (hI : INV h) (k : ∀ g, INV g → (∀ a i, ¬ (59 ≤ a ∧ a ≤ 66 ∧ 0 ≤ i ∧ i ≤ 23) → rd g a i = rd h a i) → mcq h g 102 59 → Q none g) : Rn xs xl e mm_Memory_copy 0 [some (.inr (.inr 59)), some (.inr (.inr 102))] [] h Q := by
  have A : Rn xs xl 1 mm_Scene_copy 0 [some (.inr (.inr 60)), some (.inr (.inr 103))] [] h (fun r g => r = none ∧ scq h g 103 60 ∧ scf 60 h g) := F_scopy (by unfold scn; omega) (by decide) (by unfold scn; omega) (by decide) (RF_of hI.1) (fun g a b _ => ⟨rfl, a, b⟩)
  have B : Rn xs xl 1 mm_Scene_copy 0 [some (.inr (.inr 60)), some (.inr (.inr 103))] [] h (fun r g => INV g) := K_copyB_102 (Nat.le_refl 1) hI (fun g i _ => i)
  refine B_copy_0_59_102 (RF_of hI.1) ⟨1, by omega, (A.and B).mono (fun r h1 z => ?_)⟩
  obtain ⟨⟨rfl, sq, sf⟩, i1⟩ := z
  have C : Rn xs xl 0 mm_Memory_copyDay 0 [some (.inr (.inr 59)), some (.inr (.inr 102))] [] h1 (fun r g => r = none ∧ dcq h1 g 102 59 ∧ (∀ a i, ¬ (a = 59 ∧ i = 1) → ¬ (a = 63 ∧ 0 ≤ i ∧ i < 24) → ¬ (a = 64 ∧ 0 ≤ i ∧ i < 24) → rd g a i = rd h1 a i)) := F_cday_59_102 (RF_of i1.1) (fun g a b => ⟨rfl, a, b⟩)
  have D : Rn xs xl 0 mm_Memory_copyDay 0 [some (.inr (.inr 59)), some (.inr (.inr 102))] [] h1 (fun r g => INV g) := D_copyDay_59_102 i1 (fun g i _ => i)
  refine B_copy_11_59_102 (RF_of i1.1) ⟨0, by omega, (C.and D).mono (fun r h2 z => ?_)⟩
  obtain ⟨⟨rfl, dq, df⟩, i2⟩ := z
  refine B_copy_16_59_102 (RF_of i2.1) ?_
  have l4 := rG_102_4 i2.1
  have l7 := rG_102_7 i2.1
  have i3 := wG_59_7 (wG_59_4 i2 (v := rd h2 102 4) (by omega) (by omega)) (v := rd h2 102 7) (by omega) (by omega)
  have n3 : ∀ b j, ¬ (b = 59 ∧ (j = 4 ∨ j = 7)) → rd (wr (wr h2 59 4 (rd h2 102 4)) 59 7 (rd h2 102 7)) b j = rd h2 b j := fun b j hn => by rw [rd_wr, if_neg (by omega), rd_wr, if_neg (by omega)]
  have w4 : rd (wr (wr h2 59 4 (rd h2 102 4)) 59 7 (rd h2 102 7)) 59 4 = rd h2 102 4 := (rdw_nei (by decide)).trans rdw_eq
  have w7 : rd (wr (wr h2 59 4 (rd h2 102 4)) 59 7 (rd h2 102 7)) 59 7 = rd h2 102 7 := rdw_eq
  generalize wr (wr h2 59 4 (rd h2 102 4)) 59 7 (rd h2 102 7) = h3 at *
  have r4 : RNG (cpyL h3 108 0 65 0 10 ++ h3) := RNG_cpk (n := 10) (fun f j hj hf => by
    have q := rB_108 i3.1 (i := 0 + (j : Int)) (by omega)
    exact wS_65 hf (by omega) (by omega)) i3.1 10 (Nat.le_refl _)
  have n4 : ∀ b j, rd (cpyL h3 108 0 65 0 10 ++ h3) b j = if b = 65 ∧ 0 ≤ j ∧ j < 10 then rd h3 108 j else rd h3 b j := fun b j => rd_cp0 10
  generalize cpyL h3 108 0 65 0 10 ++ h3 = h4 at *
  have i4 : INV h4 := ⟨r4, SP_of (fun b j hb => by rw [n4, if_neg (by unfold sens at hb; omega)]) i3.2⟩
  refine B_copy_47_59_102 (RF_of i4.1) ?_
  have r5 : RNG (cpyL h4 109 0 66 0 10 ++ h4) := RNG_cpk (n := 10) (fun f j hj hf => by
    have q := rB_109 i4.1 (i := 0 + (j : Int)) (by omega)
    exact wS_66 hf (by omega) (by omega)) i4.1 10 (Nat.le_refl _)
  have n5 : ∀ b j, rd (cpyL h4 109 0 66 0 10 ++ h4) b j = if b = 66 ∧ 0 ≤ j ∧ j < 10 then rd h4 109 j else rd h4 b j := fun b j => rd_cp0 10
  generalize cpyL h4 109 0 66 0 10 ++ h4 = h5 at *
  have i5 : INV h5 := ⟨r5, SP_of (fun b j hb => by rw [n5, if_neg (by unfold sens at hb; omega)]) i4.2⟩
  have f5 : ∀ a i, ¬ (a = 59 ∧ (i = 4 ∨ i = 7)) → ¬ (a = 65 ∧ 0 ≤ i ∧ i < 10) → ¬ (a = 66 ∧ 0 ≤ i ∧ i < 10) → rd h5 a i = rd h2 a i := fun a i m1 m2 m3 => by rw [n5, if_neg m3, n4, if_neg m2, n3 a i m1]
  have f2 : ∀ a i, ¬ (a = 59 ∧ i = 1) → ¬ (a = 63 ∧ 0 ≤ i ∧ i < 24) → ¬ (a = 64 ∧ 0 ≤ i ∧ i < 24) → ¬ scp 60 a i → rd h2 a i = rd h a i := fun a i m1 m2 m3 m4 => (df a i m1 m2 m3).trans (sf a i m4)
  have sN : ∀ a i, (a = 102 ∨ (106 ≤ a ∧ a ≤ 109)) → rd h1 a i = rd h a i := fun a i ha => sf a i (by unfold scp; omega)
  refine B_copy_62_59_102 (RF_of i5.1) (k h5 i5 (fun a i hn => ?_) ⟨⟨?_, fun i i0 i1 => ⟨?_, ?_⟩⟩, ⟨fun i i0 i1 => ?_, fun i i0 i1 => ?_, fun i i0 i1 => ?_⟩, ⟨?_, ?_⟩, fun i i0 i1 => ⟨?_, ?_⟩⟩)
  · rw [f5 a i (by omega) (by omega) (by omega)]
    exact f2 a i (by omega) (by omega) (by omega) (by unfold scp; omega)
  · rw [f5 59 1 (by decide) (by decide) (by decide), dq.1]
    exact sN _ _ (by decide)
  · rw [f5 (59 + 4) i (by omega) (by omega) (by omega), (dq.2 i i0 i1).1]
    exact sN _ _ (by omega)
  · rw [f5 (59 + 5) i (by omega) (by omega) (by omega), (dq.2 i i0 i1).2]
    exact sN _ _ (by omega)
  · rw [f5 (59 + 1) i (by omega) (by omega) (by omega), df _ _ (by omega) (by omega) (by omega)]
    exact sq.1 i i0 i1
  · rw [f5 (59 + 1 + 1) i (by omega) (by omega) (by omega), df _ _ (by omega) (by omega) (by omega)]
    exact sq.2.1 i i0 i1
  · rw [f5 (59 + 1 + 2) i (by omega) (by omega) (by omega), df _ _ (by omega) (by omega) (by omega)]
    exact sq.2.2 i i0 i1
  · rw [n5, if_neg (by omega), n4, if_neg (by omega), w4]
    exact f2 _ _ (by omega) (by omega) (by omega) (by unfold scp; omega)
  · rw [n5, if_neg (by omega), n4, if_neg (by omega), w7]
    exact f2 _ _ (by omega) (by omega) (by omega) (by unfold scp; omega)
  · show rd h5 65 i = rd h 108 i
    rw [n5, if_neg (by omega), n4, if_pos ⟨rfl, i0, i1⟩, n3 _ _ (by omega)]
    exact f2 _ _ (by omega) (by omega) (by omega) (by unfold scp; omega)
  · show rd h5 66 i = rd h 109 i
    rw [n5, if_pos ⟨rfl, i0, i1⟩, n4, if_neg (by omega), n3 _ _ (by omega)]
    exact f2 _ _ (by omega) (by omega) (by omega) (by unfold scp; omega)
theorem D_copyM_110_59 (he : 2 ≤ e) (hI : INV h) (k : ∀ g, INV g → (∀ a i, ¬ (110 ≤ a ∧ a ≤ 117 ∧ 0 ≤ i ∧ i ≤ 23) → rd g a i = rd h a i) → mcq h g 59 110 → Q none g) : Rn xs xl e mm_Memory_copy 0 [some (.inr (.inr 110)), some (.inr (.inr 59))] [] h Q := by
  have A : Rn xs xl 1 mm_Scene_copy 0 [some (.inr (.inr 111)), some (.inr (.inr 60))] [] h (fun r g => r = none ∧ scq h g 60 111 ∧ scf 111 h g) := F_scopy (by unfold scn; omega) (by decide) (by unfold scn; omega) (by decide) (RF_of hI.1) (fun g a b _ => ⟨rfl, a, b⟩)
  have B : Rn xs xl 1 mm_Scene_copy 0 [some (.inr (.inr 111)), some (.inr (.inr 60))] [] h (fun r g => INV g) := K_copy_110 (Nat.le_refl 1) hI (fun g i _ => i)
  refine B_copy_0_110_59 (RF_of hI.1) ⟨1, by omega, (A.and B).mono (fun r h1 z => ?_)⟩
  obtain ⟨⟨rfl, sq, sf⟩, i1⟩ := z
  have C : Rn xs xl 0 mm_Memory_copyDay 0 [some (.inr (.inr 110)), some (.inr (.inr 59))] [] h1 (fun r g => r = none ∧ dcq h1 g 59 110 ∧ (∀ a i, ¬ (a = 110 ∧ i = 1) → ¬ (a = 114 ∧ 0 ≤ i ∧ i < 24) → ¬ (a = 115 ∧ 0 ≤ i ∧ i < 24) → rd g a i = rd h1 a i)) := F_cday_110_59 (RF_of i1.1) (fun g a b => ⟨rfl, a, b⟩)
  have D : Rn xs xl 0 mm_Memory_copyDay 0 [some (.inr (.inr 110)), some (.inr (.inr 59))] [] h1 (fun r g => INV g) := D_copyDay_110_59 i1 (fun g i _ => i)
  refine B_copy_11_110_59 (RF_of i1.1) ⟨0, by omega, (C.and D).mono (fun r h2 z => ?_)⟩
  obtain ⟨⟨rfl, dq, df⟩, i2⟩ := z
  refine B_copy_16_110_59 (RF_of i2.1) ?_
  have l4 := rG_59_4 i2.1
  have l7 := rG_59_7 i2.1
  have i3 := wG_110_7 (wG_110_4 i2 (v := rd h2 59 4) (by omega) (by omega)) (v := rd h2 59 7) (by omega) (by omega)
  have n3 : ∀ b j, ¬ (b = 110 ∧ (j = 4 ∨ j = 7)) → rd (wr (wr h2 110 4 (rd h2 59 4)) 110 7 (rd h2 59 7)) b j = rd h2 b j := fun b j hn => by rw [rd_wr, if_neg (by omega), rd_wr, if_neg (by omega)]
  have w4 : rd (wr (wr h2 110 4 (rd h2 59 4)) 110 7 (rd h2 59 7)) 110 4 = rd h2 59 4 := (rdw_nei (by decide)).trans rdw_eq
  have w7 : rd (wr (wr h2 110 4 (rd h2 59 4)) 110 7 (rd h2 59 7)) 110 7 = rd h2 59 7 := rdw_eq
  generalize wr (wr h2 110 4 (rd h2 59 4)) 110 7 (rd h2 59 7) = h3 at *
  have r4 : RNG (cpyL h3 65 0 116 0 10 ++ h3) := RNG_cpk (n := 10) (fun f j hj hf => by
    have q := rB_65 i3.1 (i := 0 + (j : Int)) (by omega)
    exact wS_116 hf (by omega) (by omega)) i3.1 10 (Nat.le_refl _)
  have n4 : ∀ b j, rd (cpyL h3 65 0 116 0 10 ++ h3) b j = if b = 116 ∧ 0 ≤ j ∧ j < 10 then rd h3 65 j else rd h3 b j := fun b j => rd_cp0 10
  generalize cpyL h3 65 0 116 0 10 ++ h3 = h4 at *
  have i4 : INV h4 := ⟨r4, SP_of (fun b j hb => by rw [n4, if_neg (by unfold sens at hb; omega)]) i3.2⟩
  refine B_copy_47_110_59 (RF_of i4.1) ?_
  have r5 : RNG (cpyL h4 66 0 117 0 10 ++ h4) := RNG_cpk (n := 10) (fun f j hj hf => by
    have q := rB_66 i4.1 (i := 0 + (j : Int)) (by omega)
    exact wS_117 hf (by omega) (by omega)) i4.1 10 (Nat.le_refl _)
  have n5 : ∀ b j, rd (cpyL h4 66 0 117 0 10 ++ h4) b j = if b = 117 ∧ 0 ≤ j ∧ j < 10 then rd h4 66 j else rd h4 b j := fun b j => rd_cp0 10
  generalize cpyL h4 66 0 117 0 10 ++ h4 = h5 at *
  have i5 : INV h5 := ⟨r5, SP_of (fun b j hb => by rw [n5, if_neg (by unfold sens at hb; omega)]) i4.2⟩
  have f5 : ∀ a i, ¬ (a = 110 ∧ (i = 4 ∨ i = 7)) → ¬ (a = 116 ∧ 0 ≤ i ∧ i < 10) → ¬ (a = 117 ∧ 0 ≤ i ∧ i < 10) → rd h5 a i = rd h2 a i := fun a i m1 m2 m3 => by rw [n5, if_neg m3, n4, if_neg m2, n3 a i m1]
  have f2 : ∀ a i, ¬ (a = 110 ∧ i = 1) → ¬ (a = 114 ∧ 0 ≤ i ∧ i < 24) → ¬ (a = 115 ∧ 0 ≤ i ∧ i < 24) → ¬ scp 111 a i → rd h2 a i = rd h a i := fun a i m1 m2 m3 m4 => (df a i m1 m2 m3).trans (sf a i m4)
  have sN : ∀ a i, (a = 59 ∨ (63 ≤ a ∧ a ≤ 66)) → rd h1 a i = rd h a i := fun a i ha => sf a i (by unfold scp; omega)
  refine B_copy_62_110_59 (RF_of i5.1) (k h5 i5 (fun a i hn => ?_) ⟨⟨?_, fun i i0 i1 => ⟨?_, ?_⟩⟩, ⟨fun i i0 i1 => ?_, fun i i0 i1 => ?_, fun i i0 i1 => ?_⟩, ⟨?_, ?_⟩, fun i i0 i1 => ⟨?_, ?_⟩⟩)
  · rw [f5 a i (by omega) (by omega) (by omega)]
    exact f2 a i (by omega) (by omega) (by omega) (by unfold scp; omega)
  · rw [f5 110 1 (by decide) (by decide) (by decide), dq.1]
    exact sN _ _ (by decide)
  · rw [f5 (110 + 4) i (by omega) (by omega) (by omega), (dq.2 i i0 i1).1]
    exact sN _ _ (by omega)
  · rw [f5 (110 + 5) i (by omega) (by omega) (by omega), (dq.2 i i0 i1).2]
    exact sN _ _ (by omega)
  · rw [f5 (110 + 1) i (by omega) (by omega) (by omega), df _ _ (by omega) (by omega) (by omega)]
    exact sq.1 i i0 i1
  · rw [f5 (110 + 1 + 1) i (by omega) (by omega) (by omega), df _ _ (by omega) (by omega) (by omega)]
    exact sq.2.1 i i0 i1
  · rw [f5 (110 + 1 + 2) i (by omega) (by omega) (by omega), df _ _ (by omega) (by omega) (by omega)]
    exact sq.2.2 i i0 i1
  · rw [n5, if_neg (by omega), n4, if_neg (by omega), w4]
    exact f2 _ _ (by omega) (by omega) (by omega) (by unfold scp; omega)
  · rw [n5, if_neg (by omega), n4, if_neg (by omega), w7]
    exact f2 _ _ (by omega) (by omega) (by omega) (by unfold scp; omega)
  · show rd h5 116 i = rd h 65 i
    rw [n5, if_neg (by omega), n4, if_pos ⟨rfl, i0, i1⟩, n3 _ _ (by omega)]
    exact f2 _ _ (by omega) (by omega) (by omega) (by unfold scp; omega)
  · show rd h5 117 i = rd h 66 i
    rw [n5, if_pos ⟨rfl, i0, i1⟩, n4, if_neg (by omega), n3 _ _ (by omega)]
    exact f2 _ _ (by omega) (by omega) (by omega) (by unfold scp; omega)
theorem D_copyM_59_110 (he : 2 ≤ e) (hI : INV h) (k : ∀ g, INV g → (∀ a i, ¬ (59 ≤ a ∧ a ≤ 66 ∧ 0 ≤ i ∧ i ≤ 23) → rd g a i = rd h a i) → mcq h g 110 59 → Q none g) : Rn xs xl e mm_Memory_copy 0 [some (.inr (.inr 59)), some (.inr (.inr 110))] [] h Q := by
  have A : Rn xs xl 1 mm_Scene_copy 0 [some (.inr (.inr 60)), some (.inr (.inr 111))] [] h (fun r g => r = none ∧ scq h g 111 60 ∧ scf 60 h g) := F_scopy (by unfold scn; omega) (by decide) (by unfold scn; omega) (by decide) (RF_of hI.1) (fun g a b _ => ⟨rfl, a, b⟩)
  have B : Rn xs xl 1 mm_Scene_copy 0 [some (.inr (.inr 60)), some (.inr (.inr 111))] [] h (fun r g => INV g) := K_copyB_110 (Nat.le_refl 1) hI (fun g i _ => i)
  refine B_copy_0_59_110 (RF_of hI.1) ⟨1, by omega, (A.and B).mono (fun r h1 z => ?_)⟩
  obtain ⟨⟨rfl, sq, sf⟩, i1⟩ := z
  have C : Rn xs xl 0 mm_Memory_copyDay 0 [some (.inr (.inr 59)), some (.inr (.inr 110))] [] h1 (fun r g => r = none ∧ dcq h1 g 110 59 ∧ (∀ a i, ¬ (a = 59 ∧ i = 1) → ¬ (a = 63 ∧ 0 ≤ i ∧ i < 24) → ¬ (a = 64 ∧ 0 ≤ i ∧ i < 24) → rd g a i = rd h1 a i)) := F_cday_59_110 (RF_of i1.1) (fun g a b => ⟨rfl, a, b⟩)
  have D : Rn xs xl 0 mm_Memory_copyDay 0 [some (.inr (.inr 59)), some (.inr (.inr 110))] [] h1 (fun r g => INV g) := D_copyDay_59_110 i1 (fun g i _ => i)
  refine B_copy_11_59_110 (RF_of i1.1) ⟨0, by omega, (C.and D).mono (fun r h2 z => ?_)⟩
  obtain ⟨⟨rfl, dq, df⟩, i2⟩ := z
  refine B_copy_16_59_110 (RF_of i2.1) ?_
  have l4 := rG_110_4 i2.1
  have l7 := rG_110_7 i2.1
  have i3 := wG_59_7 (wG_59_4 i2 (v := rd h2 110 4) (by omega) (by omega)) (v := rd h2 110 7) (by omega) (by omega)
  have n3 : ∀ b j, ¬ (b = 59 ∧ (j = 4 ∨ j = 7)) → rd (wr (wr h2 59 4 (rd h2 110 4)) 59 7 (rd h2 110 7)) b j = rd h2 b j := fun b j hn => by rw [rd_wr, if_neg (by omega), rd_wr, if_neg (by omega)]
  have w4 : rd (wr (wr h2 59 4 (rd h2 110 4)) 59 7 (rd h2 110 7)) 59 4 = rd h2 110 4 := (rdw_nei (by decide)).trans rdw_eq
  have w7 : rd (wr (wr h2 59 4 (rd h2 110 4)) 59 7 (rd h2 110 7)) 59 7 = rd h2 110 7 := rdw_eq
  generalize wr (wr h2 59 4 (rd h2 110 4)) 59 7 (rd h2 110 7) = h3 at *
  have r4 : RNG (cpyL h3 116 0 65 0 10 ++ h3) := RNG_cpk (n := 10) (fun f j hj hf => by
    have q := rB_116 i3.1 (i := 0 + (j : Int)) (by omega)
    exact wS_65 hf (by omega) (by omega)) i3.1 10 (Nat.le_refl _)
  have n4 : ∀ b j, rd (cpyL h3 116 0 65 0 10 ++ h3) b j = if b = 65 ∧ 0 ≤ j ∧ j < 10 then rd h3 116 j else rd h3 b j := fun b j => rd_cp0 10
  generalize cpyL h3 116 0 65 0 10 ++ h3 = h4 at *
  have i4 : INV h4 := ⟨r4, SP_of (fun b j hb => by rw [n4, if_neg (by unfold sens at hb; omega)]) i3.2⟩
  refine B_copy_47_59_110 (RF_of i4.1) ?_
  have r5 : RNG (cpyL h4 117 0 66 0 10 ++ h4) := RNG_cpk (n := 10) (fun f j hj hf => by
    have q := rB_117 i4.1 (i := 0 + (j : Int)) (by omega)
    exact wS_66 hf (by omega) (by omega)) i4.1 10 (Nat.le_refl _)
  have n5 : ∀ b j, rd (cpyL h4 117 0 66 0 10 ++ h4) b j = if b = 66 ∧ 0 ≤ j ∧ j < 10 then rd h4 117 j else rd h4 b j := fun b j => rd_cp0 10
  generalize cpyL h4 117 0 66 0 10 ++ h4 = h5 at *
  have i5 : INV h5 := ⟨r5, SP_of (fun b j hb => by rw [n5, if_neg (by unfold sens at hb; omega)]) i4.2⟩
  have f5 : ∀ a i, ¬ (a = 59 ∧ (i = 4 ∨ i = 7)) → ¬ (a = 65 ∧ 0 ≤ i ∧ i < 10) → ¬ (a = 66 ∧ 0 ≤ i ∧ i < 10) → rd h5 a i = rd h2 a i := fun a i m1 m2 m3 => by rw [n5, if_neg m3, n4, if_neg m2, n3 a i m1]
  have f2 : ∀ a i, ¬ (a = 59 ∧ i = 1) → ¬ (a = 63 ∧ 0 ≤ i ∧ i < 24) → ¬ (a = 64 ∧ 0 ≤ i ∧ i < 24) → ¬ scp 60 a i → rd h2 a i = rd h a i := fun a i m1 m2 m3 m4 => (df a i m1 m2 m3).trans (sf a i m4)
  have sN : ∀ a i, (a = 110 ∨ (114 ≤ a ∧ a ≤ 117)) → rd h1 a i = rd h a i := fun a i ha => sf a i (by unfold scp; omega)
  refine B_copy_62_59_110 (RF_of i5.1) (k h5 i5 (fun a i hn => ?_) ⟨⟨?_, fun i i0 i1 => ⟨?_, ?_⟩⟩, ⟨fun i i0 i1 => ?_, fun i i0 i1 => ?_, fun i i0 i1 => ?_⟩, ⟨?_, ?_⟩, fun i i0 i1 => ⟨?_, ?_⟩⟩)
  · rw [f5 a i (by omega) (by omega) (by omega)]
    exact f2 a i (by omega) (by omega) (by omega) (by unfold scp; omega)
  · rw [f5 59 1 (by decide) (by decide) (by decide), dq.1]
    exact sN _ _ (by decide)
  · rw [f5 (59 + 4) i (by omega) (by omega) (by omega), (dq.2 i i0 i1).1]
    exact sN _ _ (by omega)
  · rw [f5 (59 + 5) i (by omega) (by omega) (by omega), (dq.2 i i0 i1).2]
    exact sN _ _ (by omega)
  · rw [f5 (59 + 1) i (by omega) (by omega) (by omega), df _ _ (by omega) (by omega) (by omega)]
    exact sq.1 i i0 i1
  · rw [f5 (59 + 1 + 1) i (by omega) (by omega) (by omega), df _ _ (by omega) (by omega) (by omega)]
    exact sq.2.1 i i0 i1
  · rw [f5 (59 + 1 + 2) i (by omega) (by omega) (by omega), df _ _ (by omega) (by omega) (by omega)]
    exact sq.2.2 i i0 i1
  · rw [n5, if_neg (by omega), n4, if_neg (by omega), w4]
    exact f2 _ _ (by omega) (by omega) (by omega) (by unfold scp; omega)
  · rw [n5, if_neg (by omega), n4, if_neg (by omega), w7]
    exact f2 _ _ (by omega) (by omega) (by omega) (by unfold scp; omega)
  · show rd h5 65 i = rd h 116 i
    rw [n5, if_neg (by omega), n4, if_pos ⟨rfl, i0, i1⟩, n3 _ _ (by omega)]
    exact f2 _ _ (by omega) (by omega) (by omega) (by unfold scp; omega)
  · show rd h5 66 i = rd h 117 i
    rw [n5, if_pos ⟨rfl, i0, i1⟩, n4, if_neg (by omega), n3 _ _ (by omega)]
    exact f2 _ _ (by omega) (by omega) (by omega) (by unfold scp; omega)
theorem D_copyM_118_59 (he : 2 ≤ e) (hI : INV h) (k : ∀ g, INV g → (∀ a i, ¬ (118 ≤ a ∧ a ≤ 125 ∧ 0 ≤ i ∧ i ≤ 23) → rd g a i = rd h a i) → mcq h g 59 118 → Q none g) : Rn xs xl e mm_Memory_copy 0 [some (.inr (.inr 118)), some (.inr (.inr 59))] [] h Q := by
  have A : Rn xs xl 1 mm_Scene_copy 0 [some (.inr (.inr 119)), some (.inr (.inr 60))] [] h (fun r g => r = none ∧ scq h g 60 119 ∧ scf 119 h g) := F_scopy (by unfold scn; omega) (by decide) (by unfold scn; omega) (by decide) (RF_of hI.1) (fun g a b _ => ⟨rfl, a, b⟩)
  have B : Rn xs xl 1 mm_Scene_copy 0 [some (.inr (.inr 119)), some (.inr (.inr 60))] [] h (fun r g => INV g) := K_copy_118 (Nat.le_refl 1) hI (fun g i _ => i)
  refine B_copy_0_118_59 (RF_of hI.1) ⟨1, by omega, (A.and B).mono (fun r h1 z => ?_)⟩
  obtain ⟨⟨rfl, sq, sf⟩, i1⟩ := z
  have C : Rn xs xl 0 mm_Memory_copyDay 0 [some (.inr (.inr 118)), some (.inr (.inr 59))] [] h1 (fun r g => r = none ∧ dcq h1 g 59 118 ∧ (∀ a i, ¬ (a = 118 ∧ i = 1) → ¬ (a = 122 ∧ 0 ≤ i ∧ i < 24) → ¬ (a = 123 ∧ 0 ≤ i ∧ i < 24) → rd g a i = rd h1 a i)) := F_cday_118_59 (RF_of i1.1) (fun g a b => ⟨rfl, a, b⟩)
  have D : Rn xs xl 0 mm_Memory_copyDay 0 [some (.inr (.inr 118)), some (.inr (.inr 59))] [] h1 (fun r g => INV g) := D_copyDay_118_59 i1 (fun g i _ => i)
  refine B_copy_11_118_59 (RF_of i1.1) ⟨0, by omega, (C.and D).mono (fun r h2 z => ?_)⟩
  obtain ⟨⟨rfl, dq, df⟩, i2⟩ := z
  refine B_copy_16_118_59 (RF_of i2.1) ?_
  have l4 := rG_59_4 i2.1
  have l7 := rG_59_7 i2.1
  have i3 := wG_118_7 (wG_118_4 i2 (v := rd h2 59 4) (by omega) (by omega)) (v := rd h2 59 7) (by omega) (by omega)
  have n3 : ∀ b j, ¬ (b = 118 ∧ (j = 4 ∨ j = 7)) → rd (wr (wr h2 118 4 (rd h2 59 4)) 118 7 (rd h2 59 7)) b j = rd h2 b j := fun b j hn => by rw [rd_wr, if_neg (by omega), rd_wr, if_neg (by omega)]
  have w4 : rd (wr (wr h2 118 4 (rd h2 59 4)) 118 7 (rd h2 59 7)) 118 4 = rd h2 59 4 := (rdw_nei (by decide)).trans rdw_eq
  have w7 : rd (wr (wr h2 118 4 (rd h2 59 4)) 118 7 (rd h2 59 7)) 118 7 = rd h2 59 7 := rdw_eq
  generalize wr (wr h2 118 4 (rd h2 59 4)) 118 7 (rd h2 59 7) = h3 at *
  have r4 : RNG (cpyL h3 65 0 124 0 10 ++ h3) := RNG_cpk (n := 10) (fun f j hj hf => by
    have q := rB_65 i3.1 (i := 0 + (j : Int)) (by omega)
    exact wS_124 hf (by omega) (by omega)) i3.1 10 (Nat.le_refl _)
  have n4 : ∀ b j, rd (cpyL h3 65 0 124 0 10 ++ h3) b j = if b = 124 ∧ 0 ≤ j ∧ j < 10 then rd h3 65 j else rd h3 b j := fun b j => rd_cp0 10
  generalize cpyL h3 65 0 124 0 10 ++ h3 = h4 at *
  have i4 : INV h4 := ⟨r4, SP_of (fun b j hb => by rw [n4, if_neg (by unfold sens at hb; omega)]) i3.2⟩
  refine B_copy_47_118_59 (RF_of i4.1) ?_
  have r5 : RNG (cpyL h4 66 0 125 0 10 ++ h4) := RNG_cpk (n := 10) (fun f j hj hf => by
    have q := rB_66 i4.1 (i := 0 + (j : Int)) (by omega)
    exact wS_125 hf (by omega) (by omega)) i4.1 10 (Nat.le_refl _)
  have n5 : ∀ b j, rd (cpyL h4 66 0 125 0 10 ++ h4) b j = if b = 125 ∧ 0 ≤ j ∧ j < 10 then rd h4 66 j else rd h4 b j := fun b j => rd_cp0 10
  generalize cpyL h4 66 0 125 0 10 ++ h4 = h5 at *
  have i5 : INV h5 := ⟨r5, SP_of (fun b j hb => by rw [n5, if_neg (by unfold sens at hb; omega)]) i4.2⟩
  have f5 : ∀ a i, ¬ (a = 118 ∧ (i = 4 ∨ i = 7)) → ¬ (a = 124 ∧ 0 ≤ i ∧ i < 10) → ¬ (a = 125 ∧ 0 ≤ i ∧ i < 10) → rd h5 a i = rd h2 a i := fun a i m1 m2 m3 => by rw [n5, if_neg m3, n4, if_neg m2, n3 a i m1]
  have f2 : ∀ a i, ¬ (a = 118 ∧ i = 1) → ¬ (a = 122 ∧ 0 ≤ i ∧ i < 24) → ¬ (a = 123 ∧ 0 ≤ i ∧ i < 24) → ¬ scp 119 a i → rd h2 a i = rd h a i := fun a i m1 m2 m3 m4 => (df a i m1 m2 m3).trans (sf a i m4)
  have sN : ∀ a i, (a = 59 ∨ (63 ≤ a ∧ a ≤ 66)) → rd h1 a i = rd h a i := fun a i ha => sf a i (by unfold scp; omega)
  refine B_copy_62_118_59 (RF_of i5.1) (k h5 i5 (fun a i hn => ?_) ⟨⟨?_, fun i i0 i1 => ⟨?_, ?_⟩⟩, ⟨fun i i0 i1 => ?_, fun i i0 i1 => ?_, fun i i0 i1 => ?_⟩, ⟨?_, ?_⟩, fun i i0 i1 => ⟨?_, ?_⟩⟩)
  · rw [f5 a i (by omega) (by omega) (by omega)]
    exact f2 a i (by omega) (by omega) (by omega) (by unfold scp; omega)
  · rw [f5 118 1 (by decide) (by decide) (by decide), dq.1]
    exact sN _ _ (by decide)
  · rw [f5 (118 + 4) i (by omega) (by omega) (by omega), (dq.2 i i0 i1).1]
    exact sN _ _ (by omega)
  · rw [f5 (118 + 5) i (by omega) (by omega) (by omega), (dq.2 i i0 i1).2]
    exact sN _ _ (by omega)
  · rw [f5 (118 + 1) i (by omega) (by omega) (by omega), df _ _ (by omega) (by omega) (by omega)]
    exact sq.1 i i0 i1
  · rw [f5 (118 + 1 + 1) i (by omega) (by omega) (by omega), df _ _ (by omega) (by omega) (by omega)]
    exact sq.2.1 i i0 i1
  · rw [f5 (118 + 1 + 2) i (by omega) (by omega) (by omega), df _ _ (by omega) (by omega) (by omega)]
    exact sq.2.2 i i0 i1
  · rw [n5, if_neg (by omega), n4, if_neg (by omega), w4]
    exact f2 _ _ (by omega) (by omega) (by omega) (by unfold scp; omega)
  · rw [n5, if_neg (by omega), n4, if_neg (by omega), w7]
    exact f2 _ _ (by omega) (by omega) (by omega) (by unfold scp; omega)
  · show rd h5 124 i = rd h 65 i
    rw [n5, if_neg (by omega), n4, if_pos ⟨rfl, i0, i1⟩, n3 _ _ (by omega)]
    exact f2 _ _ (by omega) (by omega) (by omega) (by unfold scp; omega)
  · show rd h5 125 i = rd h 66 i
    rw [n5, if_pos ⟨rfl, i0, i1⟩, n4, if_neg (by omega), n3 _ _ (by omega)]
    exact f2 _ _ (by omega) (by omega) (by omega) (by unfold scp; omega)
theorem D_copyM_59_118 (he : 2 ≤ e) (hI : INV h) (k : ∀ g, INV g → (∀ a i, ¬ (59 ≤ a ∧ a ≤ 66 ∧ 0 ≤ i ∧ i ≤ 23) → rd g a i = rd h a i) → mcq h g 118 59 → Q none g) : Rn xs xl e mm_Memory_copy 0 [some (.inr (.inr 59)), some (.inr (.inr 118))] [] h Q := by
  have A : Rn xs xl 1 mm_Scene_copy 0 [some (.inr (.inr 60)), some (.inr (.inr 119))] [] h (fun r g => r = none ∧ scq h g 119 60 ∧ scf 60 h g) := F_scopy (by unfold scn; omega) (by decide) (by unfold scn; omega) (by decide) (RF_of hI.1) (fun g a b _ => ⟨rfl, a, b⟩)
  have B : Rn xs xl 1 mm_Scene_copy 0 [some (.inr (.inr 60)), some (.inr (.inr 119))] [] h (fun r g => INV g) := K_copyB_118 (Nat.le_refl 1) hI (fun g i _ => i)
  refine B_copy_0_59_118 (RF_of hI.1) ⟨1, by omega, (A.and B).mono (fun r h1 z => ?_)⟩
  obtain ⟨⟨rfl, sq, sf⟩, i1⟩ := z
  have C : Rn xs xl 0 mm_Memory_copyDay 0 [some (.inr (.inr 59)), some (.inr (.inr 118))] [] h1 (fun r g => r = none ∧ dcq h1 g 118 59 ∧ (∀ a i, ¬ (a = 59 ∧ i = 1) → ¬ (a = 63 ∧ 0 ≤ i ∧ i < 24) → ¬ (a = 64 ∧ 0 ≤ i ∧ i < 24) → rd g a i = rd h1 a i)) := F_cday_59_118 (RF_of i1.1) (fun g a b => ⟨rfl, a, b⟩)
  have D : Rn xs xl 0 mm_Memory_copyDay 0 [some (.inr (.inr 59)), some (.inr (.inr 118))] [] h1 (fun r g => INV g) := D_copyDay_59_118 i1 (fun g i _ => i)
  refine B_copy_11_59_118 (RF_of i1.1) ⟨0, by omega, (C.and D).mono (fun r h2 z => ?_)⟩
  obtain ⟨⟨rfl, dq, df⟩, i2⟩ := z
  refine B_copy_16_59_118 (RF_of i2.1) ?_
  have l4 := rG_118_4 i2.1
  have l7 := rG_118_7 i2.1
  have i3 := wG_59_7 (wG_59_4 i2 (v := rd h2 118 4) (by omega) (by omega)) (v := rd h2 118 7) (by omega) (by omega)
  have n3 : ∀ b j, ¬ (b = 59 ∧ (j = 4 ∨ j = 7)) → rd (wr (wr h2 59 4 (rd h2 118 4)) 59 7 (rd h2 118 7)) b j = rd h2 b j := fun b j hn => by rw [rd_wr, if_neg (by omega), rd_wr, if_neg (by omega)]
  have w4 : rd (wr (wr h2 59 4 (rd h2 118 4)) 59 7 (rd h2 118 7)) 59 4 = rd h2 118 4 := (rdw_nei (by decide)).trans rdw_eq
  have w7 : rd (wr (wr h2 59 4 (rd h2 118 4)) 59 7 (rd h2 118 7)) 59 7 = rd h2 118 7 := rdw_eq
  generalize wr (wr h2 59 4 (rd h2 118 4)) 59 7 (rd h2 118 7) = h3 at *
  have r4 : RNG (cpyL h3 124 0 65 0 10 ++ h3) := RNG_cpk (n := 10) (fun f j hj hf => by
    have q := rB_124 i3.1 (i := 0 + (j : Int)) (by omega)
    exact wS_65 hf (by omega) (by omega)) i3.1 10 (Nat.le_refl _)
  have n4 : ∀ b j, rd (cpyL h3 124 0 65 0 10 ++ h3) b j = if b = 65 ∧ 0 ≤ j ∧ j < 10 then rd h3 124 j else rd h3 b j := fun b j => rd_cp0 10
  generalize cpyL h3 124 0 65 0 10 ++ h3 = h4 at *
  have i4 : INV h4 := ⟨r4, SP_of (fun b j hb => by rw [n4, if_neg (by unfold sens at hb; omega)]) i3.2⟩
  refine B_copy_47_59_118 (RF_of i4.1) ?_
  have r5 : RNG (cpyL h4 125 0 66 0 10 ++ h4) := RNG_cpk (n := 10) (fun f j hj hf => by
    have q := rB_125 i4.1 (i := 0 + (j : Int)) (by omega)
    exact wS_66 hf (by omega) (by omega)) i4.1 10 (Nat.le_refl _)
  have n5 : ∀ b j, rd (cpyL h4 125 0 66 0 10 ++ h4) b j = if b = 66 ∧ 0 ≤ j ∧ j < 10 then rd h4 125 j else rd h4 b j := fun b j => rd_cp0 10
  generalize cpyL h4 125 0 66 0 10 ++ h4 = h5 at *
  have i5 : INV h5 := ⟨r5, SP_of (fun b j hb => by rw [n5, if_neg (by unfold sens at hb; omega)]) i4.2⟩
  have f5 : ∀ a i, ¬ (a = 59 ∧ (i = 4 ∨ i = 7)) → ¬ (a = 65 ∧ 0 ≤ i ∧ i < 10) → ¬ (a = 66 ∧ 0 ≤ i ∧ i < 10) → rd h5 a i = rd h2 a i := fun a i m1 m2 m3 => by rw [n5, if_neg m3, n4, if_neg m2, n3 a i m1]
  have f2 : ∀ a i, ¬ (a = 59 ∧ i = 1) → ¬ (a = 63 ∧ 0 ≤ i ∧ i < 24) → ¬ (a = 64 ∧ 0 ≤ i ∧ i < 24) → ¬ scp 60 a i → rd h2 a i = rd h a i := fun a i m1 m2 m3 m4 => (df a i m1 m2 m3).trans (sf a i m4)
  have sN : ∀ a i, (a = 118 ∨ (122 ≤ a ∧ a ≤ 125)) → rd h1 a i = rd h a i := fun a i ha => sf a i (by unfold scp; omega)
  refine B_copy_62_59_118 (RF_of i5.1) (k h5 i5 (fun a i hn => ?_) ⟨⟨?_, fun i i0 i1 => ⟨?_, ?_⟩⟩, ⟨fun i i0 i1 => ?_, fun i i0 i1 => ?_, fun i i0 i1 => ?_⟩, ⟨?_, ?_⟩, fun i i0 i1 => ⟨?_, ?_⟩⟩)
  · rw [f5 a i (by omega) (by omega) (by omega)]
    exact f2 a i (by omega) (by omega) (by omega) (by unfold scp; omega)
  · rw [f5 59 1 (by decide) (by decide) (by decide), dq.1]
    exact sN _ _ (by decide)
  · rw [f5 (59 + 4) i (by omega) (by omega) (by omega), (dq.2 i i0 i1).1]
    exact sN _ _ (by omega)
  · rw [f5 (59 + 5) i (by omega) (by omega) (by omega), (dq.2 i i0 i1).2]
    exact sN _ _ (by omega)
  · rw [f5 (59 + 1) i (by omega) (by omega) (by omega), df _ _ (by omega) (by omega) (by omega)]
    exact sq.1 i i0 i1
  · rw [f5 (59 + 1 + 1) i (by omega) (by omega) (by omega), df _ _ (by omega) (by omega) (by omega)]
    exact sq.2.1 i i0 i1
  · rw [f5 (59 + 1 + 2) i (by omega) (by omega) (by omega), df _ _ (by omega) (by omega) (by omega)]
    exact sq.2.2 i i0 i1
  · rw [n5, if_neg (by omega), n4, if_neg (by omega), w4]
    exact f2 _ _ (by omega) (by omega) (by omega) (by unfold scp; omega)
  · rw [n5, if_neg (by omega), n4, if_neg (by omega), w7]
    exact f2 _ _ (by omega) (by omega) (by omega) (by unfold scp; omega)
  · show rd h5 65 i = rd h 124 i
    rw [n5, if_neg (by omega), n4, if_pos ⟨rfl, i0, i1⟩, n3 _ _ (by omega)]
    exact f2 _ _ (by omega) (by omega) (by omega) (by unfold scp; omega)
  · show rd h5 66 i = rd h 125 i
    rw [n5, if_pos ⟨rfl, i0, i1⟩, n4, if_neg (by omega), n3 _ _ (by omega)]
    exact f2 _ _ (by omega) (by omega) (by omega) (by unfold scp; omega)
theorem D_copyM_126_59 (he : 2 ≤ e) (hI : INV h) (k : ∀ g, INV g → (∀ a i, ¬ (126 ≤ a ∧ a ≤ 133 ∧ 0 ≤ i ∧ i ≤ 23) → rd g a i = rd h a i) → mcq h g 59 126 → Q none g) : Rn xs xl e mm_Memory_copy 0 [some (.inr (.inr 126)), some (.inr (.inr 59))] [] h Q := by
  have A : Rn xs xl 1 mm_Scene_copy 0 [some (.inr (.inr 127)), some (.inr (.inr 60))] [] h (fun r g => r = none ∧ scq h g 60 127 ∧ scf 127 h g) := F_scopy (by unfold scn; omega) (by decide) (by unfold scn; omega) (by decide) (RF_of hI.1) (fun g a b _ => ⟨rfl, a, b⟩)
  have B : Rn xs xl 1 mm_Scene_copy 0 [some (.inr (.inr 127)), some (.inr (.inr 60))] [] h (fun r g => INV g) := K_copy_126 (Nat.le_refl 1) hI (fun g i _ => i)
  refine B_copy_0_126_59 (RF_of hI.1) ⟨1, by omega, (A.and B).mono (fun r h1 z => ?_)⟩
  obtain ⟨⟨rfl, sq, sf⟩, i1⟩ := z
  have C : Rn xs xl 0 mm_Memory_copyDay 0 [some (.inr (.inr 126)), some (.inr (.inr 59))] [] h1 (fun r g => r = none ∧ dcq h1 g 59 126 ∧ (∀ a i, ¬ (a = 126 ∧ i = 1) → ¬ (a = 130 ∧ 0 ≤ i ∧ i < 24) → ¬ (a = 131 ∧ 0 ≤ i ∧ i < 24) → rd g a i = rd h1 a i)) := F_cday_126_59 (RF_of i1.1) (fun g a b => ⟨rfl, a, b⟩)
  have D : Rn xs xl 0 mm_Memory_copyDay 0 [some (.inr (.inr 126)), some (.inr (.inr 59))] [] h1 (fun r g => INV g) := D_copyDay_126_59 i1 (fun g i _ => i)
  refine B_copy_11_126_59 (RF_of i1.1) ⟨0, by omega, (C.and D).mono (fun r h2 z => ?_)⟩
  obtain ⟨⟨rfl, dq, df⟩, i2⟩ := z
  refine B_copy_16_126_59 (RF_of i2.1) ?_
  have l4 := rG_59_4 i2.1
  have l7 := rG_59_7 i2.1
  have i3 := wG_126_7 (wG_126_4 i2 (v := rd h2 59 4) (by omega) (by omega)) (v := rd h2 59 7) (by omega) (by omega)
  have n3 : ∀ b j, ¬ (b = 126 ∧ (j = 4 ∨ j = 7)) → rd (wr (wr h2 126 4 (rd h2 59 4)) 126 7 (rd h2 59 7)) b j = rd h2 b j := fun b j hn => by rw [rd_wr, if_neg (by omega), rd_wr, if_neg (by omega)]
  have w4 : rd (wr (wr h2 126 4 (rd h2 59 4)) 126 7 (rd h2 59 7)) 126 4 = rd h2 59 4 := (rdw_nei (by decide)).trans rdw_eq
  have w7 : rd (wr (wr h2 126 4 (rd h2 59 4)) 126 7 (rd h2 59 7)) 126 7 = rd h2 59 7 := rdw_eq
  generalize wr (wr h2 126 4 (rd h2 59 4)) 126 7 (rd h2 59 7) = h3 at *
  have r4 : RNG (cpyL h3 65 0 132 0 10 ++ h3) := RNG_cpk (n := 10) (fun f j hj hf => by
    have q := rB_65 i3.1 (i := 0 + (j : Int)) (by omega)
    exact wS_132 hf (by omega) (by omega)) i3.1 10 (Nat.le_refl _)
  have n4 : ∀ b j, rd (cpyL h3 65 0 132 0 10 ++ h3) b j = if b = 132 ∧ 0 ≤ j ∧ j < 10 then rd h3 65 j else rd h3 b j := fun b j => rd_cp0 10
  generalize cpyL h3 65 0 132 0 10 ++ h3 = h4 at *
  have i4 : INV h4 := ⟨r4, SP_of (fun b j hb => by rw [n4, if_neg (by unfold sens at hb; omega)]) i3.2⟩
  refine B_copy_47_126_59 (RF_of i4.1) ?_
  have r5 : RNG (cpyL h4 66 0 133 0 10 ++ h4) := RNG_cpk (n := 10) (fun f j hj hf => by
    have q := rB_66 i4.1 (i := 0 + (j : Int)) (by omega)
    exact wS_133 hf (by omega) (by omega)) i4.1 10 (Nat.le_refl _)
  have n5 : ∀ b j, rd (cpyL h4 66 0 133 0 10 ++ h4) b j = if b = 133 ∧ 0 ≤ j ∧ j < 10 then rd h4 66 j else rd h4 b j := fun b j => rd_cp0 10
  generalize cpyL h4 66 0 133 0 10 ++ h4 = h5 at *
  have i5 : INV h5 := ⟨r5, SP_of (fun b j hb => by rw [n5, if_neg (by unfold sens at hb; omega)]) i4.2⟩
  have f5 : ∀ a i, ¬ (a = 126 ∧ (i = 4 ∨ i = 7)) → ¬ (a = 132 ∧ 0 ≤ i ∧ i < 10) → ¬ (a = 133 ∧ 0 ≤ i ∧ i < 10) → rd h5 a i = rd h2 a i := fun a i m1 m2 m3 => by rw [n5, if_neg m3, n4, if_neg m2, n3 a i m1]
  have f2 : ∀ a i, ¬ (a = 126 ∧ i = 1) → ¬ (a = 130 ∧ 0 ≤ i ∧ i < 24) → ¬ (a = 131 ∧ 0 ≤ i ∧ i < 24) → ¬ scp 127 a i → rd h2 a i = rd h a i := fun a i m1 m2 m3 m4 => (df a i m1 m2 m3).trans (sf a i m4)
  have sN : ∀ a i, (a = 59 ∨ (63 ≤ a ∧ a ≤ 66)) → rd h1 a i = rd h a i := fun a i ha => sf a i (by unfold scp; omega)
  refine B_copy_62_126_59 (RF_of i5.1) (k h5 i5 (fun a i hn => ?_) ⟨⟨?_, fun i i0 i1 => ⟨?_, ?_⟩⟩, ⟨fun i i0 i1 => ?_, fun i i0 i1 => ?_, fun i i0 i1 => ?_⟩, ⟨?_, ?_⟩, fun i i0 i1 => ⟨?_, ?_⟩⟩)
  · rw [f5 a i (by omega) (by omega) (by omega)]
    exact f2 a i (by omega) (by omega) (by omega) (by unfold scp; omega)
  · rw [f5 126 1 (by decide) (by decide) (by decide), dq.1]
    exact sN _ _ (by decide)
  · rw [f5 (126 + 4) i (by omega) (by omega) (by omega), (dq.2 i i0 i1).1]
    exact sN _ _ (by omega)
  · rw [f5 (126 + 5) i (by omega) (by omega) (by omega), (dq.2 i i0 i1).2]
    exact sN _ _ (by omega)
  · rw [f5 (126 + 1) i (by omega) (by omega) (by omega), df _ _ (by omega) (by omega) (by omega)]
    exact sq.1 i i0 i1
  · rw [f5 (126 + 1 + 1) i (by omega) (by omega) (by omega), df _ _ (by omega) (by omega) (by omega)]
    exact sq.2.1 i i0 i1
  · rw [f5 (126 + 1 + 2) i (by omega) (by omega) (by omega), df _ _ (by omega) (by omega) (by omega)]
    exact sq.2.2 i i0 i1
  · rw [n5, if_neg (by omega), n4, if_neg (by omega), w4]
    exact f2 _ _ (by omega) (by omega) (by omega) (by unfold scp; omega)
  · rw [n5, if_neg (by omega), n4, if_neg (by omega), w7]
    exact f2 _ _ (by omega) (by omega) (by omega) (by unfold scp; omega)
  · show rd h5 132 i = rd h 65 i
    rw [n5, if_neg (by omega), n4, if_pos ⟨rfl, i0, i1⟩, n3 _ _ (by omega)]
    exact f2 _ _ (by omega) (by omega) (by omega) (by unfold scp; omega)
  · show rd h5 133 i = rd h 66 i
    rw [n5, if_pos ⟨rfl, i0, i1⟩, n4, if_neg (by omega), n3 _ _ (by omega)]
    exact f2 _ _ (by omega) (by omega) (by omega) (by unfold scp; omega)
theorem D_copyM_59_126 (he : 2 ≤ e) (hI : INV h) (k : ∀ g, INV g → (∀ a i, ¬ (59 ≤ a ∧ a ≤ 66 ∧ 0 ≤ i ∧ i ≤ 23) → rd g a i = rd h a i) → mcq h g 126 59 → Q none g) : Rn xs xl e mm_Memory_copy 0 [some (.inr (.inr 59)), some (.inr (.inr 126))] [] h Q := by
  have A : Rn xs xl 1 mm_Scene_copy 0 [some (.inr (.inr 60)), some (.inr (.inr 127))] [] h (fun r g => r = none ∧ scq h g 127 60 ∧ scf 60 h g) := F_scopy (by unfold scn; omega) (by decide) (by unfold scn; omega) (by decide) (RF_of hI.1) (fun g a b _ => ⟨rfl, a, b⟩)
  have B : Rn xs xl 1 mm_Scene_copy 0 [some (.inr (.inr 60)), some (.inr (.inr 127))] [] h (fun r g => INV g) := K_copyB_126 (Nat.le_refl 1) hI (fun g i _ => i)
  refine B_copy_0_59_126 (RF_of hI.1) ⟨1, by omega, (A.and B).mono (fun r h1 z => ?_)⟩
  obtain ⟨⟨rfl, sq, sf⟩, i1⟩ := z
  have C : Rn xs xl 0 mm_Memory_copyDay 0 [some (.inr (.inr 59)), some (.inr (.inr 126))] [] h1 (fun r g => r = none ∧ dcq h1 g 126 59 ∧ (∀ a i, ¬ (a = 59 ∧ i = 1) → ¬ (a = 63 ∧ 0 ≤ i ∧ i < 24) → ¬ (a = 64 ∧ 0 ≤ i ∧ i < 24) → rd g a i = rd h1 a i)) := F_cday_59_126 (RF_of i1.1) (fun g a b => ⟨rfl, a, b⟩)
  have D : Rn xs xl 0 mm_Memory_copyDay 0 [some (.inr (.inr 59)), some (.inr (.inr 126))] [] h1 (fun r g => INV g) := D_copyDay_59_126 i1 (fun g i _ => i)
  refine B_copy_11_59_126 (RF_of i1.1) ⟨0, by omega, (C.and D).mono (fun r h2 z => ?_)⟩
  obtain ⟨⟨rfl, dq, df⟩, i2⟩ := z
  refine B_copy_16_59_126 (RF_of i2.1) ?_
  have l4 := rG_126_4 i2.1
  have l7 := rG_126_7 i2.1
  have i3 := wG_59_7 (wG_59_4 i2 (v := rd h2 126 4) (by omega) (by omega)) (v := rd h2 126 7) (by omega) (by omega)
  have n3 : ∀ b j, ¬ (b = 59 ∧ (j = 4 ∨ j = 7)) → rd (wr (wr h2 59 4 (rd h2 126 4)) 59 7 (rd h2 126 7)) b j = rd h2 b j := fun b j hn => by rw [rd_wr, if_neg (by omega), rd_wr, if_neg (by omega)]
  have w4 : rd (wr (wr h2 59 4 (rd h2 126 4)) 59 7 (rd h2 126 7)) 59 4 = rd h2 126 4 := (rdw_nei (by decide)).trans rdw_eq
  have w7 : rd (wr (wr h2 59 4 (rd h2 126 4)) 59 7 (rd h2 126 7)) 59 7 = rd h2 126 7 := rdw_eq
  generalize wr (wr h2 59 4 (rd h2 126 4)) 59 7 (rd h2 126 7) = h3 at *
  have r4 : RNG (cpyL h3 132 0 65 0 10 ++ h3) := RNG_cpk (n := 10) (fun f j hj hf => by
    have q := rB_132 i3.1 (i := 0 + (j : Int)) (by omega)
    exact wS_65 hf (by omega) (by omega)) i3.1 10 (Nat.le_refl _)
  have n4 : ∀ b j, rd (cpyL h3 132 0 65 0 10 ++ h3) b j = if b = 65 ∧ 0 ≤ j ∧ j < 10 then rd h3 132 j else rd h3 b j := fun b j => rd_cp0 10
  generalize cpyL h3 132 0 65 0 10 ++ h3 = h4 at *
  have i4 : INV h4 := ⟨r4, SP_of (fun b j hb => by rw [n4, if_neg (by unfold sens at hb; omega)]) i3.2⟩
  refine B_copy_47_59_126 (RF_of i4.1) ?_
  have r5 : RNG (cpyL h4 133 0 66 0 10 ++ h4) := RNG_cpk (n := 10) (fun f j hj hf => by
    have q := rB_133 i4.1 (i := 0 + (j : Int)) (by omega)
    exact wS_66 hf (by omega) (by omega)) i4.1 10 (Nat.le_refl _)
  have n5 : ∀ b j, rd (cpyL h4 133 0 66 0 10 ++ h4) b j = if b = 66 ∧ 0 ≤ j ∧ j < 10 then rd h4 133 j else rd h4 b j := fun b j => rd_cp0 10
  generalize cpyL h4 133 0 66 0 10 ++ h4 = h5 at *
  have i5 : INV h5 := ⟨r5, SP_of (fun b j hb => by rw [n5, if_neg (by unfold sens at hb; omega)]) i4.2⟩
  have f5 : ∀ a i, ¬ (a = 59 ∧ (i = 4 ∨ i = 7)) → ¬ (a = 65 ∧ 0 ≤ i ∧ i < 10) → ¬ (a = 66 ∧ 0 ≤ i ∧ i < 10) → rd h5 a i = rd h2 a i := fun a i m1 m2 m3 => by rw [n5, if_neg m3, n4, if_neg m2, n3 a i m1]
  have f2 : ∀ a i, ¬ (a = 59 ∧ i = 1) → ¬ (a = 63 ∧ 0 ≤ i ∧ i < 24) → ¬ (a = 64 ∧ 0 ≤ i ∧ i < 24) → ¬ scp 60 a i → rd h2 a i = rd h a i := fun a i m1 m2 m3 m4 => (df a i m1 m2 m3).trans (sf a i m4)
  have sN : ∀ a i, (a = 126 ∨ (130 ≤ a ∧ a ≤ 133)) → rd h1 a i = rd h a i := fun a i ha => sf a i (by unfold scp; omega)
  refine B_copy_62_59_126 (RF_of i5.1) (k h5 i5 (fun a i hn => ?_) ⟨⟨?_, fun i i0 i1 => ⟨?_, ?_⟩⟩, ⟨fun i i0 i1 => ?_, fun i i0 i1 => ?_, fun i i0 i1 => ?_⟩, ⟨?_, ?_⟩, fun i i0 i1 => ⟨?_, ?_⟩⟩)
  · rw [f5 a i (by omega) (by omega) (by omega)]
    exact f2 a i (by omega) (by omega) (by omega) (by unfold scp; omega)
  · rw [f5 59 1 (by decide) (by decide) (by decide), dq.1]
    exact sN _ _ (by decide)
  · rw [f5 (59 + 4) i (by omega) (by omega) (by omega), (dq.2 i i0 i1).1]
    exact sN _ _ (by omega)
  · rw [f5 (59 + 5) i (by omega) (by omega) (by omega), (dq.2 i i0 i1).2]
    exact sN _ _ (by omega)
  · rw [f5 (59 + 1) i (by omega) (by omega) (by omega), df _ _ (by omega) (by omega) (by omega)]
    exact sq.1 i i0 i1
  · rw [f5 (59 + 1 + 1) i (by omega) (by omega) (by omega), df _ _ (by omega) (by omega) (by omega)]
    exact sq.2.1 i i0 i1
  · rw [f5 (59 + 1 + 2) i (by omega) (by omega) (by omega), df _ _ (by omega) (by omega) (by omega)]
    exact sq.2.2 i i0 i1
  · rw [n5, if_neg (by omega), n4, if_neg (by omega), w4]
    exact f2 _ _ (by omega) (by omega) (by omega) (by unfold scp; omega)
  · rw [n5, if_neg (by omega), n4, if_neg (by omega), w7]
    exact f2 _ _ (by omega) (by omega) (by omega) (by unfold scp; omega)
  · show rd h5 65 i = rd h 132 i
    rw [n5, if_neg (by omega), n4, if_pos ⟨rfl, i0, i1⟩, n3 _ _ (by omega)]
    exact f2 _ _ (by omega) (by omega) (by omega) (by unfold scp; omega)
  · show rd h5 66 i = rd h 133 i
    rw [n5, if_pos ⟨rfl, i0, i1⟩, n4, if_neg (by omega), n3 _ _ (by omega)]
    exact f2 _ _ (by omega) (by omega) (by omega) (by unfold scp; omega)
theorem K_mcopyM {v1 : Int} (he : 2 ≤ e) (hI : INV h) (hv : 0 ≤ v1 ∧ v1 < 4) (k : ∀ g, INV g → (∀ a i, ¬ (102 + 8 * v1 ≤ a ∧ a ≤ 109 + 8 * v1 ∧ 0 ≤ i ∧ i ≤ 23) → rd g a i = rd h a i) → mcq h g 59 (102 + 8 * v1) → Q none g) : Rn xs xl e mm_Memory_copy 0 [some (.inr (.inr (102 + 8 * v1))), some (.inr (.inr 59))] [] h Q := by
  rcases (show v1 = 0 ∨ v1 = 1 ∨ v1 = 2 ∨ v1 = 3 by omega) with rfl | rfl | rfl | rfl
  · exact D_copyM_102_59 he hI k
  · exact D_copyM_110_59 he hI k
  · exact D_copyM_118_59 he hI k
  · exact D_copyM_126_59 he hI k
theorem K_mbackM {v1 : Int} (he : 2 ≤ e) (hI : INV h) (hv : 0 ≤ v1 ∧ v1 < 4) (k : ∀ g, INV g → (∀ a i, ¬ (59 ≤ a ∧ a ≤ 66 ∧ 0 ≤ i ∧ i ≤ 23) → rd g a i = rd h a i) → mcq h g (102 + 8 * v1) 59 → Q none g) : Rn xs xl e mm_Memory_copy 0 [some (.inr (.inr 59)), some (.inr (.inr (102 + 8 * v1)))] [] h Q := by
  rcases (show v1 = 0 ∨ v1 = 1 ∨ v1 = 2 ∨ v1 = 3 by omega) with rfl | rfl | rfl | rfl
  · exact D_copyM_59_102 he hI k
  · exact D_copyM_59_110 he hI k
  · exact D_copyM_59_118 he hI k
  · exact D_copyM_59_126 he hI k
end SCh
end
section
/-! the scene, part si: mark under the relation -/
/-- between both marks -/
def mrJ (v1 v2 : Int) (h g : LH) (r : Int) : Prop := (¬ mrkA (rd h 1 6) v1 v2 ∧ r = 0 ∧ samP h g) ∨ (mrkA (rd h 1 6) v1 v2 ∧ r = 1 ∧ ((v2 = 0 ∧ rd g 1 6 = zor (rd h 1 6) (zshl 1 v1) ∧ mcq h g 59 (102 + 8 * v1) ∧ ∀ a i, ¬ (102 + 8 * v1 ≤ a ∧ a ≤ 109 + 8 * v1 ∧ 0 ≤ i ∧ i ≤ 23) → ¬ (a = 1 ∧ i = 6) → rd g a i = rd h a i) ∨ (v2 ≠ 0 ∧ rd g 1 9 = 0 ∧ mcq h g (102 + 8 * v1) 59 ∧ ∀ a i, ¬ (59 ≤ a ∧ a ≤ 66 ∧ 0 ≤ i ∧ i ≤ 23) → ¬ (a = 1 ∧ i = 9) → rd g a i = rd h a i)))
section SCi
variable {xs : Nat → Int} {xl e : Nat} {h g g' : LH} {Q : Option LV → LH → Prop} {v1 v2 r N M : Int}
theorem mcq_lo (hm : mcq h g N M) (f : ∀ a i, M ≤ a → a ≤ M + 7 → rd g' a i = rd g a i) : mcq h g' N M := by
  obtain ⟨⟨a1, a2⟩, a3, ⟨a4, a5⟩, a6⟩ := hm
  refine ⟨⟨(f _ _ (by omega) (by omega)).trans a1, fun i i0 i1 => ⟨(f _ _ (by omega) (by omega)).trans (a2 i i0 i1).1, (f _ _ (by omega) (by omega)).trans (a2 i i0 i1).2⟩⟩, scq_lo a3 (fun a i ha => f a i (by unfold scp at ha; omega) (by unfold scp at ha; omega)), ⟨(f _ _ (by omega) (by omega)).trans a4, (f _ _ (by omega) (by omega)).trans a5⟩, fun i i0 i1 => ⟨(f _ _ (by omega) (by omega)).trans (a6 i i0 i1).1, (f _ _ (by omega) (by omega)).trans (a6 i i0 i1).2⟩⟩
theorem E_markS (he : 8 ≤ e) (hI : INV h) (hE : EQL h) (h1 : i32 v1) (h2 : gV (0, 0, 1, 1) (.inl v2)) (k : ∀ r g, INV g → mrJ v1 v2 h g r → Q (some (.inl r)) g) : Rn xs xl e mm_OneSided_mark 0 [some (.inr (.inr 1)), some (.inl v1), some (.inl v2)] [] h Q := by
  obtain ⟨m1, m2, m3⟩ := hE.2.2.2.2.2.2.1
  have A : Rn xs xl e mm_OneSided_mark 0 [some (.inr (.inr 1)), some (.inl v1), some (.inl v2)] [] h (fun r g => ∃ x, r = some (.inl x) ∧ mrJ v1 v2 h g x) := by
    have no : ¬ mrkA (rd h 1 6) v1 v2 → ∃ x, (some (.inl 0) : Option LV) = some (.inl x) ∧ mrJ v1 v2 h h x := fun z => ⟨0, rfl, Or.inl ⟨z, rfl, fun _ _ => rfl⟩⟩
    refine B_OneSided_mark_0 (RF_of hI.1) ⟨fun c => no (fun q => by have := q.1; omega), fun c => ⟨fun c2 => ⟨fun c3 => ?_, fun c3 => ?_⟩, fun c2 => no (fun q => by have := q.1; omega)⟩⟩
    · have hM := m1 v1 c c2
      refine B_OneSided_mark_42 (show 102 + 8 * v1 = 102 ∨ 102 + 8 * v1 = 110 ∨ 102 + 8 * v1 = 118 ∨ 102 + 8 * v1 = 126 by omega) hM (RF_of hI.1) ⟨fun c4 => ⟨⟨c, c2⟩, 2, by omega, K_mbackM (by omega) hI ⟨c, c2⟩ (fun g gI gf gm => B_OneSided_mark_68 (RF_of gI.1) ⟨1, rfl, Or.inr ⟨⟨⟨c, c2⟩, Or.inr c4⟩, rfl, Or.inr ⟨c3, rdw_eq, mcq_lo gm (fun a i a0 a1 => rdw_ne (by omega)), fun a i n1 n2 => ?_⟩⟩⟩)⟩, fun c4 => no (fun q => q.2.elim c3 (fun q => q c4))⟩
      rw [rd_wr, if_neg (by omega)]
      exact gf a i n1
    · have hM := m1 v1 c c2
      refine B_OneSided_mark_15 (show 102 + 8 * v1 = 102 ∨ 102 + 8 * v1 = 110 ∨ 102 + 8 * v1 = 118 ∨ 102 + 8 * v1 = 126 by omega) hM (RF_of hI.1) ⟨⟨c, c2⟩, 2, by omega, K_mcopyM (by omega) hI ⟨c, c2⟩ (fun g gI gf gm => B_OneSided_mark_28 (RF_of gI.1) ⟨1, rfl, Or.inr ⟨⟨⟨c, c2⟩, Or.inl c3⟩, rfl, Or.inl ⟨c3, ?_, mcq_lo gm (fun a i a0 a1 => rdw_ne (by omega)), fun a i n1 n2 => ?_⟩⟩⟩)⟩
      · rw [rdw_eq, gf 1 6 (by omega)]
      · rw [rd_wr, if_neg (by omega)]
        exact gf a i n1
  have B : Rn xs xl e mm_OneSided_mark 0 [some (.inr (.inr 1)), some (.inl v1), some (.inl v2)] [] h (fun r g => INV g) := use_sm TD_mark (as := [.inr (.inr 1), .inl v1, .inl v2]) rfl (Nat.le_trans (Nat.le_of_ble_eq_true rfl) he) hI (gAr_c (g_ref 1) (gAr_c (g_i h1) (gAr_c h2 gAr_n))) rfl (Nat.le_of_ble_eq_true rfl) rfl (fun r g gI gf gq => gI)
  refine (A.and B).mono (fun r g z => ?_)
  obtain ⟨⟨x, rfl, a⟩, b⟩ := z
  exact k x g b a
theorem rd_self {a i v : Int} (e : rd h a i = v) (b j : Int) : rd (wr h a i v) b j = rd h b j := by
  rw [rd_wr]
  by_cases z : a = b ∧ i = j
  · rw [if_pos z, ← z.1, ← z.2]
    exact e.symm
  · rw [if_neg z]
/-- the reference's mark: nothing, kept, or taken back -/
theorem G_markR (he : 1 ≤ e) (hI : INV h)
    (k1 : ∀ g, (0 ≤ v1 ∧ v1 < 4) → v2 = 0 → (∀ i, rd g 199 i = if i = v1 then 1 else rd h 199 i) → (∀ i, 0 ≤ i → i < 70 → rd g 198 (70 * v1 + 70 + i) = rd h 198 i) → (∀ j, 0 ≤ j → j < 50 → rd g 200 (50 * v1 + j) = rd h 195 j) → (∀ a i, ¬ (a = 198 ∧ 70 * v1 + 70 ≤ i ∧ i < 70 * v1 + 140) → a ≠ 199 → ¬ (a = 200 ∧ 50 * v1 ≤ i ∧ i < 50 * v1 + 50) → ¬ (a = 182 ∧ i = 0) → rd g a i = rd h a i) → Q (some (.inl 1)) g)
    (k2 : ∀ g, (0 ≤ v1 ∧ v1 < 4) → v2 ≠ 0 → rd h 199 v1 ≠ 0 → (∀ i, rd g 199 i = if i = v1 then 1 else rd h 199 i) → (∀ i, 0 ≤ i → i < 70 → rd g 198 i = rd h 198 (70 * v1 + 70 + i)) → (∀ j, 0 ≤ j → j < 50 → rd g 195 j = rd h 200 (50 * v1 + j)) → rd g 182 25 = 0 → (∀ a i, ¬ (a = 198 ∧ 0 ≤ i ∧ i < 70) → a ≠ 199 → ¬ (a = 195 ∧ 0 ≤ i ∧ i < 50) → ¬ (a = 182 ∧ (i = 0 ∨ i = 25)) → rd g a i = rd h a i) → Q (some (.inl 1)) g)
    (k0 : ∀ g, ¬ ((0 ≤ v1 ∧ v1 < 4) ∧ (v2 = 0 ∨ rd h 199 v1 ≠ 0)) → (∀ a i, ¬ (a = 182 ∧ i = 0) → rd g a i = rd h a i) → Q (some (.inl 0)) g) : Rn xs xl e mm_mark 0 [some (.inr (.inr 182)), some (.inl v1), some (.inl v2), none] [] h Q := by
  have i0 : INV (wr h 182 0 0) := wF_thrown hI (by omega) (by omega)
  have no : ¬ ((0 ≤ v1 ∧ v1 < 4) ∧ (v2 = 0 ∨ rd h 199 v1 ≠ 0)) → Q (some (.inl 0)) (wr h 182 0 0) := fun q => k0 _ q (fun a i n => by rw [rd_wr, if_neg (by omega)])
  have s9 : ∀ i, rd (wr (wr h 182 0 0) 199 v1 1) 199 i = if i = v1 then 1 else rd h 199 i := by
    intro i
    rw [rd_wr]
    by_cases z : i = v1
    · rw [if_pos z, if_pos ⟨rfl, z.symm⟩]
    · rw [if_neg z, if_neg (fun q => z q.2.symm), rdw_ne (by decide)]
  have s8 : ∀ a i, a ≠ 199 → ¬ (a = 182 ∧ i = 0) → rd (wr (wr h 182 0 0) 199 v1 1) a i = rd h a i := fun a i n1 n2 => by rw [rd_wr, if_neg (by omega), rd_wr, if_neg (by omega)]
  have to : (0 ≤ v1 ∧ v1 < 4) → v2 = 0 → ∀ (u : LH), (∀ i, rd u 199 i = if i = v1 then 1 else rd h 199 i) → (∀ i, 0 ≤ i → i < 70 → rd u 198 (70 * v1 + 70 + i) = rd h 198 i) → (∀ a i, ¬ (a = 198 ∧ 70 * v1 + 70 ≤ i ∧ i < 70 * v1 + 140) → a ≠ 199 → ¬ (a = 182 ∧ i = 0) → rd u a i = rd h a i) → ∀ (d : Nat) (g : LH) (b : Int), 50 - b ≤ d → 0 ≤ b → b ≤ 50 → RF g → (∀ j, 0 ≤ j → j < b → rd g 200 (50 * v1 + j) = rd h 195 j) → (∀ a i, ¬ (a = 200 ∧ 50 * v1 ≤ i ∧ i < 50 * v1 + 50) → rd g a i = rd u a i) → Rn xs xl e mm_mark 72 [some (.inr (.inr 182)), some (.inl v1), some (.inl v2), some (.inl b)] [] g Q := by
    intro hv z0 u u9 u8 uf d
    have fin : ∀ g : LH, (∀ j, 0 ≤ j → j < 50 → rd g 200 (50 * v1 + j) = rd h 195 j) → (∀ a i, ¬ (a = 200 ∧ 50 * v1 ≤ i ∧ i < 50 * v1 + 50) → rd g a i = rd u a i) → Q (some (.inl 1)) (wr g 182 25 (rd g 182 25)) := by
      intro g gl gf
      have sf := rd_self (h := g) (a := 182) (i := 25) rfl
      refine k1 _ hv z0 (fun i => ?_) (fun i i0 i1 => ?_) (fun j j0 j1 => (sf _ _).trans (gl j j0 j1)) (fun a i n1 n2 n3 n4 => ?_)
      · rw [sf, gf 199 i (by omega)]; exact u9 i
      · rw [sf, gf 198 _ (by omega)]; exact u8 i i0 i1
      · rw [sf, gf a i n3]; exact uf a i n1 n2 n4
    induction d with
    | zero =>
      intro g b hd b0 b1 gF gl gf
      exact B_mark_72 gF (by omega) ⟨b0, b1⟩ ⟨fun _ => ⟨fun _ => fin g (fun j j0 j1 => gl j j0 (by omega)) gf, fun y => absurd z0 y⟩, fun c => by omega⟩
    | succ d ih =>
      intro g b hd b0 b1 gF gl gf
      refine B_mark_72 gF (by omega) ⟨b0, b1⟩ ⟨fun _ => ⟨fun _ => fin g (fun j j0 j1 => gl j j0 (by omega)) gf, fun y => absurd z0 y⟩, fun c => ⟨fun _ => ⟨by omega, ih _ (b + 1) (by omega) (by omega) (by omega) (RF_wn (hav_ln (Or.inr rfl) _) gF) (fun j j0 j1 => ?_) (fun a i n => ?_)⟩, fun y => absurd z0 y⟩⟩
      · by_cases y : j = b
        · rw [y, rdw_eq, gf 195 b (by omega)]
          exact uf 195 b (by omega) (by decide) (by omega)
        · rw [rdw_nei (by omega)]
          exact gl j j0 (by omega)
      · rw [rd_wr, if_neg (by omega)]
        exact gf a i n
  have back : (0 ≤ v1 ∧ v1 < 4) → v2 ≠ 0 → rd h 199 v1 ≠ 0 → ∀ (u : LH), (∀ i, rd u 199 i = if i = v1 then 1 else rd h 199 i) → (∀ i, 0 ≤ i → i < 70 → rd u 198 i = rd h 198 (70 * v1 + 70 + i)) → (∀ a i, ¬ (a = 198 ∧ 0 ≤ i ∧ i < 70) → a ≠ 199 → ¬ (a = 182 ∧ i = 0) → rd u a i = rd h a i) → ∀ (d : Nat) (g : LH) (b : Int), 50 - b ≤ d → 0 ≤ b → b ≤ 50 → RF g → (∀ j, 0 ≤ j → j < b → rd g 195 j = rd h 200 (50 * v1 + j)) → (∀ a i, ¬ (a = 195 ∧ 0 ≤ i ∧ i < 50) → rd g a i = rd u a i) → Rn xs xl e mm_mark 72 [some (.inr (.inr 182)), some (.inl v1), some (.inl v2), some (.inl b)] [] g Q := by
    intro hv z0 z1 u u9 u8 uf d
    have fin : ∀ g : LH, (∀ j, 0 ≤ j → j < 50 → rd g 195 j = rd h 200 (50 * v1 + j)) → (∀ a i, ¬ (a = 195 ∧ 0 ≤ i ∧ i < 50) → rd g a i = rd u a i) → Q (some (.inl 1)) (wr g 182 25 0) := by
      intro g gl gf
      refine k2 _ hv z0 z1 (fun i => ?_) (fun i i0 i1 => ?_) (fun j j0 j1 => (rdw_ne (by decide)).trans (gl j j0 j1)) rdw_eq (fun a i n1 n2 n3 n4 => ?_)
      · rw [rdw_ne (by decide), gf 199 i (by omega)]; exact u9 i
      · rw [rdw_ne (by decide), gf 198 _ (by omega)]; exact u8 i i0 i1
      · rw [rd_wr, if_neg (by omega), gf a i n3]; exact uf a i n1 n2 (by omega)
    induction d with
    | zero =>
      intro g b hd b0 b1 gF gl gf
      exact B_mark_72 gF (by omega) ⟨b0, b1⟩ ⟨fun _ => ⟨fun y => absurd y z0, fun _ => fin g (fun j j0 j1 => gl j j0 (by omega)) gf⟩, fun c => by omega⟩
    | succ d ih =>
      intro g b hd b0 b1 gF gl gf
      refine B_mark_72 gF (by omega) ⟨b0, b1⟩ ⟨fun _ => ⟨fun y => absurd y z0, fun _ => fin g (fun j j0 j1 => gl j j0 (by omega)) gf⟩, fun c => ⟨fun y => absurd y z0, fun _ => ⟨by omega, ih _ (b + 1) (by omega) (by omega) (by omega) (RF_wn (hav_ln (Or.inl rfl) _) gF) (fun j j0 j1 => ?_) (fun a i n => ?_)⟩⟩⟩
      · by_cases y : j = b
        · rw [y, rdw_eq, gf 200 _ (by omega)]
          exact uf 200 _ (by omega) (by decide) (by omega)
        · rw [rdw_nei (by omega)]
          exact gl j j0 (by omega)
      · rw [rd_wr, if_neg (by omega)]
        exact gf a i n
  have r2 : RNG (wr (wr h 182 0 0) 199 v1 1) := wR_isMarked i0.1 (by omega) (by omega)
  refine B_mark_0 (RF_of hI.1) he ⟨fun c => no (fun q => by have := q.1; omega), fun c => ⟨fun c2 => no (fun q => by have := q.1; omega), fun c2 => ⟨fun c3 => ⟨by omega, by omega, by omega, 0, by omega, D_copies r2 (by omega) (by omega) (by omega) (fun g gr gf gc => B_mark_70 (RF_of gr) (to (by omega) c3 g (fun i => (gf 199 i (by omega)).trans (s9 i)) (fun i i0 i1 => ?_) (fun a i n1 n2 n3 => (gf a i (by omega)).trans (s8 a i n2 n3)) 50 g 0 (by omega) (by omega) (by omega) (RF_of gr) (fun j j0 j1 => by omega) (fun _ _ _ => rfl)))⟩, fun c3 => ⟨by omega, fun c4 => ⟨by omega, by omega, by omega, 0, by omega, D_copies r2 (by omega) (by omega) (by omega) (fun g gr gf gc => B_mark_70 (RF_of gr) (back (by omega) c3 c4 g (fun i => (gf 199 i (by omega)).trans (s9 i)) (fun i i0 i1 => ?_) (fun a i n1 n2 n3 => (gf a i (by omega)).trans (s8 a i n2 n3)) 50 g 0 (by omega) (by omega) (by omega) (RF_of gr) (fun j j0 j1 => by omega) (fun _ _ _ => rfl)))⟩, fun c4 => no (fun q => q.2.elim c3 (fun q => q c4))⟩⟩⟩⟩
  · have y := (gc i i0 i1).trans (s8 198 _ (by decide) (by omega))
    rw [Int.zero_add] at y
    exact y
  · have y := (gc i i0 i1).trans (s8 198 _ (by decide) (by omega))
    rw [Int.zero_add] at y
    exact y
theorem G_markS (he : 8 ≤ e) (hI : INV h) (hE : EQL h) (gI : INV g) (hj : mrJ v1 v2 h g r) (k : ∀ g', INV g' → EQL g' → Q (some (.inl r)) g') : Rn xs xl e mm_mark 0 [some (.inr (.inr 182)), some (.inl v1), some (.inl v2), none] [] g Q := by
  obtain ⟨-, -, -, -, -, -, ⟨j1, j2, j3⟩, ⟨-, -, -, -, k5, k6, k7, -⟩⟩ := id hE
  have hp := rq_people hI.1
  have B : Rn xs xl e mm_mark 0 [some (.inr (.inr 182)), some (.inl v1), some (.inl v2), none] [] g (fun q g' => INV g') := D_mark (by omega) gI (fun r g' a b => a)
  have iff9 : (∀ i, rd g 199 i = rd h 199 i) → (((0 ≤ v1 ∧ v1 < 4) ∧ (v2 = 0 ∨ rd g 199 v1 ≠ 0)) ↔ mrkA (rd h 1 6) v1 v2) := fun g9 => by
    unfold mrkA
    constructor
    · rintro ⟨a, b⟩
      rw [g9, j3 v1 a.1 a.2] at b
      exact ⟨a, b⟩
    · rintro ⟨a, b⟩
      rw [g9, j3 v1 a.1 a.2]
      exact ⟨a, b⟩
  rcases hj with ⟨n, rfl, sm⟩ | ⟨hm, rfl, hc⟩
  · have iff := iff9 (fun i => sm _ _)
    have A : Rn xs xl e mm_mark 0 [some (.inr (.inr 182)), some (.inl v1), some (.inl v2), none] [] g (fun q g' => q = some (.inl 0) ∧ ∀ a i, ¬ (a = 182 ∧ i = 0) → rd g' a i = rd g a i) := G_markR (by omega) gI (fun g' a b _ _ _ _ => absurd (iff.mp ⟨a, Or.inl b⟩) n) (fun g' a b c _ _ _ _ _ => absurd (iff.mp ⟨a, Or.inr c⟩) n) (fun g' _ f => ⟨rfl, f⟩)
    refine (A.and B).mono (fun q g' z => ?_)
    obtain ⟨⟨rfl, f⟩, gI'⟩ := z
    exact k g' gI' (EQL_fr gI (EQL_sam hI hE sm) (f 2 0 (by decide)) (f 182 2 (by decide)) (fun a i ha => f a i (by have := (inK_p ha).2.1; omega)))
  · rcases hc with ⟨z0, c6, cm, cf⟩ | ⟨z0, c9, cm, cf⟩
    · have gh : ∀ a i, 182 ≤ a → rd g a i = rd h a i := fun a i n => cf a i (by have := hm.1; omega) (by omega)
      have iff := iff9 (fun i => gh _ _ (by decide))
      have A : Rn xs xl e mm_mark 0 [some (.inr (.inr 182)), some (.inl v1), some (.inl v2), none] [] g (fun q g' => q = some (.inl 1) ∧ (∀ i, rd g' 199 i = if i = v1 then 1 else rd g 199 i) ∧ (∀ i, 0 ≤ i → i < 70 → rd g' 198 (70 * v1 + 70 + i) = rd g 198 i) ∧ (∀ a i, ¬ (a = 198 ∧ 70 * v1 + 70 ≤ i ∧ i < 70 * v1 + 140) → a ≠ 199 → ¬ (a = 200 ∧ 50 * v1 ≤ i ∧ i < 50 * v1 + 50) → ¬ (a = 182 ∧ i = 0) → rd g' a i = rd g a i)) := G_markR (by omega) gI (fun g' _ _ a b _ c => ⟨rfl, a, b, c⟩) (fun g' _ y _ _ _ _ _ _ => absurd z0 y) (fun g' y _ => absurd (iff.mpr hm) y)
      refine (A.and B).mono (fun q g' z => ?_)
      obtain ⟨⟨rfl, a9, a8, af⟩, gI'⟩ := z
      have hv := hm.1
      clear A B iff iff9
      have lo : ∀ a i, a < 182 → rd g' a i = rd g a i := fun a i n => af a i (by omega) (by omega) (by omega) (by omega)
      have cl : ∀ a i, a < 182 → ¬ (102 + 8 * v1 ≤ a ∧ a ≤ 109 + 8 * v1) → ¬ (a = 1 ∧ i = 6) → rd g' a i = rd h a i := fun a i n1 n2 n3 => (lo a i n1).trans (cf a i (by omega) n3)
      have rl : ∀ a i, 182 ≤ a → ¬ (a = 198 ∧ 70 * v1 + 70 ≤ i ∧ i < 70 * v1 + 140) → a ≠ 199 → a ≠ 200 → ¬ (a = 182 ∧ i = 0) → rd g' a i = rd h a i := fun a i n0 n1 n2 n3 n4 => (af a i n1 n2 (by omega) n4).trans (gh a i n0)
      have t2 : rd g' 188 2 = rd h 188 2 := rl 188 2 (by decide) (by omega) (by decide) (by decide) (by decide)
      have e6 : rd g' 1 6 = zor (rd h 1 6) (zshl 1 v1) := (lo 1 6 (by decide)).trans c6
      have g9 : ∀ m, rd g' 199 m = if m = v1 then 1 else rd h 199 m := fun m => by rw [a9 m, gh 199 m (by decide)]
      have mk : MKR g' := ⟨fun m h0 h1 => (cl 75 m (by decide) (by omega) (by omega)).trans (j1 m h0 h1), by rw [e6]; exact mbit_in j2 hv, fun m h0 h1 => by rw [g9 m, e6, mbit_or j2 hv ⟨h0, h1⟩, j3 m h0 h1]⟩
      have sr : SR g' 60 0 := SR_fr k5 (fun a i ha => cl a i (by omega) (by omega) (by omega)) (fun i i0 i1 => rl 198 i (by decide) (by omega) (by decide) (by decide) (by omega)) t2 hp
      have un : UN g' := UN_fr hp k6 t2 (cl 1 8 (by decide) (by omega) (by decide)) (cl 1 9 (by decide) (by omega) (by decide)) (rl 182 25 (by decide) (by omega) (by decide) (by decide) (by decide)) (fun a i h1 h2 => cl a i (by omega) (by omega) (by omega)) (fun i i0 i1 => rl 198 i (by decide) (by omega) (by decide) (by decide) (by omega))
      have ms : MKS g' := by
        intro m m0 m1 hm9
        by_cases y : m = v1
        · subst y
          have q1 : scq h g' 60 (102 + 8 * m + 1) := scq_lo cm.2.1 (fun a i ha => lo a i (by unfold scp at ha; omega))
          rw [show 102 + 8 * m + 1 = 103 + 8 * m by omega] at q1
          refine SR_mv k5 q1 (fun i i0 i1 => ?_) t2 hp
          have w := (a8 i i0 (by omega)).trans (gh 198 i (by decide))
          rw [show 70 * m + 70 + i = 70 * m + 70 + i from rfl] at w
          rw [w, Int.zero_add]
        · rw [g9 m, if_neg y] at hm9
          exact SR_fr (k7 m m0 m1 hm9) (fun a i ha => cl a i (by omega) (by omega) (by omega)) (fun i i0 i1 => rl 198 i (by decide) (by omega) (by decide) (by decide) (by omega)) t2 hp
      have sto : ∀ a i, stt a i → rd g' a i = rd h a i := fun a i ha => by
        unfold stt at ha
        by_cases y : a < 182
        · exact cl a i y (by omega) (by omega)
        · exact rl a i (by omega) (by omega) (by omega) (by omega) (by omega)
      exact k g' gI' (EQL_mk hI hE (cl 2 0 (by decide) (by omega) (by decide)) (rl 182 2 (by decide) (by omega) (by decide) (by decide) (by decide)) sto mk sr un ms)
    · have gh : ∀ a i, 182 ≤ a → rd g a i = rd h a i := fun a i n => cf a i (by omega) (by omega)
      have iff := iff9 (fun i => gh _ _ (by decide))
      have A : Rn xs xl e mm_mark 0 [some (.inr (.inr 182)), some (.inl v1), some (.inl v2), none] [] g (fun q g' => q = some (.inl 1) ∧ (∀ i, rd g' 199 i = if i = v1 then 1 else rd g 199 i) ∧ (∀ i, 0 ≤ i → i < 70 → rd g' 198 i = rd g 198 (70 * v1 + 70 + i)) ∧ rd g' 182 25 = 0 ∧ (∀ a i, ¬ (a = 198 ∧ 0 ≤ i ∧ i < 70) → a ≠ 199 → ¬ (a = 195 ∧ 0 ≤ i ∧ i < 50) → ¬ (a = 182 ∧ (i = 0 ∨ i = 25)) → rd g' a i = rd g a i)) := G_markR (by omega) gI (fun g' _ y _ _ _ _ => absurd y z0) (fun g' _ _ _ a b _ c d => ⟨rfl, a, b, c, d⟩) (fun g' y _ => absurd (iff.mpr hm) y)
      refine (A.and B).mono (fun q g' z => ?_)
      obtain ⟨⟨rfl, a9, a8, a25, af⟩, gI'⟩ := z
      have hv := hm.1
      have nz : rd h 199 v1 ≠ 0 := by
        rw [j3 v1 hv.1 hv.2]
        exact hm.2.resolve_left z0
      clear A B iff iff9
      have lo : ∀ a i, a < 182 → rd g' a i = rd g a i := fun a i n => af a i (by omega) (by omega) (by omega) (by omega)
      have cl : ∀ a i, a < 182 → ¬ (59 ≤ a ∧ a ≤ 66) → ¬ (a = 1 ∧ i = 9) → rd g' a i = rd h a i := fun a i n1 n2 n3 => (lo a i n1).trans (cf a i (by omega) n3)
      have rl : ∀ a i, 182 ≤ a → ¬ (a = 198 ∧ 0 ≤ i ∧ i < 70) → a ≠ 199 → a ≠ 195 → ¬ (a = 182 ∧ (i = 0 ∨ i = 25)) → rd g' a i = rd h a i := fun a i n0 n1 n2 n3 n4 => (af a i n1 n2 (by omega) n4).trans (gh a i n0)
      have t2 : rd g' 188 2 = rd h 188 2 := rl 188 2 (by decide) (by omega) (by decide) (by decide) (by decide)
      have e6 : rd g' 1 6 = rd h 1 6 := cl 1 6 (by decide) (by decide) (by decide)
      have o1 : rd h 199 v1 = 1 := by
        have o := mbit_01 (rd h 1 6).toNat (by omega) v1.toNat (by omega)
        rw [show (((rd h 1 6).toNat : Nat) : Int) = rd h 1 6 by omega, show ((v1.toNat : Nat) : Int) = v1 by omega, ← j3 v1 hv.1 hv.2] at o
        exact o.resolve_left nz
      have g9 : ∀ m, rd g' 199 m = rd h 199 m := fun m => by
        rw [a9 m, gh 199 m (by decide)]
        by_cases y : m = v1
        · rw [if_pos y, y, o1]
        · rw [if_neg y]
      have mk : MKR g' := ⟨fun m h0 h1 => (cl 75 m (by decide) (by omega) (by omega)).trans (j1 m h0 h1), by rw [e6]; exact j2, fun m h0 h1 => by rw [g9 m, e6]; exact j3 m h0 h1⟩
      have q1 : scq h g' (102 + 8 * v1 + 1) 60 := scq_lo cm.2.1 (fun a i ha => lo a i (by unfold scp at ha; omega))
      rw [show 102 + 8 * v1 + 1 = 103 + 8 * v1 by omega] at q1
      have sr : SR g' 60 0 := by
        refine SR_mv (k7 v1 hv.1 hv.2 nz) q1 (fun i i0 i1 => ?_) t2 hp
        rw [Int.zero_add]
        exact (a8 i i0 (by omega)).trans (gh 198 _ (by decide))
      have un : UN g' := by
        have e9 : rd g' 1 9 = 0 := (lo 1 9 (by decide)).trans c9
        have e8 : rd g' 1 8 = rd h 1 8 := cl 1 8 (by decide) (by decide) (by decide)
        unfold UN
        rw [e9, e8]
        exact ⟨k6.1, by decide, a25, fun k k0 k1 => by omega⟩
      have ms : MKS g' := MKS_fr hp k7 t2 g9 (fun m m0 m1 a i h1 h2 => cl a i (by omega) (by omega) (by omega)) (fun i i0 i1 => rl 198 i (by decide) (by omega) (by decide) (by decide) (by omega))
      have sto : ∀ a i, stt a i → rd g' a i = rd h a i := fun a i ha => by
        unfold stt at ha
        by_cases y : a < 182
        · exact cl a i y (by omega) (by omega)
        · exact rl a i (by omega) (by omega) (by omega) (by omega) (by omega)
      exact k g' gI' (EQL_mk hI hE (cl 2 0 (by decide) (by decide) (by decide)) (rl 182 2 (by decide) (by decide) (by decide) (by decide) (by decide)) sto mk sr un ms)
end SCi
end
section
/-! the scene, part sj: quarter, rests under the relation -/
/-- the text that lies on the tapes, read as a quarter -/
def txQ (h : LH) : QY := qF (tO (rd h 3) (rd h 2 0)) (tV (rd h 3) (rd h 2 0) 37) (tW (rd h 3) (rd h 2 0) 37 (rd hc_556 187)) (tP (rd h 3) (rd h 2 0))
/-- between both quarters -/
def qtJ (h g : LH) : Prop := rd g 2 0 = 0 ∧ (∀ a i, a ∈ ([4, 6, 7, 33, 34, 75, 76, 182, 183, 187, 188, 189, 190, 198, 199] : List Int) → rd g a i = rd h a i) ∧ rd g 1 8 = rd h 1 8 ∧ ((txQ h).1.1 ≠ 0 → ∀ a i, a ≠ 2 → ¬ (rd h 1 2 ≤ a ∧ a ≤ rd h 1 2 + 26) → rd g a i = rd h a i) ∧ ((txQ h).1.1 = 0 → rd g 1 1 = rd h 1 2 ∧ rd g 1 2 = rd h 1 1 ∧ DCKf (rd h 3) (rd h 2 0) (rd hc_556 4) g (rd h 1 2) (qR (tV (rd h 3) (rd h 2 0) 32) (tW (rd h 3) (rd h 2 0) 32 (rd hc_556 4)) (tP (rd h 3) (rd h 2 0))) (txQ h) ∧ QSN g (rd h 1 2) (txQ h).2.2.2.2)
section SCj
variable {xs : Nat → Int} {xl e : Nat} {h g g' : LH} {Q : Option LV → LH → Prop} {q v1 v2 v3 : Int} {W V : Int → Int} {T : Int → Int} {n : Int}
/-- both bases give the same rooms -/
theorem qR_same (h1 : n ≤ 1000) (h2 : 0 ≤ n) (hw : SameW W V) (hz : (qF (tO T n) (tV T n 37) (tW T n 37 V) (tP T n)).1.1 = 0) : qR (tV T n 32) (tW T n 32 W) (tP T n) = qR (tV T n 37) (tW T n 37 V) (tP T n) := by
  have hW : tW T n 32 W = tW T n 37 V := funext (fun k => tW_b h1 h2 hw k)
  rw [hW]
  have sm := tV_sm (T := T) h1 h2
  by_cases z : (qA (tO T n) (tV T n 37) (tW T n 37 V) (tP T n)).1 = 0
  · have k := (tkN_ok (tkS_z z) (fun c hc => tkE_p sm.2.2 hc)).2.1
    unfold qR
    exact sm.1 _ (by omega)
  · exfalso
    unfold qF at hz
    rw [qL_stop (fun q => z q.1)] at hz
    exact z hz
theorem inK_pq {a i : Int} (ha : inK a i) : pq a i := by
  obtain ⟨y1, y2, y3, y4, y5⟩ := inK_p ha
  unfold pq
  omega
theorem E_quarterJS (he : 42 ≤ e) (hI : INV h) (hE : EQL h) (k : ∀ g, INV g → qtJ h g → Q (some (.inl (txQ h).1.1)) g) : Rn xs xl e mm_OneSided_quarter 0 [some (.inr (.inr 1)), none, none] [] h Q := by
  have n0 := rG_2_0 hI.1
  obtain ⟨-, -, hP, hW4, -⟩ := id hE
  have same : qF (tO (rd h 3) (rd h 2 0)) (tV (rd h 3) (rd h 2 0) 32) (tW (rd h 3) (rd h 2 0) 32 (rd hc_556 4)) (tP (rd h 3) (rd h 2 0)) = txQ h := qF_same n0.2 n0.1 sameW0
  have A : Rn xs xl e mm_OneSided_quarter 0 [some (.inr (.inr 1)), none, none] [] h (fun r g => r = some (.inl (txQ h).1.1) ∧ ((txQ h).1.1 ≠ 0 → ∀ a i, a ≠ 2 → ¬ (rd h 1 2 ≤ a ∧ a ≤ rd h 1 2 + 26) → rd g a i = rd h a i) ∧ ((txQ h).1.1 = 0 → rd g 1 1 = rd h 1 2 ∧ rd g 1 2 = rd h 1 1 ∧ DCKf (rd h 3) (rd h 2 0) (rd hc_556 4) g (rd h 1 2) (qR (tV (rd h 3) (rd h 2 0) 32) (tW (rd h 3) (rd h 2 0) 32 (rd hc_556 4)) (tP (rd h 3) (rd h 2 0))) (txQ h) ∧ QSN g (rd h 1 2) (txQ h).2.2.2.2)) := by
    refine E_quarterS he hI hP ⟨rfl, fun _ _ _ => rfl, n0.1, n0.2⟩ hW4 ?_
    rw [same]
    exact fun h' a b => ⟨rfl, a, b⟩
  have B : Rn xs xl e mm_OneSided_quarter 0 [some (.inr (.inr 1)), none, none] [] h (fun r g => INV g ∧ rd g 2 0 = 0 ∧ (∀ a i, a ∈ ([4, 6, 7, 33, 34, 75, 76, 182, 183, 187, 188, 189, 190, 198, 199] : List Int) → rd g a i = rd h a i) ∧ rd g 1 8 = rd h 1 8) := root_0 TC_quarter (as := [.inr (.inr 1)]) rfl (Nat.le_trans (Nat.le_of_ble_eq_true rfl) he) hI (gAr_c (g_ref 1) gAr_n) rfl (Nat.le_of_ble_eq_true rfl) rfl rfl rfl (fun r g gI g0 gf => ⟨gI, g0, fun a i ha => gf a i (cbx_ok (L := [4, 6, 7, 33, 34, 75, 76, 182, 183, 187, 188, 189, 190, 198, 199]) (by decide +kernel) ha), gf 1 8 (by decide +kernel)⟩)
  refine (A.and B).mono (fun r g z => ?_)
  obtain ⟨⟨rfl, a1, a2⟩, gI, b1, b2, b3⟩ := z
  exact k g gI ⟨b1, b2, b3, a1, a2⟩
/-- a day has begun on both sides -/
theorem SR_begun {m : Int} (hm : 0 ≤ m ∧ m ≤ 6) (e4 : rd g 188 2 = m) (fp : ∀ i j : Nat, (i : Int) < m → j < 4 → rd g (q + 21 + i) ((j : Int) + 1) = rd g 188 (116 + 4 * (i : Int) + (j : Int))) (sb : sbg 60 q m g) (bg : BGN g) : SR g 60 0 := by
  obtain ⟨b0, b1, b2, b3, b4, b5⟩ := sb
  obtain ⟨-, -, c1, d0, d1, d2⟩ := bg
  have f1 : ∀ p, 0 ≤ p → p < m → rd g (q + 21 + p) 2 = rd g 188 (4 * p + 117) ∧ rd g (q + 21 + p) 3 = rd g 188 (4 * p + 118) := fun p p0 p1 => by
    have y := fp p.toNat 1 (by omega) (by decide)
    have z := fp p.toNat 2 (by omega) (by decide)
    rw [Int.toNat_of_nonneg p0] at y z
    rw [show 116 + 4 * p + ((1 : Nat) : Int) = 4 * p + 117 by omega] at y
    rw [show 116 + 4 * p + ((2 : Nat) : Int) = 4 * p + 118 by omega] at z
    exact ⟨y, z⟩
  refine ⟨b0.trans d0.symm, b1.trans c1.symm, fun p p0 p1 => ?_, fun d e0 e1 => ?_, fun p p0 p1 => ?_⟩
  · rw [e4] at p1
    obtain ⟨y1, y2⟩ := f1 p p0 p1
    obtain ⟨z1, z2, z3⟩ := d1 p p0 (by omega)
    refine ⟨?_, ?_, ?_⟩
    · rw [b4 p p0 p1, y1, z1]
    · rw [z2]
      unfold bt
      rw [b3 p p0 (by omega), y1, y2]
      by_cases c : rd g 188 (4 * p + 117) = rd g 188 (4 * p + 118)
      · rw [if_pos c]
        exact Or.inr ⟨rfl, p1, c.symm⟩
      · rw [if_neg c]
        exact Or.inl ⟨rfl, fun y => c y.2.symm⟩
    · rw [z3, b2]
      exact Or.inl ⟨rfl, bit_zero⟩
  · rw [b5 d e0 e1, d2 d e0 e1]
    exact ⟨rfl, by decide, by decide⟩
  · rw [e4] at p0
    rw [b3 p (by omega) p1]
    exact fun y => by omega
theorem G_quarterJS (he : 42 ≤ e) (hI : INV h) (hE : EQL h) (gI : INV g) (hj : qtJ h g) (k : ∀ g', INV g' → EQL g' → Q (some (.inl (txQ h).1.1)) g') : Rn xs xl e mm_quarter 0 [some (.inr (.inr 182)), none] [] g Q := by
  have n0 := rG_2_0 hI.1
  obtain ⟨g0, gf, g8, m1, m2⟩ := hj
  obtain ⟨-, -, hP, hW4, hV, sq, hM, ⟨k1, k2, k3, k4, k5, k6, k7, k8⟩⟩ := id hE
  have hv : rd g 187 = rd hc_556 187 := by
    rw [← hV]; funext i; exact gf 187 i (by decide)
  have A : Rn xs xl e mm_quarter 0 [some (.inr (.inr 182)), none] [] g (fun r g' => r = some (.inl (txQ h).1.1) ∧ rd g' 187 = rd hc_556 187 ∧ ((txQ h).1.1 ≠ 0 → ∀ a i, pq a i → rd g' a i = rd g a i) ∧ ((txQ h).1.1 = 0 → rd g' 188 0 = qR (tV (rd h 3) (rd h 2 0) 37) (tW (rd h 3) (rd h 2 0) 37 (rd hc_556 187)) (tP (rd h 3) (rd h 2 0)) ∧ (∀ m, 0 ≤ m → m < 4 → rd g' 199 m = 0) ∧ (BGN g' ∧ rd g' 182 28 = rd g 182 28 ∧ rd g' 182 29 = rd g 182 29) ∧ RFD (rd h 3) (rd h 2 0) (rd hc_556 187) g' (txQ h))) := by
    refine G_quarterF (T := rd h 3) (n := rd h 2 0) (V := rd hc_556 187) (by omega) gI ((gf 182 2 (by decide)).trans hE.1.symm) n0.1 n0.2 (fun i i0 i1 => ?_) hv vinj0 (fun h' a b c => ⟨rfl, a, b, fun z => ?_⟩)
    · rw [gf 183 i (by decide)]
      exact (hE.2.1 i i0 i1).symm
    · obtain ⟨c1, c2, c3, -, c5⟩ := c z
      exact ⟨c1, c2, c3, c5⟩
  have B : Rn xs xl e mm_quarter 0 [some (.inr (.inr 182)), none] [] g (fun r g' => INV g' ∧ rd g' 182 2 = 0 ∧ (∀ a i, a < 182 → rd g' a i = rd g a i)) := D_quarter (by omega) gI (fun r h' a b c => ⟨a, b, c⟩)
  refine (A.and B).mono (fun r g' z => ?_)
  obtain ⟨⟨rfl, v', c1, c2⟩, gI', e2, fr⟩ := z
  refine k g' gI' (EQL_0 ((fr 2 0 (by decide)).trans g0) e2 ?_)
  by_cases z : (txQ h).1.1 = 0
  · obtain ⟨a1, a2, a3, a4⟩ := m2 z
    obtain ⟨d1, d2, ⟨d3, d28, d29⟩, d4⟩ := c2 z
    have hS : rd h 1 2 = 5 ∨ rd h 1 2 = 32 := rSf hI.1
    obtain ⟨s1, s2, s3, s4, s5⟩ := a4
    have e11 : rd g' 1 1 = rd h 1 2 := (fr 1 1 (by decide)).trans a1
    have e6 : rd g' 1 6 = 0 := (fr 1 6 (by decide)).trans s4
    have lo : ∀ a i, a < 182 → rd g' a i = rd g a i := fr
    generalize eq : rd h 1 2 = q at hS a1 a3 s1 s2 s3 e11
    have qf : QFR g' := QFR_of n0.2 n0.1 sameW0 e11 z (DCKf_fr hS a3 (fun a i ha => lo a i (by omega))) d1 (qR_same n0.2 n0.1 sameW0 z) d4
    have m4 := rq_people gI'.1
    have q4 : rd g q 4 = rd g' 188 2 := by
      have := qf.2.2.1
      rw [e11, lo q 4 (by omega)] at this
      exact this
    have sb : sbg 60 q (rd g' 188 2) g' := by
      rw [q4] at s3
      exact sbg_fr hS m4.2 s3 (fun a i ha => lo a i (by omega))
    refine ⟨PT_fr hP (fun a i ha => (lo a i (by omega)).trans (gf a i ?_)), ?_, v', ?_, ⟨fun m h0 h1 => ?_, by rw [e6]; decide, fun m h0 h1 => ?_⟩, qf, ⟨(txQ h).2.2.2.2, ?_, ?_⟩, ?_, ?_, SR_begun m4 rfl (fun i j hi hj => ?_) sb d3, ?_, fun m h0 h1 hm => absurd (d2 m h0 h1) hm, fun i i0 i1 => ?_⟩
    · rcases ha with rfl | rfl | rfl | rfl <;> decide
    · rw [← hW4]; funext i; exact (lo 4 i (by decide)).trans (gf 4 i (by decide))
    · rw [e11, lo 1 2 (by decide), a2]; omega
    · rw [lo 75 m (by decide), gf 75 m (by decide)]; exact hM.1 m h0 h1
    · rw [d2 m h0 h1, e6]
      have y := mbit_0 m.toNat (by omega)
      rw [show ((m.toNat : Nat) : Int) = m by omega] at y
      exact y.symm
    · rw [e11]
      exact LWQ_frs s1 (fun a i ha => lo a i (by omega))
    · rw [e11]
      exact fun s hr s0 s1' h0 h1 => stl_frs (s2 s hr s0 s1' h0 h1) (lo _ _ (by omega)) (fun j j0 j1 => funext (fun i => lo _ _ (by omega))) (fun i => lo _ _ (by omega)) (fun i => lo _ _ (by omega))
    · rw [d28, gf 182 28 (by decide)]; exact k3
    · rw [d29, gf 182 29 (by decide)]; exact k4
    · have := qf.2.2.2.2.1 i j hi hj
      rw [e11] at this
      exact this
    · unfold UN
      rw [lo 1 8 (by decide), g8, lo 1 9 (by decide), s5]
      exact ⟨k6.1, by decide, d3.2.1, fun k k0 k1 => by omega⟩
    · rw [lo 76 i (by decide), gf 76 i (by decide)]; exact k8 i i0 i1
  · have hq : rd h 1 1 = 5 ∨ rd h 1 1 = 32 := rQf hI.1
    refine EQS_fr hI hE.2.2 (fun a i ha n3 n183 hk => ?_)
    rw [c1 z a i (inK_pq ha)]
    obtain ⟨y, -⟩ := inK_p ha
    by_cases c : a = 6 ∨ a = 7 ∨ a = 33 ∨ a = 34
    · exact gf a i (by rcases c with rfl | rfl | rfl | rfl <;> decide)
    · exact m1 z a i (by omega) (by unfold kq at hk; omega)
/-- the reference's rests puts no price in for good -/
theorem root_rests (he : 8 ≤ e) (hI : INV h) (hE : EQL h) (h1 : i32 v1) (h2 : i32 v2) (h3 : i32 v3) (k : ∀ r g, INV g → EQL g → Q (some (.inl r)) g) : Rn xs xl e mm_rests 0 [some (.inr (.inr 182)), some (.inl v1), some (.inl v2), some (.inl v3), none, none, none, none] [] h Q := by
  have k3 := hE.2.2.2.2.2.2.2.2.2.1
  have k4 := hE.2.2.2.2.2.2.2.2.2.2.1
  have v28 : ∀ {g : LH}, hval g 182 28 = .inl (rd g 182 28) := fun {g} => by
    unfold hval
    rw [show lkd 182 28 = 0 by decide +kernel]
    rfl
  have v29 : ∀ {g : LH}, hval g 182 29 = .inl (rd g 182 29) := fun {g} => by
    unfold hval
    rw [show lkd 182 29 = 0 by decide +kernel]
    rfl
  have hf : gF h SME6.2.2.2.2.2 := by
    intro q hq
    rcases List.mem_cons.mp hq with rfl | hq
    · show gV (0, -1, -1, 0) (hval h 182 28)
      rw [v28, k3]
      exact g_pt (-1) (by unfold i32; omega)
    · rcases List.mem_cons.mp hq with rfl | hq
      · show gV (0, -1, -1, 0) (hval h 182 29)
        rw [v29, k4]
        exact g_pt (-1) (by unfold i32; omega)
      · cases hq
  have R := (TE_rests (xs := xs) (xl := xl) mm_rests [.inr (.inr 182), .inl v1, .inl v2, .inl v3] h rfl hI (gAr_c (g_ref 182) (gAr_c (g_i h1) (gAr_c (g_i h2) (gAr_c (g_i h3) gAr_n)))) hf (Nat.le_of_ble_eq_true rfl)).deep (d' := e) (Nat.le_trans (Nat.le_of_ble_eq_true rfl) he)
  refine R.mono (fun r g z => ?_)
  obtain ⟨gI, gf, c, hc, q1, -, q3⟩ := z
  rw [show SME6.2.2.2.1 = [(some (0,-2147483648,2147483647,1),pv0,[],[(182,28,(0,-1,-1,0)),(182,29,(0,-1,-1,0))])] from rfl, List.mem_singleton] at hc
  subst hc
  cases r with
  | none => exact absurd q1 id
  | some v =>
    obtain ⟨x, rfl, x1, x2⟩ := gV_i q1.1 rfl
    have w28 := q3 _ (List.mem_cons_self)
    have w29 := q3 _ (List.mem_cons_of_mem _ List.mem_cons_self)
    have e28 : rd g 182 28 = -1 := by
      have y : gV (0, -1, -1, 0) (hval g 182 28) := w28
      rw [v28] at y
      exact inV_c y.2.2 rfl
    have e29 : rd g 182 29 = -1 := by
      have y : gV (0, -1, -1, 0) (hval g 182 29) := w29
      rw [v29] at y
      exact inV_c y.2.2 rfl
    refine k x g gI (EQL_fr hI hE (gf 2 0 (by decide +kernel)) (gf 182 2 (by decide +kernel)) (fun a i ha => ?_))
    by_cases c1 : a = 182 ∧ i = 28
    · rw [c1.1, c1.2, e28, k3]
    · by_cases c2 : a = 182 ∧ i = 29
      · rw [c2.1, c2.2, e29, k4]
      · refine gf a i (inBx_f (fun x hm q => ?_))
        obtain ⟨y, y2, -⟩ := inK_p ha
        revert q
        simp only [SME6, List.mem_cons, List.not_mem_nil, or_false] at hm
        rcases hm with rfl | rfl | rfl | rfl | rfl | rfl | rfl | rfl | rfl | rfl | rfl | rfl <;> intro q <;> simp only at q <;> omega
theorem r64 (a b : Int) : i64 (lor_ a b) := y_in _
end SCj
end
