/-! the scene, part se: hours, shut, undo -/
/-- the class has kept its scene: all but scenes 60, 68 and one of past is as before -/
def KCJ (h g : LH) : Prop := kpn h g ∧ scq h g 60 (134 + 3 * ((rd h 1 8 + rd h 1 9) % 16)) ∧ ∀ a i, ¬ scp 60 a i → ¬ scp 68 a i → ¬ scp (134 + 3 * ((rd h 1 8 + rd h 1 9) % 16)) a i → ¬ (a = 1 ∧ (i = 8 ∨ i = 9)) → rd g a i = rd h a i
/-- the reference has kept its block -/
def KRJ (h g : LH) : Prop := kpx h g ∧ ∀ a i, a ≠ 196 → a ≠ 197 → ¬ (a = 198 ∧ ((0 ≤ i ∧ i < 34) ∨ 350 ≤ i)) → ¬ (a = 182 ∧ (i = 0 ∨ i = 25)) → rd g a i = rd h a i
/-- places of what only quarter changes -/
def stt (a i : Int) : Prop := (a = 1 ∧ (i = 1 ∨ i = 2)) ∨ (3 ≤ a ∧ a ≤ 58) ∨ a = 76 ∨ a = 183 ∨ (187 ≤ a ∧ a ≤ 190) ∨ (a = 182 ∧ (i = 28 ∨ i = 29))
section SCe
variable {xs : Nat → Int} {xl e : Nat} {h g g' : LH} {Q : Option LV → LH → Prop} {v1 v2 r q c d : Int}
theorem EQL_mk (hI : INV h) (hE : EQL h) (e1 : rd g 2 0 = rd h 2 0) (e2 : rd g 182 2 = rd h 182 2) (f : ∀ a i, stt a i → rd g a i = rd h a i) (mk : MKR g) (s : SR g 60 0) (u : UN g) (ms : MKS g) : EQL g := by
  obtain ⟨c1, c2, p, w, v, t, m, ⟨k1, k2, k3, k4, -, -, -, k8⟩⟩ := hE
  have hq : rd h 1 1 = 5 ∨ rd h 1 1 = 32 := rQf hI.1
  have f' : ∀ a i, (3 ≤ a ∧ a ≤ 58) ∨ a = 76 ∨ a = 183 ∨ (187 ≤ a ∧ a ≤ 190) → rd g a i = rd h a i := fun a i ha => f a i (by unfold stt; omega)
  have e11 := f 1 1 (by unfold stt; omega)
  have e12 := f 1 2 (by unfold stt; omega)
  have e28 := f 182 28 (by unfold stt; omega)
  have e29 := f 182 29 (by unfold stt; omega)
  clear f
  refine ⟨by rw [e1, e2]; exact c1, fun i i0 i1 => ?_, PT_fr p (fun a i ha => f' a i (by omega)), ?_, ?_, by rw [e11, e12]; exact t, mk, QFR_fr hI rfl hq k1 e11 (fun a i ha => f' a i (by omega)) (fun i _ _ => f' 188 i (by omega)) (fun i _ _ => ⟨f' 189 i (by omega), f' 190 i (by omega)⟩), QST_fr rfl k2 e11 (fun a i ha => f' a i (by omega)), by rw [e28]; exact k3, by rw [e29]; exact k4, s, u, ms, fun i i0 i1 => by rw [f' 76 i (by omega)]; exact k8 i i0 i1⟩
  · rw [e1] at i1
    rw [f' 3 i (by omega), f' 183 i (by omega)]
    exact c2 i i0 i1
  · rw [← w]; exact funext (fun i => f' 4 i (by omega))
  · rw [← v]; exact funext (fun i => f' 187 i (by omega))
theorem scp_lt {a i : Int} (hc : c ≤ 179) (hs : scp c a i) : a < 182 := by
  unfold scp at hs; omega
theorem scq_lo (hs : scq h g d c) (f : ∀ a i, scp c a i → rd g' a i = rd g a i) : scq h g' d c :=
  ⟨fun i i0 i1 => (f _ _ (Or.inl ⟨rfl, i0, i1⟩)).trans (hs.1 i i0 i1), fun i i0 i1 => (f _ _ (Or.inr (Or.inl ⟨rfl, i0, i1⟩))).trans (hs.2.1 i i0 i1), fun i i0 i1 => (f _ _ (Or.inr (Or.inr ⟨rfl, i0, i1⟩))).trans (hs.2.2 i i0 i1)⟩
theorem kpx_l (hk : kpx g g') (e : ∀ i, rd g 198 i = rd h 198 i) (e2 : rd g 182 25 = rd h 182 25) : kpx h g' := by
  unfold kpx at hk ⊢
  rw [e2] at hk
  have b : ∀ {b c}, blq g g' b c → blq h g' b c := fun hb i i0 i1 => (hb i i0 i1).trans (e _)
  exact ⟨fun z => ⟨(hk.1 z).1, fun k k0 k1 => b ((hk.1 z).2.1 k k0 k1), b (hk.1 z).2.2⟩, fun z => ⟨(hk.2 z).1, fun k k0 k1 => b ((hk.2 z).2.1 k k0 k1), b (hk.2 z).2.2⟩⟩
/-- both have kept -/
theorem EQL_keep (hI : INV h) (hE : EQL h) (kc : KCJ h g) (kr : KRJ g g') (s0 : SR g' 60 0) : EQL g' := by
  obtain ⟨kn, ks, kf⟩ := kc
  obtain ⟨kx, rf⟩ := kr
  obtain ⟨-, -, -, -, -, -, m, ⟨-, -, -, -, k5, k6, k7, -⟩⟩ := id hE
  have hp := rq_people hI.1
  obtain ⟨o1, n1, e1, -⟩ := id k6
  generalize er : (rd h 1 8 + rd h 1 9) % 16 = r at ks kf
  have hr : 0 ≤ r ∧ r < 16 := by omega
  have lo : ∀ a i, a < 182 → rd g' a i = rd g a i := fun a i n => rf a i (by omega) (by omega) (by omega) (by omega)
  have hi : ∀ a i, 182 ≤ a → rd g a i = rd h a i := fun a i n => kf a i (by unfold scp; omega) (by unfold scp; omega) (by unfold scp; omega) (by omega)
  have cl : ∀ a i, (a < 60 ∨ (63 ≤ a ∧ a < 68) ∨ (71 ≤ a ∧ a < 134)) → ¬ (a = 1 ∧ (i = 8 ∨ i = 9)) → rd g' a i = rd h a i := fun a i n1 n2 => (lo a i (by omega)).trans (kf a i (by unfold scp; omega) (by unfold scp; omega) (by unfold scp; omega) n2)
  have rl : ∀ a i, 182 ≤ a → a ≠ 196 → a ≠ 197 → ¬ (a = 198 ∧ ((0 ≤ i ∧ i < 34) ∨ 350 ≤ i)) → ¬ (a = 182 ∧ (i = 0 ∨ i = 25)) → rd g' a i = rd h a i := fun a i n0 n1 n2 n3 n4 => (rf a i n1 n2 n3 n4).trans (hi a i n0)
  have t2 : rd g' 188 2 = rd h 188 2 := rl 188 2 (by decide) (by decide) (by decide) (by decide) (by decide)
  have sto : ∀ a i, stt a i → rd g' a i = rd h a i := fun a i ha => by
    unfold stt at ha
    by_cases z : a < 182
    · exact cl a i (by omega) (by omega)
    · exact rl a i (by omega) (by omega) (by omega) (by omega) (by omega)
  have ko : ∀ j, 0 ≤ j → j < 16 → j ≠ r → scq h g' (134 + 3 * j) (134 + 3 * j) := fun j j0 j1 jn => scq_same (fun a i ha => (lo a i (scp_lt (by omega) ha)).trans (kf a i (by unfold scp at ha ⊢; omega) (by unfold scp at ha ⊢; omega) (by unfold scp at ha ⊢; omega) (by unfold scp at ha; omega)))
  have ks' : scq h g' 60 (134 + 3 * r) := scq_lo ks (fun a i ha => lo a i (scp_lt (by omega) ha))
  have kn' : kpn h g' := by
    unfold kpn at kn ⊢
    rw [lo 1 9 (by decide), lo 1 8 (by decide)]
    exact kn
  have kx' : kpx h g' := kpx_l kx (fun i => hi 198 i (by decide)) (hi 182 25 (by decide))
  refine EQL_mk hI hE (cl 2 0 (by decide) (by decide)) (rl 182 2 (by decide) (by decide) (by decide) (by decide) (by decide)) sto (MKR_fr m (cl 1 6 (by decide) (by decide)) (fun a i ha => ?_)) s0 (UN_keep k6 k5 hp t2 kn' (by rw [er]; exact ks') (by rw [er]; exact ko) kx') (MKS_fr hp k7 t2 (fun i => rl 199 i (by decide) (by decide) (by decide) (by omega) (by omega)) (fun m m0 m1 a i h1 h2 => cl a i (by omega) (by omega)) (fun i i0 i1 => rl 198 i (by decide) (by decide) (by decide) (by omega) (by omega)))
  rcases ha with rfl | rfl
  · exact cl 75 i (by decide) (by omega)
  · exact rl 199 i (by decide) (by decide) (by decide) (by omega) (by omega)
def samP (h g : LH) : Prop := ∀ a i, rd g a i = rd h a i
theorem EQL_sam (hI : INV h) (hE : EQL h) (hs : samP h g) : EQL g := EQL_fr hI hE (hs _ _) (hs _ _) (fun a i _ => hs a i)
/-- hours -/
def hrsJ (v1 : Int) (h g : LH) (r : Int) : Prop := (¬ (1 ≤ v1 ∧ v1 ≤ 24) ∧ r = -1 ∧ samP h g) ∨ ((1 ≤ v1 ∧ v1 ≤ 24) ∧ r = rd g 60 0 ∧ KCJ h g ∧ spd 60 v1 h g)
theorem E_hoursS (he : 8 ≤ e) (hI : INV h) (hE : EQL h) (h1 : i32 v1) (k : ∀ r g, INV g → hrsJ v1 h g r → Q (some (.inl r)) g) : Rn xs xl e mm_OneSided_hours 0 [some (.inr (.inr 1)), some (.inl v1)] [] h Q := by
  obtain ⟨-, -, -, -, -, -, -, ⟨-, -, -, -, -, k6, -, k8⟩⟩ := id hE
  obtain ⟨o1, n1, -, -⟩ := k6
  have h60 := rG_60_0 hI.1
  have A : Rn xs xl e mm_OneSided_hours 0 [some (.inr (.inr 1)), some (.inl v1)] [] h (fun r g => ∃ x, r = some (.inl x) ∧ hrsJ v1 h g x) := by
    refine B_OneSided_hours_0 (RF_of hI.1) ⟨fun c => ⟨-1, rfl, Or.inl ⟨by omega, rfl, fun _ _ => rfl⟩⟩, fun c => ⟨fun c2 => ⟨2, by omega, F_keep (by omega) scn_60 (fun k _ _ => by omega) (RF_of hI.1) k8 o1 n1 (fun g kn ks kf gF => ?_)⟩, fun c2 => ⟨-1, rfl, Or.inl ⟨by omega, rfl, fun _ _ => rfl⟩⟩⟩⟩
    generalize er : (rd h 1 8 + rd h 1 9) % 16 = r at ks kf
    have hr : 0 ≤ r ∧ r < 16 := by omega
    have f60 : ∀ a i, (60 ≤ a ∧ a ≤ 62) → rd g a i = rd h a i := fun a i ha => kf a i (by unfold scp; omega) (by omega)
    have t60 := f60 60 0 (by omega)
    refine B_OneSided_hours_24 gF ⟨1, by omega, F_spass (by omega) scn_60 (by decide) gF (by omega) (by omega) (fun g2 sp sf gF2 => B_OneSided_hours_35 gF2 ⟨rd g2 60 0, rfl, Or.inr ⟨⟨c, c2⟩, rfl, ⟨?_, ?_, fun a i n1 n2 n3 n4 => ?_⟩, ?_⟩⟩)⟩
    · unfold kpn at kn ⊢
      rw [sf 1 9 (by unfold scp; omega), sf 1 8 (by unfold scp; omega)]
      exact kn
    · rw [er]
      exact scq_lo ks (fun a i ha => sf a i (by unfold scp at ha ⊢; omega))
    · rw [er] at n3
      exact (sf a i n1).trans (kf a i n3 n4)
    · obtain ⟨b0, b1, b2, b3, b4, b5⟩ := sp
      refine ⟨?_, ?_, b2, ?_, fun i => (b4 i).trans (f60 _ i (by omega)), b5⟩
      · rw [b0, t60]
      · rw [b1, f60 60 1 (by omega)]
      · rw [b3, f60 60 3 (by omega)]
  have B : Rn xs xl e mm_OneSided_hours 0 [some (.inr (.inr 1)), some (.inl v1)] [] h (fun r g => INV g) := use_sm TC_hours (as := [.inr (.inr 1), .inl v1]) rfl (Nat.le_trans (Nat.le_of_ble_eq_true rfl) he) hI (gAr_c (g_ref 1) (gAr_c (g_i h1) gAr_n)) rfl (Nat.le_of_ble_eq_true rfl) rfl (fun r g gI gf gq => gI)
  refine (A.and B).mono (fun r g z => ?_)
  obtain ⟨⟨x, rfl, a⟩, b⟩ := z
  exact k x g b a
theorem SR_hours (hs : SR h 60 0) (sp : spd 60 v1 h g) (lo : ∀ a i, (60 ≤ a ∧ a ≤ 62) → rd g' a i = rd g a i) (hx : rd g' 198 0 = (if rd h 198 0 + v1 ≤ 24 then rd h 198 0 + v1 else 24)) (hz : ∀ i, 14 ≤ i → i ≤ 33 → rd g' 198 i = 0) (ho : ∀ i, 1 ≤ i → i < 14 → rd g' 198 i = rd h 198 i) (e2 : rd g' 188 2 = rd h 188 2) (hp : rd h 188 2 ≤ 6) : SR g' 60 0 := by
  obtain ⟨s1, s2, s3, s4, s5⟩ := hs
  obtain ⟨b0, b1, b2, b3, b4, b5⟩ := sp
  refine ⟨?_, ?_, fun p p0 p1 => ?_, fun d d0 d1 => ?_, fun p p0 p1 => ?_⟩
  · rw [lo 60 0 (by omega), b0, hx, s1]
  · rw [lo 60 1 (by omega), b1, s2]
    exact (ho 1 (by decide) (by decide)).symm
  · rw [e2] at p1
    obtain ⟨a1, a2, a3⟩ := s3 p p0 p1
    rw [lo _ _ (by omega), lo 60 3 (by omega), lo 60 2 (by omega), b4, b3, b2, ho _ (by omega) (by omega), ho _ (by omega) (by omega), hz _ (by omega) (by omega)]
    exact ⟨a1, a2, Or.inl ⟨rfl, bit_zero⟩⟩
  · rw [lo _ _ (by omega), b5 d d0 d1, hz _ (by omega) (by omega)]
    exact ⟨rfl, by decide, by decide⟩
  · rw [e2] at p0
    rw [lo 60 3 (by omega), b3]
    exact s5 p p0 p1
theorem G_hoursS (he : 8 ≤ e) (hI : INV h) (hE : EQL h) (gI : INV g) (hj : hrsJ v1 h g r) (k : ∀ g', INV g' → EQL g' → Q (some (.inl r)) g') : Rn xs xl e mm_hours 0 [some (.inr (.inr 182)), some (.inl v1), none] [] g Q := by
  rcases hj with ⟨n, rfl, sm⟩ | ⟨hv, er, kc, sp⟩
  · obtain ⟨i1, e1⟩ := thr gI (EQL_sam hI hE sm)
    exact B_hours_0 (RF_of gI.1) (by omega) ⟨fun _ => k _ i1 e1, fun c => ⟨fun _ => k _ i1 e1, fun c2 => by omega⟩⟩
  · have i1 : INV (wr g 182 0 0) := wF_thrown gI (by omega) (by omega)
    refine B_hours_0 (RF_of gI.1) (by omega) ⟨fun c => by omega, fun c => ⟨fun c2 => by omega, fun c2 => ⟨1, by omega, G_keepsX (by omega) i1 (fun u uI uf ux => ?_)⟩⟩⟩
    have u1 : kpx g u := kpx_l ux (fun i => rdw_ne (by decide)) (rdw_nei (by decide))
    have f1 : ∀ a i, ¬ (a = 198 ∧ 350 ≤ i) → ¬ (a = 182 ∧ (i = 0 ∨ i = 25)) → rd u a i = rd g a i := fun a i n1 n2 => by
      rw [uf a i (by omega) (by omega), rd_wr, if_neg (by omega)]
    have hu := rs_now uI.1 (i := 0) 0 0 (by omega) (by omega) (by omega) (by omega) (by omega) (by omega)
    have l23 : ∀ (n : Nat) (w : LH) (v2 : Int), v1 - v2 ≤ n → 0 ≤ v2 → v2 ≤ v1 → INV w → (∀ a i, ¬ (a = 198 ∧ (i = 0 ∨ (14 ≤ i ∧ i ≤ 33))) → rd w a i = rd u a i) → rd w 198 0 = (if rd u 198 0 + v2 ≤ 24 then rd u 198 0 + v2 else 24) → (1 ≤ v2 → ∀ i, 14 ≤ i → i ≤ 33 → rd w 198 i = 0) → Rn xs xl e mm_hours 23 [some (.inr (.inr 182)), some (.inl v1), some (.inl v2)] [] w Q := by
      intro n
      have fin : ∀ (w : LH), INV w → (∀ a i, ¬ (a = 198 ∧ (i = 0 ∨ (14 ≤ i ∧ i ≤ 33))) → rd w a i = rd u a i) → rd w 198 0 = (if rd u 198 0 + v1 ≤ 24 then rd u 198 0 + v1 else 24) → (∀ i, 14 ≤ i → i ≤ 33 → rd w 198 i = 0) → Q (some (.inl (rd w 198 0))) w := by
        intro w wI wf w0 wz
        obtain ⟨kn, ks, kf⟩ := id kc
        have n1 := hE.2.2.2.2.2.2.2.2.2.2.2.2.1
        have hr : 0 ≤ (rd h 1 8 + rd h 1 9) % 16 ∧ (rd h 1 8 + rd h 1 9) % 16 < 16 := by omega
        generalize (rd h 1 8 + rd h 1 9) % 16 = ρ at ks kf hr
        have gh : ∀ a i, 182 ≤ a → rd g a i = rd h a i := fun a i n => kf a i (by unfold scp; omega) (by unfold scp; omega) (by unfold scp; omega) (by omega)
        have lo : ∀ a i, (60 ≤ a ∧ a ≤ 62) → rd w a i = rd g a i := fun a i ha => (wf a i (by omega)).trans (f1 a i (by omega) (by omega))
        have e0 : rd u 198 0 = rd h 198 0 := (f1 198 0 (by decide) (by decide)).trans (gh 198 0 (by decide))
        have sr : SR w 60 0 := SR_hours hE.2.2.2.2.2.2.2.2.2.2.2.1 sp lo (by rw [w0, e0]) wz (fun i i0 i1 => (wf 198 i (by omega)).trans ((f1 198 i (by omega) (by omega)).trans (gh 198 i (by decide)))) ((wf 188 2 (by decide)).trans ((f1 188 2 (by decide) (by decide)).trans (gh 188 2 (by decide)))) (rq_people hI.1).2
        have kr : KRJ g w := by
          refine ⟨?_, fun a i n1 n2 n3 n4 => (wf a i (by omega)).trans (f1 a i (by omega) n4)⟩
          unfold kpx at u1 ⊢
          have b : ∀ {b c}, 350 ≤ c → blq g u b c → blq g w b c := fun hc hb i i0 i1 => (wf 198 _ (by omega)).trans (hb i i0 i1)
          rw [wf 182 25 (by decide)]
          have n2 := rF_undos gI.1
          exact ⟨fun z => ⟨(u1.1 z).1, fun k k0 k1 => b (by omega) ((u1.1 z).2.1 k k0 k1), b (by omega) (u1.1 z).2.2⟩, fun z => ⟨(u1.2 z).1, fun k k0 k1 => b (by omega) ((u1.2 z).2.1 k k0 k1), b (by omega) (u1.2 z).2.2⟩⟩
        have ans : rd w 198 0 = r := by
          rw [er, ← sr.1]
          exact lo 60 0 (by omega)
        rw [ans]
        exact k w wI (EQL_keep hI hE kc kr sr)
      induction n with
      | zero =>
        intro w v2 hn a0 a1 wI wf w0 wz
        have : v2 = v1 := by omega
        subst this
        exact B_hours_23 (RF_of wI.1) ⟨fun _ => fin w wI wf w0 (wz (by omega)), fun c => by omega⟩
      | succ n ih =>
        intro w v2 hn a0 a1 wI wf w0 wz
        refine B_hours_23 (RF_of wI.1) ⟨fun c => ?_, fun c => ⟨0, by omega, G_passesX wI (by decide) (by decide) (fun w2 w2I w2f w2x => B_hours_33 (RF_of w2I.1) (by omega) (ih w2 (v2 + 1) (by omega) (by omega) (by omega) w2I (fun a i n => (w2f a i (by omega)).trans (wf a i n)) ?_ (fun _ i i0 i1 => ?_)))⟩⟩
        · have : v2 = v1 := by omega
          subst this
          exact fin w wI wf w0 (wz (by omega))
        · rw [w2x.1, w0]
          split <;> split <;> split <;> omega
        · by_cases z : i < 20
          · have := w2x.2.1 (i - 14) (by omega) (by omega)
            rw [show 0 + (i - 14) + 14 = i by omega] at this
            exact this
          · have := w2x.2.2 (i - 20) (by omega) (by omega)
            rw [show 0 + (i - 20) + 20 = i by omega] at this
            exact this
    exact B_hours_21 (RF_of uI.1) (l23 24 u 0 (by omega) (by omega) (by omega) uI (fun _ _ _ => rfl) (by rw [if_pos (by omega), Int.add_zero]) (fun z => absurd z (by decide)))
/-- shut -/
def shC (h : LH) (v1 v2 : Int) : Prop := 0 ≤ v1 ∧ v1 < rd h 188 1 ∧ zand (zshr (rd h 198 1) v1) 1 ≠ v2
def shtJ (v1 v2 : Int) (h g : LH) (r : Int) : Prop := (¬ shC h v1 v2 ∧ r = 0 ∧ samP h g) ∨ (shC h v1 v2 ∧ r = 1 ∧ KCJ h g ∧ rd g 60 1 = zxor (rd h 60 1) (zshl 1 v1) ∧ ∀ a i, (60 ≤ a ∧ a ≤ 62) → ¬ (a = 60 ∧ i = 1) → rd g a i = rd h a i)
theorem E_shutS (he : 8 ≤ e) (hI : INV h) (hE : EQL h) (h1 : i32 v1) (h2 : gV (0, 0, 1, 1) (.inl v2)) (h2' : v2 = 0 ∨ v2 = 1) (k : ∀ r g, INV g → shtJ v1 v2 h g r → Q (some (.inl r)) g) : Rn xs xl e mm_OneSided_shut 0 [some (.inr (.inr 1)), some (.inl v1), some (.inl v2), none] [] h Q := by
  obtain ⟨-, -, -, -, -, -, -, ⟨k1, -, -, -, k5, k6, -, k8⟩⟩ := id hE
  obtain ⟨o1, n1, -, -⟩ := k6
  have hq : rd h 1 1 = 5 ∨ rd h 1 1 = 32 := rQf hI.1
  have d1 := rq_doors hI.1
  have a2 := k1.2.1
  have s2 : rd h 60 1 = rd h 198 1 := k5.2.1
  have bb := bitZ_01 (rd h 60 1) v1
  generalize eq : rd h 1 1 = q at hq a2
  have A : Rn xs xl e mm_OneSided_shut 0 [some (.inr (.inr 1)), some (.inl v1), some (.inl v2), none] [] h (fun r g => ∃ x, r = some (.inl x) ∧ shtJ v1 v2 h g x) := by
    have no : ¬ shC h v1 v2 → ∃ x, (some (.inl 0) : Option LV) = some (.inl x) ∧ shtJ v1 v2 h h x := fun z => ⟨0, rfl, Or.inl ⟨z, rfl, fun _ _ => rfl⟩⟩
    have yes : shC h v1 v2 → ∀ v3 : Int, ∃ c, c < e ∧ Rn xs xl c mm_OneSided_keepForUndo 0 [some (.inr (.inr 1)), some (.inr (.inr 60))] [] h (fun r h' => Rn xs xl e mm_OneSided_shut 51 [some (.inr (.inr 1)), some (.inl v1), some (.inl v2), some (.inl v3)] (r.toList ++ []) h' (fun r g => ∃ x, r = some (.inl x) ∧ shtJ v1 v2 h g x)) := by
      intro z v3
      refine ⟨2, by omega, F_keep (by omega) scn_60 (fun k _ _ => by omega) (RF_of hI.1) k8 o1 n1 (fun g kn ks kf gF => B_OneSided_shut_51 gF ⟨1, rfl, Or.inr ⟨z, rfl, ⟨?_, ?_, fun a i n1 n2 n3 n4 => ?_⟩, ?_, fun a i ha n => ?_⟩⟩)⟩
      · unfold kpn at kn ⊢
        rw [rdw_ne (by decide), rdw_ne (by decide)]
        exact kn
      · exact scq_lo ks (fun a i ha => rdw_ne (by unfold scp at ha; omega))
      · rw [rd_wr, if_neg (by unfold scp at n1; omega)]
        exact kf a i n3 n4
      · rw [rdw_eq, kf 60 1 (by unfold scp; omega) (by omega)]
      · rw [rd_wr, if_neg (by omega)]
        exact kf a i (by unfold scp; omega) (by omega)
    unfold shC at no yes
    rw [← s2] at no yes
    refine B_OneSided_shut_0 hq eq (RF_of hI.1) (by omega) ⟨fun c => no (fun z => by omega), fun c => ⟨fun c2 => no (fun z => by omega), fun c2 => ⟨fun c3 => ⟨fun c4 => yes ⟨c, by omega, by omega⟩ _, fun c4 => no (fun z => by omega)⟩, fun c3 => ⟨fun c4 => yes ⟨c, by omega, by omega⟩ _, fun c4 => no (fun z => by omega)⟩⟩⟩⟩
  have B : Rn xs xl e mm_OneSided_shut 0 [some (.inr (.inr 1)), some (.inl v1), some (.inl v2), none] [] h (fun r g => INV g) := use_sm TC_shut (as := [.inr (.inr 1), .inl v1, .inl v2]) rfl (Nat.le_trans (Nat.le_of_ble_eq_true rfl) he) hI (gAr_c (g_ref 1) (gAr_c (g_i h1) (gAr_c h2 gAr_n))) rfl (Nat.le_of_ble_eq_true rfl) rfl (fun r g gI gf gq => gI)
  refine (A.and B).mono (fun r g z => ?_)
  obtain ⟨⟨x, rfl, a⟩, b⟩ := z
  exact k x g b a
theorem G_shutS (he : 8 ≤ e) (hI : INV h) (hE : EQL h) (gI : INV g) (h2' : v2 = 0 ∨ v2 = 1) (hj : shtJ v1 v2 h g r) (k : ∀ g', INV g' → EQL g' → Q (some (.inl r)) g') : Rn xs xl e mm_shut 0 [some (.inr (.inr 182)), some (.inl v1), some (.inl v2)] [] g Q := by
  have d1 := rq_doors gI.1
  have bb := bitZ_01 (rd g 198 1) v1
  rcases hj with ⟨n, rfl, sm⟩ | ⟨hv, rfl, kc, sx, so⟩
  · obtain ⟨i1, e1⟩ := thr gI (EQL_sam hI hE sm)
    unfold shC at n
    rw [← sm 188 1, ← sm 198 1] at n
    exact B_shut_0 (RF_of gI.1) (by omega) ⟨fun _ => k _ i1 e1, fun c => ⟨fun _ => k _ i1 e1, fun c2 => ⟨fun c3 => ⟨fun c4 => absurd ⟨c, c2, by omega⟩ n, fun _ => k _ i1 e1⟩, fun c3 => ⟨fun c4 => absurd ⟨c, c2, by omega⟩ n, fun _ => k _ i1 e1⟩⟩⟩⟩
  · obtain ⟨kn, ks, kf⟩ := id kc
    have n1 := hE.2.2.2.2.2.2.2.2.2.2.2.2.1
    have hr : 0 ≤ (rd h 1 8 + rd h 1 9) % 16 ∧ (rd h 1 8 + rd h 1 9) % 16 < 16 := by omega
    generalize (rd h 1 8 + rd h 1 9) % 16 = ρ at ks kf hr
    have gh : ∀ a i, 182 ≤ a → rd g a i = rd h a i := fun a i n => kf a i (by unfold scp; omega) (by unfold scp; omega) (by unfold scp; omega) (by omega)
    clear ks kn kf
    unfold shC at hv
    rw [← gh 188 1 (by decide), ← gh 198 1 (by decide)] at hv
    have i1 : INV (wr g 182 0 0) := wF_thrown gI (by omega) (by omega)
    have go : ∃ c, c < e ∧ Rn xs xl c mm_keeps 0 [some (.inr (.inr 182)), none] [] (wr g 182 0 0) (fun r h' => Rn xs xl e mm_shut 33 [some (.inr (.inr 182)), some (.inl v1), some (.inl v2)] (r.toList ++ []) h' Q) := by
      refine ⟨1, by omega, G_keepsX (by omega) i1 (fun u uI uf ux => B_shut_33 (RF_of uI.1) ?_)⟩
      have u1 : kpx g u := kpx_l ux (fun i => rdw_ne (by decide)) (rdw_nei (by decide))
      have f1 : ∀ a i, ¬ (a = 198 ∧ 350 ≤ i) → ¬ (a = 182 ∧ (i = 0 ∨ i = 25)) → rd u a i = rd g a i := fun a i n1 n2 => by
        rw [uf a i (by omega) (by omega), rd_wr, if_neg (by omega)]
      have zx : i32 (zxor (rd u 198 1) (zshl 1 v1)) := x_in _
      have wI : INV (wr u 198 1 (zxor (rd u 198 1) (zshl 1 v1))) := INV_ws uI (ws uI.1 (i := 1) (v := zxor (rd u 198 1) (zshl 1 v1)) 1 1 (-2147483648) 2147483647 (by omega) (by omega) (by omega) (by decide +kernel) zx.1 zx.2 zx) (by omega)
      have wf : ∀ a i, ¬ (a = 198 ∧ i = 1) → rd (wr u 198 1 (zxor (rd u 198 1) (zshl 1 v1))) a i = rd u a i := fun a i n => by rw [rd_wr, if_neg (by omega)]
      have w1 : rd (wr u 198 1 (zxor (rd u 198 1) (zshl 1 v1))) 198 1 = zxor (rd h 198 1) (zshl 1 v1) := by
        rw [rdw_eq, f1 198 1 (by decide) (by decide), gh 198 1 (by decide)]
      generalize wr u 198 1 (zxor (rd u 198 1) (zshl 1 v1)) = w at wI wf w1 ⊢
      have kr : KRJ g w := by
        refine ⟨?_, fun a i n1 n2 n3 n4 => (wf a i (by omega)).trans (f1 a i (by omega) n4)⟩
        unfold kpx at u1 ⊢
        have b : ∀ {b c}, 350 ≤ c → blq g u b c → blq g w b c := fun hc hb i i0 i1 => (wf 198 _ (by omega)).trans (hb i i0 i1)
        rw [wf 182 25 (by decide)]
        have n2 := rF_undos gI.1
        exact ⟨fun z => ⟨(u1.1 z).1, fun k k0 k1 => b (by omega) ((u1.1 z).2.1 k k0 k1), b (by omega) (u1.1 z).2.2⟩, fun z => ⟨(u1.2 z).1, fun k k0 k1 => b (by omega) ((u1.2 z).2.1 k k0 k1), b (by omega) (u1.2 z).2.2⟩⟩
      have lo : ∀ a i, (60 ≤ a ∧ a ≤ 62) → rd w a i = rd g a i := fun a i ha => (wf a i (by omega)).trans (f1 a i (by omega) (by omega))
      have bo : ∀ i, 0 ≤ i → i < 34 → i ≠ 1 → rd w 198 i = rd h 198 i := fun i i0 i1 n => (wf 198 i (by omega)).trans ((f1 198 i (by omega) (by omega)).trans (gh 198 i (by decide)))
      have e2 : rd w 188 2 = rd h 188 2 := (wf 188 2 (by decide)).trans ((f1 188 2 (by decide) (by decide)).trans (gh 188 2 (by decide)))
      have hp := rq_people hI.1
      have sr : SR w 60 0 := by
        obtain ⟨s1, s2, s3, s4, s5⟩ := hE.2.2.2.2.2.2.2.2.2.2.2.1
        refine ⟨?_, ?_, fun p p0 p1 => ?_, fun d d0 d1 => ?_, fun p p0 p1 => ?_⟩
        · rw [lo 60 0 (by omega), so 60 0 (by omega) (by decide), bo 0 (by decide) (by decide) (by decide)]
          exact s1
        · rw [lo 60 1 (by omega), sx, s2]
          exact w1.symm
        · rw [e2] at p1
          rw [lo _ _ (by omega), lo 60 3 (by omega), lo 60 2 (by omega), so _ _ (by omega) (by omega), so 60 3 (by omega) (by decide), so 60 2 (by omega) (by decide), bo _ (by omega) (by omega) (by omega), bo _ (by omega) (by omega) (by omega), bo _ (by omega) (by omega) (by omega)]
          exact s3 p p0 p1
        · rw [lo _ _ (by omega), so _ _ (by omega) (by omega), bo _ (by omega) (by omega) (by omega)]
          exact s4 d d0 d1
        · rw [e2] at p0
          rw [lo 60 3 (by omega), so 60 3 (by omega) (by decide)]
          exact s5 p p0 p1
      exact k w wI (EQL_keep hI hE kc kr sr)
    exact B_shut_0 (RF_of gI.1) (by omega) ⟨fun c => by omega, fun c => ⟨fun c2 => by omega, fun c2 => ⟨fun c3 => ⟨fun c4 => go, fun c4 => by omega⟩, fun c3 => ⟨fun c4 => go, fun c4 => by omega⟩⟩⟩⟩
end SCe
