section
/-! run, part r5: both objects' runs -/
/-- at home with his errand done in one of the first n hours -/
def meP (K : KEY) (T0 : Int → Int) (n : Nat) (p : Int) : Prop := ∃ (j : Nat) (T : Int → Int), j < n ∧ raf K T0 j T ∧ hdT K T p
/-- within an hour: those below p are looked at -/
def miP (A B : Int → Prop) (p b : Int) : Prop := (b < p ∧ B b) ∨ (p ≤ b ∧ A b)
def runA (K : KEY) (T0 : Int → Int) (w r : Int) : Prop := (w = 0 ∧ r = cnP (itD K T0 (25 - T0 0).toNat) (K.1 2).toNat) ∨ (w = 1 ∧ ∃ T, raf K T0 (24 - T0 0).toNat T ∧ r = K.1 2 - cnP (hdT K T) (K.1 2).toNat) ∨ (w ≠ 0 ∧ w ≠ 1 ∧ r = -1)
def runJ (w : Int) (h g : LH) (r : Int) : Prop := frDay h g ∧ runA (key h) (rd h 198) w r
section RE
variable {xs : Nat → Int} {xl e : Nat} {h g u : LH} {Q : Option LV → LH → Prop} {K : KEY} {S S' T T' T0 T1 T2 F : Int → Int} {L l : List Int} {q sc p b b' d r n v1 till lo hour x m : Int} {A B : Int → Prop}
theorem VT_of (hI : INV h) (hs : SR h 60 0) : VT (key h) (rd h 198) := by
  have n2 := rq_people hI.1
  refine ⟨rs_now hI.1 0 0 (by omega) (by decide) (by decide) (by decide) (by decide) (by decide), fun p p0 p1 => ?_, fun d d0 d1 => ?_⟩
  · have p1' : p < rd h 188 2 := p1
    have a := rs_where hI.1 (i := p + 2) 0 p (by omega) (by decide) (by decide) (by decide) p0 (by omega)
    have b := rs_done hI.1 (i := p + 8) 0 p (by omega) (by decide) (by decide) (by decide) p0 (by omega)
    have c := rs_went hI.1 (i := p + 14) 0 p (by omega) (by decide) (by decide) (by decide) p0 (by omega)
    have w := (INVw hI).1 p p0 (by omega) p1'
    rw [show 0 + 2 + p = p + 2 by omega] at w
    exact ⟨⟨a.1, w⟩, by omega, by omega⟩
  · have := (hs.2.2.2.1 d d0 d1).2
    rw [show 0 + d + 20 = d + 20 by omega] at this
    exact this
theorem SCT_60 (hs : SR h 60 0) : SCT h 60 (rd h 188 2) (rd h 198) := by
  obtain ⟨s1, s2, s3, s4, s5⟩ := hs
  refine ⟨s1, s2, fun p p0 p1 => ?_, fun d d0 d1 => ?_, s5⟩
  · have := s3 p p0 p1
    rw [show 0 + p + 2 = p + 2 by omega, show 0 + p + 8 = p + 8 by omega, show 0 + p + 14 = p + 14 by omega] at this
    exact this
  · have := s4 d d0 d1
    rw [show 0 + d + 20 = d + 20 by omega] at this
    exact this
theorem SCT_cp (hs : SCT h sc n T) (hn : n ≤ 6) (hq : scq h g sc 68) : SCT g 68 n T := by
  obtain ⟨s1, s2, s3, s4, s5⟩ := hs
  obtain ⟨q1, q2, q3⟩ := hq
  refine ⟨?_, ?_, fun p p0 p1 => ?_, fun d d0 d1 => ?_, fun p p0 p1 => ?_⟩
  · rw [q1 0 (by decide) (by decide)]; exact s1
  · rw [q1 1 (by decide) (by decide)]; exact s2
  · rw [q2 p p0 (by omega), q1 3 (by decide) (by decide), q1 2 (by decide) (by decide)]
    exact s3 p p0 p1
  · rw [q3 d d0 d1]
    exact s4 d d0 d1
  · rw [q1 3 (by decide) (by decide)]
    exact s5 p p0 p1
theorem E_runS (he : 8 ≤ e) (hI : INV h) (hE : EQL h) (h1 : i32 v1) (k : ∀ r g, INV g → runJ v1 h g r → Q (some (.inl r)) g) : Rn xs xl e mm_OneSided_run 0 [some (.inr (.inr 1)), some (.inl v1), none, none] [] h Q := by
  obtain ⟨L, hc⟩ := CXq_of hI hE
  have hK := KR_of hI
  have hq : rd h 1 1 = 5 ∨ rd h 1 1 = 32 := rQf hI.1
  have hF := RF_of hI.1
  have n2 := rq_people hI.1
  have k5 := hE.2.2.2.2.2.2.2.2.2.2.2.1
  have w : WC (key h) (rd h 198) h := ⟨hI, rfl, rfl⟩
  have vt := VT_of hI k5
  have s60 := SCT_60 k5
  have kb : ∀ p, 0 ≤ p → p < (key h).1 2 → KB (key h) p := fun p p0 p1 => KB_of w (by
    have p1' : p < rd h 188 2 := p1
    omega)
  have A : Rn xs xl e mm_OneSided_run 0 [some (.inr (.inr 1)), some (.inl v1), none, none] [] h (fun r g => ∃ x, r = some (.inl x) ∧ runJ v1 h g x) := by
    have go : (v1 = 0 ∨ v1 = 1) → ∃ c, c < e ∧ Rn xs xl c mm_Scene_copy 0 [some (.inr (.inr 68)), some (.inr (.inr 60))] [] h (fun r h' => Rn xs xl e mm_OneSided_run 30 [some (.inr (.inr 1)), some (.inl v1), some (.inr (.inr 68)), none] (r.toList ++ []) h' (fun r g => ∃ x, r = some (.inl x) ∧ runJ v1 h g x)) := by
      intro hv
      refine ⟨0, by omega, F_scopy scn_68 (by decide) scn_60 (by decide) hF (fun g gq gf gF => ?_)⟩
      have gs : SCT g 68 ((key h).1 2) (rd h 198) := SCT_cp s60 n2.2 gq
      have gD : frDay h g := fun a i _ _ _ m4 => gf a i m4
      have gc : CXq g (key h) (rd h 1 1) L := CXq_fr hc hK gF (fun a i ha => gf a i (by unfold scp; omega))
      refine B_OneSided_run_30 hq gc.2.2.2.1 gF ⟨7, by omega, F_runDay (Nat.le_refl 7) gc hK kb vt gs (fun u T uF uf ra us => ?_)⟩
      have uD := frDay_t gD uf
      have uc : CXq u (key h) (rd h 1 1) L := CXq_fr hc hK uF (fun a i ha => uD a i (by omega) (by omega) (by omega) (by unfold scp; omega))
      refine B_OneSided_run_42 hq uc.2.2.2.1 uF ⟨fun c => ⟨0, by omega, ?_⟩, fun c => ⟨_, rfl, uD, Or.inl ⟨c, rfl⟩⟩⟩
      have v1' : v1 = 1 := by omega
      refine F_homeAndDone uc hK us scn_68 (by decide) (fun r1 i1 b1 => ?_)
      have c4 : rd u (rd h 1 1) 4 = (key h).1 2 := uc.2.2.2.2.1.2.2
      have i2 := cnP_in (hdT (key h) (enT T)) ((key h).1 2).toNat
      have n2' : 0 ≤ (key h).1 2 ∧ (key h).1 2 ≤ 6 := n2
      refine B_OneSided_run_64 uF ⟨0, by omega, F_bits uF i1 (by omega) b1 (B_OneSided_run_67 uF ?_)⟩
      rw [c4]
      refine ⟨by omega, _, rfl, uD, Or.inr (Or.inl ⟨v1', T, ra, ?_⟩)⟩
      rw [cnP_ext (P := hdT (key h) (enT T)) (P' := hdT (key h) T) _ (fun b b0 b1 => hdT_enT (by omega))]
    exact B_OneSided_run_0 hF ⟨fun c => go (Or.inl c), fun c => ⟨fun c2 => go (Or.inr c2), fun c2 => ⟨_, rfl, fun _ _ _ _ _ _ => rfl, Or.inr (Or.inr ⟨c, c2, rfl⟩)⟩⟩⟩
  have B : Rn xs xl e mm_OneSided_run 0 [some (.inr (.inr 1)), some (.inl v1), none, none] [] h (fun r g => INV g) := use_sm TC_run (as := [.inr (.inr 1), .inl v1]) rfl (Nat.le_trans (Nat.le_of_ble_eq_true rfl) he) hI (gAr_c (g_ref 1) (gAr_c (g_i h1) gAr_n)) rfl (Nat.le_of_ble_eq_true rfl) rfl (fun r g gI gf gq => gI)
  refine (A.and B).mono (fun r g z => ?_)
  obtain ⟨⟨x, rfl, a⟩, b⟩ := z
  exact k x g b a
/-! the reference -/
theorem tr_eq (e2 : S (b + 1) = S' (b' + 1)) : tr K S b p = tr K S' b' p := by
  funext hr k d
  unfold tr
  rw [e2]
theorem wayP_eq (e : tr K S b p = tr K S' b' p) : ∀ (n : Nat) (hour q : Int) (l : List Int), wayP K S b p till F n hour q l = wayP K S' b' p till F n hour q l
  | 0, _, _, _ => rfl
  | n + 1, hour, q, l => by
    have nx : nxD K S b p till F = nxD K S' b' p till F := by
      funext hour q d x
      unfold nxD frst
      rw [e]
    have ih := fun hour q l => wayP_eq e n hour q l
    show (∃ d x l', l = d :: l' ∧ (0 ≤ d ∧ d < K.1 1) ∧ nxD K S b p till F hour q d x ∧ (∀ d' x', 0 ≤ d' → d' < d → ¬ nxD K S b p till F hour q d' x') ∧ wayP K S b p till F n (x + 1) (tr K S b p x q d) l') = (∃ d x l', l = d :: l' ∧ (0 ≤ d ∧ d < K.1 1) ∧ nxD K S' b' p till F hour q d x ∧ (∀ d' x', 0 ≤ d' → d' < d → ¬ nxD K S' b' p till F hour q d' x') ∧ wayP K S' b' p till F n (x + 1) (tr K S' b' p x q d) l')
    rw [nx, e]
    simp only [ih]
theorem errW_congr (e1 : S b = S' b') (e2 : S (b + 1) = S' (b' + 1)) (e3 : S (b + p + 2) = S' (b' + p + 2)) (e4 : S (b + p + 8) = S' (b' + p + 8)) (e5 : S (b + p + 14) = S' (b' + p + 14)) (hw : errW K S b p till l) : errW K S' b' p till l := by
  have et := tr_eq (K := K) (p := p) e2
  have ek : k0F S b p = k0F S' b' p := by
    unfold k0F
    rw [e3, e4]
  have ef : ∀ lo F, FOK K S b p till lo F → FOK K S' b' p till lo F := fun lo F f => ⟨f.1, fun hr q a c d z => by
    have := f.2 hr q a c d z
    unfold good at this ⊢
    rw [← et]
    exact this⟩
  unfold errW at hw ⊢
  rw [ek, e1, e5] at hw
  rcases hw with hw | ⟨w1, w2, F, w3, w4⟩
  · exact Or.inl hw
  · rw [wayP_eq et] at w4
    exact Or.inr ⟨w1, w2, F, ef _ F w3, w4⟩
theorem rgo_24 (h0 : T 0 = 24) (sb : SB T 0 p) (kb : KB K p) : rgo K T p T := by
  by_cases c : T (p + 14) = 1
  · exact Or.inl ⟨c, rfl⟩
  · have b14 : 0 ≤ T (0 + p + 14) ∧ T (0 + p + 14) ≤ 1 := sb.2.1
    obtain ⟨k0, k1, -⟩ := k0F_in sb
    have kh := kb.2.2.2.1
    have hb := bit_shl (j := K.1 (4 * p + 117) + 10) (k := k0F T 0 p) (by omega) (by omega) k0 (by omega)
    by_cases c3 : k0F T 0 p = K.1 (4 * p + 117) + 10
    · exact Or.inr ⟨c, T 0, [], Or.inl ⟨hb.mpr c3, rfl⟩, Or.inl ⟨Or.inr c3, rfl⟩, rfl⟩
    · exact Or.inr ⟨c, -1, [], Or.inr ⟨fun y => c3 (hb.mp y), Or.inl ⟨rfl, fun x x0 x1 => by omega⟩⟩, Or.inl ⟨Or.inl (by decide), rfl⟩, rfl⟩
/-- the reference's heap while a day is run -/
def UR (g u : LH) (K : KEY) (T : Int → Int) : Prop := INV u ∧ frR g u ∧ key u = K ∧ RBT u 1540 T
theorem UR_52 {v : Int} (hu : UR g u K T) (iv : i32 v) : UR g (wr u 182 52 v) K T := by
  obtain ⟨a, c, d, f⟩ := hu
  refine ⟨wF_52 a iv, c.w (by omega), ?_, fun i i0 i1 => ?_⟩
  · rw [← d]
    exact key_frs (fun a i _ _ => rdw_ne (by omega)) (fun i _ _ => rdw_nei (by omega))
  · rw [rdw_ne (by decide)]
    exact f i i0 i1
theorem UR_53 {v : Int} (hu : UR g u K T) (iv : i32 v) : UR g (wr u 182 53 v) K T := by
  obtain ⟨a, c, d, f⟩ := hu
  refine ⟨wF_53 a iv, c.w (by omega), ?_, fun i i0 i1 => ?_⟩
  · rw [← d]
    exact key_frs (fun a i _ _ => rdw_ne (by omega)) (fun i _ _ => rdw_nei (by omega))
  · rw [rdw_ne (by decide)]
    exact f i i0 i1
theorem UR_K (hu : UR g u K T) (i : Int) : rd u 188 i = K.1 i := by
  have := hu.2.2.1
  rw [show rd u 188 i = (key u).1 i from rfl, this]
theorem UR_T (hu : UR g u K T) {i j : Int} (hj : j = 1540 + i) (i0 : 0 ≤ i) (i1 : i < 34) : rd u 198 j = T i := by
  rw [hj]
  exact hu.2.2.2 i i0 i1
theorem goF_T (hu : UR g u K T) (hp : 0 ≤ p ∧ p ≤ 5) (hd : 0 ≤ d ∧ d ≤ 13) : goF u 1540 p d = goV K T p d := by
  unfold goF goV
  rw [UR_T hu (j := 1540 + p + 14) (i := p + 14) (by omega) (by omega) (by omega), UR_T hu (j := 1540 + d + 20) (i := d + 20) (by omega) (by omega) (by omega), UR_T hu (j := 1540 + 1) (i := 1) (by omega) (by omega) (by omega), UR_T hu (j := 1540 + p + 2) (i := p + 2) (by omega) (by omega) (by omega), UR_T hu (j := 1540) (i := 0) (by omega) (by omega) (by omega), UR_K hu, UR_K hu, hu.2.2.1]
theorem UR_gone {w : LH} (hu : UR g u K T) (hp : 0 ≤ p ∧ p ≤ 5) (hd : 0 ≤ d ∧ d ≤ 13) (wI : INV w) (hg : gone 1540 p d r u w) : UR g w K (wT K T p d r) := by
  obtain ⟨a, c, e, f⟩ := id hu
  obtain ⟨g1, g2, g3, g4, gf⟩ := hg
  refine ⟨wI, fun x i n1 n2 n3 n4 n5 n6 => (gf x i n1 n2 (by omega)).trans (c x i n1 n2 n3 n4 n5 n6), ?_, fun i i0 i1 => ?_⟩
  · rw [← e]
    exact key_frs (fun x i _ _ => gf x i (by omega) (by omega) (by omega)) (fun i _ _ => gf 182 i (by decide) (by decide) (by omega))
  · unfold wT
    by_cases c1 : i = p + 2
    · rw [if_pos c1, c1, ← g1]
      exact congrArg (rd w 198) (by omega)
    · rw [if_neg c1]
      by_cases c2 : i = p + 14
      · rw [if_pos c2, c2, ← g2]
        exact congrArg (rd w 198) (by omega)
      · rw [if_neg c2]
        by_cases c3 : i = d + 20
        · rw [if_pos c3, c3, ← f (d + 20) (by omega) (by omega), show 1540 + (d + 20) = 1540 + d + 20 by omega, g3]
        · rw [if_neg c3]
          by_cases c4 : i = p + 8
          · rw [if_pos c4, c4, ← f (p + 8) (by omega) (by omega), show 1540 + (p + 8) = 1540 + p + 8 by omega, g4, UR_K hu]
          · rw [if_neg c4, gf 198 _ (by decide) (by decide) (by omega)]
            exact f i i0 i1
theorem UR_ps {w : LH} (hu : UR g u K T) (h0 : T 0 < 24) (wI : INV w) (wf : ∀ a i, ¬ (a = 198 ∧ (i = 1540 ∨ (1540 + 14 ≤ i ∧ i ≤ 1540 + 33))) → rd w a i = rd u a i) (wp : psx 1540 u w) : UR g w K (psT T) := by
  obtain ⟨a, c, e, f⟩ := id hu
  obtain ⟨p1, p2, p3⟩ := wp
  have f0 := UR_T hu (j := 1540) (i := 0) (by omega) (by omega) (by omega)
  refine ⟨wI, fun x i n1 n2 n3 n4 n5 n6 => (wf x i (by omega)).trans (c x i n1 n2 n3 n4 n5 n6), ?_, fun i i0 i1 => ?_⟩
  · rw [← e]
    exact key_frs (fun x i _ _ => wf x i (by omega)) (fun i _ _ => wf 182 i (by omega))
  · unfold psT
    by_cases c1 : i = 0
    · rw [if_pos c1, c1, show (1540 : Int) + 0 = 1540 by decide, p1, f0, if_pos h0]
    · rw [if_neg c1]
      by_cases c2 : 14 ≤ i
      · rw [if_pos c2]
        by_cases c3 : i < 20
        · rw [← p2 (i - 14) (by omega) (by omega)]
          exact congrArg (rd w 198) (by omega)
        · rw [← p3 (i - 20) (by omega) (by omega)]
          exact congrArg (rd w 198) (by omega)
      · rw [if_neg c2, wf 198 _ (by omega)]
        exact f i i0 i1
theorem meP_st (hc : CXq h K q L) (hK : KR K) (kb : ∀ p, 0 ≤ p → p < K.1 2 → KB K p) (vt : VT K T0) {n : Nat} (hn : T0 0 + n ≤ 24) (h1 : raf K T0 n T) : meP K T0 (n + 1) p ↔ meP K T0 n p ∨ hdT K T p := by
  constructor
  · rintro ⟨j, X, a, b, d⟩
    by_cases z : j = n
    · rw [z] at b
      rw [raf_one hc hK kb vt hn b h1] at d
      exact Or.inr d
    · exact Or.inl ⟨j, X, by omega, b, d⟩
  · rintro (⟨j, X, a, b, d⟩ | d)
    · exact ⟨j, X, by omega, b, d⟩
    · exact ⟨n, T, by omega, h1, d⟩
theorem itD_me {n : Nat} (hm : T0 0 + n ≤ K.1 (4 * p + 119)) : itD K T0 n p ↔ meP K T0 n p := by
  constructor
  · rintro ⟨j, X, a, b, _, d⟩
    exact ⟨j, X, a, b, d⟩
  · rintro ⟨j, X, a, b, d⟩
    exact ⟨j, X, a, b, by omega, d⟩
/-- the next one is looked at: nothing comes to it -/
theorem miP_same (hq : A p ↔ B p) : ∀ b, miP A B (p + 1) b ↔ miP A B p b := fun b => by
  unfold miP
  by_cases c : b = p
  · subst c
    exact ⟨fun y => y.elim (fun y => Or.inr ⟨by omega, hq.mpr y.2⟩) (fun y => by omega), fun y => y.elim (fun y => by omega) (fun y => Or.inl ⟨by omega, hq.mp y.2⟩)⟩
  · exact ⟨fun y => y.elim (fun y => Or.inl ⟨by omega, y.2⟩) (fun y => Or.inr ⟨by omega, y.2⟩), fun y => y.elim (fun y => Or.inl ⟨by omega, y.2⟩) (fun y => Or.inr ⟨by omega, y.2⟩)⟩
theorem miP_p : miP A B p p ↔ A p := ⟨fun y => y.elim (fun y => by omega) (fun y => y.2), fun y => Or.inr ⟨by omega, y⟩⟩
theorem miP_p1 : miP A B (p + 1) p ↔ B p := ⟨fun y => y.elim (fun y => y.2) (fun y => by omega), fun y => Or.inl ⟨by omega, y⟩⟩
theorem miP_o {b : Int} (hb : b ≠ p) : miP A B (p + 1) b ↔ miP A B p b := by
  unfold miP
  exact ⟨fun y => y.elim (fun y => Or.inl ⟨by omega, y.2⟩) (fun y => Or.inr ⟨by omega, y.2⟩), fun y => y.elim (fun y => Or.inl ⟨by omega, y.2⟩) (fun y => Or.inr ⟨by omega, y.2⟩)⟩
theorem miP_0 {n : Nat} : cnP (miP A B 0) n = cnP A n := cnP_ext n (fun b b0 _ => ⟨fun y => y.elim (fun y => by omega) (fun y => y.2), fun y => Or.inr ⟨b0, y⟩⟩)
theorem miP_n {n : Nat} (hp : (n : Int) ≤ p) : cnP (miP A B p) n = cnP B n := cnP_ext n (fun b b0 b1 => ⟨fun y => y.elim (fun y => y.2) (fun y => by omega), fun y => Or.inl ⟨by omega, y⟩⟩)
theorem G_findRun (he : 9 ≤ e) (hI : INV g) (hc : CXq h K q L) (eK : key g = K) (hK : KR K) (kb : ∀ p, 0 ≤ p → p < K.1 2 → KB K p) (e0 : ∀ i, 0 ≤ i → i < 34 → rd g 198 i = T0 i) (vt : VT K T0) (k : ∀ u T, INV u → frR g u → rd u 182 52 = cnP (itD K T0 (25 - T0 0).toNat) (K.1 2).toNat → raf K T0 (24 - T0 0).toNat T → rd u 182 53 = K.1 2 - cnP (hdT K T) (K.1 2).toNat → Q none u) : Rn xs xl e mm_findRun 0 [some (.inr (.inr 182)), none, none, none, none, none] [] g Q := by
  have n2 := hK.2.2.1
  have t0 := vt.1
  -- who isn't at home
  have l266 : ∀ (n : Nat) (u : LH) (T : Int → Int) (v1 v2 v3 : Int) (o4 o5 : Option LV), K.1 2 - v3 ≤ n → 0 ≤ v3 → v3 ≤ K.1 2 → raf K T0 (24 - T0 0).toNat T → UR g u K T → rd u 182 52 = cnP (itD K T0 (25 - T0 0).toNat) (K.1 2).toNat → rd u 182 53 = v3 - cnP (hdT K T) v3.toNat → Rn xs xl e mm_findRun 266 [some (.inr (.inr 182)), some (.inl v1), some (.inl v2), some (.inl v3), o4, o5] [] u Q := by
    intro n
    have stop : ∀ (u : LH) (T : Int → Int) (v3 : Int), K.1 2 ≤ v3 → v3 ≤ K.1 2 → raf K T0 (24 - T0 0).toNat T → UR g u K T → rd u 182 52 = cnP (itD K T0 (25 - T0 0).toNat) (K.1 2).toNat → rd u 182 53 = v3 - cnP (hdT K T) v3.toNat → Q none u := fun u T v3 a0 a1 ra uu u52 u53 => k u T uu.1 uu.2.1 u52 ra (by rw [u53, show v3 = K.1 2 by omega])
    induction n with
    | zero =>
      intro u T v1 v2 v3 o4 o5 hn a0 a1 ra uu u52 u53
      have u2 := UR_K uu 2
      exact B_findRun_266 (RF_of uu.1.1) (by omega) (by omega) ⟨fun _ => stop u T v3 (by omega) a1 ra uu u52 u53, fun c => by omega⟩
    | succ n ih =>
      intro u T v1 v2 v3 o4 o5 hn a0 a1 ra uu u52 u53
      have u2 := UR_K uu 2
      have st : cnP (hdT K T) (v3 + 1).toNat = cnP (hdT K T) v3.toNat + @ite Int (hdT K T v3) (Classical.propDecidable _) 1 0 := by
        rw [show (v3 + 1).toNat = v3.toNat + 1 by omega]
        show cnP (hdT K T) v3.toNat + @ite Int (hdT K T (v3.toNat : Int)) (Classical.propDecidable _) 1 0 = _
        rw [Int.toNat_of_nonneg a0]
      have ci := cnP_in (hdT K T) v3.toNat
      refine B_findRun_266 (RF_of uu.1.1) (by omega) (by omega) ⟨fun c => stop u T v3 (by omega) a1 ra uu u52 u53, fun c => ?_⟩
      have p1 : v3 < K.1 2 := by omega
      have w8 := UR_T uu (j := v3 + 1548) (i := v3 + 8) (by omega) (by omega) (by omega)
      have w2 := UR_T uu (j := v3 + 1542) (i := v3 + 2) (by omega) (by omega) (by omega)
      have kh := UR_K uu (4 * v3 + 117)
      have nx : ∀ y : Int, y = 1 - @ite Int (hdT K T v3) (Classical.propDecidable _) 1 0 → Rn xs xl e mm_findRun 266 [some (.inr (.inr 182)), some (.inl v1), some (.inl v2), some (.inl (v3 + 1)), o4, o5] [] (wr u 182 53 (w32 (rd u 182 53 + y))) Q := fun y hy => by
        have iy : @ite Int (hdT K T v3) (Classical.propDecidable _) 1 0 = 0 ∨ @ite Int (hdT K T v3) (Classical.propDecidable _) 1 0 = 1 := by
          by_cases z : hdT K T v3
          · rw [if_pos z]; exact Or.inr rfl
          · rw [if_neg z]; exact Or.inl rfl
        rw [w32_id (show i32 (rd u 182 53 + y) by unfold i32; omega)]
        refine ih _ T v1 v2 (v3 + 1) o4 o5 (by omega) (by omega) (by omega) ra (UR_53 uu (by unfold i32; omega)) ?_ ?_
        · rw [rdw_nei (by decide)]; exact u52
        · rw [rdw_eq, st, u53, hy]
          omega
      refine ⟨fun y => nx 1 ?_, fun y => ⟨fun z => nx 1 ?_, fun z => nx 0 ?_⟩⟩
      · rw [if_neg (fun t => y (w8.trans t.1))]
        rfl
      · rw [if_neg (fun t => z (by rw [w2, kh]; exact t.2))]
        rfl
      · rw [if_pos ⟨by rw [← w8]; exact y, by rw [← w2, ← kh]; exact z⟩]
        rfl
  have t259 : ∀ (u : LH) (T : Int → Int) (v1 v2 : Int) (o3 o4 o5 : Option LV), raf K T0 (24 - T0 0).toNat T → UR g u K T → rd u 182 52 = cnP (itD K T0 (25 - T0 0).toNat) (K.1 2).toNat → Rn xs xl e mm_findRun 259 [some (.inr (.inr 182)), some (.inl v1), some (.inl v2), o3, o4, o5] [] u Q := fun u T v1 v2 o3 o4 o5 ra uu u52 => B_findRun_259 (RF_of uu.1.1) (l266 6 _ T v1 v2 0 _ _ (by omega) (by omega) (by omega) ra (UR_53 uu (by unfold i32; omega)) (by rw [rdw_nei (by decide)]; exact u52) (by rw [rdw_eq]; rfl))
  -- one hour
  have body : ∀ (u : LH) (n : Nat) (T : Int → Int) (v1 : Int) (o3 o4 o5 : Option LV), T0 0 + n ≤ 24 → rdy K T0 n T → UR g u K T → rd u 182 52 = cnP (itD K T0 n) (K.1 2).toNat → (∀ b, 0 ≤ b → b < 32 → (bitZ v1 b ↔ b < K.1 2 ∧ meP K T0 n b)) → (∀ (u : LH) (T : Int → Int) (v1 : Int) (o3 o4 o5 : Option LV), T0 0 + n < 24 → rdy K T0 (n + 1) T → UR g u K T → rd u 182 52 = cnP (itD K T0 (n + 1)) (K.1 2).toNat → (∀ b, 0 ≤ b → b < 32 → (bitZ v1 b ↔ b < K.1 2 ∧ meP K T0 (n + 1) b)) → Rn xs xl e mm_findRun 19 [some (.inr (.inr 182)), some (.inl v1), some (.inl 1), o3, o4, o5] [] u Q) → Rn xs xl e mm_findRun 19 [some (.inr (.inr 182)), some (.inl v1), some (.inl 1), o3, o4, o5] [] u Q := by
    intro u n T v1 o3 o4 o5 hn r0 uu u52 vb next
    have rv := rdy_VT hc hK vt n T hn r0
    have T0v : T 0 = T0 0 + n := rv.2
    -- all have been looked at
    have t233 : ∀ (u : LH) (T' : Int → Int) (v1 v4 : Int) (o5 : Option LV), rps K T (K.1 2).toNat T' → UR g u K T' → rd u 182 52 = cnP (itD K T0 (n + 1)) (K.1 2).toNat → (∀ b, 0 ≤ b → b < 32 → (bitZ v1 b ↔ b < K.1 2 ∧ meP K T0 (n + 1) b)) → Rn xs xl e mm_findRun 233 [some (.inr (.inr 182)), some (.inl v1), some (.inl 1), some (.inl (T 0)), some (.inl v4), o5] [] u Q := by
      intro u T' v1 v4 o5 rp uu u52 vb
      have rw' := rps_VT hc hK rv.1 _ T' (by omega) rp
      refine B_findRun_233 (RF_of uu.1.1) ⟨fun c => B_findRun_19 (RF_of uu.1.1) ⟨fun _ => ?_, fun z => absurd rfl z⟩, fun c => ⟨0, by omega, G_passesX uu.1 (by decide) (by decide) (fun w wI wf wp => B_findRun_256 (RF_of wI.1) (next w (psT T') v1 _ _ _ (by omega) ⟨T, T', r0, rp, rfl⟩ (UR_ps uu (by omega) wI wf wp) ?_ vb))⟩⟩
      · have e1 : n = (24 - T0 0).toNat := by omega
        have e2 : n + 1 = (25 - T0 0).toNat := by omega
        rw [e2] at u52
        refine t259 u T' _ _ _ _ _ ?_ uu u52
        rw [← e1]
        exact ⟨T, r0, rp⟩
      · rw [wf 182 52 (by omega)]
        exact u52
    have l120 : ∀ (m : Nat) (u : LH) (T' : Int → Int) (v1 v4 : Int) (o5 : Option LV), K.1 2 - v4 ≤ m → 0 ≤ v4 → v4 ≤ K.1 2 → rps K T (K.1 2).toNat T' → UR g u K T' → rd u 182 52 = cnP (miP (itD K T0 n) (itD K T0 (n + 1)) v4) (K.1 2).toNat → (∀ b, 0 ≤ b → b < 32 → (bitZ v1 b ↔ b < K.1 2 ∧ miP (meP K T0 n) (meP K T0 (n + 1)) v4 b)) → Rn xs xl e mm_findRun 120 [some (.inr (.inr 182)), some (.inl v1), some (.inl 1), some (.inl (T 0)), some (.inl v4), o5] [] u Q := by
      intro m
      have stop : ∀ (u : LH) (T' : Int → Int) (v1 v4 : Int) (o5 : Option LV), K.1 2 ≤ v4 → v4 ≤ K.1 2 → rps K T (K.1 2).toNat T' → UR g u K T' → rd u 182 52 = cnP (miP (itD K T0 n) (itD K T0 (n + 1)) v4) (K.1 2).toNat → (∀ b, 0 ≤ b → b < 32 → (bitZ v1 b ↔ b < K.1 2 ∧ miP (meP K T0 n) (meP K T0 (n + 1)) v4 b)) → Rn xs xl e mm_findRun 233 [some (.inr (.inr 182)), some (.inl v1), some (.inl 1), some (.inl (T 0)), some (.inl v4), o5] [] u Q := by
        intro u T' v1 v4 o5 a0 a1 rp uu u52 vb
        refine t233 u T' v1 v4 o5 rp uu ?_ (fun b b0 b1 => ?_)
        · rw [u52, miP_n (by omega)]
        · rw [vb b b0 b1]
          unfold miP
          exact ⟨fun y => ⟨y.1, y.2.elim (fun y => y.2) (fun z => by omega)⟩, fun y => ⟨y.1, Or.inl ⟨by omega, y.2⟩⟩⟩
      induction m with
      | zero =>
        intro u T' v1 v4 o5 hm a0 a1 rp uu u52 vb
        have u2 := UR_K uu 2
        exact B_findRun_120 (RF_of uu.1.1) (by omega) (by omega) ⟨fun _ => stop u T' v1 v4 o5 (by omega) a1 rp uu u52 vb, fun c => by omega⟩
      | succ m im =>
        intro u T' v1 v4 o5 hm a0 a1 rp uu u52 vb
        have u2 := UR_K uu 2
        refine B_findRun_120 (RF_of uu.1.1) (by omega) (by omega) ⟨fun c => stop u T' v1 v4 o5 (by omega) a1 rp uu u52 vb, fun c => ?_⟩
        have p1 : v4 < K.1 2 := by omega
        have w8 := UR_T uu (j := v4 + 1548) (i := v4 + 8) (by omega) (by omega) (by omega)
        have w2 := UR_T uu (j := v4 + 1542) (i := v4 + 2) (by omega) (by omega) (by omega)
        have kh := UR_K uu (4 * v4 + 117)
        have k9 := UR_K uu (4 * v4 + 119)
        have ra : raf K T0 n T' := ⟨T, r0, rp⟩
        have is := itD_st (p := v4) hc hK kb vt hn ra
        have ms := meP_st (p := v4) hc hK kb vt hn ra
        have ci := cnP_in (miP (itD K T0 n) (itD K T0 (n + 1)) v4) (K.1 2).toNat
        -- nothing is counted
        have c0 : (itD K T0 n v4 ↔ itD K T0 (n + 1) v4) → ∀ v1' v5, (∀ b, 0 ≤ b → b < 32 → (bitZ v1' b ↔ b < K.1 2 ∧ miP (meP K T0 n) (meP K T0 (n + 1)) (v4 + 1) b)) → Rn xs xl e mm_findRun 120 [some (.inr (.inr 182)), some (.inl v1'), some (.inl 1), some (.inl (T 0)), some (.inl (v4 + 1)), some (.inl v5)] [] (wr u 182 52 (w32 (rd u 182 52 + 0))) Q := fun hq v1' v5 vb' => by
          have iu : i32 (rd u 182 52 + 0) := by unfold i32; omega
          rw [w32_id iu]
          refine im _ T' v1' (v4 + 1) _ (by omega) (by omega) (by omega) rp (UR_52 uu iu) ?_ vb'
          rw [rdw_eq, Int.add_zero, u52]
          exact cnP_ext _ (fun b _ _ => (miP_same hq b).symm)
        have c1 : itD K T0 (n + 1) v4 → ¬ itD K T0 n v4 → ∀ v1' v5, (∀ b, 0 ≤ b → b < 32 → (bitZ v1' b ↔ b < K.1 2 ∧ miP (meP K T0 n) (meP K T0 (n + 1)) (v4 + 1) b)) → Rn xs xl e mm_findRun 120 [some (.inr (.inr 182)), some (.inl v1'), some (.inl 1), some (.inl (T 0)), some (.inl (v4 + 1)), some (.inl v5)] [] (wr u 182 52 (w32 (rd u 182 52 + 1))) Q := fun hy hn' v1' v5 vb' => by
          have iu : i32 (rd u 182 52 + 1) := by unfold i32; omega
          rw [w32_id iu]
          refine im _ T' v1' (v4 + 1) _ (by omega) (by omega) (by omega) rp (UR_52 uu iu) ?_ vb'
          rw [rdw_eq, u52, cnP_up (P := miP (itD K T0 n) (itD K T0 (n + 1)) v4) (p := v4) (fun b hb => miP_o hb) (miP_p1.mpr hy) (fun y => hn' (miP_p.mp y)), if_pos (show 0 ≤ v4 ∧ v4 < (((K.1 2).toNat : Nat) : Int) by omega)]
        have no : ¬ hdT K T' v4 → ∀ b, 0 ≤ b → b < 32 → (bitZ (zor v1 0) b ↔ b < K.1 2 ∧ miP (meP K T0 n) (meP K T0 (n + 1)) (v4 + 1) b) := fun z b b0 b1 => by
          rw [bit_or b0 b1, vb b b0 b1, miP_same (show meP K T0 n v4 ↔ meP K T0 (n + 1) v4 by rw [ms]; exact ⟨Or.inl, fun y => y.elim (fun y => y) (fun y => absurd y z)⟩) b]
          exact ⟨fun y => y.elim (fun y => y) (fun y => absurd y bit_zero), Or.inl⟩
        have yes : hdT K T' v4 → ∀ b, 0 ≤ b → b < 32 → (bitZ (zor v1 (zshl 1 v4)) b ↔ b < K.1 2 ∧ miP (meP K T0 n) (meP K T0 (n + 1)) (v4 + 1) b) := fun z b b0 b1 => by
          rw [bit_or b0 b1, bit_shl a0 (by omega) b0 b1, vb b b0 b1]
          by_cases t : b = v4
          · subst t
            rw [miP_p1, ms]
            exact ⟨fun _ => ⟨p1, Or.inr z⟩, fun _ => Or.inr rfl⟩
          · rw [miP_o t]
            exact ⟨fun y => y.elim (fun y => y) (fun y => absurd y t), Or.inl⟩
        have n0 : ¬ hdT K T' v4 → Rn xs xl e mm_findRun 172 [some (.inr (.inr 182)), some (.inl v1), some (.inl 1), some (.inl (T 0)), some (.inl v4), some (.inl 0)] [] u Q := fun z => B_findRun_172 (RF_of uu.1.1) (by omega) (by omega) ⟨fun _ => c0 (by rw [is]; exact ⟨Or.inl, fun y => y.elim (fun y => y) (fun y => absurd y.2 z)⟩) _ 0 (no z), fun y => absurd rfl y⟩
        refine ⟨fun y => n0 (fun t => y (w8.trans t.1)), fun y => ⟨fun z => n0 (fun t => z (by rw [w2, kh]; exact t.2)), fun z => ?_⟩⟩
        have hd : hdT K T' v4 := ⟨by rw [← w8]; exact y, by rw [← w2, ← kh]; exact z⟩
        have vm := vb v4 a0 (by omega)
        rw [miP_p] at vm
        refine B_findRun_172 (RF_of uu.1.1) (by omega) (by omega) ⟨fun z => by omega, fun _ => ⟨fun c2 => ⟨fun c3 => ?_, fun c3 => ?_⟩, fun c2 => ?_⟩⟩
        · rw [k9] at c3
          exact c0 (by rw [is]; exact ⟨Or.inl, fun y => y.elim (fun y => y) (fun y => by omega)⟩) _ 1 (yes hd)
        · rw [k9] at c3
          have le : T0 0 + n ≤ K.1 (4 * v4 + 119) := by omega
          exact c1 (is.mpr (Or.inr ⟨le, hd⟩)) (fun y => c2 (vm.mpr ⟨p1, (itD_me le).mp y⟩)) _ 1 (yes hd)
        · refine c0 (by rw [is]; exact ⟨Or.inl, fun y => y.elim (fun y => y) (fun y => (itD_me y.1).mpr (vm.mp c2).2)⟩) _ 1 (yes hd)
    have l35 : ∀ (m : Nat) (u : LH) (T' : Int → Int) (v4 : Int) (o5 : Option LV), K.1 2 - v4 ≤ m → 0 ≤ v4 → v4 ≤ K.1 2 → rps K T v4.toNat T' → UR g u K T' → rd u 182 52 = cnP (itD K T0 n) (K.1 2).toNat → Rn xs xl e mm_findRun 35 [some (.inr (.inr 182)), some (.inl v1), some (.inl 1), some (.inl (T 0)), some (.inl v4), o5] [] u Q := by
      intro m
      have stop : ∀ (u : LH) (T' : Int → Int) (v4 : Int) (o5 : Option LV), K.1 2 ≤ v4 → v4 ≤ K.1 2 → rps K T v4.toNat T' → UR g u K T' → rd u 182 52 = cnP (itD K T0 n) (K.1 2).toNat → Rn xs xl e mm_findRun 117 [some (.inr (.inr 182)), some (.inl v1), some (.inl 1), some (.inl (T 0)), some (.inl v4), o5] [] u Q := by
        intro u T' v4 o5 a0 a1 rp uu u52
        rw [show v4 = K.1 2 by omega] at rp
        refine B_findRun_117 (RF_of uu.1.1) (l120 (K.1 2).toNat u T' v1 0 o5 (by omega) (by omega) (by omega) rp uu ?_ (fun b b0 b1 => ?_))
        · rw [u52, miP_0]
        · rw [vb b b0 b1]
          unfold miP
          exact ⟨fun y => ⟨y.1, Or.inr ⟨b0, y.2⟩⟩, fun y => ⟨y.1, y.2.elim (fun z => by omega) (fun y => y.2)⟩⟩
      induction m with
      | zero =>
        intro u T' v4 o5 hm a0 a1 rp uu u52
        have u2 := UR_K uu 2
        exact B_findRun_35 (RF_of uu.1.1) (by omega) (by omega) ⟨fun _ => stop u T' v4 o5 (by omega) a1 rp uu u52, fun c => by omega⟩
      | succ m im =>
        intro u T' v4 o5 hm a0 a1 rp uu u52
        have u2 := UR_K uu 2
        refine B_findRun_35 (RF_of uu.1.1) (by omega) (by omega) ⟨fun c => stop u T' v4 o5 (by omega) a1 rp uu u52, fun c => ?_⟩
        have p1 : v4 < K.1 2 := by omega
        have rw' := rps_VT hc hK rv.1 _ T' (by omega) rp
        have kb4 := kb v4 a0 p1
        have sb := SB_T rw'.1 hK ⟨a0, p1⟩
        have v4b := rw'.1.2.1 v4 a0 p1
        have en : (v4 + 1).toNat = v4.toNat + 1 := by omega
        have nxt : ∀ (w : LH) (T2 : Int → Int) (v5 : Int), rgo K T' v4 T2 → UR g w K T2 → rd w 182 52 = rd u 182 52 → Rn xs xl e mm_findRun 35 [some (.inr (.inr 182)), some (.inl v1), some (.inl 1), some (.inl (T 0)), some (.inl (v4 + 1)), some (.inl v5)] [] w Q := fun w T2 v5 rg ww w52 => im w T2 (v4 + 1) _ (by omega) (by omega) (by omega) (by rw [en]; exact ⟨T', rp, by rw [Int.toNat_of_nonneg a0]; exact rg⟩) ww (w52.trans u52)
        have stay : ∀ (w : LH), rgo K T' v4 T' → UR g w K T' → rd w 182 52 = rd u 182 52 → Rn xs xl e mm_findRun 90 [some (.inr (.inr 182)), some (.inl v1), some (.inl 1), some (.inl (T 0)), some (.inl v4), some (.inl 0)] [] w Q := fun w rg ww w52 => B_findRun_90 (RF_of ww.1.1) (by omega) ⟨fun _ => nxt w T' 0 rg ww w52, fun z => absurd rfl z⟩
        have w14 := UR_T uu (j := v4 + 1554) (i := v4 + 14) (by omega) (by omega) (by omega)
        refine ⟨fun y => stay u (rgo_24 (by have := rw'.2; omega) sb kb4) uu rfl, fun y => ⟨fun z => stay u (Or.inl ⟨by omega, rfl⟩) uu rfl, fun z => ⟨8, by omega, ?_⟩⟩⟩
        have nt : T' (v4 + 14) ≠ 1 := by omega
        have S0 := UR_T uu (j := 1540) (i := 0) (by omega) (by omega) (by omega)
        have S1 := UR_T uu (j := 1540 + 1) (i := 1) (by omega) (by omega) (by omega)
        have S2 := UR_T uu (j := 1540 + v4 + 2) (i := v4 + 2) (by omega) (by omega) (by omega)
        have S8 := UR_T uu (j := 1540 + v4 + 8) (i := v4 + 8) (by omega) (by omega) (by omega)
        have S14 := UR_T uu (j := 1540 + v4 + 14) (i := v4 + 14) (by omega) (by omega) (by omega)
        have Z2 : 0 + v4 + 2 = v4 + 2 := by omega
        have Z8 : 0 + v4 + 8 = v4 + 8 := by omega
        have Z14 : 0 + v4 + 14 = v4 + 14 := by omega
        refine G_findWayX (Nat.le_refl 8) (K := K) (S := rd u 198) ⟨uu.1, uu.2.2.1, rfl⟩ (by decide) (by decide) (by omega) (by rw [S2]; exact v4b.1.2) (fun r w l wc wf ht ew el li => ?_)
        have ht0 : FHr K T' 0 v4 (zshl 1 (K.1 (4 * v4 + 117) + 10)) r := (FHr_congr (b := 1540) (b' := 0) S0 S1 (by rw [S2, Z2]) (by rw [S8, Z8]) (by rw [S14, Z14])).mp ht
        have ew0 : errW K T' 0 v4 r l := errW_congr (b := 1540) (b' := 0) S0 S1 (by rw [S2, Z2]) (by rw [S8, Z8]) (by rw [S14, Z14]) ew
        have ww : UR g w K T' := ⟨wc.1, fun a i m1 m2 m3 m4 m5 m6 => (wf a i m1 m2 m3 m4 (by omega)).trans (uu.2.1 a i m1 m2 m3 m4 m5 m6), wc.2.1, fun i i0 i1 => by rw [wc.2.2]; exact uu.2.2.2 i i0 i1⟩
        have w52 : rd w 182 52 = rd u 182 52 := wf 182 52 (by decide) (by decide) (by decide) (by decide) (by omega)
        have nil : l = [] → rgo K T' v4 T' := fun z => by
          rw [z] at ew0
          exact Or.inr ⟨nt, r, [], ht0, ew0, rfl⟩
        refine B_findRun_73 (RF_of wc.1.1) ⟨fun c3 => stay w (nil ?_) ww w52, fun c3 => ⟨fun c4 => stay w (nil ?_) ww w52, fun c4 => ?_⟩⟩
        · rcases ew0 with t | ⟨⟨t, _⟩, _⟩
          · exact t.2
          · omega
        · cases l with
          | nil => rfl
          | cons d l =>
            have : ((d :: l).length : Int) = (l.length : Int) + 1 := rfl
            omega
        · cases l with
          | nil =>
            have : (([] : List Int).length : Int) = 0 := rfl
            omega
          | cons d l =>
            have dd := errW_hd ew0
            have k1 := hK.2.1
            have ed : rd w 202 0 = d := li 0 (by show 0 < l.length + 1; omega)
            have gw := goF_T (d := d) ww ⟨a0, by omega⟩ ⟨dd.1, by omega⟩
            have gi := goV_in (d := d) hc hK ⟨a0, p1⟩ dd.1 dd.2 rw'.1
            have vd := rw'.1.2.2 d dd.1 (by omega)
            have cd := UR_T ww (j := 1540 + d + 20) (i := d + 20) (by omega) (by omega) (by omega)
            refine B_findRun_90 (RF_of wc.1.1) (by omega) ⟨fun z => absurd z (by decide), fun _ => ⟨5, by omega, ?_⟩⟩
            rw [ed]
            refine G_goesI (Nat.le_refl 5) wc.1 (Or.inr (Or.inr rfl)) ⟨a0, by omega⟩ ⟨dd.1, by omega⟩ (fun z => absurd z (by decide)) (by omega) (fun z x xI xf => ?_) (fun z x xI xg => ?_)
            · rw [gw] at z
              refine B_findRun_110 (RF_of xI.1) (by omega) (nxt x T' 1 (Or.inr ⟨nt, r, d :: l, ht0, ew0, by rw [aft_c, if_pos (by omega)]⟩) ?_ ((xf 182 52 (by decide) (by decide)).trans w52))
              refine ⟨xI, fun a i m1 m2 m3 m4 m5 m6 => (xf a i m1 m2).trans (ww.2.1 a i m1 m2 m3 m4 m5 m6), ?_, fun i i0 i1 => ?_⟩
              · rw [← ww.2.2.1]
                exact key_frs (fun a i _ _ => xf a i (by omega) (by omega)) (fun i _ _ => xf 182 i (by decide) (by decide))
              · rw [xf 198 _ (by decide) (by decide)]
                exact ww.2.2.2 i i0 i1
            · rw [gw] at z xg
              exact B_findRun_110 (RF_of xI.1) (by omega) (nxt x (wT K T' v4 d (goV K T' v4 d)) 1 (Or.inr ⟨nt, r, d :: l, ht0, ew0, by rw [aft_c, if_neg (by omega)]⟩) (UR_gone ww ⟨a0, by omega⟩ ⟨dd.1, by omega⟩ xI xg) ((xg.2.2.2.2 182 52 (by decide) (by decide) (by omega)).trans w52))
    refine B_findRun_19 (RF_of uu.1.1) ⟨fun z => absurd z (by decide), fun _ => ?_⟩
    rw [UR_T uu (j := 1540) (i := 0) (by omega) (by omega) (by omega)]
    exact l35 (K.1 2).toNat u T 0 _ (by omega) (by omega) (by omega) rfl uu u52
  have outer : ∀ (m : Nat) (u : LH) (n : Nat) (T : Int → Int) (v1 : Int) (o3 o4 o5 : Option LV), 24 - (T0 0 + n) ≤ m → T0 0 + n ≤ 24 → rdy K T0 n T → UR g u K T → rd u 182 52 = cnP (itD K T0 n) (K.1 2).toNat → (∀ b, 0 ≤ b → b < 32 → (bitZ v1 b ↔ b < K.1 2 ∧ meP K T0 n b)) → Rn xs xl e mm_findRun 19 [some (.inr (.inr 182)), some (.inl v1), some (.inl 1), o3, o4, o5] [] u Q := by
    intro m
    induction m with
    | zero =>
      intro u n T v1 o3 o4 o5 hm hn r0 uu u52 vb
      exact body u n T v1 o3 o4 o5 hn r0 uu u52 vb (fun _ _ _ _ _ _ c => by omega)
    | succ m im =>
      intro u n T v1 o3 o4 o5 hm hn r0 uu u52 vb
      exact body u n T v1 o3 o4 o5 hn r0 uu u52 vb (fun u T v1 o3 o4 o5 c r0 uu u52 vb => im u (n + 1) T v1 o3 o4 o5 (by omega) (by omega) r0 uu u52 vb)
  refine B_findRun_0 (RF_of hI.1) ⟨0, by omega, D_copies hI.1 (by omega) (by omega) (by omega) (fun u ur uf uc => ?_)⟩
  have uI : INV u := INV_far hI ur (fun a i n _ _ => uf a i (by omega))
  have uu : UR g u K T0 := ⟨uI, fun a i _ _ _ _ n _ => uf a i (by omega), by rw [← eK]; exact key_frs (fun a i _ _ => uf a i (by omega)) (fun i _ _ => uf 182 i (by omega)), fun i i0 i1 => by
    rw [uc i i0 i1, Int.zero_add]
    exact e0 i i0 i1⟩
  have z0 : ∀ N : Nat, cnP (itD K T0 0) N = 0 := fun N => by
    induction N with
    | zero => rfl
    | succ N ih =>
      show cnP (itD K T0 0) N + @ite Int _ (Classical.propDecidable _) 1 0 = 0
      rw [ih, if_neg]
      · rfl
      · rintro ⟨j, _, hj, _⟩
        omega
  refine B_findRun_10 (RF_of ur) (outer 24 _ 0 T0 0 _ _ _ (by omega) (by omega) rfl (UR_52 uu (by unfold i32; omega)) (by rw [rdw_eq, z0]) (fun b b0 b1 => ⟨fun y => absurd y bit_zero, fun y => ?_⟩))
  obtain ⟨j, _, hj, _⟩ := y.2
  omega
theorem G_runS (he : 11 ≤ e) (hI : INV h) (hE : EQL h) (gI : INV g) (hj : runJ v1 h g r) (k : ∀ g', INV g' → EQL g' → Q (some (.inl r)) g') : Rn xs xl e mm_run 0 [some (.inr (.inr 182)), some (.inl v1)] [] g Q := by
  obtain ⟨sm, hr⟩ := hj
  have fs : ∀ a i, (a < 68 ∨ 79 < a) → rd g a i = rd h a i := fun a i c => sm a i (by omega) (by omega) (by omega) (by unfold scp; omega)
  have EG : EQL g := EQL_fr hI hE (fs 2 0 (by omega)) (fs 182 2 (by omega)) (fun a i ha => by
    obtain ⟨y1, -⟩ := inK_p ha
    exact sm a i (by omega) (by omega) (by omega) (by unfold scp; omega))
  have ek : key g = key h := key_frs (fun a i _ _ => fs a i (by omega)) (fun i _ _ => fs 182 i (by omega))
  have e8 : rd g 198 = rd h 198 := funext (fun i => fs 198 i (by omega))
  rw [← ek, ← e8] at hr
  obtain ⟨L, hc⟩ := CXq_of gI EG
  have hK := KR_of gI
  have n2 := rq_people gI.1
  have k5 := EG.2.2.2.2.2.2.2.2.2.2.2.1
  have w : WC (key g) (rd g 198) g := ⟨gI, rfl, rfl⟩
  have vt := VT_of gI k5
  have kb : ∀ p, 0 ≤ p → p < (key g).1 2 → KB (key g) p := fun p p0 p1 => KB_of w (by
    have p1' : p < rd g 188 2 := p1
    omega)
  have i0 : INV (wr g 182 0 0) := wF_thrown gI (by omega) (by omega)
  have k0 : key (wr g 182 0 0) = key g := key_frs (fun a i _ _ => rdw_ne (by omega)) (fun i _ _ => rdw_nei (by omega))
  refine B_run_0 (RF_of gI.1) ⟨9, by omega, G_findRun (Nat.le_refl 9) i0 hc k0 hK kb (T0 := rd g 198) (fun i _ _ => rdw_ne (by decide)) vt (fun u T uI uf u52 ra u53 => ?_)⟩
  have uE : EQL u := EQL_fr gI EG ((uf 2 0 (by decide) (by decide) (by decide) (by decide) (by omega) (by omega)).trans (rdw_ne (by decide))) ((uf 182 2 (by decide) (by decide) (by decide) (by decide) (by omega) (by omega)).trans (rdw_nei (by decide))) (fun a i ha => by
    obtain ⟨y1, y2, y3, -⟩ := inK_p ha
    exact (uf a i (by omega) (by omega) (by omega) (by omega) (by omega) (by omega)).trans (by rw [rd_wr, if_neg (by omega)]))
  have uk : ∀ x, x = r → Q (some (.inl x)) u := fun x ex => by
    rw [ex]
    exact k u uI uE
  refine B_run_9 (RF_of uI.1) ⟨fun c => ⟨fun c2 => uk _ ?_, fun c2 => uk _ ?_⟩, fun c => uk _ ?_⟩
  · rcases hr with ⟨y, _⟩ | ⟨y, _⟩ | ⟨_, _, y⟩
    · exact absurd y c
    · exact absurd y c2
    · exact y.symm
  · rcases hr with ⟨y, _⟩ | ⟨_, T', ra', y⟩ | ⟨_, y, _⟩
    · exact absurd y c
    · rw [y, u53, raf_one hc hK kb vt (by have := vt.1; omega) ra' ra]
    · exact absurd c2 y
  · rcases hr with ⟨_, y⟩ | ⟨y, _⟩ | ⟨y, _⟩
    · rw [y, u52]
    · omega
    · exact absurd c y
end RE
end
section
/-! chase, part x2: the class's chase -/
/-- what the class has caught -/
def CHs (h : LH) (n : Int) (T : (Int → Int → Prop) × (Int → Int → Prop)) : Prop := ∀ a, 0 ≤ a → a < n → (i32 (rd h 81 a) ∧ ∀ b, 0 ≤ b → b < 32 → (bitZ (rd h 81 a) b ↔ b < n ∧ T.1 a b)) ∧ i32 (rd h 82 a) ∧ ∀ b, 0 ≤ b → b < 32 → (bitZ (rd h 82 a) b ↔ b < n ∧ T.2 a b)
def smA (E : Int → Int → Prop) (n : Int) (m : Nat) (a : Int) : Prop := ∀ b, 0 ≤ b → b < n → ((chT E n (m + 1)).1 a b ↔ (chT E n m).1 a b) ∧ ((chT E n (m + 1)).2 a b ↔ (chT E n m).2 a b)
def flg (E : Int → Int → Prop) (n : Int) (m : Nat) (v c : Int) : Prop := (v = 0 ∧ ∀ a, 0 ≤ a → a < c → smA E n m a) ∨ (v = 1 ∧ ∃ a, 0 ≤ a ∧ a < c ∧ ¬ smA E n m a)
def chE (K : KEY) (hr sh a b : Int) : Prop := hr < 24 ∧ 0 ≤ b ∧ eL K 0 hr sh 0 a b
theorem bit_m1 {b : Int} (b0 : 0 ≤ b) (b1 : b < 32) : bitZ (-1) b := by
  have := bit_not (a := 0) b0 b1
  rw [show zxor 0 (-1) = -1 by decide] at this
  exact this.mpr bit_zero
section XB
variable {xs : Nat → Int} {xl e : Nat} {h g u : LH} {Q : Option LV → LH → Prop} {E : Int → Int → Prop} {K : KEY} {L : List Int} {q n a b c r v x y v1 v2 v3 v4 v5 A B R : Int} {m : Nat} {T T' : Int → Prop}
theorem ent_one (hK : KR K) (v0 : 0 ≤ v ∧ v ≤ 9) : (∃ d, 0 ≤ d ∧ d < K.1 1 ∧ entD K A B (zshl 1 v) b d) ↔ EE K A B v b := by
  have k0 := hK.1
  rw [ent_EE]
  constructor
  · rintro ⟨a, ra, ee⟩
    have i := EE_in hK ee
    rw [bit_shl v0.1 (by omega) i.1.1 (by omega)] at ra
    rw [ra] at ee
    exact ee
  · intro ee
    exact ⟨v, (bit_shl v0.1 (by omega) v0.1 (by omega)).mpr rfl, ee⟩
theorem sm_int (hn : n ≤ 10) (xi : i32 x) (yi : i32 y) (bx : ∀ b, 0 ≤ b → b < 32 → (bitZ x b ↔ b < n ∧ T' b)) (bY : ∀ b, 0 ≤ b → b < 32 → (bitZ y b ↔ b < n ∧ T b)) : x = y ↔ ∀ b, 0 ≤ b → b < n → (T' b ↔ T b) := by
  constructor
  · intro z b b0 b1
    have p := bx b b0 (by omega)
    rw [z, bY b b0 (by omega)] at p
    exact ⟨fun t => (p.mpr ⟨b1, t⟩).2, fun t => (p.mp ⟨b1, t⟩).2⟩
  · intro z
    refine bit_ext xi yi (fun b b0 b1 => ?_)
    rw [bx b b0 b1, bY b b0 b1]
    exact ⟨fun t => ⟨t.1, (z b b0 t.1).mp t.2⟩, fun t => ⟨t.1, (z b b0 t.1).mpr t.2⟩⟩
theorem flg_same (hf : flg E n m v c) (s : smA E n m c) : flg E n m (zor v 0) (c + 1) := by
  rcases hf with ⟨rfl, z⟩ | ⟨rfl, a, a0, a1, z⟩
  · refine Or.inl ⟨by decide, fun a a0 a1 => ?_⟩
    by_cases t : a = c
    · rw [t]
      exact s
    · exact z a a0 (by omega)
  · exact Or.inr ⟨by decide, a, a0, by omega, z⟩
theorem flg_diff (c0 : 0 ≤ c) (hf : flg E n m v c) (s : ¬ smA E n m c) : flg E n m (zor v 1) (c + 1) := by
  refine Or.inr ⟨?_, c, c0, by omega, s⟩
  rcases hf with ⟨rfl, z⟩ | ⟨rfl, z⟩ <;> decide
theorem F_growCaught (he : 2 ≤ e) (hc : CXq h K q L) (hK : KR K) (hE : ∀ a b, EE K v2 v3 a b ↔ E a b) (cs : CHs h (K.1 0) (chT E (K.1 0) m)) (k : ∀ r g, ((r = 0 ∧ stb E (K.1 0) m) ∨ (r = 1 ∧ ¬ stb E (K.1 0) m)) → CHs g (K.1 0) (chT E (K.1 0) (m + 1)) → RF g → (∀ a i, a ≠ 81 → a ≠ 82 → a ≠ 83 → rd g a i = rd h a i) → Q (some (.inl r)) g) : Rn xs xl e mm_Web_growCaught 0 [some (.inr (.inr 80)), some (.inr (.inr q)), some (.inl v2), some (.inl v3), none, none, none, none] [] h Q := by
  obtain ⟨hF, -, hq, -⟩ := id hc
  have k0 := hK.1
  have eIn : ∀ a b, E a b → (0 ≤ a ∧ a < K.1 0) ∧ 0 ≤ b ∧ b < K.1 0 := fun a b z => EE_in hK ((hE a b).mpr z)
  have cx : ∀ g, RF g → (∀ a i, a ≠ 81 → a ≠ 82 → a ≠ 83 → rd g a i = rd h a i) → CXq g K q L := fun g gF gf => CXq_fr hc hK gF (fun a i ha => gf a i (by omega) (by omega) (by omega))
  have nr : ∀ c : Int, (RGL[c.toNat]?).all (fun L => L.all (fun q => decide (q.1 ≠ 2))) = true → ∀ g i v, RF g → RF (wr g c i v) := fun c hc g i v gF => RF_wn (hav_nr hc i) gF
  have w83 := nr 83 (by decide +kernel)
  have w82 := nr 82 (by decide +kernel)
  have w81 := nr 81 (by decide +kernel)
  -- the second turn
  have second : ∀ (fuel : Nat) (g : LH) (v4 v5 : Int) (o6 o7 : Option LV), K.1 0 - v5 ≤ fuel → 0 ≤ v5 → v5 ≤ K.1 0 → RF g → (∀ a i, a ≠ 81 → a ≠ 82 → a ≠ 83 → rd g a i = rd h a i) → (∀ a, 0 ≤ a → a < K.1 0 → i32 (rd g 83 a) ∧ ∀ b, 0 ≤ b → b < 32 → (bitZ (rd g 83 a) b ↔ b < K.1 0 ∧ (chT E (K.1 0) (m + 1)).1 a b)) → (∀ a, 0 ≤ a → a < v5 → (i32 (rd g 81 a) ∧ ∀ b, 0 ≤ b → b < 32 → (bitZ (rd g 81 a) b ↔ b < K.1 0 ∧ (chT E (K.1 0) (m + 1)).1 a b)) ∧ i32 (rd g 82 a) ∧ ∀ b, 0 ≤ b → b < 32 → (bitZ (rd g 82 a) b ↔ b < K.1 0 ∧ (chT E (K.1 0) (m + 1)).2 a b)) → (∀ a, v5 ≤ a → rd g 81 a = rd h 81 a ∧ rd g 82 a = rd h 82 a) → flg E (K.1 0) m v4 v5 → Rn xs xl e mm_Web_growCaught 102 [some (.inr (.inr 80)), some (.inr (.inr q)), some (.inl v2), some (.inl v3), some (.inl v4), some (.inl v5), o6, o7] [] g Q := by
    intro fuel
    have stop : ∀ (g : LH) (v4 v5 : Int), K.1 0 ≤ v5 → v5 ≤ K.1 0 → RF g → (∀ a i, a ≠ 81 → a ≠ 82 → a ≠ 83 → rd g a i = rd h a i) → (∀ a, 0 ≤ a → a < v5 → (i32 (rd g 81 a) ∧ ∀ b, 0 ≤ b → b < 32 → (bitZ (rd g 81 a) b ↔ b < K.1 0 ∧ (chT E (K.1 0) (m + 1)).1 a b)) ∧ i32 (rd g 82 a) ∧ ∀ b, 0 ≤ b → b < 32 → (bitZ (rd g 82 a) b ↔ b < K.1 0 ∧ (chT E (K.1 0) (m + 1)).2 a b)) → flg E (K.1 0) m v4 v5 → (v4 = 0 ∨ v4 = 1) ∧ Q (some (.inl v4)) g := fun g v4 v5 a c gF gf new hf => by
      have ev : v5 = K.1 0 := by omega
      rw [ev] at new hf
      refine ⟨hf.elim (fun z => Or.inl z.1) (fun z => Or.inr z.1), k v4 g ?_ (fun a a0 a1 => new a a0 a1) gF gf⟩
      rcases hf with ⟨z1, z2⟩ | ⟨z1, a, a0, a1, z2⟩
      · exact Or.inl ⟨z1, fun a b a0 a1 b0 b1 => z2 a a0 a1 b b0 b1⟩
      · exact Or.inr ⟨z1, fun s => z2 (fun b b0 b1 => s a b a0 a1 b0 b1)⟩
    induction fuel with
    | zero =>
      intro g v4 v5 o6 o7 hn a0 a1 gF gf n3 new old hf
      have gc := cx g gF gf
      have gx : rd g q 0 = K.1 0 := gc.2.2.2.2.1.1
      exact B_Web_growCaught_102 hq gF (by omega) ⟨fun c => stop g v4 v5 (by omega) a1 gF gf new hf, fun c => by omega⟩
    | succ fuel ih =>
      intro g v4 v5 o6 o7 hn a0 a1 gF gf n3 new old hf
      have gc := cx g gF gf
      have gx : rd g q 0 = K.1 0 := gc.2.2.2.2.1.1
      refine B_Web_growCaught_102 hq gF (by omega) ⟨fun c => stop g v4 v5 (by omega) a1 gF gf new hf, fun c => ⟨by omega, by omega, 1, by omega, ?_⟩⟩
      have p1 : v5 < K.1 0 := by omega
      obtain ⟨o1, o2⟩ := old v5 (Int.le_refl _)
      obtain ⟨⟨i1, b1⟩, i2, b2⟩ := cs v5 a0 p1
      obtain ⟨i3, b3⟩ := n3 v5 a0 p1
      refine F_entered gc hK (fun w wi wb => ?_)
      -- the rooms near to those of the thief's
      have near : ∀ b, 0 ≤ b → b < 32 → (bitZ (zor (rd g 81 v5) w) b ↔ b < K.1 0 ∧ (chT E (K.1 0) (m + 1)).2 v5 b) := fun b b0 b1' => by
        rw [bit_or b0 b1', wb b b0 b1', ent_EE, o1, b1 b b0 b1']
        constructor
        · rintro (⟨z1, z2⟩ | ⟨a, z1, z2⟩)
          · exact ⟨z1, b, b0, z1, Or.inl rfl, z2⟩
          · have ee := (hE b a).mp (EE_flip.mp z2)
            have i := eIn b a ee
            rw [b1 a i.2.1 (by omega)] at z1
            exact ⟨i.1.2, a, i.2.1, i.2.2, Or.inr ee, z1.2⟩
        · rintro ⟨z1, r, r0, r1, z2, z3⟩
          rcases z2 with rfl | z2
          · exact Or.inl ⟨z1, z3⟩
          · exact Or.inr ⟨r, (b1 r r0 (by omega)).mpr ⟨r1, z3⟩, EE_flip.mpr ((hE b r).mpr z2)⟩
      have ni : i32 (zor (rd g 81 v5) w) := zor_i _ _
      have g2 : zor (rd g 81 v5) w = rd g 82 v5 ↔ ∀ b, 0 ≤ b → b < K.1 0 → ((chT E (K.1 0) (m + 1)).2 v5 b ↔ (chT E (K.1 0) m).2 v5 b) := by
        rw [o2]
        exact sm_int (by omega) ni i2 near b2
      have g3 : rd g 83 v5 = rd g 81 v5 ↔ ∀ b, 0 ≤ b → b < K.1 0 → ((chT E (K.1 0) (m + 1)).1 v5 b ↔ (chT E (K.1 0) m).1 v5 b) := by
        rw [o1]
        exact sm_int (by omega) i3 i1 b3 b1
      refine B_Web_growCaught_131 hq gF (by omega) ?_
      generalize zor (rd g 81 v5) w = nw at *
      have s173 : ∀ (f : Int) (o7 : Option LV), flg E (K.1 0) m f (v5 + 1) → Rn xs xl e mm_Web_growCaught 173 [some (.inr (.inr 80)), some (.inr (.inr q)), some (.inl v2), some (.inl v3), some (.inl f), some (.inl v5), some (.inl nw), o7] [] g Q := fun f o7 ff => by
        refine B_Web_growCaught_173 hq gF (by omega) (ih _ f (v5 + 1) _ _ (by omega) (by omega) (by omega) (w81 _ _ _ (w82 _ _ _ gF)) (fun a i n1 n2 n3 => ?_) (fun a c0 c1 => ?_) (fun a c0 c1 => ?_) (fun a c0 => ?_) ff)
        · rw [rdw_ne (fun z => n1 z.symm), rdw_ne (fun z => n2 z.symm)]
          exact gf a i n1 n2 n3
        · rw [rdw_ne (by decide), rdw_ne (by decide)]
          exact n3 a c0 c1
        · by_cases z : a = v5
          · rw [z]
            refine ⟨?_, ?_⟩
            · rw [rdw_eq]
              exact n3 v5 a0 p1
            · rw [rdw_ne (by decide), rdw_eq]
              exact ⟨ni, near⟩
          · rw [rdw_nei (by omega), rdw_ne (by decide), rdw_ne (by decide), rdw_nei (by omega)]
            exact new a c0 (by omega)
        · rw [rdw_nei (by omega), rdw_ne (by decide), rdw_ne (by decide), rdw_nei (by omega)]
          exact old a (by omega)
      exact ⟨fun z => s173 _ _ (flg_diff a0 hf (fun s => z (g2.mpr (fun b b0 b1 => (s b b0 b1).2)))), fun z => ⟨fun y => s173 _ _ (flg_same hf (fun b b0 b1 => ⟨g3.mp y b b0 b1, g2.mp z b b0 b1⟩)), fun y => s173 _ _ (flg_diff a0 hf (fun s => y (g3.mpr (fun b b0 b1 => (s b b0 b1).1))))⟩⟩
  -- the first turn
  have first : ∀ (fuel : Nat) (g : LH) (v4 : Int) (o5 o6 o7 : Option LV), K.1 0 - v4 ≤ fuel → 0 ≤ v4 → v4 ≤ K.1 0 → RF g → (∀ a i, a ≠ 83 → rd g a i = rd h a i) → (∀ a, 0 ≤ a → a < v4 → i32 (rd g 83 a) ∧ ∀ b, 0 ≤ b → b < 32 → (bitZ (rd g 83 a) b ↔ b < K.1 0 ∧ (chT E (K.1 0) (m + 1)).1 a b)) → Rn xs xl e mm_Web_growCaught 3 [some (.inr (.inr 80)), some (.inr (.inr q)), some (.inl v2), some (.inl v3), some (.inl v4), o5, o6, o7] [] g Q := by
    intro fuel
    have stop : ∀ (g : LH) (v4 : Int) (o6 o7 : Option LV), K.1 0 ≤ v4 → v4 ≤ K.1 0 → RF g → (∀ a i, a ≠ 83 → rd g a i = rd h a i) → (∀ a, 0 ≤ a → a < v4 → i32 (rd g 83 a) ∧ ∀ b, 0 ≤ b → b < 32 → (bitZ (rd g 83 a) b ↔ b < K.1 0 ∧ (chT E (K.1 0) (m + 1)).1 a b)) → Rn xs xl e mm_Web_growCaught 102 [some (.inr (.inr 80)), some (.inr (.inr q)), some (.inl v2), some (.inl v3), some (.inl 0), some (.inl 0), o6, o7] [] g Q := fun g v4 o6 o7 a c gF gf n3 =>
      second (K.1 0).toNat g 0 0 o6 o7 (by omega) (by omega) (by omega) gF (fun a i _ _ x => gf a i x) (fun a a0 a1 => n3 a a0 (by omega)) (fun a a0 a1 => by omega) (fun a _ => ⟨gf 81 a (by decide), gf 82 a (by decide)⟩) (Or.inl ⟨rfl, fun a a0 a1 => by omega⟩)
    induction fuel with
    | zero =>
      intro g v4 o5 o6 o7 hn a0 a1 gF gf n3
      have gc := cx g gF (fun a i _ _ x => gf a i x)
      have gx : rd g q 0 = K.1 0 := gc.2.2.2.2.1.1
      exact B_Web_growCaught_3 hq gF (by omega) ⟨fun c => stop g v4 o6 o7 (by omega) a1 gF gf n3, fun c => by omega⟩
    | succ fuel ih =>
      intro g v4 o5 o6 o7 hn a0 a1 gF gf n3
      have gc := cx g gF (fun a i _ _ x => gf a i x)
      have gx : rd g q 0 = K.1 0 := gc.2.2.2.2.1.1
      refine B_Web_growCaught_3 hq gF (by omega) ⟨fun c => stop g v4 o6 o7 (by omega) a1 gF gf n3, fun c => ⟨1, by omega, ?_⟩⟩
      have p1 : v4 < K.1 0 := by omega
      refine F_entered gc hK (fun w wi wb => B_Web_growCaught_26 hq gF (by omega) ?_)
      have choice : ∀ r, 0 ≤ r → r < 32 → (bitZ (zor (zshl 1 v4) w) r ↔ r = v4 ∨ E v4 r) := fun r r0 r1 => by
        rw [bit_or r0 r1, bit_shl a0 (by omega) r0 r1, wb r r0 r1, ent_one hK ⟨a0, by omega⟩, hE]
      generalize zor (zshl 1 v4) w = ch at *
      have g82 : ∀ r, rd g 82 r = rd h 82 r := fun r => gf 82 r (by decide)
      have inner : ∀ (fu : Nat) (v6 v7 : Int), K.1 0 - v7 ≤ fu → 0 ≤ v7 → v7 ≤ K.1 0 → (∀ b, 0 ≤ b → b < 32 → (bitZ v6 b ↔ ∀ r, 0 ≤ r → r < v7 → (r = v4 ∨ E v4 r) → bitZ (rd h 82 r) b)) → Rn xs xl e mm_Web_growCaught 35 [some (.inr (.inr 80)), some (.inr (.inr q)), some (.inl v2), some (.inl v3), some (.inl v4), some (.inl ch), some (.inl v6), some (.inl v7)] [] g Q := by
        intro fu
        have out : ∀ (v6 v7 : Int), K.1 0 ≤ v7 → v7 ≤ K.1 0 → (∀ b, 0 ≤ b → b < 32 → (bitZ v6 b ↔ ∀ r, 0 ≤ r → r < v7 → (r = v4 ∨ E v4 r) → bitZ (rd h 82 r) b)) → Rn xs xl e mm_Web_growCaught 76 [some (.inr (.inr 80)), some (.inr (.inr q)), some (.inl v2), some (.inl v3), some (.inl v4), some (.inl ch), some (.inl v6), some (.inl v7)] [] g Q := fun v6 v7 c0 c1 hv => by
          refine B_Web_growCaught_76 hq gF (by omega) (ih _ (v4 + 1) _ _ _ (by omega) (by omega) (by omega) (w83 _ _ _ gF) (fun a i x => by rw [rdw_ne (fun z => x z.symm)]; exact gf a i x) (fun a d0 d1 => ?_))
          by_cases z : a = v4
          · rw [z, rdw_eq]
            refine ⟨zor_i _ _, fun b b0 b1 => ?_⟩
            rw [bit_or b0 b1, bit_shl a0 (by omega) b0 b1, hv b b0 b1]
            constructor
            · rintro (y | y)
              · have yv := y v4 a0 (by omega) (Or.inl rfl)
                have cb := ((cs v4 a0 p1).2.2 b b0 b1).mp yv
                exact ⟨cb.1, Or.inr (fun r r0 r1 hr => (((cs r r0 r1).2.2 b b0 b1).mp (y r r0 (by omega) hr)).2)⟩
              · rw [y]
                exact ⟨p1, Or.inl rfl⟩
            · rintro ⟨y1, y | y⟩
              · exact Or.inr y.symm
              · exact Or.inl (fun r r0 r1 hr => ((cs r r0 (by omega)).2.2 b b0 b1).mpr ⟨y1, y r r0 (by omega) hr⟩)
          · rw [rdw_nei (by omega)]
            exact n3 a d0 (by omega)
        induction fu with
        | zero =>
          intro v6 v7 hn' c0 c1 hv
          exact B_Web_growCaught_35 hq gF (by omega) (by omega) ⟨fun _ => out v6 v7 (by omega) c1 hv, fun x => by omega⟩
        | succ fu jh =>
          intro v6 v7 hn' c0 c1 hv
          refine B_Web_growCaught_35 hq gF (by omega) (by omega) ⟨fun x => out v6 v7 (by omega) c1 hv, fun x => ⟨fun z => jh _ (v7 + 1) (by omega) (by omega) (by omega) (fun b b0 b1 => ?_), fun z => ⟨by omega, jh _ (v7 + 1) (by omega) (by omega) (by omega) (fun b b0 b1 => ?_)⟩⟩⟩
          · have nz : ¬ (v7 = v4 ∨ E v4 v7) := fun y => (bitZ_n.mpr z) ((choice v7 c0 (by omega)).mpr y)
            rw [bit_and b0 b1, hv b b0 b1]
            constructor
            · rintro ⟨y, -⟩ r r0 r1 hr
              by_cases t : r = v7
              · rw [t] at hr
                exact absurd hr nz
              · exact y r r0 (by omega) hr
            · intro y
              exact ⟨fun r r0 r1 hr => y r r0 (by omega) hr, bit_m1 b0 b1⟩
          · have yz : v7 = v4 ∨ E v4 v7 := (choice v7 c0 (by omega)).mp (Classical.byContradiction (fun y => z (bitZ_n.mp y)))
            rw [bit_and b0 b1, hv b b0 b1, g82]
            constructor
            · rintro ⟨y, y2⟩ r r0 r1 hr
              by_cases t : r = v7
              · rw [t]
                exact y2
              · exact y r r0 (by omega) hr
            · intro y
              exact ⟨fun r r0 r1 hr => y r r0 (by omega) hr, y v7 c0 (by omega) yz⟩
      exact inner (K.1 0).toNat (-1) 0 (by omega) (by omega) (by omega) (fun b b0 b1 => ⟨fun _ r r0 r1 _ => by omega, fun _ => bit_m1 b0 b1⟩)
  exact B_Web_growCaught_0 hq hF (first (K.1 0).toNat h 0 none none none (by omega) (by omega) (by omega) hF (fun _ _ _ => rfl) (fun a a0 a1 => by omega))
theorem F_movesToCatch (he : 3 ≤ e) (hc : CXq h K q L) (hK : KR K) (hE : ∀ a b, EE K v2 v3 a b ↔ E a b) (h4 : 0 ≤ v4 ∧ v4 < K.1 0) (h5 : 0 ≤ v5 ∧ v5 < K.1 0) (k : ∀ r g, chR E (K.1 0) v4 v5 r → RF g → (∀ a i, a ≠ 81 → a ≠ 82 → a ≠ 83 → rd g a i = rd h a i) → Q (some (.inl r)) g) : Rn xs xl e mm_Web_movesToCatch 0 [some (.inr (.inr 80)), some (.inr (.inr q)), some (.inl v2), some (.inl v3), some (.inl v4), some (.inl v5), none] [] h Q := by
  obtain ⟨hF, -, hq, -⟩ := id hc
  have k0 := hK.1
  have cx : ∀ g, RF g → (∀ a i, a ≠ 81 → a ≠ 82 → a ≠ 83 → rd g a i = rd h a i) → CXq g K q L := fun g gF gf => CXq_fr hc hK gF (fun a i ha => gf a i (by omega) (by omega) (by omega))
  have nr : ∀ c : Int, (RGL[c.toNat]?).all (fun L => L.all (fun q => decide (q.1 ≠ 2))) = true → ∀ g i v, RF g → RF (wr g c i v) := fun c hc g i v gF => RF_wn (hav_nr hc i) gF
  have w82 := nr 82 (by decide +kernel)
  have w81 := nr 81 (by decide +kernel)
  obtain ⟨s, s1, st⟩ := stb_199 (E := E) (n := K.1 0) (by omega) (by omega)
  have main : ∀ (fuel : Nat) (g : LH) (v6 : Int), 203 - v6 ≤ fuel → 0 ≤ v6 → v6 ≤ 203 → RF g → (∀ a i, a ≠ 81 → a ≠ 82 → a ≠ 83 → rd g a i = rd h a i) → CHs g (K.1 0) (chT E (K.1 0) v6.toNat) → (∀ j : Nat, j < v6.toNat → ¬ (chT E (K.1 0) j).1 v4 v5 ∧ ¬ stb E (K.1 0) j) → Rn xs xl e mm_Web_movesToCatch 41 [some (.inr (.inr 80)), some (.inr (.inr q)), some (.inl v2), some (.inl v3), some (.inl v4), some (.inl v5), some (.inl v6)] [] g Q := by
    intro fuel
    induction fuel with
    | zero =>
      intro g v6 hn a0 a1 gF gf cs no
      exact absurd st (no s (by omega)).2
    | succ fuel ih =>
      intro g v6 hn a0 a1 gF gf cs no
      have late : ¬ 202 < v6 := fun c => (no s (by omega)).2 st
      have gc := cx g gF gf
      have bt := (cs v4 h4.1 h4.2).1.2 v5 h5.1 (by omega)
      refine B_Web_movesToCatch_41 hq gF (by omega) (by omega) (by omega) ⟨fun c => absurd c late, fun c => ⟨fun z => ⟨2, by omega, F_growCaught (Nat.le_refl 2) gc hK hE cs (fun r u hr uc uF uf => ?_)⟩, fun z => k v6 g (Or.inr ⟨a0, ?_, fun j hj => (no j hj).1⟩) gF gf⟩⟩
      · have nt : ¬ (chT E (K.1 0) v6.toNat).1 v4 v5 := fun t => (bitZ_n.mpr z) (bt.mpr ⟨h5.2, t⟩)
        have fu : ∀ a i, a ≠ 81 → a ≠ 82 → a ≠ 83 → rd u a i = rd h a i := fun a i n1 n2 n3 => (uf a i n1 n2 n3).trans (gf a i n1 n2 n3)
        refine B_Web_movesToCatch_74 hq uF (by omega) ⟨fun y => ?_, fun y => ?_⟩
        · rcases hr with ⟨r0, -⟩ | ⟨-, ns⟩
          · exact absurd r0 y
          · have en : (v6 + 1).toNat = v6.toNat + 1 := by omega
            refine ih u (v6 + 1) (by omega) (by omega) (by omega) uF fu (by rw [en]; exact uc) (fun j hj => ?_)
            by_cases t : j = v6.toNat
            · rw [t]
              exact ⟨nt, ns⟩
            · exact no j (by omega)
        · rcases hr with ⟨-, ys⟩ | ⟨r1, -⟩
          · refine k (-1) u (Or.inl ⟨rfl, fun j t => ?_⟩) uF fu
            by_cases x : j < v6.toNat
            · exact (no j x).1 t
            · have sa := stb_all ys h4.1 h4.2 h5.1 h5.2 (j - v6.toNat)
              rw [show v6.toNat + (j - v6.toNat) = j by omega] at sa
              exact nt (sa.mp t)
          · omega
      · exact (bt.mp (Classical.byContradiction (fun y => z (bitZ_n.mp y)))).2
  have init : ∀ (fuel : Nat) (g : LH) (v6 : Int), 10 - v6 ≤ fuel → 0 ≤ v6 → v6 ≤ 10 → RF g → (∀ a i, a ≠ 81 → a ≠ 82 → a ≠ 83 → rd g a i = rd h a i) → (∀ a, 0 ≤ a → a < v6 → rd g 81 a = zshl 1 a ∧ rd g 82 a = zshl 1 a) → Rn xs xl e mm_Web_movesToCatch 3 [some (.inr (.inr 80)), some (.inr (.inr q)), some (.inl v2), some (.inl v3), some (.inl v4), some (.inl v5), some (.inl v6)] [] g Q := by
    intro fuel
    have stop : ∀ (g : LH) (v6 : Int), 10 ≤ v6 → RF g → (∀ a i, a ≠ 81 → a ≠ 82 → a ≠ 83 → rd g a i = rd h a i) → (∀ a, 0 ≤ a → a < v6 → rd g 81 a = zshl 1 a ∧ rd g 82 a = zshl 1 a) → Rn xs xl e mm_Web_movesToCatch 41 [some (.inr (.inr 80)), some (.inr (.inr q)), some (.inl v2), some (.inl v3), some (.inl v4), some (.inl v5), some (.inl 0)] [] g Q := fun g v6 c gF gf hv =>
      main 203 g 0 (by omega) (by omega) (by omega) gF gf (fun a a0 a1 => by
        obtain ⟨e1, e2⟩ := hv a a0 (by omega)
        have b0' : ∀ b, 0 ≤ b → b < 32 → (bitZ (zshl 1 a) b ↔ b < K.1 0 ∧ a = b) := fun b b0 b1 => by
          rw [bit_shl a0 (by omega) b0 b1]
          exact ⟨fun z => ⟨by omega, z.symm⟩, fun z => z.2.symm⟩
        rw [e1, e2]
        exact ⟨⟨zshl_i _ _, b0'⟩, zshl_i _ _, b0'⟩) (fun j hj => by omega)
    induction fuel with
    | zero =>
      intro g v6 hn a0 a1 gF gf hv
      exact B_Web_movesToCatch_3 hq gF (by omega) ⟨fun c => stop g v6 c gF gf hv, fun c => by omega⟩
    | succ fuel ih =>
      intro g v6 hn a0 a1 gF gf hv
      refine B_Web_movesToCatch_3 hq gF (by omega) ⟨fun c => stop g v6 c gF gf hv, fun c => ⟨by omega, by omega, ih _ (v6 + 1) (by omega) (by omega) (by omega) (w82 _ _ _ (w81 _ _ _ gF)) (fun a i n1 n2 n3 => ?_) (fun a c0 c1 => ?_)⟩⟩
      · rw [rdw_ne (fun z => n2 z.symm), rdw_ne (fun z => n1 z.symm)]
        exact gf a i n1 n2 n3
      · by_cases z : a = v6
        · rw [z]
          refine ⟨?_, rdw_eq⟩
          rw [rdw_ne (by decide), rdw_eq]
        · rw [rdw_ne (by decide), rdw_nei (by omega), rdw_nei (by omega), rdw_ne (by decide)]
          exact hv a c0 (by omega)
  exact B_Web_movesToCatch_0 hq hF (init 10 h 0 (by omega) (by omega) (by omega) hF (fun _ _ _ _ _ => rfl) (fun a a0 a1 => by omega))
def chaC (h : LH) (a b : Int) : Prop := (0 ≤ a ∧ a < rd h 188 0) ∧ 0 ≤ b ∧ b < rd h 188 0
def chaJ (v1 v2 : Int) (h g : LH) (r : Int) : Prop := (∀ a i, a ≠ 81 → a ≠ 82 → a ≠ 83 → rd g a i = rd h a i) ∧ ((¬ chaC h v1 v2 ∧ r = -1) ∨ (chaC h v1 v2 ∧ chR (chE (key h) (rd h 198 0) (rd h 198 1)) (rd h 188 0) v1 v2 r))
theorem EE_chE (hc : CXq h K q L) (hK : KR K) (hh : 0 ≤ x ∧ x < 24) : EE K (zand (rd h (q + 5) x) (zxor y (-1))) (zand (rd h (q + 6) x) (zxor y (-1))) a b ↔ chE K x y a b := by
  have := EE_eL (sh := y) (a := a) (b := b) (s := 0) (hr := x) hc hK (by decide) (by omega)
  rw [show 24 * 0 + x = x by omega] at this
  exact this.trans ⟨fun z => ⟨hh.2, z⟩, fun z => z.2⟩
theorem EE_none (hh : 24 ≤ x) : EE K 0 0 a b ↔ chE K x y a b := by
  constructor
  · rintro ⟨d, _, _, z | z⟩
    · exact absurd z.1 bit_zero
    · exact absurd z.1 bit_zero
  · rintro ⟨z, _⟩
    omega
theorem E_chaseS (he : 8 ≤ e) (hI : INV h) (hE : EQL h) (h1 : i32 v1) (h2 : i32 v2) (k : ∀ r g, INV g → chaJ v1 v2 h g r → Q (some (.inl r)) g) : Rn xs xl e mm_OneSided_chase 0 [some (.inr (.inr 1)), some (.inl v1), some (.inl v2), none] [] h Q := by
  obtain ⟨L, hc⟩ := CXq_of hI hE
  have hK := KR_of hI
  have hq : rd h 1 1 = 5 ∨ rd h 1 1 = 32 := rQf hI.1
  obtain ⟨-, -, -, -, ⟨c0, -, -⟩, -⟩ := id hc
  have c0' : rd h (rd h 1 1) 0 = rd h 188 0 := c0
  have n0 := rq_rooms hI.1
  have k5 := hE.2.2.2.2.2.2.2.2.2.2.2.1
  have e0 : rd h 60 0 = rd h 198 0 := k5.1
  have e1 : rd h 60 1 = rd h 198 1 := k5.2.1
  have h24 := rG_60_0 hI.1
  have A : Rn xs xl e mm_OneSided_chase 0 [some (.inr (.inr 1)), some (.inl v1), some (.inl v2), none] [] h (fun r g => ∃ x, r = some (.inl x) ∧ chaJ v1 v2 h g x) := by
    have no : ¬ chaC h v1 v2 → ∃ x, (some (.inl (-1)) : Option LV) = some (.inl x) ∧ chaJ v1 v2 h h x := fun z => ⟨-1, rfl, fun _ _ _ _ _ => rfl, Or.inl ⟨z, rfl⟩⟩
    refine B_OneSided_chase_0 hq rfl (RF_of hI.1) (by omega) ⟨fun c => no (fun z => by have := z.1; omega), fun a1 => ⟨fun c => no (fun z => by have := z.1; omega), fun a2 => ⟨fun c => no (fun z => by have := z.2; omega), fun a3 => ⟨fun c => no (fun z => by have := z.2; omega), fun a4 => ⟨fun a5 => ⟨3, by omega, ?_⟩, fun a5 => ⟨by omega, by omega, by omega, by omega, 3, by omega, ?_⟩⟩⟩⟩⟩⟩
    · refine F_movesToCatch (E := chE (key h) (rd h 198 0) (rd h 198 1)) (Nat.le_refl 3) hc hK (fun a b => EE_none (by omega)) ⟨a1, by show v1 < rd h 188 0; omega⟩ ⟨a3, by show v2 < rd h 188 0; omega⟩ (fun r g hr gF gf => B_OneSided_chase_54 gF ⟨r, rfl, gf, Or.inr ⟨⟨⟨a1, by omega⟩, a3, by omega⟩, hr⟩⟩)
    · rw [e1]
      refine F_movesToCatch (E := chE (key h) (rd h 198 0) (rd h 198 1)) (Nat.le_refl 3) hc hK (fun a b => ?_) ⟨a1, by show v1 < rd h 188 0; omega⟩ ⟨a3, by show v2 < rd h 188 0; omega⟩ (fun r g hr gF gf => B_OneSided_chase_54 gF ⟨r, rfl, gf, Or.inr ⟨⟨⟨a1, by omega⟩, a3, by omega⟩, hr⟩⟩)
      rw [e0]
      exact EE_chE hc hK (by omega)
  have B : Rn xs xl e mm_OneSided_chase 0 [some (.inr (.inr 1)), some (.inl v1), some (.inl v2), none] [] h (fun r g => INV g) := use_sm TC_chase (as := [.inr (.inr 1), .inl v1, .inl v2]) rfl (Nat.le_trans (Nat.le_of_ble_eq_true rfl) he) hI (gAr_c (g_ref 1) (gAr_c (g_i h1) (gAr_c (g_i h2) gAr_n))) rfl (Nat.le_of_ble_eq_true rfl) rfl (fun r g gI gf gq => gI)
  refine (A.and B).mono (fun r g z => ?_)
  obtain ⟨⟨x, rfl, a⟩, b⟩ := z
  exact k x g b a
end XB
end
section
/-! chase, part x3: the reference's chase -/
def frMv (h g : LH) : Prop := ∀ a i, a ≠ 196 → a ≠ 197 → a ≠ 203 → a ≠ 212 → rd g a i = rd h a i
/-- what the reference knows of one place before a round -/
def MVs (E : Int → Int → Prop) (n rd' k v : Int) : Prop := (v = 1000000 ∧ ∀ j : Nat, (j : Int) < rd' → ¬ chK E n k j) ∨ (0 ≤ v ∧ v < rd' ∧ chK E n k v.toNat ∧ ∀ j : Nat, (j : Int) < v → ¬ chK E n k j)
section XC
variable {xs : Nat → Int} {xl e : Nat} {h g u : LH} {Q : Option LV → LH → Prop} {E : Int → Int → Prop} {K : KEY} {n a b c r v k R v1 v2 v3 v4 v7 v8 X : Int} {m : Nat}
theorem frMv.trans {h1 : LH} (a : frMv h g) (c : frMv g h1) : frMv h h1 := fun x i n1 n2 n3 n4 => (c x i n1 n2 n3 n4).trans (a x i n1 n2 n3 n4)
theorem frMv.key (f : frMv h g) : key g = key h := key_frs (fun a i a0 a1 => f a i (by omega) (by omega) (by omega) (by omega)) (fun i a0 a1 => f 182 i (by decide) (by decide) (by decide) (by decide))
theorem G_laysNow (he : 5 ≤ e) (hI : INV h) (eK : key h = K) (k : ∀ g, INV g → frI h g → (∀ a, 0 ≤ a → a < K.1 0 → ∀ b, 0 ≤ b → b < 32 → (bitZ (rd g 203 a) b ↔ chE K (rd h 198 0) v1 a b)) → Q none g) : Rn xs xl e mm_laysNow 0 [some (.inr (.inr 182)), some (.inl v1), none] [] h Q := by
  have hK : KR K := by
    rw [← eK]
    exact KR_of hI
  have k0 := hK.1
  have hn := rs_now hI.1 (i := 0) 0 0 (by decide) (by decide) (by decide) (by decide) (by decide) (by decide)
  have loop : ∀ (fuel : Nat) (g : LH) (v2 : Int), 10 - v2 ≤ fuel → 0 ≤ v2 → v2 ≤ 10 → INV g → frI h g → (∀ a, 0 ≤ a → a < v2 → rd g 203 a = 0) → Rn xs xl e mm_laysNow 2 [some (.inr (.inr 182)), some (.inl v1), some (.inl v2)] [] g Q := by
    intro fuel
    have stop : ∀ (g : LH) (v2 : Int), 10 ≤ v2 → INV g → frI h g → (∀ a, 0 ≤ a → a < v2 → rd g 203 a = 0) → (24 ≤ rd g 198 0 → Q none g) ∧ (rd g 198 0 < 24 → ∃ c, c < e ∧ Rn xs xl c mm_laysInto 0 [some (.inr (.inr 182)), some (.inl 0), some (.inl (rd g 198 0)), some (.inl v1), some (.inl 0), none, none, none] [] g (fun r h' => Rn xs xl e mm_laysNow 45 [some (.inr (.inr 182)), some (.inl v1), some (.inl v2)] (r.toList ++ []) h' Q)) := fun g v2 c gI gf gz => by
      have e8 : rd g 198 0 = rd h 198 0 := gf 198 0 (by decide) (by decide) (by decide)
      refine ⟨fun z => k g gI gf (fun a a0 a1 b b0 b1 => ?_), fun z => ⟨4, by omega, ?_⟩⟩
      · rw [gz a a0 (by omega)]
        exact ⟨fun y => absurd y bit_zero, fun y => by have := y.1; omega⟩
      · refine G_laysInto (K := K) (Nat.le_refl 4) gI (gf.key.trans eK) (by decide) (by omega) (fun w wI wf wl => B_laysNow_45 (RF_of wI.1) (k w wI (gf.trans wf) (fun a a0 a1 b b0 b1 => ?_)))
        rw [wl a a0 (by omega) b b0 b1, e8]
        exact ⟨fun y => ⟨by omega, b0, y⟩, fun y => y.2.2⟩
    induction fuel with
    | zero =>
      intro g v2 hm a0 a1 gI gf gz
      exact B_laysNow_2 (RF_of gI.1) (by omega) ⟨fun c => stop g v2 c gI gf gz, fun c => by omega⟩
    | succ fuel ih =>
      intro g v2 hm a0 a1 gI gf gz
      refine B_laysNow_2 (RF_of gI.1) (by omega) ⟨fun c => stop g v2 c gI gf gz, fun c => ⟨by omega, ih _ (v2 + 1) (by omega) (by omega) (by omega) (wA_into gI (by omega) (by decide) (by decide)) (fun a i n1 n2 n3 => ?_) (fun a c0 c1 => ?_)⟩⟩
      · rw [rdw_ne (fun z => n3 z.symm)]
        exact gf a i n1 n2 n3
      · by_cases z : a = v2
        · rw [z, rdw_eq]
        · rw [rdw_nei (by omega)]
          exact gz a c0 (by omega)
  exact B_laysNow_0 (RF_of hI.1) (loop 10 h 0 (by omega) (by omega) (by omega) hI (frI.refl h) (fun a a0 a1 => by omega))
theorem chK_even (b0 : 0 ≤ b ∧ b ≤ 9) : chK E n (20 * a + 2 * b) m ↔ (chT E n m).1 a b := by
  have e1 : (20 * a + 2 * b) / 20 = a := by omega
  have e2 : (20 * a + 2 * b) / 2 % 10 = b := by omega
  have e3 : (20 * a + 2 * b) % 2 = 0 := by omega
  unfold chK
  rw [e1, e2]
  exact ⟨fun z => z.elim (fun y => y.2) (fun y => absurd e3 y.1), fun z => Or.inl ⟨e3, z⟩⟩
theorem chK_odd (b0 : 0 ≤ b ∧ b ≤ 9) : chK E n (20 * a + 2 * b + 1) m ↔ (chT E n m).2 a b := by
  have e1 : (20 * a + 2 * b + 1) / 20 = a := by omega
  have e2 : (20 * a + 2 * b + 1) / 2 % 10 = b := by omega
  have e3 : (20 * a + 2 * b + 1) % 2 ≠ 0 := by omega
  unfold chK
  rw [e1, e2]
  exact ⟨fun z => z.elim (fun y => absurd y.1 e3) (fun y => y.2), fun z => Or.inr ⟨e3, z⟩⟩
theorem chK_0 : chK E n k 0 ↔ k / 20 = k / 2 % 10 := by
  unfold chK
  constructor
  · rintro (⟨_, z⟩ | ⟨_, z⟩)
    · exact z
    · exact z
  · intro z
    by_cases c : k % 2 = 0
    · exact Or.inl ⟨c, z⟩
    · exact Or.inr ⟨c, z⟩
theorem chK_le (hk : 0 ≤ k) (ha : k / 20 < n) (hb : k / 2 % 10 < n) (m j : Nat) (z : chK E n k m) : chK E n k (m + j) := by
  have s := ch_le (E := E) (n := n) (a := k / 20) (b := k / 2 % 10) (by omega) ha (by omega) hb m j
  exact z.elim (fun y => Or.inl ⟨y.1, s.1 y.2⟩) (fun y => Or.inr ⟨y.1, s.2 y.2⟩)
theorem MV_lt (hk : 0 ≤ k) (ha : k / 20 < n) (hb : k / 2 % 10 < n) (hR : 1 ≤ R ∧ R ≤ 199) (h : MVs E n R k v ∨ MVs E n (R + 1) k v) : v < R ↔ chK E n k (R - 1).toNat := by
  have up : 0 ≤ v → v < R → chK E n k v.toNat → chK E n k (R - 1).toNat := fun v0 v1 z => by
    have := chK_le hk ha hb v.toNat ((R - 1).toNat - v.toNat) z
    rw [show v.toNat + ((R - 1).toNat - v.toNat) = (R - 1).toNat by omega] at this
    exact this
  rcases h with (⟨z1, z2⟩ | ⟨z1, z2, z3, z4⟩) | (⟨z1, z2⟩ | ⟨z1, z2, z3, z4⟩)
  · exact ⟨fun y => by omega, fun y => absurd y (z2 _ (by omega))⟩
  · exact ⟨fun y => up z1 y z3, fun _ => z2⟩
  · exact ⟨fun y => by omega, fun y => absurd y (z2 _ (by omega))⟩
  · by_cases c : v < R
    · exact ⟨fun y => up z1 y z3, fun _ => c⟩
    · exact ⟨fun y => absurd y c, fun y => absurd y (z4 _ (by omega))⟩
theorem fork {G : Int → Int → Prop} (h7 : v7 = 0 ∨ v7 = 1) (h8 : v8 = 0 ∨ v8 = 1) (H : ∀ w7 w8, (w7 = 0 ∨ w7 = 1) → (w8 = 0 ∨ w8 = 1) → (w7 = 1 ↔ v7 = 1 ∧ X < v2) → (w8 = 1 ↔ v8 = 1 ∨ X < v2) → G w7 w8) : (v7 = 0 → (v8 ≠ 0 → G 0 1) ∧ (v8 = 0 → (v2 ≤ X → G 0 0) ∧ (X < v2 → G 0 1))) ∧ (v7 ≠ 0 → (v2 ≤ X → (v8 ≠ 0 → G 0 1) ∧ (v8 = 0 → G 0 0)) ∧ (X < v2 → (v8 ≠ 0 → G 1 1) ∧ (v8 = 0 → G 1 1))) :=
  ⟨fun a => ⟨fun b => H 0 1 (Or.inl rfl) (Or.inr rfl) (by omega) (by omega), fun b => ⟨fun c => H 0 0 (Or.inl rfl) (Or.inl rfl) (by omega) (by omega), fun c => H 0 1 (Or.inl rfl) (Or.inr rfl) (by omega) (by omega)⟩⟩, fun a => ⟨fun c => ⟨fun b => H 0 1 (Or.inl rfl) (Or.inr rfl) (by omega) (by omega), fun b => H 0 0 (Or.inl rfl) (Or.inl rfl) (by omega) (by omega)⟩, fun c => ⟨fun b => H 1 1 (Or.inr rfl) (Or.inr rfl) (by omega) (by omega), fun b => H 1 1 (Or.inr rfl) (Or.inr rfl) (by omega) (by omega)⟩⟩⟩
theorem G_afterMove (he : 1 ≤ e) (hF : RF h) (n0 : 0 ≤ n ∧ n ≤ 10) (en : rd h 188 0 = n) (h1 : 0 ≤ v1 ∧ v1 ≤ 199) (ha : v1 / 20 < n) (hb : v1 / 2 % 10 < n) (hE : ∀ a, 0 ≤ a → a < n → ∀ b, 0 ≤ b → b < 32 → (bitZ (rd h 203 a) b ↔ E a b)) (mv : ∀ k, 0 ≤ k → k ≤ 199 → k / 20 < n → k / 2 % 10 < n → (rd h 212 k < v2 ↔ chK E n k m)) (nd : v1 / 20 ≠ v1 / 2 % 10) (k : ∀ r, (r = 0 ∨ r = 1) → (r = 1 ↔ chK E n v1 (m + 1)) → Q (some (.inl r)) h) : Rn xs xl e mm_afterMove 0 [some (.inr (.inr 182)), some (.inl v1), some (.inl v2), none, none, none, none, none, none, none, none] [] h Q := by
  have a9 : 0 ≤ v1 / 20 ∧ v1 / 20 ≤ 9 := by omega
  have b9 : 0 ≤ v1 / 2 % 10 ∧ v1 / 2 % 10 ≤ 9 := by omega
  have kT : chK E n v1 (m + 1) ↔ (v1 % 2 = 0 ∧ (chT E n (m + 1)).1 (v1 / 20) (v1 / 2 % 10)) ∨ (v1 % 2 ≠ 0 ∧ (chT E n (m + 1)).2 (v1 / 20) (v1 / 2 % 10)) := Iff.rfl
  generalize eA : v1 / 20 = a at *
  generalize eB : v1 / 2 % 10 = b at *
  have mem : ∀ x, 0 ≤ x → x < n → ∀ r, 0 ≤ r → r < 32 → (bitZ (zor (rd h 203 x) (zshl 1 x)) r ↔ r = x ∨ E x r) := fun x x0 x1 r r0 r1 => by
    rw [bit_or r0 r1, bit_shl x0 (by omega) r0 r1, hE x x0 x1 r r0 r1]
    exact Or.comm
  have loop : ∀ (v5 v6 : Int) (fuel : Nat) (v7 v8 v9 : Int) (o10 : Option LV), n - v9 ≤ fuel → 0 ≤ v9 → v9 ≤ n → (v7 = 0 ∨ v7 = 1) → (v8 = 0 ∨ v8 = 1) → (v7 = 1 ↔ ∀ r, 0 ≤ r → r < v9 → bitZ v6 r → ((v1 % 2 ≠ 0 ∧ rd h 212 (20 * a + 2 * r) < v2) ∨ (v1 % 2 = 0 ∧ rd h 212 (20 * r + 2 * b + 1) < v2))) → (v8 = 1 ↔ ∃ r, 0 ≤ r ∧ r < v9 ∧ bitZ v6 r ∧ ((v1 % 2 ≠ 0 ∧ rd h 212 (20 * a + 2 * r) < v2) ∨ (v1 % 2 = 0 ∧ rd h 212 (20 * r + 2 * b + 1) < v2))) → (∀ r, (r = 0 ∨ r = 1) → (v1 % 2 = 0 → (r = 1 ↔ ∀ r, 0 ≤ r → r < n → bitZ v6 r → rd h 212 (20 * r + 2 * b + 1) < v2)) → (v1 % 2 ≠ 0 → (r = 1 ↔ ∃ r, 0 ≤ r ∧ r < n ∧ bitZ v6 r ∧ rd h 212 (20 * a + 2 * r) < v2)) → Q (some (.inl r)) h) → Rn xs xl e mm_afterMove 50 [some (.inr (.inr 182)), some (.inl v1), some (.inl v2), some (.inl a), some (.inl b), some (.inl v5), some (.inl v6), some (.inl v7), some (.inl v8), some (.inl v9), o10] [] h Q := by
    intro v5 v6 fuel
    have stop : ∀ (v7 v8 v9 : Int), n ≤ v9 → v9 ≤ n → (v7 = 0 ∨ v7 = 1) → (v8 = 0 ∨ v8 = 1) → (v7 = 1 ↔ ∀ r, 0 ≤ r → r < v9 → bitZ v6 r → ((v1 % 2 ≠ 0 ∧ rd h 212 (20 * a + 2 * r) < v2) ∨ (v1 % 2 = 0 ∧ rd h 212 (20 * r + 2 * b + 1) < v2))) → (v8 = 1 ↔ ∃ r, 0 ≤ r ∧ r < v9 ∧ bitZ v6 r ∧ ((v1 % 2 ≠ 0 ∧ rd h 212 (20 * a + 2 * r) < v2) ∨ (v1 % 2 = 0 ∧ rd h 212 (20 * r + 2 * b + 1) < v2))) → (∀ r, (r = 0 ∨ r = 1) → (v1 % 2 = 0 → (r = 1 ↔ ∀ r, 0 ≤ r → r < n → bitZ v6 r → rd h 212 (20 * r + 2 * b + 1) < v2)) → (v1 % 2 ≠ 0 → (r = 1 ↔ ∃ r, 0 ≤ r ∧ r < n ∧ bitZ v6 r ∧ rd h 212 (20 * a + 2 * r) < v2)) → Q (some (.inl r)) h) → (v1 % 2 ≠ 0 → (v8 = 0 ∨ v8 = 1) ∧ Q (some (.inl v8)) h) ∧ (v1 % 2 = 0 → (v7 = 0 ∨ v7 = 1) ∧ Q (some (.inl v7)) h) := fun v7 v8 v9 c0 c1 h7 h8 i7 i8 kk => by
      have ev : v9 = n := by omega
      rw [ev] at i7 i8
      refine ⟨fun t => ⟨h8, kk v8 h8 (fun z => absurd z t) (fun _ => i8.trans ⟨?_, ?_⟩)⟩, fun t => ⟨h7, kk v7 h7 (fun _ => i7.trans ⟨?_, ?_⟩) (fun z => absurd t z)⟩⟩
      · rintro ⟨r, r0, r1, r2, r3⟩
        exact ⟨r, r0, r1, r2, r3.elim (fun y => y.2) (fun y => absurd y.1 t)⟩
      · rintro ⟨r, r0, r1, r2, r3⟩
        exact ⟨r, r0, r1, r2, Or.inl ⟨t, r3⟩⟩
      · intro z r r0 r1 r2
        exact (z r r0 r1 r2).elim (fun y => absurd t y.1) (fun y => y.2)
      · intro z r r0 r1 r2
        exact Or.inr ⟨t, z r r0 r1 r2⟩
    induction fuel with
    | zero =>
      intro v7 v8 v9 o10 hm c0 c1 h7 h8 i7 i8 kk
      exact B_afterMove_50 hF h1 a9 b9 (by omega) he ⟨fun c => stop v7 v8 v9 (by omega) c1 h7 h8 i7 i8 kk, fun c => by omega⟩
    | succ fuel ih =>
      intro v7 v8 v9 o10 hm c0 c1 h7 h8 i7 i8 kk
      refine B_afterMove_50 hF h1 a9 b9 (by omega) he ⟨fun c => stop v7 v8 v9 (by omega) c1 h7 h8 i7 i8 kk, fun c => ⟨fun z => B_afterMove_147 hF (by omega) (ih v7 v8 (v9 + 1) o10 (by omega) (by omega) (by omega) h7 h8 (i7.trans ⟨?_, ?_⟩) (i8.trans ⟨?_, ?_⟩) kk), fun z => ⟨fun t => ⟨by omega, ?_⟩, fun t => ⟨by omega, ?_⟩⟩⟩⟩
      · intro y r r0 r1 r2
        by_cases w : r = v9
        · rw [w] at r2
          exact absurd r2 z
        · exact y r r0 (by omega) r2
      · intro y r r0 r1 r2
        exact y r r0 (by omega) r2
      · rintro ⟨r, r0, r1, r2⟩
        exact ⟨r, r0, by omega, r2⟩
      · rintro ⟨r, r0, r1, r2, r3⟩
        by_cases w : r = v9
        · rw [w] at r2
          exact absurd r2 z
        · exact ⟨r, r0, by omega, r2, r3⟩
      · refine fork (G := fun w7 w8 => Rn xs xl e mm_afterMove 147 [some (.inr (.inr 182)), some (.inl v1), some (.inl v2), some (.inl a), some (.inl b), some (.inl v5), some (.inl v6), some (.inl w7), some (.inl w8), some (.inl v9), some (.inl (rd h 212 (20 * a + 2 * v9)))] [] h Q) h7 h8 (fun w7 w8 q7 q8 j7 j8 => B_afterMove_147 hF (by omega) (ih w7 w8 (v9 + 1) _ (by omega) (by omega) (by omega) q7 q8 ?_ ?_ kk))
        · rw [j7, i7]
          constructor
          · rintro ⟨y1, y2⟩ r r0 r1 r2
            by_cases w : r = v9
            · rw [w]
              exact Or.inl ⟨t, y2⟩
            · exact y1 r r0 (by omega) r2
          · intro y
            exact ⟨fun r r0 r1 r2 => y r r0 (by omega) r2, (y v9 c0 (by omega) z).elim (fun w => w.2) (fun w => absurd w.1 t)⟩
        · rw [j8, i8]
          constructor
          · rintro (⟨r, r0, r1, r2⟩ | y)
            · exact ⟨r, r0, by omega, r2⟩
            · exact ⟨v9, c0, by omega, z, Or.inl ⟨t, y⟩⟩
          · rintro ⟨r, r0, r1, r2, r3⟩
            by_cases w : r = v9
            · rw [w] at r3
              exact Or.inr (r3.elim (fun w => w.2) (fun w => absurd w.1 t))
            · exact Or.inl ⟨r, r0, by omega, r2, r3⟩
      · refine fork (G := fun w7 w8 => Rn xs xl e mm_afterMove 147 [some (.inr (.inr 182)), some (.inl v1), some (.inl v2), some (.inl a), some (.inl b), some (.inl v5), some (.inl v6), some (.inl w7), some (.inl w8), some (.inl v9), some (.inl (rd h 212 (20 * v9 + 2 * b + 1)))] [] h Q) h7 h8 (fun w7 w8 q7 q8 j7 j8 => B_afterMove_147 hF (by omega) (ih w7 w8 (v9 + 1) _ (by omega) (by omega) (by omega) q7 q8 ?_ ?_ kk))
        · rw [j7, i7]
          constructor
          · rintro ⟨y1, y2⟩ r r0 r1 r2
            by_cases w : r = v9
            · rw [w]
              exact Or.inr ⟨t, y2⟩
            · exact y1 r r0 (by omega) r2
          · intro y
            exact ⟨fun r r0 r1 r2 => y r r0 (by omega) r2, (y v9 c0 (by omega) z).elim (fun w => absurd t w.1) (fun w => w.2)⟩
        · rw [j8, i8]
          constructor
          · rintro (⟨r, r0, r1, r2⟩ | y)
            · exact ⟨r, r0, by omega, r2⟩
            · exact ⟨v9, c0, by omega, z, Or.inr ⟨t, y⟩⟩
          · rintro ⟨r, r0, r1, r2, r3⟩
            by_cases w : r = v9
            · rw [w] at r3
              exact Or.inr (r3.elim (fun w => absurd t w.1) (fun w => w.2))
            · exact Or.inl ⟨r, r0, by omega, r2, r3⟩
  refine B_afterMove_0 hF h1 ⟨by omega, fun t => ⟨by omega, ?_⟩, fun t => ⟨by omega, ?_⟩⟩
  · rw [eA, eB]
    refine loop b (zor (rd h 203 b) (zshl 1 b)) n.toNat 1 0 0 none (by omega) (by omega) (by omega) (Or.inr rfl) (Or.inl rfl) ⟨fun _ r r0 r1 _ => by omega, fun _ => rfl⟩ ⟨fun z => by omega, fun ⟨r, r0, r1, _⟩ => by omega⟩ (fun r r01 _ go => k r r01 ((go t).trans (Iff.trans ⟨?_, ?_⟩ kT.symm)))
    · rintro ⟨r, r0, r1, r2, r3⟩
      exact Or.inr ⟨t, r, r0, r1, (mem b (by omega) hb r r0 (by omega)).mp r2, (chK_even ⟨r0, by omega⟩).mp ((mv (20 * a + 2 * r) (by omega) (by omega) (by omega) (by omega)).mp r3)⟩
    · rintro (z | ⟨_, r, r0, r1, r2, r3⟩)
      · exact absurd z.1 t
      · exact ⟨r, r0, r1, (mem b (by omega) hb r r0 (by omega)).mpr r2, (mv (20 * a + 2 * r) (by omega) (by omega) (by omega) (by omega)).mpr ((chK_even ⟨r0, by omega⟩).mpr r3)⟩
  · rw [eA, eB]
    refine loop a (zor (rd h 203 a) (zshl 1 a)) n.toNat 1 0 0 none (by omega) (by omega) (by omega) (Or.inr rfl) (Or.inl rfl) ⟨fun _ r r0 r1 _ => by omega, fun _ => rfl⟩ ⟨fun z => by omega, fun ⟨r, r0, r1, _⟩ => by omega⟩ (fun r r01 go _ => k r r01 ((go t).trans (Iff.trans ⟨?_, ?_⟩ kT.symm)))
    · intro z
      exact Or.inl ⟨t, Or.inr (fun r r0 r1 r2 => (chK_odd b9).mp ((mv (20 * r + 2 * b + 1) (by omega) (by omega) (by omega) (by omega)).mp (z r r0 r1 ((mem a (by omega) ha r r0 (by omega)).mpr r2))))⟩
    · rintro (⟨_, z | z⟩ | z)
      · exact absurd z nd
      · intro r r0 r1 r2
        exact (mv (20 * r + 2 * b + 1) (by omega) (by omega) (by omega) (by omega)).mpr ((chK_odd b9).mpr (z r r0 r1 ((mem a (by omega) ha r r0 (by omega)).mp r2)))
      · exact absurd t z.1
theorem EQL_M (hI : INV h) (hE : EQL h) (f : ∀ a i, a ≠ 196 → a ≠ 197 → a ≠ 203 → a ≠ 212 → ¬ (a = 182 ∧ i = 0) → rd g a i = rd h a i) : EQL g :=
  EQL_fr hI hE (f 2 0 (by decide) (by decide) (by decide) (by decide) (by decide)) (f 182 2 (by decide) (by decide) (by decide) (by decide) (by decide)) (fun a i ha => by
    obtain ⟨y1, y2, -⟩ := inK_p ha
    exact f a i (by omega) (by omega) (by omega) (by omega) (by omega))
theorem G_chaseS (he : 8 ≤ e) (hI : INV h) (hE : EQL h) (gI : INV g) (hj : chaJ v1 v2 h g r) (k : ∀ g', INV g' → EQL g' → Q (some (.inl r)) g') : Rn xs xl e mm_chase 0 [some (.inr (.inr 182)), some (.inl v1), some (.inl v2), none, none] [] g Q := by
  obtain ⟨sm, hc⟩ := hj
  have EG : EQL g := EQL_fr hI hE (sm 2 0 (by decide) (by decide) (by decide)) (sm 182 2 (by decide) (by decide) (by decide)) (fun a i ha => by
    obtain ⟨y1, -⟩ := inK_p ha
    exact sm a i (by omega) (by omega) (by omega))
  have ek : key g = key h := key_frs (fun a i a0 a1 => sm a i (by omega) (by omega) (by omega)) (fun i _ _ => sm 182 i (by decide) (by decide) (by decide))
  have n0 := rq_rooms gI.1
  have eC : chaC g v1 v2 ↔ chaC h v1 v2 := by
    unfold chaC
    rw [sm 188 0 (by decide) (by decide) (by decide)]
  rw [← eC, ← ek, ← sm 198 0 (by decide) (by decide) (by decide), ← sm 198 1 (by decide) (by decide) (by decide), ← sm 188 0 (by decide) (by decide) (by decide)] at hc
  have no : ¬ chaC g v1 v2 → Q (some (.inl (-1))) (wr g 182 0 0) := fun z => by
    obtain ⟨i1, e1⟩ := thr gI EG
    rcases hc with ⟨_, rfl⟩ | ⟨c, _⟩
    · exact k _ i1 e1
    · exact absurd c z
  refine B_chase_0 (RF_of gI.1) (by omega) ⟨fun c => no (fun z => by have := z.1; omega), fun a1 => ⟨fun c => no (fun z => by have := z.1; omega), fun a2 => ⟨fun c => no (fun z => by have := z.2; omega), fun a3 => ⟨fun c => no (fun z => by have := z.2; omega), fun a4 => ⟨5, by omega, ?_⟩⟩⟩⟩⟩
  have hR : chR (chE (key g) (rd g 198 0) (rd g 198 1)) (rd g 188 0) v1 v2 r := by
    rcases hc with ⟨z, _⟩ | ⟨_, z⟩
    · exact absurd ⟨⟨a1, a2⟩, a3, a4⟩ z
    · exact z
  obtain ⟨tI, tK, -⟩ := WC_thr gI
  refine G_laysNow (K := key g) (Nat.le_refl 5) tI tK (fun u uI uf ul => ?_)
  have t8 : rd (wr g 182 0 0) 198 0 = rd g 198 0 := rdw_ne (by decide)
  rw [t8] at ul
  generalize eE : chE (key g) (rd g 198 0) (rd g 198 1) = E at hR
  have ul' : ∀ a, 0 ≤ a → a < rd g 188 0 → ∀ b, 0 ≤ b → b < 32 → (bitZ (rd u 203 a) b ↔ E a b) := fun a a0 a1 b b0 b1 => by
    rw [← eE]
    exact ul a a0 a1 b b0 b1
  have eu : ∀ {w : LH}, frMv u w → rd w 188 0 = rd g 188 0 := fun f => by
    rw [f 188 0 (by decide) (by decide) (by decide) (by decide), uf 188 0 (by decide) (by decide) (by decide), rdw_ne (by decide)]
  have w203 : ∀ {w : LH}, (∀ i, rd w 203 i = rd u 203 i) → ∀ a, 0 ≤ a → a < rd g 188 0 → ∀ b, 0 ≤ b → b < 32 → (bitZ (rd w 203 a) b ↔ E a b) := fun f a a0 a1 b b0 b1 => by
    rw [f a]
    exact ul' a a0 a1 b b0 b1
  generalize eN : rd g 188 0 = n at *
  have fin : ∀ (w : LH) (x : Int), INV w → frMv u w → x = r → Q (some (.inl x)) w := fun w x wI wf ex => by
    rw [ex]
    exact k w wI (EQL_M gI EG (fun a i m1 m2 m3 m4 m5 => (wf a i m1 m2 m3 m4).trans ((uf a i m1 m2 m3).trans (by rw [rd_wr, if_neg (by omega)]))))
  -- the rounds
  have rounds : ∀ (fuel : Nat) (w : LH) (R : Int) (o4 : Option LV), 200 - R ≤ fuel → 1 ≤ R → R ≤ 200 → INV w → frMv u w → (∀ i, rd w 203 i = rd u 203 i) → (∀ k, 0 ≤ k → k ≤ 199 → k / 20 < n → k / 2 % 10 < n → MVs E n R k (rd w 212 k)) → Rn xs xl e mm_chase 76 [some (.inr (.inr 182)), some (.inl v1), some (.inl v2), some (.inl R), o4] [] w Q := by
    intro fuel
    have stop : ∀ (w : LH) (R : Int), 200 ≤ R → R ≤ 200 → INV w → frMv u w → (∀ k, 0 ≤ k → k ≤ 199 → k / 20 < n → k / 2 % 10 < n → MVs E n R k (rd w 212 k)) → (rd w 212 (20 * v1 + 2 * v2) ≠ 1000000 → Q (some (.inl (rd w 212 (20 * v1 + 2 * v2)))) w) ∧ (rd w 212 (20 * v1 + 2 * v2) = 1000000 → Q (some (.inl (-1))) w) := fun w R c0 c1 wI wf mv => by
      have hm := mv (20 * v1 + 2 * v2) (by omega) (by omega) (by omega) (by omega)
      have eR : R = 200 := by omega
      rw [eR] at hm
      have v9 : 0 ≤ v2 ∧ v2 ≤ 9 := by omega
      refine ⟨fun z => fin w _ wI wf (chR_one (E := E) (n := n) (a := v1) (b := v2) ?_ hR), fun z => fin w _ wI wf (chR_one (E := E) (n := n) (a := v1) (b := v2) ?_ hR)⟩
      · rcases hm with ⟨x, _⟩ | ⟨x1, x2, x3, x4⟩
        · exact absurd x z
        · exact Or.inr ⟨x1, (chK_even v9).mp x3, fun j hj t => x4 j (by omega) ((chK_even v9).mpr t)⟩
      · rcases hm with ⟨_, x⟩ | ⟨x1, x2, x3, x4⟩
        · exact Or.inl ⟨rfl, ch_never (by omega) (by omega) a1 a2 a3 a4 (fun j hj t => x j (by omega) ((chK_even v9).mpr t))⟩
        · omega
    induction fuel with
    | zero =>
      intro w R o4 hm r0 r1 wI wf w3 mv
      exact B_chase_76 (RF_of wI.1) (by omega) (by omega) (by omega) ⟨fun c => stop w R c r1 wI wf mv, fun c => by omega⟩
    | succ fuel ih =>
      intro w R o4 hm r0 r1 wI wf w3 mv
      refine B_chase_76 (RF_of wI.1) (by omega) (by omega) (by omega) ⟨fun c => stop w R c r1 wI wf mv, fun c => ?_⟩
      have inner : ∀ (fu : Nat) (y : LH) (v4 : Int), 200 - v4 ≤ fu → 0 ≤ v4 → v4 ≤ 200 → INV y → frMv u y → (∀ i, rd y 203 i = rd u 203 i) → (∀ k, 0 ≤ k → k ≤ 199 → k / 20 < n → k / 2 % 10 < n → (k < v4 → MVs E n (R + 1) k (rd y 212 k)) ∧ (v4 ≤ k → MVs E n R k (rd y 212 k))) → Rn xs xl e mm_chase 86 [some (.inr (.inr 182)), some (.inl v1), some (.inl v2), some (.inl R), some (.inl v4)] [] y Q := by
        intro fu
        have out : ∀ (y : LH) (v4 : Int), 200 ≤ v4 → INV y → frMv u y → (∀ i, rd y 203 i = rd u 203 i) → (∀ k, 0 ≤ k → k ≤ 199 → k / 20 < n → k / 2 % 10 < n → (k < v4 → MVs E n (R + 1) k (rd y 212 k)) ∧ (v4 ≤ k → MVs E n R k (rd y 212 k))) → Rn xs xl e mm_chase 76 [some (.inr (.inr 182)), some (.inl v1), some (.inl v2), some (.inl (R + 1)), some (.inl v4)] [] y Q := fun y v4 c0 yI yf y3 ym =>
          ih y (R + 1) _ (by omega) (by omega) (by omega) yI yf y3 (fun k k0 k1 ka kb => (ym k k0 k1 ka kb).1 (by omega))
        induction fu with
        | zero =>
          intro y v4 hn c0 c1 yI yf y3 ym
          exact B_chase_86 (RF_of yI.1) (by omega) (by omega) (by omega) ⟨fun x => out y v4 x yI yf y3 ym, fun x => by omega⟩
        | succ fu jh =>
          intro y v4 hn c0 c1 yI yf y3 ym
          have ey := eu yf
          refine B_chase_86 (RF_of yI.1) (by omega) (by omega) (by omega) ⟨fun x => out y v4 x yI yf y3 ym, fun x => ⟨by omega, ?_⟩⟩
          -- this place as it is
          have keep : (v4 / 20 < n → v4 / 2 % 10 < n → MVs E n (R + 1) v4 (rd y 212 v4)) → Rn xs xl e mm_chase 157 [some (.inr (.inr 182)), some (.inl v1), some (.inl v2), some (.inl R), some (.inl v4)] [] y Q := fun hv => by
            refine B_chase_157 (RF_of yI.1) (by omega) (by omega) (jh y (v4 + 1) (by omega) (by omega) (by omega) yI yf y3 (fun k k0 k1 ka kb => ⟨fun z => ?_, fun z => (ym k k0 k1 ka kb).2 (by omega)⟩))
            by_cases t : k = v4
            · rw [t] at ka kb ⊢
              exact hv ka kb
            · exact (ym k k0 k1 ka kb).1 (by omega)
          -- a new number for it
          have put : ∀ v : Int, 0 ≤ v → v ≤ 1000000 → MVs E n (R + 1) v4 v → Rn xs xl e mm_chase 157 [some (.inr (.inr 182)), some (.inl v1), some (.inl v2), some (.inl R), some (.inl v4)] [] (wr y 212 v4 v) Q := fun v v0 v1' hv => by
            have zI : INV (wr y 212 v4 v) := wA_moves yI (by omega) (by omega) (by omega)
            refine B_chase_157 (RF_of zI.1) (by omega) (by omega) (jh _ (v4 + 1) (by omega) (by omega) (by omega) zI (fun a i m1 m2 m3 m4 => ?_) (fun i => ?_) (fun k k0 k1 ka kb => ?_))
            · rw [rdw_ne (fun z => m4 z.symm)]
              exact yf a i m1 m2 m3 m4
            · rw [rdw_ne (by decide)]
              exact y3 i
            · by_cases t : k = v4
              · rw [t, rdw_eq]
                exact ⟨fun _ => hv, fun z => by omega⟩
              · rw [rdw_nei (by omega)]
                exact ⟨fun z => (ym k k0 k1 ka kb).1 (by omega), fun z => (ym k k0 k1 ka kb).2 (by omega)⟩
          refine ⟨fun z => keep (fun ka kb => ?_), fun z => ⟨fun t => keep (fun ka _ => by omega), fun t => ⟨by omega, fun s => keep (fun _ kb => by omega), fun s => ⟨1, by omega, ?_⟩⟩⟩⟩
          · rcases (ym v4 c0 (by omega) ka kb).2 (Int.le_refl _) with ⟨q1, _⟩ | ⟨q1, q2, q3, q4⟩
            · exact absurd q1 z
            · exact Or.inr ⟨q1, by omega, q3, q4⟩
          · have ka : v4 / 20 < n := by omega
            have kb : v4 / 2 % 10 < n := by omega
            have far : ∀ j : Nat, (j : Int) < R → ¬ chK E n v4 j := by
              rcases (ym v4 c0 (by omega) ka kb).2 (Int.le_refl _) with ⟨_, q2⟩ | ⟨q1, q2, _, _⟩
              · exact q2
              · omega
            refine G_afterMove (E := E) (n := n) (m := (R - 1).toNat) (Nat.le_refl 1) (RF_of yI.1) (by omega) ey ⟨c0, by omega⟩ ka kb (w203 y3) (fun k k0 k1 xa xb => MV_lt k0 xa xb (by omega) ?_) (fun z' => far 0 (by omega) (chK_0.mpr z')) (fun w2 w01 hw => ?_)
            · by_cases t' : k < v4
              · exact Or.inr ((ym k k0 k1 xa xb).1 t')
              · exact Or.inl ((ym k k0 k1 xa xb).2 (by omega))
            · have em : (R - 1).toNat + 1 = R.toNat := by omega
              rw [em] at hw
              refine B_chase_146 (RF_of yI.1) (by omega) (by omega) ⟨fun q => ⟨by omega, put 1000000 (by omega) (by omega) (Or.inl ⟨rfl, fun j hj => ?_⟩)⟩, fun q => ⟨by omega, put R (by omega) (by omega) (Or.inr ⟨by omega, by omega, hw.mp (by omega), fun j hj => far j hj⟩)⟩⟩
              by_cases t' : (j : Int) < R
              · exact far j t'
              · rw [show j = R.toNat by omega]
                exact fun y' => by
                  have := hw.mpr y'
                  omega
      exact inner 200 w 0 (by omega) (by omega) (by omega) wI wf w3 (fun k k0 k1 ka kb => ⟨fun z => by omega, fun _ => mv k k0 k1 ka kb⟩)
  -- the first numbers
  have init : ∀ (fuel : Nat) (w : LH) (v3 : Int) (o4 : Option LV), 200 - v3 ≤ fuel → 0 ≤ v3 → v3 ≤ 200 → INV w → frMv u w → (∀ i, rd w 203 i = rd u 203 i) → (∀ k, 0 ≤ k → k < v3 → (k / 20 = k / 2 % 10 ∧ rd w 212 k = 0) ∨ (k / 20 ≠ k / 2 % 10 ∧ rd w 212 k = 1000000)) → Rn xs xl e mm_chase 35 [some (.inr (.inr 182)), some (.inl v1), some (.inl v2), some (.inl v3), o4] [] w Q := by
    intro fuel
    have stop : ∀ (w : LH) (v3 : Int) (o4 : Option LV), 200 ≤ v3 → INV w → frMv u w → (∀ i, rd w 203 i = rd u 203 i) → (∀ k, 0 ≤ k → k < v3 → (k / 20 = k / 2 % 10 ∧ rd w 212 k = 0) ∨ (k / 20 ≠ k / 2 % 10 ∧ rd w 212 k = 1000000)) → Rn xs xl e mm_chase 76 [some (.inr (.inr 182)), some (.inl v1), some (.inl v2), some (.inl 1), o4] [] w Q := fun w v3 o4 c wI wf w3 hv =>
      rounds 199 w 1 o4 (by omega) (by omega) (by omega) wI wf w3 (fun k k0 k1 ka kb => by
        rcases hv k k0 (by omega) with ⟨z1, z2⟩ | ⟨z1, z2⟩
        · rw [z2]
          exact Or.inr ⟨by omega, by omega, chK_0.mpr z1, fun j hj => by omega⟩
        · rw [z2]
          refine Or.inl ⟨rfl, fun j hj => ?_⟩
          rw [show j = 0 by omega, chK_0]
          exact z1)
    induction fuel with
    | zero =>
      intro w v3 o4 hm c0 c1 wI wf w3 hv
      exact B_chase_35 (RF_of wI.1) (by omega) ⟨fun c => stop w v3 o4 c wI wf w3 hv, fun c => by omega⟩
    | succ fuel ih =>
      intro w v3 o4 hm c0 c1 wI wf w3 hv
      have put : ∀ v : Int, (v = 0 ∨ v = 1000000) → v3 < 200 → ((v3 / 20 = v3 / 2 % 10 ∧ v = 0) ∨ (v3 / 20 ≠ v3 / 2 % 10 ∧ v = 1000000)) → Rn xs xl e mm_chase 35 [some (.inr (.inr 182)), some (.inl v1), some (.inl v2), some (.inl (v3 + 1)), o4] [] (wr w 212 v3 v) Q := fun v v01 c2 hx => by
        have zI : INV (wr w 212 v3 v) := wA_moves wI (by omega) (by omega) (by omega)
        refine ih _ (v3 + 1) o4 (by omega) (by omega) (by omega) zI (fun a i m1 m2 m3 m4 => ?_) (fun i => ?_) (fun k k0 k1 => ?_)
        · rw [rdw_ne (fun z => m4 z.symm)]
          exact wf a i m1 m2 m3 m4
        · rw [rdw_ne (by decide)]
          exact w3 i
        · by_cases t : k = v3
          · rw [t, rdw_eq]
            exact hx
          · rw [rdw_nei (by omega)]
            exact hv k k0 (by omega)
      exact B_chase_35 (RF_of wI.1) (by omega) ⟨fun c => stop w v3 o4 c wI wf w3 hv, fun c => ⟨by omega, fun z => ⟨by omega, put 1000000 (Or.inr rfl) c (Or.inr ⟨z, rfl⟩)⟩, fun z => ⟨by omega, put 0 (Or.inl rfl) c (Or.inl ⟨z, rfl⟩)⟩⟩⟩
  exact B_chase_33 (RF_of uI.1) (init 200 u 0 none (by omega) (by omega) (by omega) uI (fun _ _ _ _ _ _ => rfl) (fun _ => rfl) (fun k k0 k1 => by omega))
end XC
end
